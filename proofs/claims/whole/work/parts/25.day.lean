/-! ===== a world is copied; a day passes ===== -/
/-- the world at v is laid over that at w -/
def xCopy (I : Nat → Nat → Int32) (w v : Nat) : Nat → Nat → Int32 := aU (aU (aU (aU (aU (sI (sI (sI I w 1 (I v 1)) w 2 (I v 2)) w 3 (I v 3)) (w + 1) (fil (I (v + 1)) (I (w + 1)) 16)) (w + 2) (fil (I (v + 2)) (I (w + 2)) 16)) (w + 3) (fil (I (v + 3)) (I (w + 3)) 16)) (w + 4) (fil (I (v + 4)) (I (w + 4)) 10)) (w + 5) (fil (I (v + 5)) (I (w + 5)) 8)

theorem ct_Wo_copyFrom {sh : List pSh} {I : Nat → Nat → Int32} {L : Nat → Nat → Int64} {P : Nat → Nat → Option Nat} (hA : kA sh P) {w v t : Nat} (hw : w = 62 ∨ w = 68 ∨ w = 74) (hv : v = 62 ∨ v = 68 ∨ v = 74) (hne : v ≠ w) (hvt : P v 0 = some t) (hB : kA sh (sP P w 0 t)) (h2 : I v 2 = 0 ∨ I v 2 = 1) (h3 : I v 3 = 0 ∨ I v 3 = 1) : pCn m_Wo_copyFrom 1 [.ref w, .ref v] sh (I, L, P) (rVP (xCopy I w v) L (sP P w 0 t)) := by
  refine pCn_of (by decide +kernel) (Nat.le_of_ble_eq_true rfl) ?_
  refine pw_aload_n (k4 := 0) rfl (by decide +kernel) ?_
  refine pw_aload_n (k4 := 1) rfl (by decide +kernel) ?_
  refine pq_getP (c := 9) (k := 0) (ks_w hA hv) (by decide) (by decide) hvt lf_Wo_29 (by decide +kernel) ?_
  refine pq_putP (c := 9) (k := 0) (ks_w hA hw) (by decide) (by decide) lf_Wo_29 (Or.inl rfl) (by decide +kernel) ?_
  refine pw_aload_n (k4 := 0) rfl (by decide +kernel) ?_
  refine pw_aload_n (k4 := 1) rfl (by decide +kernel) ?_
  refine pq_getI (c := 9) (k := 1) (ks_w hB hv) (by decide) (by decide) lf_Wo_43 (by decide +kernel) ?_
  refine pq_putI (c := 9) (k := 1) (ks_w hB hw) (by decide) (by decide) lf_Wo_43 (Or.inl rfl) (by decide +kernel) ?_
  refine pw_aload_n (k4 := 0) rfl (by decide +kernel) ?_
  refine pw_aload_n (k4 := 1) rfl (by decide +kernel) ?_
  refine pq_getI (c := 9) (k := 2) (ks_w hB hv) (by decide) (by decide) lf_Wo_36 (by decide +kernel) ?_
  rw [sI_ne (show v ≠ w by omega)]
  refine pq_putZ (c := 9) (k := 2) (ks_w hB hw) (by decide) (by decide) h2 lf_Wo_36 (Or.inl rfl) (by decide +kernel) ?_
  refine pw_aload_n (k4 := 0) rfl (by decide +kernel) ?_
  refine pw_aload_n (k4 := 1) rfl (by decide +kernel) ?_
  refine pq_getI (c := 9) (k := 3) (ks_w hB hv) (by decide) (by decide) lf_Wo_40 (by decide +kernel) ?_
  rw [sI_ne (show v ≠ w by omega), sI_ne (show v ≠ w by omega)]
  refine pq_putZ (c := 9) (k := 3) (ks_w hB hw) (by decide) (by decide) h3 lf_Wo_40 (Or.inl rfl) (by decide +kernel) ?_
  refine pw_aload_n (k4 := 1) rfl (by decide +kernel) ?_
  refine pq_getP (c := 9) (k := 4) (ks_w hB hv) (by decide) (by decide) (kp_w_side hB hv) lf_Wo_11 (by decide +kernel) ?_
  refine pw_iconst (n := 0) (v := 0) (by decide) (by decide +kernel) ?_
  refine pw_aload_n (k4 := 0) rfl (by decide +kernel) ?_
  refine pq_getP (c := 9) (k := 4) (ks_w hB hw) (by decide) (by decide) (kp_w_side hB hw) lf_Wo_11 (by decide +kernel) ?_
  refine pw_iconst (n := 0) (v := 0) (by decide) (by decide +kernel) ?_
  refine pw_bipush (n := 16) (v := 16) (by decide) (by decide +kernel) ?_
  refine pq_copy 16 rfl (by decide) (by decide) (by decide) (ks_w_side hB hv) (ks_w_side hB hw) (by decide +kernel) ac_Wo (by omega) (Nat.le_of_ble_eq_true rfl) ?_
  rw [cpy_fil, sI_ne (show v + 1 ≠ w by omega), sI_ne (show v + 1 ≠ w by omega), sI_ne (show v + 1 ≠ w by omega), sI_ne (show w + 1 ≠ w by omega), sI_ne (show w + 1 ≠ w by omega), sI_ne (show w + 1 ≠ w by omega)]
  refine pw_aload_n (k4 := 1) rfl (by decide +kernel) ?_
  refine pq_getP (c := 9) (k := 5) (ks_w hB hv) (by decide) (by decide) (kp_w_used hB hv) lf_Wo_17 (by decide +kernel) ?_
  refine pw_iconst (n := 0) (v := 0) (by decide) (by decide +kernel) ?_
  refine pw_aload_n (k4 := 0) rfl (by decide +kernel) ?_
  refine pq_getP (c := 9) (k := 5) (ks_w hB hw) (by decide) (by decide) (kp_w_used hB hw) lf_Wo_17 (by decide +kernel) ?_
  refine pw_iconst (n := 0) (v := 0) (by decide) (by decide +kernel) ?_
  refine pw_bipush (n := 16) (v := 16) (by decide) (by decide +kernel) ?_
  refine pq_copy 16 rfl (by decide) (by decide) (by decide) (ks_w_used hB hv) (ks_w_used hB hw) (by decide +kernel) ac_Wo (by omega) (Nat.le_of_ble_eq_true rfl) ?_
  rw [cpy_fil, aU_ne (show v + 2 ≠ w + 1 by omega), sI_ne (show v + 2 ≠ w by omega), sI_ne (show v + 2 ≠ w by omega), sI_ne (show v + 2 ≠ w by omega), aU_ne (show w + 2 ≠ w + 1 by omega), sI_ne (show w + 2 ≠ w by omega), sI_ne (show w + 2 ≠ w by omega), sI_ne (show w + 2 ≠ w by omega)]
  refine pw_aload_n (k4 := 1) rfl (by decide +kernel) ?_
  refine pq_getP (c := 9) (k := 6) (ks_w hB hv) (by decide) (by decide) (kp_w_owner hB hv) lf_Wo_20 (by decide +kernel) ?_
  refine pw_iconst (n := 0) (v := 0) (by decide) (by decide +kernel) ?_
  refine pw_aload_n (k4 := 0) rfl (by decide +kernel) ?_
  refine pq_getP (c := 9) (k := 6) (ks_w hB hw) (by decide) (by decide) (kp_w_owner hB hw) lf_Wo_20 (by decide +kernel) ?_
  refine pw_iconst (n := 0) (v := 0) (by decide) (by decide +kernel) ?_
  refine pw_bipush (n := 16) (v := 16) (by decide) (by decide +kernel) ?_
  refine pq_copy 16 rfl (by decide) (by decide) (by decide) (ks_w_owner hB hv) (ks_w_owner hB hw) (by decide +kernel) ac_Wo (by omega) (Nat.le_of_ble_eq_true rfl) ?_
  rw [cpy_fil, aU_ne (show v + 3 ≠ w + 2 by omega), aU_ne (show v + 3 ≠ w + 1 by omega), sI_ne (show v + 3 ≠ w by omega), sI_ne (show v + 3 ≠ w by omega), sI_ne (show v + 3 ≠ w by omega), aU_ne (show w + 3 ≠ w + 2 by omega), aU_ne (show w + 3 ≠ w + 1 by omega), sI_ne (show w + 3 ≠ w by omega), sI_ne (show w + 3 ≠ w by omega), sI_ne (show w + 3 ≠ w by omega)]
  refine pw_aload_n (k4 := 1) rfl (by decide +kernel) ?_
  refine pq_getP (c := 9) (k := 7) (ks_w hB hv) (by decide) (by decide) (kp_w_worn hB hv) lf_Wo_23 (by decide +kernel) ?_
  refine pw_iconst (n := 0) (v := 0) (by decide) (by decide +kernel) ?_
  refine pw_aload_n (k4 := 0) rfl (by decide +kernel) ?_
  refine pq_getP (c := 9) (k := 7) (ks_w hB hw) (by decide) (by decide) (kp_w_worn hB hw) lf_Wo_23 (by decide +kernel) ?_
  refine pw_iconst (n := 0) (v := 0) (by decide) (by decide +kernel) ?_
  refine pw_bipush (n := 10) (v := 10) (by decide) (by decide +kernel) ?_
  refine pq_copy 10 rfl (by decide) (by decide) (by decide) (ks_w_worn hB hv) (ks_w_worn hB hw) (by decide +kernel) ac_Wo (by omega) (Nat.le_of_ble_eq_true rfl) ?_
  rw [cpy_fil, aU_ne (show v + 4 ≠ w + 3 by omega), aU_ne (show v + 4 ≠ w + 2 by omega), aU_ne (show v + 4 ≠ w + 1 by omega), sI_ne (show v + 4 ≠ w by omega), sI_ne (show v + 4 ≠ w by omega), sI_ne (show v + 4 ≠ w by omega), aU_ne (show w + 4 ≠ w + 3 by omega), aU_ne (show w + 4 ≠ w + 2 by omega), aU_ne (show w + 4 ≠ w + 1 by omega), sI_ne (show w + 4 ≠ w by omega), sI_ne (show w + 4 ≠ w by omega), sI_ne (show w + 4 ≠ w by omega)]
  refine pw_aload_n (k4 := 1) rfl (by decide +kernel) ?_
  refine pq_getP (c := 9) (k := 8) (ks_w hB hv) (by decide) (by decide) (kp_w_settled hB hv) lf_Wo_26 (by decide +kernel) ?_
  refine pw_iconst (n := 0) (v := 0) (by decide) (by decide +kernel) ?_
  refine pw_aload_n (k4 := 0) rfl (by decide +kernel) ?_
  refine pq_getP (c := 9) (k := 8) (ks_w hB hw) (by decide) (by decide) (kp_w_settled hB hw) lf_Wo_26 (by decide +kernel) ?_
  refine pw_iconst (n := 0) (v := 0) (by decide) (by decide +kernel) ?_
  refine pw_bipush (n := 8) (v := 8) (by decide) (by decide +kernel) ?_
  refine pq_copy 8 rfl (by decide) (by decide) (by decide) (ks_w_settled hB hv) (ks_w_settled hB hw) (by decide +kernel) ac_Wo (by omega) (Nat.le_of_ble_eq_true rfl) ?_
  rw [cpy_fil, aU_ne (show v + 5 ≠ w + 4 by omega), aU_ne (show v + 5 ≠ w + 3 by omega), aU_ne (show v + 5 ≠ w + 2 by omega), aU_ne (show v + 5 ≠ w + 1 by omega), sI_ne (show v + 5 ≠ w by omega), sI_ne (show v + 5 ≠ w by omega), sI_ne (show v + 5 ≠ w by omega), aU_ne (show w + 5 ≠ w + 4 by omega), aU_ne (show w + 5 ≠ w + 3 by omega), aU_ne (show w + 5 ≠ w + 2 by omega), aU_ne (show w + 5 ≠ w + 1 by omega), sI_ne (show w + 5 ≠ w by omega), sI_ne (show w + 5 ≠ w by omega), sI_ne (show w + 5 ≠ w by omega)]
  exact pq_vret rfl (by decide +kernel) ⟨rfl, rfl⟩

/-- the same but for the row of sums -/
def o61 (I J : Nat → Nat → Int32) : Prop := ∀ a, a ≠ 61 → I a = J a
theorem o61.rf (I : Nat → Nat → Int32) : o61 I I := fun _ _ => rfl
theorem o61.tr {I J K : Nat → Nat → Int32} (h1 : o61 I J) (h2 : o61 J K) : o61 I K := fun a h => (h1 a h).trans (h2 a h)
theorem o61.aU {I J : Nat → Nat → Int32} (h : o61 I J) (a : Nat) (f : Nat → Int32) : o61 (aU I a f) (aU J a f) := by
  intro b hb
  by_cases e : b = a
  · subst e; rw [aU_eq, aU_eq]
  · rw [aU_ne e, aU_ne e]; exact h b hb
theorem o61.sI {I J : Nat → Nat → Int32} (h : o61 I J) {a : Nat} (ha : a ≠ 61) (k : Nat) (x : Int32) : o61 (sI I a k x) (sI J a k x) := by
  rw [sI_aU, sI_aU, h a ha]
  exact h.aU _ _
theorem o61.row (I : Nat → Nat → Int32) (f : Nat → Int32) : o61 (Jvm.Pilot.CLeftShoesLaw_law_r4723_b880a2.aU I 61 f) I := fun _ h => aU_ne h
theorem o61.move {I J : Nat → Nat → Int32} (h : o61 I J) {t w : Nat} (hw : w = 62 ∨ w = 68 ∨ w = 74) (ht : t = 3 ∨ t = 30) (j : Nat) (to : Int32) : o61 (xMove I t w j to) (xMove J t w j to) := by
  unfold xMove
  rw [h (w + 4) (by omega), h (w + 3) (by omega), h t (by omega)]
  exact (h.aU _ _).sI (by omega) _ _
theorem o61.hand {I J : Nat → Nat → Int32} (h : o61 I J) {t w : Nat} (hw : w = 62 ∨ w = 68 ∨ w = 74) (ht : t = 3 ∨ t = 30) (b to : Int32) : ∀ n, o61 (xHand I t w b to n) (xHand J t w b to n)
  | 0 => h
  | k + 1 => by
    unfold xHand
    by_cases e : xBit b k
    · rw [if_pos e, if_pos e]; exact (o61.hand h hw ht b to k).move hw ht _ _
    · rw [if_neg e, if_neg e]; exact o61.hand h hw ht b to k
theorem o61.use {I J : Nat → Nat → Int32} (h : o61 I J) {t w : Nat} (hw : w = 62 ∨ w = 68 ∨ w = 74) (ht : t = 3 ∨ t = 30) (s m : Int32) : o61 (xUseS I t w s m) (xUseS J t w s m) := by
  unfold xUseS xHasS
  rw [h t (by omega)]
  by_cases e : 0 ≤ s ∧ s < J t 6
  · rw [if_pos e, if_pos e]
    unfold xUse
    have hs : o61 (Jvm.Pilot.CLeftShoesLaw_law_r4723_b880a2.sI I (w + 2) (ixn s) (I (w + 2) (ixn s) + m)) (Jvm.Pilot.CLeftShoesLaw_law_r4723_b880a2.sI J (w + 2) (ixn s) (J (w + 2) (ixn s) + m)) := by
      rw [h (w + 2) (by omega)]
      exact h.sI (by omega) _ _
    rw [hs (w + 2) (by omega)]
    split
    · exact hs
    · exact hs.move hw ht _ _
  · rw [if_neg e, if_neg e]; exact h
theorem o61.rng {I J : Nat → Nat → Int32} (h : o61 I J) {t w : Nat} (hw : w = 62 ∨ w = 68 ∨ w = 74) (ht : t = 3 ∨ t = 30) : ∀ a, (t ≤ a ∧ a < t + 27) ∨ (w ≤ a ∧ a < w + 6) → I a = J a := fun a ha => h a (by omega)
theorem xFor_cg {I J : Nat → Nat → Int32} {t w : Nat} (h : ∀ a, (t ≤ a ∧ a < t + 27) ∨ (w ≤ a ∧ a < w + 6) → J a = I a) (ns : Nat) (p : Int32) (q : Nat) : xFor J t w ns p q = xFor I t w ns p q := by
  have e : xWt J t w p = xWt I t w p := by
    funext k
    unfold xWt
    rw [xWorth_cg h, h (w + 3) (by omega), h (w + 2) (by omega), h w (by omega)]
  unfold xFor
  rw [e]
/-- one foot walks a day -/
def xStep (I : Nat → Nat → Int32) (t w f : Nat) : Nat → Nat → Int32 := if xHasS I t (I (w + 4) f) then xUseS I t w (I (w + 4) f) (xWear I t w (ixn (I (w + 4) f)) (I (w + 2) (ixn (I (w + 4) f))) (I w 1)) else I
def xWalk (I : Nat → Nat → Int32) (t w : Nat) : Nat → Nat → Nat → Int32
  | 0 => I
  | f + 1 => xStep (xWalk I t w f) t w f
/-- debt k on its day -/
def xDebt (I : Nat → Nat → Int32) (t w ns k : Nat) : Nat → Nat → Int32 :=
  if I (t + 14) k = I w 1 ∧ I (w + 5) k = 0 then
    (if xFor I t w ns (I (t + 11) k) (ixn (I (t + 13) k)) = -2 then sI I (w + 5) k 2
     else xHand (sI I (w + 5) k 1) t w (xFor I t w ns (I (t + 11) k) (ixn (I (t + 13) k))) (I (t + 12) k) ns)
  else I
def xDebts (I : Nat → Nat → Int32) (t w ns : Nat) : Nat → Nat → Nat → Int32
  | 0 => I
  | k + 1 => xDebt (xDebts I t w ns k) t w ns k
/-- a day passes -/
def xDay (I : Nat → Nat → Int32) (t w np ns nd : Nat) : Nat → Nat → Int32 :=
  (fun J => (fun K => sI K w 1 (K w 1 + 1)) (if I w 3 = 0 then J else xDebts J t w ns nd)) (if I w 2 = 0 then I else xWalk I t w (2 * np))
theorem xStep_ne {I : Nat → Nat → Int32} {t w f a : Nat} (h2 : a ≠ w + 2) (h3 : a ≠ w + 3) (h4 : a ≠ w + 4) : xStep I t w f a = I a := by
  unfold xStep
  split
  · exact xUseS_ne h2 h3 h4
  · rfl
theorem xWalk_ne {I : Nat → Nat → Int32} {t w a : Nat} (h2 : a ≠ w + 2) (h3 : a ≠ w + 3) (h4 : a ≠ w + 4) : ∀ n, xWalk I t w n a = I a
  | 0 => rfl
  | f + 1 => (xStep_ne h2 h3 h4).trans (xWalk_ne h2 h3 h4 f)
theorem xDebt_ne {I : Nat → Nat → Int32} {t w ns k a : Nat} (h3 : a ≠ w + 3) (h4 : a ≠ w + 4) (h5 : a ≠ w + 5) : xDebt I t w ns k a = I a := by
  unfold xDebt
  split
  · split
    · exact sI_ne h5
    · rw [xHand_ne h3 h4]; exact sI_ne h5
  · rfl
theorem xDebts_ne {I : Nat → Nat → Int32} {t w ns a : Nat} (h3 : a ≠ w + 3) (h4 : a ≠ w + 4) (h5 : a ≠ w + 5) : ∀ n, xDebts I t w ns n a = I a
  | 0 => rfl
  | k + 1 => (xDebt_ne h3 h4 h5).trans (xDebts_ne h3 h4 h5 k)
/-- debts as told: a price from 1 to 999 -/
def dOK (I : Nat → Nat → Int32) (t nd : Nat) : Prop := ∀ k, k < nd → ∃ q : Nat, I (t + 13) k = nI q ∧ 1 ≤ q ∧ q < 10000
def rO (I : Nat → Nat → Int32) (P : Nat → Nat → Option Nat) : Option Value → pM → Prop := fun r M => r = none ∧ ∃ I' L', M = (I', L', P) ∧ o61 I' I

set_option maxHeartbeats 2000000 in
theorem ct_Wo_passDay {sh : List pSh} {I : Nat → Nat → Int32} {L : Nat → Nat → Int64} {P : Nat → Nat → Option Nat} (hA : kA sh P) {w t : Nat} (hw : w = 62 ∨ w = 68 ∨ w = 74) (ht : t = 3 ∨ t = 30) (hwt : P w 0 = some t) {J : Nat → Nat → Int32} (hJ : o61 I J) {np ns nd : Nat} (hn : tOK J t np ns nd) (hl : lOK J t) (hd : dOK J t nd) : pCn m_Wo_passDay 5 [.ref w] sh (I, L, P) (rO (xDay J t w np ns nd) P) := by
  refine pCn_of (by decide +kernel) (Nat.le_of_ble_eq_true rfl) ?_
  have h5 := hn.2.1
  have h16 := hn.2.2.2.1
  have h8 := hn.2.2.2.2.2
  have hM : ∀ I L, o61 I (if J w 2 = 0 then J else xWalk J t w (2 * np)) → pWn m_Wo_passDay 5 sh (rO (xDay J t w np ns nd) P) 66 [some (.ref w), none, none] [] (I, L, P) := by
    intro I L hI
    have hDay : ∀ K, xDay J t w np ns nd = K → xDay J t w np ns nd = K := fun _ h => h
    have hJa : ∀ a, a ≠ w + 2 → a ≠ w + 3 → a ≠ w + 4 → (if J w 2 = 0 then J else xWalk J t w (2 * np)) a = J a := by
      intro a a2 a3 a4
      split
      · rfl
      · exact xWalk_ne a2 a3 a4 _
    replace hDay : xDay J t w np ns nd = (fun K => sI K w 1 (K w 1 + 1)) (if J w 3 = 0 then (if J w 2 = 0 then J else xWalk J t w (2 * np)) else xDebts (if J w 2 = 0 then J else xWalk J t w (2 * np)) t w ns nd) := rfl
    generalize (if J w 2 = 0 then J else xWalk J t w (2 * np)) = J1 at hI hDay hJa
    have hJ1 : J1 (t + 13) = J (t + 13) := hJa _ (by omega) (by omega) (by omega)
    have hJ3 : J1 w 3 = J w 3 := by rw [hJa w (by omega) (by omega) (by omega)]
    have hn1 : tOK J1 t np ns nd := tOK_cg (hJa t (by omega) (by omega) (by omega)) hn
    have hl1 : lOK J1 t := lOK_cg (hJa _ (by omega) (by omega) (by omega)) (hJa _ (by omega) (by omega) (by omega)) hl
    have hz1 : ∀ k, ∀ I, o61 I (xDebts J1 t w ns k) → J1 w 3 = 0 → k = 0 → o61 I J1 := fun k I h _ e => by subst e; exact h
    have hD := pUpTo nd (fun k => ∀ I L, (J1 w 3 = 0 → k = 0) → o61 I (xDebts J1 t w ns k) → pWn m_Wo_passDay 5 sh (rO (xDay J t w np ns nd) P) 68 [some (.ref w), some (.int (nI k)), none] [] (I, L, P)) (by
      intro k hk ih I L hk0 hI
      have hn' : tOK I t np ns nd := tOK_cg ((hI t (by omega)).trans (xDebts_ne (by omega) (by omega) (by omega) k)) hn1
      have hl' : lOK I t := lOK_cg ((hI _ (by omega)).trans (xDebts_ne (by omega) (by omega) (by omega) k)) ((hI _ (by omega)).trans (xDebts_ne (by omega) (by omega) (by omega) k)) hl1
      refine pw_aload_n (k4 := 0) rfl (by decide +kernel) ?_
      refine pq_getI (c := 9) (k := 3) (ks_w hA hw) (by decide) (by decide) lf_Wo_40 (by decide +kernel) ?_
      refine pw_if_eq (off := 105) (tgt := 177) (by decide +kernel) (by decide +kernel) (fun z72 => ?_) (fun z72 => ?_)
      · rw [hI w (by omega), xDebts_ne (by omega) (by omega) (by omega)] at z72
        refine pw_aload_n (k4 := 0) rfl (by decide +kernel) ?_
        refine pw_dup rfl (by decide +kernel) ?_
        refine pq_getI (c := 9) (k := 1) (ks_w hA hw) (by decide) (by decide) lf_Wo_43 (by decide +kernel) ?_
        refine pw_iconst (n := 1) (v := 1) (by decide) (by decide +kernel) ?_
        refine pw_iadd (by decide +kernel) ?_
        refine pq_putI (c := 9) (k := 1) (ks_w hA hw) (by decide) (by decide) lf_Wo_43 (Or.inl rfl) (by decide +kernel) ?_
        exact pq_vret rfl (by decide +kernel) ⟨rfl, _, _, rfl, by rw [hDay, if_pos (by rw [← hJ3]; exact z72), hI w (by omega), xDebts_ne (by omega) (by omega) (by omega)]; exact (hz1 k _ hI z72 (hk0 z72)).sI (by omega) _ _⟩
      · rw [hI w (by omega), xDebts_ne (by omega) (by omega) (by omega)] at z72
        refine pw_iload_n (k4 := 1) rfl (by decide +kernel) ?_
        refine pw_aload_n (k4 := 0) rfl (by decide +kernel) ?_
        refine pq_getP (c := 9) (k := 0) (ks_w hA hw) (by decide) (by decide) hwt lf_Wo_29 (by decide +kernel) ?_
        refine pq_getI (c := 7) (k := 12) (ks_t hA ht) (by decide) (by decide) lf_Wo_79 (by decide +kernel) ?_
        refine pw_icmp_ge (off := 94) (tgt := 177) (by decide +kernel) (by decide +kernel) (fun z83 => ?_) (fun z83 => ?_)
        · rw [cLe hn'.2.2.2.2.1 rfl (by omega) (by omega)] at z83
          refine pw_aload_n (k4 := 0) rfl (by decide +kernel) ?_
          refine pw_dup rfl (by decide +kernel) ?_
          refine pq_getI (c := 9) (k := 1) (ks_w hA hw) (by decide) (by decide) lf_Wo_43 (by decide +kernel) ?_
          refine pw_iconst (n := 1) (v := 1) (by decide) (by decide +kernel) ?_
          refine pw_iadd (by decide +kernel) ?_
          refine pq_putI (c := 9) (k := 1) (ks_w hA hw) (by decide) (by decide) lf_Wo_43 (Or.inl rfl) (by decide +kernel) ?_
          exact pq_vret rfl (by decide +kernel) ⟨rfl, _, _, rfl, by rw [hDay, if_neg (by rw [← hJ3]; exact z72), hI w (by omega), show nd = k by omega]; exact hI.sI (by omega) _ _⟩
        · rw [cLe hn'.2.2.2.2.1 rfl (by omega) (by omega)] at z83
          obtain ⟨q, hq, hq1, hq2⟩ := hd k (by omega)
          refine pw_aload_n (k4 := 0) rfl (by decide +kernel) ?_
          refine pq_getP (c := 9) (k := 0) (ks_w hA hw) (by decide) (by decide) hwt lf_Wo_29 (by decide +kernel) ?_
          refine pq_getP (c := 7) (k := 16) (ks_t hA ht) (by decide) (by decide) (kp_t_due hA ht) lf_Wo_163 (by decide +kernel) ?_
          refine pw_iload_n (k4 := 1) rfl (by decide +kernel) ?_
          refine pq_iald k rfl (by omega) (by decide) (ks_t_due hA ht) (by decide +kernel) ?_
          refine pw_aload_n (k4 := 0) rfl (by decide +kernel) ?_
          refine pq_getI (c := 9) (k := 1) (ks_w hA hw) (by decide) (by decide) lf_Wo_43 (by decide +kernel) ?_
          refine pw_icmp_ne (off := 72) (tgt := 171) (by decide +kernel) (by decide +kernel) (fun z99 => ?_) (fun z99 => ?_)
          · rw [hI (t + 14) (by omega), hI w (by omega)] at z99
            refine pq_iinc (i := 1) (n := 1) (1) rfl (by decide) rfl (by decide +kernel) ?_
            refine pw_goto (off := -106) (tgt := 68) (by decide +kernel) (by decide +kernel) ?_
            have q := ih (by omega) I L (fun e => absurd e z72) (by show o61 _ (xDebt (xDebts J1 t w ns k) t w ns k); unfold xDebt; rw [if_neg (fun z => z99 z.1)]; exact hI)
            rw [nI_succ] at q
            exact q
          · rw [hI (t + 14) (by omega), hI w (by omega)] at z99
            refine pw_aload_n (k4 := 0) rfl (by decide +kernel) ?_
            refine pq_getP (c := 9) (k := 8) (ks_w hA hw) (by decide) (by decide) (kp_w_settled hA hw) lf_Wo_26 (by decide +kernel) ?_
            refine pw_iload_n (k4 := 1) rfl (by decide +kernel) ?_
            refine pq_iald k rfl (by omega) (by decide) (ks_w_settled hA hw) (by decide +kernel) ?_
            refine pw_if_ne (off := 63) (tgt := 171) (by decide +kernel) (by decide +kernel) (fun z108 => ?_) (fun z108 => ?_)
            · rw [hI (w + 5) (by omega)] at z108
              refine pq_iinc (i := 1) (n := 1) (1) rfl (by decide) rfl (by decide +kernel) ?_
              refine pw_goto (off := -106) (tgt := 68) (by decide +kernel) (by decide +kernel) ?_
              have q := ih (by omega) I L (fun e => absurd e z72) (by show o61 _ (xDebt (xDebts J1 t w ns k) t w ns k); unfold xDebt; rw [if_neg (fun z => z108 z.2)]; exact hI)
              rw [nI_succ] at q
              exact q
            · rw [hI (w + 5) (by omega)] at z108
              have hqe : I (t + 13) k = nI q := by rw [hI (t + 13) (by omega), xDebts_ne (by omega) (by omega) (by omega), hJ1]; exact hq
              have hqs : xDebts J1 t w ns k (t + 13) k = nI q := by rw [xDebts_ne (by omega) (by omega) (by omega), hJ1]; exact hq
              refine pw_aload_n (k4 := 0) rfl (by decide +kernel) ?_
              refine pw_aload_n (k4 := 0) rfl (by decide +kernel) ?_
              refine pq_getP (c := 9) (k := 0) (ks_w hA hw) (by decide) (by decide) hwt lf_Wo_29 (by decide +kernel) ?_
              refine pq_getP (c := 7) (k := 13) (ks_t hA ht) (by decide) (by decide) (kp_t_debtor hA ht) lf_Wo_166 (by decide +kernel) ?_
              refine pw_iload_n (k4 := 1) rfl (by decide +kernel) ?_
              refine pq_iald k rfl (by omega) (by decide) (ks_t_debtor hA ht) (by decide +kernel) ?_
              refine pw_aload_n (k4 := 0) rfl (by decide +kernel) ?_
              refine pq_getP (c := 9) (k := 0) (ks_w hA hw) (by decide) (by decide) hwt lf_Wo_29 (by decide +kernel) ?_
              refine pq_getP (c := 7) (k := 15) (ks_t hA ht) (by decide) (by decide) (kp_t_owed hA ht) lf_Wo_169 (by decide +kernel) ?_
              refine pw_iload_n (k4 := 1) rfl (by decide +kernel) ?_
              refine pq_iald k rfl (by omega) (by decide) (ks_t_owed hA ht) (by decide +kernel) ?_
              rw [hqe]
              refine pq_callV (ν := m_Wo_shoesFor) (d' := 4) (av := [_, _]) (c := 9) (by decide +kernel) lm_Wo_172 ok_Wo_shoesFor (show _ = some 2 by decide +kernel) (ks_w hA hw) rfl (by decide) (by omega) (Nat.le_of_ble_eq_true rfl) (ct_Wo_shoesFor hA hw ht hwt hn' hl' _ q (by omega) (by omega)) ?_
              rintro _ _ ⟨rfl, f', L', rfl⟩
              refine pq_istore_n (k4 := 2) (Nat.le_of_ble_eq_true rfl) rfl (by decide +kernel) ?_
              refine pw_aload_n (k4 := 0) rfl (by decide +kernel) ?_
              refine pq_getP (c := 9) (k := 8) (ks_w hA hw) (by decide) (by decide) (kp_w_settled hA hw) lf_Wo_26 (by decide +kernel) ?_
              refine pw_iload_n (k4 := 1) rfl (by decide +kernel) ?_
              refine pw_iload_n (k4 := 2) rfl (by decide +kernel) ?_
              refine pw_bipush (n := -2) (v := -2) (by decide) (by decide +kernel) ?_
              refine pw_icmp_ne (off := 7) (tgt := 149) (by decide +kernel) (by decide +kernel) (fun z142 => ?_) (fun z142 => ?_)
              · rw [xFor_cg (hI.rng hw ht), hI (t + 11) (by omega)] at z142
                refine pw_iconst (n := 1) (v := 1) (by decide) (by decide +kernel) ?_
                refine pq_iast k rfl (by omega) (by decide) (ks_w_settled hA hw) (by decide +kernel) ?_
                refine pw_iload_n (k4 := 2) rfl (by decide +kernel) ?_
                refine pw_bipush (n := -2) (v := -2) (by decide) (by decide +kernel) ?_
                refine pw_icmp_eq (off := 17) (tgt := 171) (by decide +kernel) (by decide +kernel) (fun z154 => ?_) (fun z154 => ?_)
                · rw [xFor_cg (hI.rng hw ht), hI (t + 11) (by omega)] at z154
                  exact absurd z154 z142
                · rw [xFor_cg (hI.rng hw ht), hI (t + 11) (by omega)] at z154
                  refine pw_aload_n (k4 := 0) rfl (by decide +kernel) ?_
                  refine pw_iload_n (k4 := 2) rfl (by decide +kernel) ?_
                  refine pw_aload_n (k4 := 0) rfl (by decide +kernel) ?_
                  refine pq_getP (c := 9) (k := 0) (ks_w hA hw) (by decide) (by decide) hwt lf_Wo_29 (by decide +kernel) ?_
                  refine pq_getP (c := 7) (k := 14) (ks_t hA ht) (by decide) (by decide) (kp_t_creditor hA ht) lf_Wo_175 (by decide +kernel) ?_
                  refine pw_iload_n (k4 := 1) rfl (by decide +kernel) ?_
                  refine pq_iald k rfl (by omega) (by decide) (ks_t_creditor hA ht) (by decide +kernel) ?_
                  refine pq_callV (ν := m_Wo_handOver) (d' := 3) (av := [_, _]) (c := 9) (by decide +kernel) lm_Wo_178 ok_Wo_handOver (show _ = some 2 by decide +kernel) (ks_w hA hw) rfl (by decide) (by omega) (Nat.le_of_ble_eq_true rfl) (ct_Wo_handOver hA hw ht hwt (tOK_cg (by rw [sI_ne (by omega), aU_ne (by omega)]) hn') _ _) ?_
                  rintro _ _ ⟨rfl, rfl⟩
                  refine pq_iinc (i := 1) (n := 1) (1) rfl (by decide) rfl (by decide +kernel) ?_
                  refine pw_goto (off := -106) (tgt := 68) (by decide +kernel) (by decide +kernel) ?_
                  have q1 := ih (by omega) _ L' (fun e => absurd e z72) (by show o61 _ (xDebt (xDebts J1 t w ns k) t w ns k); unfold xDebt; rw [if_pos ⟨z99, z108⟩, hqs, ixn_nI (by omega), if_neg z142]; exact ((((o61.row I f').tr hI).sI (show w + 5 ≠ 61 by omega) k 1).hand hw ht _ _ ns))
                  rw [nI_succ] at q1
                  rw [xFor_cg (hI.rng hw ht), hI (t + 11) (by omega), sI_ne (show t + 12 ≠ w + 5 by omega), aU_ne (show t + 12 ≠ 61 by omega), hI (t + 12) (by omega)]
                  exact pw_forget [2] q1
              · rw [xFor_cg (hI.rng hw ht), hI (t + 11) (by omega)] at z142
                refine pw_iconst (n := 2) (v := 2) (by decide) (by decide +kernel) ?_
                refine pw_goto (off := 4) (tgt := 150) (by decide +kernel) (by decide +kernel) ?_
                refine pq_iast k rfl (by omega) (by decide) (ks_w_settled hA hw) (by decide +kernel) ?_
                refine pw_iload_n (k4 := 2) rfl (by decide +kernel) ?_
                refine pw_bipush (n := -2) (v := -2) (by decide) (by decide +kernel) ?_
                refine pw_icmp_eq (off := 17) (tgt := 171) (by decide +kernel) (by decide +kernel) (fun z154 => ?_) (fun z154 => ?_)
                · rw [xFor_cg (hI.rng hw ht), hI (t + 11) (by omega)] at z154
                  refine pq_iinc (i := 1) (n := 1) (1) rfl (by decide) rfl (by decide +kernel) ?_
                  refine pw_goto (off := -106) (tgt := 68) (by decide +kernel) (by decide +kernel) ?_
                  have q1 := ih (by omega) _ L' (fun e => absurd e z72) (by show o61 _ (xDebt (xDebts J1 t w ns k) t w ns k); unfold xDebt; rw [if_pos ⟨z99, z108⟩, hqs, ixn_nI (by omega), if_pos z142]; exact (((o61.row I f').tr hI).sI (show w + 5 ≠ 61 by omega) k 2))
                  rw [nI_succ] at q1
                  exact pw_forget [2] q1
                · rw [xFor_cg (hI.rng hw ht), hI (t + 11) (by omega)] at z154
                  exact absurd z142 z154)
    refine pw_iconst (n := 0) (v := 0) (by decide) (by decide +kernel) ?_
    refine pq_istore_n (k4 := 1) (Nat.le_of_ble_eq_true rfl) rfl (by decide +kernel) ?_
    exact hD 0 (Nat.zero_le _) I L (fun _ => rfl) hI
  have hW := pUpTo (2 * np) (fun k => ∀ I L, (J w 2 = 0 → k = 0) → o61 I (xWalk J t w k) → pWn m_Wo_passDay 5 sh (rO (xDay J t w np ns nd) P) 2 [some (.ref w), some (.int (nI k)), none] [] (I, L, P)) (by
    intro k hk ih I L hk0 hI
    have hn' : tOK I t np ns nd := tOK_cg ((hI t (by omega)).trans (xWalk_ne (by omega) (by omega) (by omega) k)) hn
    have hl' : lOK I t := lOK_cg ((hI _ (by omega)).trans (xWalk_ne (by omega) (by omega) (by omega) k)) ((hI _ (by omega)).trans (xWalk_ne (by omega) (by omega) (by omega) k)) hl
    refine pw_aload_n (k4 := 0) rfl (by decide +kernel) ?_
    refine pq_getI (c := 9) (k := 2) (ks_w hA hw) (by decide) (by decide) lf_Wo_36 (by decide +kernel) ?_
    refine pw_if_eq (off := 60) (tgt := 66) (by decide +kernel) (by decide +kernel) (fun z6 => ?_) (fun z6 => ?_)
    · rw [hI w (by omega), xWalk_ne (by omega) (by omega) (by omega)] at z6
      exact pw_forget [1, 2] (hM I L (by rw [if_pos z6]; obtain rfl := hk0 z6; exact hI))
    · rw [hI w (by omega), xWalk_ne (by omega) (by omega) (by omega)] at z6
      refine pw_iload_n (k4 := 1) rfl (by decide +kernel) ?_
      refine pw_iconst (n := 2) (v := 2) (by decide) (by decide +kernel) ?_
      refine pw_aload_n (k4 := 0) rfl (by decide +kernel) ?_
      refine pq_getP (c := 9) (k := 0) (ks_w hA hw) (by decide) (by decide) hwt lf_Wo_29 (by decide +kernel) ?_
      refine pq_getI (c := 7) (k := 0) (ks_t hA ht) (by decide) (by decide) lf_Wo_154 (by decide +kernel) ?_
      refine pw_imul (by decide +kernel) ?_
      refine pw_icmp_ge (off := 47) (tgt := 66) (by decide +kernel) (by decide +kernel) (fun z19 => ?_) (fun z19 => ?_)
      · rw [hn'.1, n2, cLe rfl rfl (by omega) (by omega)] at z19
        exact pw_forget [1, 2] (hM I L (by rw [if_neg z6, show 2 * np = k by omega]; exact hI))
      · rw [hn'.1, n2, cLe rfl rfl (by omega) (by omega)] at z19
        refine pw_aload_n (k4 := 0) rfl (by decide +kernel) ?_
        refine pq_getP (c := 9) (k := 7) (ks_w hA hw) (by decide) (by decide) (kp_w_worn hA hw) lf_Wo_23 (by decide +kernel) ?_
        refine pw_iload_n (k4 := 1) rfl (by decide +kernel) ?_
        refine pq_iald k rfl (by omega) (by decide) (ks_w_worn hA hw) (by decide +kernel) ?_
        refine pq_istore_n (k4 := 2) (Nat.le_of_ble_eq_true rfl) rfl (by decide +kernel) ?_
        refine pw_aload_n (k4 := 0) rfl (by decide +kernel) ?_
        refine pq_getP (c := 9) (k := 0) (ks_w hA hw) (by decide) (by decide) hwt lf_Wo_29 (by decide +kernel) ?_
        refine pw_iload_n (k4 := 2) rfl (by decide +kernel) ?_
        refine pq_callV (ν := m_Ta_hasShoe) (d' := 0) (av := [_]) (c := 7) (by decide +kernel) lm_Wo_58 ok_Ta_hasShoe (show _ = some 1 by decide +kernel) (ks_t hA ht) rfl (by decide) (by omega) (Nat.le_of_ble_eq_true rfl) (ct_Ta_hasShoe hA ht _) ?_
        rintro _ _ ⟨rfl, rfl⟩
        refine pw_if_eq (off := 23) (tgt := 60) (by decide +kernel) (by decide +kernel) (fun z37 => ?_) (fun z37 => ?_)
        · have hz := B_0.mp z37
          rw [hI t (by omega), hI (w + 4) (by omega)] at hz
          refine pq_iinc (i := 1) (n := 1) (1) rfl (by decide) rfl (by decide +kernel) ?_
          refine pw_goto (off := -61) (tgt := 2) (by decide +kernel) (by decide +kernel) ?_
          have q := ih (by omega) I L (fun e => absurd e z6) (by show o61 I (xStep (xWalk J t w k) t w k); unfold xStep; rw [if_neg hz]; exact hI)
          rw [nI_succ] at q
          exact pw_forget [2] q
        · have hz := B_ne.mp z37
          obtain ⟨j, hj, hje⟩ := nIn hn'.2.2.1 (by omega) hz
          rw [hje]
          rw [hI t (by omega), hI (w + 4) (by omega)] at hz
          rw [hI (w + 4) (by omega)] at hje
          refine pw_aload_n (k4 := 0) rfl (by decide +kernel) ?_
          refine pw_iload_n (k4 := 2) rfl (by decide +kernel) ?_
          refine pw_aload_n (k4 := 0) rfl (by decide +kernel) ?_
          refine pw_iload_n (k4 := 2) rfl (by decide +kernel) ?_
          refine pw_aload_n (k4 := 0) rfl (by decide +kernel) ?_
          refine pq_getP (c := 9) (k := 5) (ks_w hA hw) (by decide) (by decide) (kp_w_used hA hw) lf_Wo_17 (by decide +kernel) ?_
          refine pw_iload_n (k4 := 2) rfl (by decide +kernel) ?_
          refine pq_iald j rfl (by omega) (by decide) (ks_w_used hA hw) (by decide +kernel) ?_
          refine pw_aload_n (k4 := 0) rfl (by decide +kernel) ?_
          refine pq_getI (c := 9) (k := 1) (ks_w hA hw) (by decide) (by decide) lf_Wo_43 (by decide +kernel) ?_
          refine pq_callV (ν := m_Wo_wearWhen) (d' := 3) (av := [_, _, _]) (c := 9) (by decide +kernel) lm_Wo_157 ok_Wo_wearWhen (show _ = some 3 by decide +kernel) (ks_w hA hw) rfl (by decide) (by omega) (Nat.le_of_ble_eq_true rfl) (ct_Wo_wearWhen hA hw ht hwt hn' hl' j hj _ _) ?_
          rintro _ _ ⟨rfl, L', rfl⟩
          refine pq_callV (ν := m_Wo_useMore) (d' := 4) (av := [_, _]) (c := 9) (by decide +kernel) lm_Wo_160 ok_Wo_useMore (show _ = some 2 by decide +kernel) (ks_w hA hw) rfl (by decide) (by omega) (Nat.le_of_ble_eq_true rfl) (ct_Wo_useMore hA hw ht hwt hn' _ _) ?_
          rintro _ _ ⟨rfl, rfl⟩
          refine pq_iinc (i := 1) (n := 1) (1) rfl (by decide) rfl (by decide +kernel) ?_
          refine pw_goto (off := -61) (tgt := 2) (by decide +kernel) (by decide +kernel) ?_
          have q := ih (by omega) _ L' (fun e => absurd e z6) (by show o61 _ (xStep (xWalk J t w k) t w k); unfold xStep; rw [if_pos hz, hje, ixn_nI (by omega)]; exact (hI.use hw ht _ _))
          rw [nI_succ] at q
          rw [xWear_cg (hI.rng hw ht), hI (w + 2) (by omega), hI w (by omega)]
          exact pw_forget [2] q)
  refine pw_iconst (n := 0) (v := 0) (by decide) (by decide +kernel) ?_
  refine pq_istore_n (k4 := 1) (Nat.le_of_ble_eq_true rfl) rfl (by decide +kernel) ?_
  exact hW 0 (Nat.zero_le _) I L (fun _ => rfl) hJ
