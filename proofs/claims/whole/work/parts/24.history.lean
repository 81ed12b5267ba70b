/-! ===== the history; a world begins, is copied ===== -/
def fil (f g : Nat → Int32) (n : Nat) : Nat → Int32 := fun i => if i < n then f i else g i
theorem fil_0 (f g : Nat → Int32) : fil f g 0 = g := by
  funext i
  exact if_neg (by omega)
theorem fil_s (f g : Nat → Int32) (k : Nat) : upd (fil f g k) k (f k) = fil f g (k + 1) := by
  funext i
  unfold upd fil
  by_cases e : i = k
  · rw [if_pos e, if_pos (by omega), e]
  · rw [if_neg e]
    by_cases h : i < k
    · rw [if_pos h, if_pos (by omega)]
    · rw [if_neg h, if_neg (by omega)]
theorem fil_at {f g : Nat → Int32} {n k : Nat} (h : k < n) : fil f g n k = f k := if_pos h
theorem cpy_fil (f g : Nat → Int32) (n : Nat) : va_cpy f g 0 0 n = fil f g n := by
  funext k
  unfold va_cpy fil
  by_cases h : k < n
  · rw [if_pos (by omega), if_pos h]
    congr 1
    omega
  · rw [if_neg (by omega), if_neg h]
theorem sI_rd {I : Nat → Nat → Int32} {a k j : Nat} {x : Int32} (h : j ≠ k) : sI I a k x a j = I a j := by
  rw [sI_eq]
  exact if_neg h
theorem sI_rs {I : Nat → Nat → Int32} {a k : Nat} {x : Int32} : sI I a k x a k = x := by
  rw [sI_eq]
  exact if_pos rfl
theorem kA_sP {sh : List pSh} {P : Nat → Nat → Option Nat} (h : kA sh P) {a k : Nat} (q : Nat) (hd : ∀ z ∈ kPs, ¬ (z.1 = a ∧ z.2.1 = k)) : kA sh (sP P a k q) := by
  refine ⟨h.1, fun z hz => ?_⟩
  rw [← h.2 z hz]
  unfold sP va_up
  have := hd z hz
  by_cases e : z.1 = a
  · rw [if_pos e]
    show (if z.2.1 = k then some q else P a z.2.1) = _
    rw [if_neg (fun e2 => this ⟨e, e2⟩), e]
  · rw [if_neg e]
theorem kPs_w {w : Nat} (hw : w = 62 ∨ w = 68 ∨ w = 74) : ∀ z ∈ kPs, ¬ (z.1 = w ∧ z.2.1 = 0) := by rcases hw with rfl | rfl | rfl <;> decide +kernel
def rVP (I : Nat → Nat → Int32) (L : Nat → Nat → Int64) (P : Nat → Nat → Option Nat) : Option Value → pM → Prop := fun r M => r = none ∧ M = (I, L, P)
def xNote (I : Nat → Nat → Int32) (w nx sz : Nat) : Nat → Nat → Int32 := sI (sI (aU (aU I (82 + nx) (fil (I (w + 3)) (I (82 + nx)) 16)) (103 + nx) (fil (I (w + 4)) (I (103 + nx)) 10)) 80 1 (nI ((nx + 1) % 20))) 80 0 (nI (min 20 (sz + 1)))
def xRec (I : Nat → Nat → Int32) (w n' sz : Nat) : Nat → Nat → Int32 := aU (aU (sI (sI I 80 1 (nI n')) 80 0 (nI (sz - 1))) (w + 3) (fil (I (82 + n')) (I (w + 3)) 16)) (w + 4) (fil (I (103 + n')) (I (w + 4)) 10)

theorem ct_Hi_note {sh : List pSh} {I : Nat → Nat → Int32} {L : Nat → Nat → Int64} {P : Nat → Nat → Option Nat} (hA : kA sh P) {w : Nat} (hw : w = 62 ∨ w = 68 ∨ w = 74) {nx sz : Nat} (hnx : I 80 1 = nI nx) (hnl : nx < 20) (hsz : I 80 0 = nI sz) (hsl : sz ≤ 20) : pCn m_Hi_note 1 [.ref 80, .ref w] sh (I, L, P) (rV (xNote I w nx sz, L, P)) := by
  refine pCn_of (by decide +kernel) (Nat.le_of_ble_eq_true rfl) ?_
  refine pw_aload_n (k4 := 1) rfl (by decide +kernel) ?_
  refine pq_getP (c := 9) (k := 6) (ks_w hA hw) (by decide) (by decide) (kp_w_owner hA hw) lf_Hi_26 (by decide +kernel) ?_
  refine pw_iconst (n := 0) (v := 0) (by decide) (by decide +kernel) ?_
  refine pw_aload_n (k4 := 0) rfl (by decide +kernel) ?_
  refine pq_getP (c := 1) (k := 2) (ks_hi hA) (by decide) (by decide) (kp_hi_owners hA) lf_Hi_11 (by decide +kernel) ?_
  refine pw_aload_n (k4 := 0) rfl (by decide +kernel) ?_
  refine pq_getI (c := 1) (k := 1) (ks_hi hA) (by decide) (by decide) lf_Hi_23 (by decide +kernel) ?_
  refine pq_aald nx hnx hnl (by decide) (ks_hiO hA hnl).2 (ks_hi_owners hA) (by decide +kernel) ?_
  refine pw_iconst (n := 0) (v := 0) (by decide) (by decide +kernel) ?_
  refine pw_bipush (n := 16) (v := 16) (by decide) (by decide +kernel) ?_
  refine pq_copy 16 rfl (by decide) (by decide) (by decide) (ks_w_owner hA hw) (ks_hiO hA hnl).1 (by decide +kernel) ac_Hi (by omega) (Nat.le_of_ble_eq_true rfl) ?_
  rw [cpy_fil]
  refine pw_aload_n (k4 := 1) rfl (by decide +kernel) ?_
  refine pq_getP (c := 9) (k := 7) (ks_w hA hw) (by decide) (by decide) (kp_w_worn hA hw) lf_Hi_38 (by decide +kernel) ?_
  refine pw_iconst (n := 0) (v := 0) (by decide) (by decide +kernel) ?_
  refine pw_aload_n (k4 := 0) rfl (by decide +kernel) ?_
  refine pq_getP (c := 1) (k := 3) (ks_hi hA) (by decide) (by decide) (kp_hi_worn hA) lf_Hi_16 (by decide +kernel) ?_
  refine pw_aload_n (k4 := 0) rfl (by decide +kernel) ?_
  refine pq_getI (c := 1) (k := 1) (ks_hi hA) (by decide) (by decide) lf_Hi_23 (by decide +kernel) ?_
  refine pq_aald nx (by rw [aU_ne (by omega)]; exact hnx) hnl (by decide) (ks_hiW hA hnl).2 (ks_hi_worn hA) (by decide +kernel) ?_
  refine pw_iconst (n := 0) (v := 0) (by decide) (by decide +kernel) ?_
  refine pw_bipush (n := 10) (v := 10) (by decide) (by decide +kernel) ?_
  refine pq_copy 10 rfl (by decide) (by decide) (by decide) (ks_w_worn hA hw) (ks_hiW hA hnl).1 (by decide +kernel) ac_Hi (by omega) (Nat.le_of_ble_eq_true rfl) ?_
  rw [cpy_fil, aU_ne (show 103 + nx ≠ 82 + nx by omega), aU_ne (show w + 4 ≠ 82 + nx by omega)]
  refine pw_aload_n (k4 := 0) rfl (by decide +kernel) ?_
  refine pw_aload_n (k4 := 0) rfl (by decide +kernel) ?_
  refine pq_getI (c := 1) (k := 1) (ks_hi hA) (by decide) (by decide) lf_Hi_23 (by decide +kernel) ?_
  rw [aU_ne (show 80 ≠ 103 + nx by omega), aU_ne (show 80 ≠ 82 + nx by omega), hnx]
  refine pw_iconst (n := 1) (v := 1) (by decide) (by decide +kernel) ?_
  refine pw_iadd (by decide +kernel) ?_
  refine pw_bipush (n := 20) (v := 20) (by decide) (by decide +kernel) ?_
  refine pw_irem (by decide) (by decide +kernel) ?_
  rw [nI_1, show (20 : Int32) = nI 20 from rfl, pk_rem (by omega) (by decide) (by decide)]
  refine pq_putI (c := 1) (k := 1) (ks_hi hA) (by decide) (by decide) lf_Hi_23 (Or.inl rfl) (by decide +kernel) ?_
  refine pw_aload_n (k4 := 0) rfl (by decide +kernel) ?_
  refine pw_bipush (n := 20) (v := 20) (by decide) (by decide +kernel) ?_
  refine pw_aload_n (k4 := 0) rfl (by decide +kernel) ?_
  refine pq_getI (c := 1) (k := 0) (ks_hi hA) (by decide) (by decide) lf_Hi_19 (by decide +kernel) ?_
  rw [sI_rd (by decide), aU_ne (show 80 ≠ 103 + nx by omega), aU_ne (show 80 ≠ 82 + nx by omega), hsz]
  refine pw_iconst (n := 1) (v := 1) (by decide) (by decide +kernel) ?_
  refine pw_iadd (by decide +kernel) ?_
  refine pw_mmin (by decide +kernel) lm_Hi_40 (by omega) (Nat.le_of_ble_eq_true rfl) (Nat.le_refl _) (Nat.le_refl _) ?_
  rw [nI_1, show iMin 20 (nI (sz + 1)) = nI (min 20 (sz + 1)) from by
      unfold iMin
      by_cases hc : sz + 1 < 20
      · rw [if_pos ((cLt rfl (show (20 : Int32) = nI 20 from rfl) (by omega) (by decide)).mpr hc), Nat.min_eq_right (by omega)]
      · rw [if_neg (fun q => hc ((cLt rfl (show (20 : Int32) = nI 20 from rfl) (by omega) (by decide)).mp q)), Nat.min_eq_left (by omega)]; rfl]
  refine pq_putI (c := 1) (k := 0) (ks_hi hA) (by decide) (by decide) lf_Hi_19 (Or.inl rfl) (by decide +kernel) ?_
  exact pq_vret rfl (by decide +kernel) ⟨rfl, rfl⟩

def rRec (I : Nat → Nat → Int32) (L : Nat → Nat → Int64) (P : Nat → Nat → Option Nat) (w n' sz : Nat) : Option Value → pM → Prop := fun r M => if sz = 0 then r = some (.int 0) ∧ M = (I, L, P) else r = some (.int 1) ∧ M = (xRec I w n' sz, L, P)

theorem ct_Hi_recall {sh : List pSh} {I : Nat → Nat → Int32} {L : Nat → Nat → Int64} {P : Nat → Nat → Option Nat} (hA : kA sh P) {w : Nat} (hw : w = 62 ∨ w = 68 ∨ w = 74) {nx sz : Nat} (hnx : I 80 1 = nI nx) (hnl : nx < 20) (hsz : I 80 0 = nI sz) (hsl : sz ≤ 20) {n' : Nat} (hm : (nx + 19) % 20 = n') (hml : n' < 20) : pCn m_Hi_recall 1 [.ref 80, .ref w] sh (I, L, P) (rRec I L P w n' sz) := by
  refine pCn_of (by decide +kernel) (Nat.le_of_ble_eq_true rfl) ?_
  refine pw_aload_n (k4 := 0) rfl (by decide +kernel) ?_
  refine pq_getI (c := 1) (k := 0) (ks_hi hA) (by decide) (by decide) lf_Hi_19 (by decide +kernel) ?_
  refine pw_if_ne (off := 5) (tgt := 9) (by decide +kernel) (by decide +kernel) (fun z4 => ?_) (fun z4 => ?_)
  · have hz : ¬ sz = 0 := fun e => z4 (by rw [hsz, e]; rfl)
    refine pw_aload_n (k4 := 0) rfl (by decide +kernel) ?_
    refine pw_aload_n (k4 := 0) rfl (by decide +kernel) ?_
    refine pq_getI (c := 1) (k := 1) (ks_hi hA) (by decide) (by decide) lf_Hi_23 (by decide +kernel) ?_
    rw [hnx]
    refine pw_bipush (n := 20) (v := 20) (by decide) (by decide +kernel) ?_
    refine pw_iadd (by decide +kernel) ?_
    refine pw_iconst (n := 1) (v := 1) (by decide) (by decide +kernel) ?_
    refine pw_isub (by decide +kernel) ?_
    refine pw_bipush (n := 20) (v := 20) (by decide) (by decide +kernel) ?_
    refine pw_irem (by decide) (by decide +kernel) ?_
    rw [show nI nx + 20 - 1 = nI (nx + 19) from by rw [show (20 : Int32) = nI 20 from rfl, nI_add, nS1 (by omega)]; rfl, show (20 : Int32) = nI 20 from rfl, pk_rem (by omega) (by decide) (by decide), hm]
    refine pq_putI (c := 1) (k := 1) (ks_hi hA) (by decide) (by decide) lf_Hi_23 (Or.inl rfl) (by decide +kernel) ?_
    refine pw_aload_n (k4 := 0) rfl (by decide +kernel) ?_
    refine pw_dup rfl (by decide +kernel) ?_
    refine pq_getI (c := 1) (k := 0) (ks_hi hA) (by decide) (by decide) lf_Hi_19 (by decide +kernel) ?_
    rw [sI_rd (by decide), hsz]
    refine pw_iconst (n := 1) (v := 1) (by decide) (by decide +kernel) ?_
    refine pw_isub (by decide +kernel) ?_
    rw [nS1 (by omega)]
    refine pq_putI (c := 1) (k := 0) (ks_hi hA) (by decide) (by decide) lf_Hi_19 (Or.inl rfl) (by decide +kernel) ?_
    refine pw_aload_n (k4 := 0) rfl (by decide +kernel) ?_
    refine pq_getP (c := 1) (k := 2) (ks_hi hA) (by decide) (by decide) (kp_hi_owners hA) lf_Hi_11 (by decide +kernel) ?_
    refine pw_aload_n (k4 := 0) rfl (by decide +kernel) ?_
    refine pq_getI (c := 1) (k := 1) (ks_hi hA) (by decide) (by decide) lf_Hi_23 (by decide +kernel) ?_
    refine pq_aald n' (by rw [sI_rd (by decide), sI_rs]) hml (by decide) (ks_hiO hA hml).2 (ks_hi_owners hA) (by decide +kernel) ?_
    refine pw_iconst (n := 0) (v := 0) (by decide) (by decide +kernel) ?_
    refine pw_aload_n (k4 := 1) rfl (by decide +kernel) ?_
    refine pq_getP (c := 9) (k := 6) (ks_w hA hw) (by decide) (by decide) (kp_w_owner hA hw) lf_Hi_26 (by decide +kernel) ?_
    refine pw_iconst (n := 0) (v := 0) (by decide) (by decide +kernel) ?_
    refine pw_bipush (n := 16) (v := 16) (by decide) (by decide +kernel) ?_
    refine pq_copy 16 rfl (by decide) (by decide) (by decide) (ks_hiO hA hml).1 (ks_w_owner hA hw) (by decide +kernel) ac_Hi (by omega) (Nat.le_of_ble_eq_true rfl) ?_
    rw [cpy_fil, sI_ne (show 82 + n' ≠ 80 by omega), sI_ne (show 82 + n' ≠ 80 by omega), sI_ne (show w + 3 ≠ 80 by omega), sI_ne (show w + 3 ≠ 80 by omega)]
    refine pw_aload_n (k4 := 0) rfl (by decide +kernel) ?_
    refine pq_getP (c := 1) (k := 3) (ks_hi hA) (by decide) (by decide) (kp_hi_worn hA) lf_Hi_16 (by decide +kernel) ?_
    refine pw_aload_n (k4 := 0) rfl (by decide +kernel) ?_
    refine pq_getI (c := 1) (k := 1) (ks_hi hA) (by decide) (by decide) lf_Hi_23 (by decide +kernel) ?_
    refine pq_aald n' (by rw [aU_ne (by omega), sI_rd (by decide), sI_rs]) hml (by decide) (ks_hiW hA hml).2 (ks_hi_worn hA) (by decide +kernel) ?_
    refine pw_iconst (n := 0) (v := 0) (by decide) (by decide +kernel) ?_
    refine pw_aload_n (k4 := 1) rfl (by decide +kernel) ?_
    refine pq_getP (c := 9) (k := 7) (ks_w hA hw) (by decide) (by decide) (kp_w_worn hA hw) lf_Hi_38 (by decide +kernel) ?_
    refine pw_iconst (n := 0) (v := 0) (by decide) (by decide +kernel) ?_
    refine pw_bipush (n := 10) (v := 10) (by decide) (by decide +kernel) ?_
    refine pq_copy 10 rfl (by decide) (by decide) (by decide) (ks_hiW hA hml).1 (ks_w_worn hA hw) (by decide +kernel) ac_Hi (by omega) (Nat.le_of_ble_eq_true rfl) ?_
    rw [cpy_fil, aU_ne (show 103 + n' ≠ w + 3 by omega), aU_ne (show w + 4 ≠ w + 3 by omega), sI_ne (show 103 + n' ≠ 80 by omega), sI_ne (show 103 + n' ≠ 80 by omega), sI_ne (show w + 4 ≠ 80 by omega), sI_ne (show w + 4 ≠ 80 by omega)]
    refine pw_iconst (n := 1) (v := 1) (by decide) (by decide +kernel) ?_
    exact pq_zret rfl (by decide) (by decide +kernel) (by unfold rRec; rw [if_neg hz]; exact ⟨rfl, rfl⟩)
  · have hz : sz = 0 := (cEq hsz (show (0 : Int32) = nI 0 from rfl) (by omega) (by decide)).mp z4
    refine pw_iconst (n := 0) (v := 0) (by decide) (by decide +kernel) ?_
    exact pq_zret rfl (by decide) (by decide +kernel) (by unfold rRec; rw [if_pos hz]; exact ⟨rfl, rfl⟩)

def xBg0 (I : Nat → Nat → Int32) (t w n : Nat) : Nat → Nat → Int32 := aU (aU (aU (sI I w 1 0) (w + 1) (fil (I (t + 6)) (I (w + 1)) n)) (w + 2) (fil (I (t + 8)) (I (w + 2)) n)) (w + 3) (fil (I (t + 10)) (I (w + 3)) n)
def xBg1 (I : Nat → Nat → Int32) (t w n : Nat) : Nat → Nat → Int32 := aU (xBg0 I t w 16) (w + 4) (fil (fun _ => -1) (I (w + 4)) n)
/-- a world begins: the tale at t as it is told -/
def xBegin (I : Nat → Nat → Int32) (t w n : Nat) : Nat → Nat → Int32 := aU (xBg1 I t w 10) (w + 5) (fil (fun _ => 0) (I (w + 5)) n)
theorem xBg0_t {I : Nat → Nat → Int32} {t w n a : Nat} (h : a < w ∨ w + 6 ≤ a) : xBg0 I t w n a = I a := by
  unfold xBg0
  rw [aU_ne (by omega), aU_ne (by omega), aU_ne (by omega), sI_ne (by omega)]
theorem aU_cm (I : Nat → Nat → Int32) {a b : Nat} (h : a ≠ b) (f g : Nat → Int32) : aU (aU I a f) b g = aU (aU I b g) a f := by
  funext q
  by_cases e : q = a
  · subst e; rw [aU_ne h, aU_eq, aU_eq]
  · by_cases e2 : q = b
    · subst e2; rw [aU_eq, aU_ne e, aU_eq]
    · rw [aU_ne e2, aU_ne e, aU_ne e, aU_ne e2]
theorem xBg0_s (I : Nat → Nat → Int32) (t w k : Nat) : sI (sI (sI (xBg0 I t w k) (w + 1) k (I (t + 6) k)) (w + 2) k (I (t + 8) k)) (w + 3) k (I (t + 10) k) = xBg0 I t w (k + 1) := by
  have e1 : sI (xBg0 I t w k) (w + 1) k (I (t + 6) k) = aU (aU (aU (sI I w 1 0) (w + 1) (fil (I (t + 6)) (I (w + 1)) (k + 1))) (w + 2) (fil (I (t + 8)) (I (w + 2)) k)) (w + 3) (fil (I (t + 10)) (I (w + 3)) k) := by
    unfold xBg0
    rw [aU_cm _ (show w + 1 ≠ w + 2 by omega), aU_cm _ (show w + 1 ≠ w + 3 by omega), sI_aU2, fil_s, ← aU_cm _ (show w + 1 ≠ w + 3 by omega), ← aU_cm _ (show w + 1 ≠ w + 2 by omega)]
  have e2 : sI (sI (xBg0 I t w k) (w + 1) k (I (t + 6) k)) (w + 2) k (I (t + 8) k) = aU (aU (aU (sI I w 1 0) (w + 1) (fil (I (t + 6)) (I (w + 1)) (k + 1))) (w + 2) (fil (I (t + 8)) (I (w + 2)) (k + 1))) (w + 3) (fil (I (t + 10)) (I (w + 3)) k) := by
    rw [e1, aU_cm _ (show w + 2 ≠ w + 3 by omega), sI_aU2, fil_s, ← aU_cm _ (show w + 2 ≠ w + 3 by omega)]
  rw [e2, sI_aU2, fil_s]
  rfl

theorem ct_Wo_begin {sh : List pSh} {I : Nat → Nat → Int32} {L : Nat → Nat → Int64} {P : Nat → Nat → Option Nat} (hA : kA sh P) {w t : Nat} (hw : w = 62 ∨ w = 68 ∨ w = 74) (ht : t = 3 ∨ t = 30) : pCn m_Wo_begin 0 [.ref w, .ref t] sh (I, L, P) (rVP (xBegin I t w 8) L (sP P w 0 t)) := by
  refine pCn_of (by decide +kernel) (Nat.le_of_ble_eq_true rfl) ?_
  have hB : kA sh (sP P w 0 t) := kA_sP hA t (kPs_w hw)
  have hP0 : (sP P w 0 t) w 0 = some t := by rw [sP_eq]; exact va_up_eq2 _ _ _
  have h3 := pUpTo 8 (fun k => pWn m_Wo_begin 0 sh (rVP (xBegin I t w 8) L (sP P w 0 t)) 95 [some (.ref w), some (.ref t), some (.int (nI k))] [] (xBegin I t w k, L, sP P w 0 t)) (by
    intro k hk ih
    refine pw_iload_n (k4 := 2) rfl (by decide +kernel) ?_
    refine pw_bipush (n := 8) (v := 8) (by decide) (by decide +kernel) ?_
    refine pw_icmp_ge (off := 16) (tgt := 114) (by decide +kernel) (by decide +kernel) (fun z98 => ?_) (fun z98 => ?_)
    · rw [cLe (show (8 : Int32) = nI 8 from rfl) rfl (by decide) (by omega)] at z98
      exact pq_vret rfl (by decide +kernel) ⟨rfl, by rw [show k = 8 by omega]⟩
    · rw [cLe (show (8 : Int32) = nI 8 from rfl) rfl (by decide) (by omega)] at z98
      refine pw_aload_n (k4 := 0) rfl (by decide +kernel) ?_
      refine pq_getP (c := 9) (k := 8) (ks_w hB hw) (by decide) (by decide) (kp_w_settled hB hw) lf_Wo_26 (by decide +kernel) ?_
      refine pw_iload_n (k4 := 2) rfl (by decide +kernel) ?_
      refine pw_iconst (n := 0) (v := 0) (by decide) (by decide +kernel) ?_
      refine pq_iast k rfl (by omega) (by decide) (ks_w_settled hB hw) (by decide +kernel) ?_
      refine pq_iinc (i := 2) (n := 1) (1) rfl (by decide) rfl (by decide +kernel) ?_
      refine pw_goto (off := -16) (tgt := 95) (by decide +kernel) (by decide +kernel) ?_
      have q := ih (by omega)
      rw [nI_succ, show xBegin I t w (k + 1) = sI (xBegin I t w k) (w + 5) k 0 from by unfold xBegin; rw [sI_aU2]; exact congrArg _ (fil_s (fun _ => 0) _ _).symm] at q
      exact q
)
  have h2 := pUpTo 10 (fun k => pWn m_Wo_begin 0 sh (rVP (xBegin I t w 8) L (sP P w 0 t)) 71 [some (.ref w), some (.ref t), some (.int (nI k))] [] (xBg1 I t w k, L, sP P w 0 t)) (by
    intro k hk ih
    refine pw_iload_n (k4 := 2) rfl (by decide +kernel) ?_
    refine pw_aload_n (k4 := 0) rfl (by decide +kernel) ?_
    refine pq_getP (c := 9) (k := 7) (ks_w hB hw) (by decide) (by decide) (kp_w_worn hB hw) lf_Wo_23 (by decide +kernel) ?_
    refine pq_alen (by decide) (ks_w_worn hB hw) (by decide +kernel) ?_
    refine pw_icmp_ge (off := 16) (tgt := 93) (by decide +kernel) (by decide +kernel) (fun z77 => ?_) (fun z77 => ?_)
    · rw [cLe rfl rfl (by decide) (by omega)] at z77
      refine pw_iconst (n := 0) (v := 0) (by decide) (by decide +kernel) ?_
      refine pq_istore_n (k4 := 2) (Nat.le_of_ble_eq_true rfl) rfl (by decide +kernel) ?_
      have q := h3 0 (by omega)
      rw [show xBegin I t w 0 = xBg1 I t w 10 from by
          unfold xBegin
          rw [fil_0, show I (w + 5) = xBg1 I t w 10 (w + 5) from by unfold xBg1 xBg0; rw [aU_ne (by omega), aU_ne (by omega), aU_ne (by omega), aU_ne (by omega), sI_ne (by omega)], aU_self]] at q
      obtain rfl : k = 10 := by omega
      exact q
    · rw [cLe rfl rfl (by decide) (by omega)] at z77
      refine pw_aload_n (k4 := 0) rfl (by decide +kernel) ?_
      refine pq_getP (c := 9) (k := 7) (ks_w hB hw) (by decide) (by decide) (kp_w_worn hB hw) lf_Wo_23 (by decide +kernel) ?_
      refine pw_iload_n (k4 := 2) rfl (by decide +kernel) ?_
      refine pw_iconst (n := -1) (v := -1) (by decide) (by decide +kernel) ?_
      refine pq_iast k rfl (by omega) (by decide) (ks_w_worn hB hw) (by decide +kernel) ?_
      refine pq_iinc (i := 2) (n := 1) (1) rfl (by decide) rfl (by decide +kernel) ?_
      refine pw_goto (off := -19) (tgt := 71) (by decide +kernel) (by decide +kernel) ?_
      have q := ih (by omega)
      rw [nI_succ, show xBg1 I t w (k + 1) = sI (xBg1 I t w k) (w + 4) k (-1) from by unfold xBg1; rw [sI_aU2]; exact congrArg _ (fil_s (fun _ => -1) _ _).symm] at q
      exact q
)
  have h1 := pUpTo 16 (fun k => pWn m_Wo_begin 0 sh (rVP (xBegin I t w 8) L (sP P w 0 t)) 12 [some (.ref w), some (.ref t), some (.int (nI k))] [] (xBg0 I t w k, L, sP P w 0 t)) (by
    intro k hk ih
    refine pw_iload_n (k4 := 2) rfl (by decide +kernel) ?_
    refine pw_bipush (n := 16) (v := 16) (by decide) (by decide +kernel) ?_
    refine pw_icmp_ge (off := 54) (tgt := 69) (by decide +kernel) (by decide +kernel) (fun z15 => ?_) (fun z15 => ?_)
    · rw [cLe (show (16 : Int32) = nI 16 from rfl) rfl (by decide) (by omega)] at z15
      refine pw_iconst (n := 0) (v := 0) (by decide) (by decide +kernel) ?_
      refine pq_istore_n (k4 := 2) (Nat.le_of_ble_eq_true rfl) rfl (by decide +kernel) ?_
      have q := h2 0 (by omega)
      rw [show xBg1 I t w 0 = xBg0 I t w 16 from by
          unfold xBg1
          rw [fil_0, show I (w + 4) = xBg0 I t w 16 (w + 4) from by unfold xBg0; rw [aU_ne (by omega), aU_ne (by omega), aU_ne (by omega), sI_ne (by omega)], aU_self]] at q
      obtain rfl : k = 16 := by omega
      exact q
    · rw [cLe (show (16 : Int32) = nI 16 from rfl) rfl (by decide) (by omega)] at z15
      refine pw_aload_n (k4 := 0) rfl (by decide +kernel) ?_
      refine pq_getP (c := 9) (k := 4) (ks_w hB hw) (by decide) (by decide) (kp_w_side hB hw) lf_Wo_11 (by decide +kernel) ?_
      refine pw_iload_n (k4 := 2) rfl (by decide +kernel) ?_
      refine pw_aload_n (k4 := 0) rfl (by decide +kernel) ?_
      refine pq_getP (c := 9) (k := 0) (ks_w hB hw) (by decide) (by decide) hP0 lf_Wo_29 (by decide +kernel) ?_
      refine pq_getP (c := 7) (k := 7) (ks_t hB ht) (by decide) (by decide) (kp_t_side hB ht) lf_Wo_47 (by decide +kernel) ?_
      refine pw_iload_n (k4 := 2) rfl (by decide +kernel) ?_
      refine pq_iald k rfl (by omega) (by decide) (ks_t_side hB ht) (by decide +kernel) ?_
      refine pq_iast k rfl (by omega) (by decide) (ks_w_side hB hw) (by decide +kernel) ?_
      refine pw_aload_n (k4 := 0) rfl (by decide +kernel) ?_
      refine pq_getP (c := 9) (k := 5) (ks_w hB hw) (by decide) (by decide) (kp_w_used hB hw) lf_Wo_17 (by decide +kernel) ?_
      refine pw_iload_n (k4 := 2) rfl (by decide +kernel) ?_
      refine pw_aload_n (k4 := 0) rfl (by decide +kernel) ?_
      refine pq_getP (c := 9) (k := 0) (ks_w hB hw) (by decide) (by decide) hP0 lf_Wo_29 (by decide +kernel) ?_
      refine pq_getP (c := 7) (k := 9) (ks_t hB ht) (by decide) (by decide) (kp_t_used hB ht) lf_Wo_50 (by decide +kernel) ?_
      refine pw_iload_n (k4 := 2) rfl (by decide +kernel) ?_
      refine pq_iald k rfl (by omega) (by decide) (ks_t_used hB ht) (by decide +kernel) ?_
      refine pq_iast k rfl (by omega) (by decide) (ks_w_used hB hw) (by decide +kernel) ?_
      refine pw_aload_n (k4 := 0) rfl (by decide +kernel) ?_
      refine pq_getP (c := 9) (k := 6) (ks_w hB hw) (by decide) (by decide) (kp_w_owner hB hw) lf_Wo_20 (by decide +kernel) ?_
      refine pw_iload_n (k4 := 2) rfl (by decide +kernel) ?_
      refine pw_aload_n (k4 := 0) rfl (by decide +kernel) ?_
      refine pq_getP (c := 9) (k := 0) (ks_w hB hw) (by decide) (by decide) hP0 lf_Wo_29 (by decide +kernel) ?_
      refine pq_getP (c := 7) (k := 11) (ks_t hB ht) (by decide) (by decide) (kp_t_owner hB ht) lf_Wo_51 (by decide +kernel) ?_
      refine pw_iload_n (k4 := 2) rfl (by decide +kernel) ?_
      refine pq_iald k rfl (by omega) (by decide) (ks_t_owner hB ht) (by decide +kernel) ?_
      refine pq_iast k rfl (by omega) (by decide) (ks_w_owner hB hw) (by decide +kernel) ?_
      refine pq_iinc (i := 2) (n := 1) (1) rfl (by decide) rfl (by decide +kernel) ?_
      refine pw_goto (off := -54) (tgt := 12) (by decide +kernel) (by decide +kernel) ?_
      have q := ih (by omega)
      rw [nI_succ, ← xBg0_s] at q
      simp only [sI_ne (show t + 8 ≠ w + 1 by omega), sI_ne (show t + 10 ≠ w + 2 by omega), sI_ne (show t + 10 ≠ w + 1 by omega), xBg0_t (show t + 6 < w ∨ w + 6 ≤ t + 6 by omega), xBg0_t (show t + 8 < w ∨ w + 6 ≤ t + 8 by omega), xBg0_t (show t + 10 < w ∨ w + 6 ≤ t + 10 by omega)]
      exact q
)
  refine pw_aload_n (k4 := 0) rfl (by decide +kernel) ?_
  refine pw_aload_n (k4 := 1) rfl (by decide +kernel) ?_
  refine pq_putP (c := 9) (k := 0) (ks_w hA hw) (by decide) (by decide) lf_Wo_29 (Or.inl rfl) (by decide +kernel) ?_
  refine pw_aload_n (k4 := 0) rfl (by decide +kernel) ?_
  refine pw_iconst (n := 0) (v := 0) (by decide) (by decide +kernel) ?_
  refine pq_putI (c := 9) (k := 1) (ks_w hA hw) (by decide) (by decide) lf_Wo_43 (Or.inl rfl) (by decide +kernel) ?_
  refine pw_iconst (n := 0) (v := 0) (by decide) (by decide +kernel) ?_
  refine pq_istore_n (k4 := 2) (Nat.le_of_ble_eq_true rfl) rfl (by decide +kernel) ?_
  have q1 := h1 0 (by omega)
  rw [show xBg0 I t w 0 = sI I w 1 0 from by
      unfold xBg0
      rw [fil_0, fil_0, fil_0, show aU (sI I w 1 0) (w + 1) (I (w + 1)) = sI I w 1 0 from by rw [← sI_ne (show w + 1 ≠ w by omega) (I := I) (k := 1) (x := 0), aU_self], show aU (sI I w 1 0) (w + 2) (I (w + 2)) = sI I w 1 0 from by rw [← sI_ne (show w + 2 ≠ w by omega) (I := I) (k := 1) (x := 0), aU_self], show aU (sI I w 1 0) (w + 3) (I (w + 3)) = sI I w 1 0 from by rw [← sI_ne (show w + 3 ≠ w by omega) (I := I) (k := 1) (x := 0), aU_self]]] at q1
  exact q1
