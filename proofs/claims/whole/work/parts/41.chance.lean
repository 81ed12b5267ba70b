/-! ===== the class: tried, chance ===== -/
def xTry (I : Nat → Nat → Int32) (t w v ns : Nat) (a i : Int32) : Nat → Nat → Int32 :=
  if a = 0 then sI (xCopy I v w) v 2 0 else if a = 1 then sI (xCopy I v w) v 3 0
  else if a = 2 then sI (sI (xCopy I v w) (v + 4) (2 * ixn i) (-1)) (v + 4) (2 * ixn i + 1) (-1)
  else if a = 3 then xMove (xCopy I v w) t v (ixn i) (-2) else aU (xCopy I v w) (v + 1) (xLeft (xCopy I v w (v + 1)) ns)
def rTr (I : Nat → Nat → Int32) (P : Nat → Nat → Option Nat) (t v np ns nd n : Nat) (K : Nat → Nat → Int32) : Option Value → pM → Prop := fun r M => r = some (.int (sumW (xWorthNow (xDays K t v np ns nd n) t v) (fun _ => true) ns)) ∧ ∃ J L', M = (J, L', sP P v 0 t) ∧ o61 J (xDays K t v np ns nd n)
theorem sumW_cg {f g : Nat → Int32} {c c2 : Nat → Bool} (h : ∀ k, f k = g k) (h2 : ∀ k, c k = c2 k) : ∀ n, sumW f c n = sumW g c2 n
  | 0 => rfl
  | n + 1 => by
    unfold sumW
    rw [sumW_cg h h2 n, h n, h2 n]

theorem ct_Ls_tried {sh : List pSh} {I : Nat → Nat → Int32} {L : Nat → Nat → Int64} {P : Nat → Nat → Option Nat} (hA : kA sh P) {w t : Nat} (hw : w = 62 ∨ w = 68 ∨ w = 74) (ht : t = 3 ∨ t = 30) (hwt : P w 0 = some t) (hxt : P 1 2 = some t) (hxw : P 1 7 = some w) {np ns nd : Nat} (hn : tOK I t np ns nd) (hl : lOK I t) (hd : dOK I t nd) {v : Nat} (hv : v = 62 ∨ v = 68 ∨ v = 74) (hvw : v ≠ w) (hxv : P 1 9 = some v) (h2 : I w 2 = 0 ∨ I w 2 = 1) (h3 : I w 3 = 0 ∨ I w 3 = 1) (a i n : Int32) : pCn m_Ls_tried 6 [.ref 1, .int a, .int i, .int n] sh (I, L, P) (rIf (xCanTry I t a i ∧ 0 ≤ n ∧ n ≤ 50 ∧ I w 1 + n ≤ 999) (rTr I P t v np ns nd (ixn n) (xTry I t w v ns a i)) (rI (-1) (I, L, P))) := by
  refine pCn_of (by decide +kernel) (Nat.le_of_ble_eq_true rfl) ?_
  have h16 := hn.2.2.2.1
  have h5 := hn.2.1
  have hB : kA sh (sP P v 0 t) := kA_sP hA t (kPs_w hv)
  have hvt : sP P v 0 t v 0 = some t := by rw [sP_eq]; exact va_up_eq2 _ _ _
  have hL : ∀ n, (xCanTry I t a i ∧ 0 ≤ nI n ∧ nI n ≤ 50 ∧ I w 1 + nI n ≤ 999) → n ≤ 50 → ∀ K : Nat → Nat → Int32, (∀ a, a < v ∨ v + 6 ≤ a → K a = I a) → K = xTry I t w v ns a i → ∀ k, k ≤ n → ∀ (J : Nat → Nat → Int32) (L0 : Nat → Nat → Int64), o61 J (xDays K t v np ns nd k) → pWn m_Ls_tried 6 sh (rIf (xCanTry I t a i ∧ 0 ≤ nI n ∧ nI n ≤ 50 ∧ I w 1 + nI n ≤ 999) (rTr I P t v np ns nd (ixn (nI n)) (xTry I t w v ns a i)) (rI (-1) (I, L, P))) 134 [some (.ref 1), some (.int a), some (.int i), some (.int (nI n)), some (.int (nI k))] [] (J, L0, sP P v 0 t) := fun n hc hn5 K hK hKe => pUpTo n _ (by
    intro k hk ih J L0 hJ
    refine pw_iload (i := 4) rfl (by decide +kernel) ?_
    refine pw_iload_n (k4 := 3) rfl (by decide +kernel) ?_
    refine pn_icmp_ge (off := 16) (tgt := 153) k n rfl rfl (by omega) (by omega) (by decide +kernel) (by decide +kernel) (fun z137 => ?_) (fun z137 => ?_)
    · obtain rfl : k = n := by omega
      refine pw_aload_n (k4 := 0) rfl (by decide +kernel) ?_
      refine pq_getP (c := 10) (k := 9) (ks_x hB) (by decide) (by decide) ((sP_o (by omega)).trans hxv) lf_Ls_50 (by decide +kernel) ?_
      refine pq_callV (ν := m_Wo_worthOfAll) (d' := 5) (av := []) (c := 9) (by decide +kernel) lm_Ls_380 ok_Wo_worthOfAll (show _ = some 0 by decide +kernel) (ks_w hB hv) rfl (by decide) (by omega) (Nat.le_of_ble_eq_true rfl) (ct_Wo_worthOfAll hB hv ht hvt (tOK_cg ((hJ t (by omega)).trans ((xDays_ne (by omega) k).trans (hK _ (by omega)))) hn) (lOK_cg ((hJ _ (by omega)).trans ((xDays_ne (by omega) k).trans (hK _ (by omega)))) ((hJ _ (by omega)).trans ((xDays_ne (by omega) k).trans (hK _ (by omega)))) hl)) ?_
      rintro _ _ ⟨rfl, L', rfl⟩
      exact pq_iret rfl (by decide +kernel) ⟨fun _ => ⟨congrArg (fun z => some (Value.int z)) (by rw [ixn_nI (by omega), ← hKe]; exact sumW_cg (fun j => xWorthNow_cg (hJ.rng hv ht) j) (fun _ => rfl) ns), _, _, rfl, by rw [ixn_nI (by omega), ← hKe]; exact hJ⟩, fun h => absurd hc h⟩
    · refine pw_aload_n (k4 := 0) rfl (by decide +kernel) ?_
      refine pq_getP (c := 10) (k := 9) (ks_x hB) (by decide) (by decide) ((sP_o (by omega)).trans hxv) lf_Ls_50 (by decide +kernel) ?_
      refine pq_callV (ν := m_Wo_passDay) (d' := 5) (av := []) (c := 9) (by decide +kernel) lm_Ls_243 ok_Wo_passDay (show _ = some 0 by decide +kernel) (ks_w hB hv) rfl (by decide) (by omega) (Nat.le_of_ble_eq_true rfl) (ct_Wo_passDay hB hv ht hvt hJ (tOK_cg ((xDays_ne (by omega) k).trans (hK _ (by omega))) hn) (lOK_cg ((xDays_ne (by omega) k).trans (hK _ (by omega))) ((xDays_ne (by omega) k).trans (hK _ (by omega))) hl) (dOK_cg ((xDays_ne (by omega) k).trans (hK _ (by omega))) hd)) ?_
      rintro _ _ ⟨rfl, I', L', rfl, hJ2⟩
      refine pn_iinc (i := 4) (n := 1) 1 k rfl rfl (by decide) rfl (by decide +kernel) ?_
      refine pw_goto (off := -16) (tgt := 134) (by decide +kernel) (by decide +kernel) ?_
      exact ih (by omega) I' L' hJ2
)
  refine pw_aload_n (k4 := 0) rfl (by decide +kernel) ?_
  refine pw_iload_n (k4 := 1) rfl (by decide +kernel) ?_
  refine pw_iload_n (k4 := 2) rfl (by decide +kernel) ?_
  refine pq_callV (ν := m_Ls_canTry) (d' := 1) (av := [_, _]) (c := 10) (by decide +kernel) lm_Ls_365 ok_Ls_canTry (show _ = some 2 by decide +kernel) (ks_x hA) rfl (by decide) (by omega) (Nat.le_of_ble_eq_true rfl) (ct_Ls_canTry hA ht hxt _ _) ?_
  rintro _ _ ⟨rfl, rfl⟩
  refine pn_ifB_eq (off := 28) (tgt := 34) (by decide +kernel) (by decide +kernel) (fun z6 => ?_) (fun z6 => ?_)
  · refine pw_iconst (n := -1) (v := -1) (by decide) (by decide +kernel) ?_
    exact pq_iret rfl (by decide +kernel) ⟨fun h => absurd h (fun h => z6 h.1), fun _ => ⟨rfl, rfl⟩⟩
  · refine pw_iload_n (k4 := 3) rfl (by decide +kernel) ?_
    refine pw_if_lt (off := 24) (tgt := 34) (by decide +kernel) (by decide +kernel) (fun z10 => ?_) (fun z10 => ?_)
    · refine pw_iconst (n := -1) (v := -1) (by decide) (by decide +kernel) ?_
      exact pq_iret rfl (by decide +kernel) ⟨fun h => absurd h (fun h => Int32.not_lt.mpr h.2.1 z10), fun _ => ⟨rfl, rfl⟩⟩
    · refine pw_iload_n (k4 := 3) rfl (by decide +kernel) ?_
      refine pw_bipush (n := 50) (v := 50) (by decide) (by decide +kernel) ?_
      refine pw_icmp_gt (off := 18) (tgt := 34) (by decide +kernel) (by decide +kernel) (fun z16 => ?_) (fun z16 => ?_)
      · refine pw_iconst (n := -1) (v := -1) (by decide) (by decide +kernel) ?_
        exact pq_iret rfl (by decide +kernel) ⟨fun h => absurd h (fun h => Int32.not_lt.mpr h.2.2.1 z16), fun _ => ⟨rfl, rfl⟩⟩
      · refine pw_aload_n (k4 := 0) rfl (by decide +kernel) ?_
        refine pq_getP (c := 10) (k := 7) (ks_x hA) (by decide) (by decide) hxw lf_Ls_43 (by decide +kernel) ?_
        refine pq_getI (c := 9) (k := 1) (ks_w hA hw) (by decide) (by decide) lf_Ls_214 (by decide +kernel) ?_
        refine pw_iload_n (k4 := 3) rfl (by decide +kernel) ?_
        refine pw_iadd (by decide +kernel) ?_
        refine pw_sipush (n := 999) (v := 999) (by decide) (by decide +kernel) ?_
        refine pw_icmp_le (off := 5) (tgt := 36) (by decide +kernel) (by decide +kernel) (fun z31 => ?_) (fun z31 => ?_)
        · obtain ⟨n, hn0, rfl⟩ := nI_of z10
          have hc : xCanTry I t a i ∧ 0 ≤ nI n ∧ nI n ≤ 50 ∧ I w 1 + nI n ≤ 999 := ⟨z6, Int32.not_lt.mp z10, Int32.not_lt.mp z16, z31⟩
          have hn5 : n ≤ 50 := (nI_leI hn0 (by decide)).mp hc.2.2.1
          refine pw_aload_n (k4 := 0) rfl (by decide +kernel) ?_
          refine pq_getP (c := 10) (k := 9) (ks_x hA) (by decide) (by decide) hxv lf_Ls_50 (by decide +kernel) ?_
          refine pw_aload_n (k4 := 0) rfl (by decide +kernel) ?_
          refine pq_getP (c := 10) (k := 7) (ks_x hA) (by decide) (by decide) hxw lf_Ls_43 (by decide +kernel) ?_
          refine pq_callV (ν := m_Wo_copyFrom) (d' := 1) (av := [_]) (c := 9) (by decide +kernel) lm_Ls_343 ok_Wo_copyFrom (show _ = some 1 by decide +kernel) (ks_w hA hv) rfl (by decide) (by omega) (Nat.le_of_ble_eq_true rfl) (ct_Wo_copyFrom hA hv hw (Ne.symm hvw) hwt hB h2 h3) ?_
          rintro _ _ ⟨rfl, rfl⟩
          refine pw_iload_n (k4 := 1) rfl (by decide +kernel) ?_
          have hsw48 : decode m_Ls_tried.2.1 48 = .ok (.tableswitch 76 0 3 #[32, 43, 54, 65], 32) := by decide +kernel
          rcases swIn a 0 3 (by decide) (by decide) with z48 | ⟨j48, z48, y48, e48⟩
          · refine pw_tableOut (tgt := 124) hsw48 z48 (by decide +kernel) ?_
            refine pw_aload_n (k4 := 0) rfl (by decide +kernel) ?_
            refine pq_getP (c := 10) (k := 9) (ks_x hB) (by decide) (by decide) ((sP_o (by omega)).trans hxv) lf_Ls_50 (by decide +kernel) ?_
            refine pq_callV (ν := m_Wo_makeAllLeft) (d' := 0) (av := []) (c := 9) (by decide +kernel) lm_Ls_377 ok_Wo_makeAllLeft (show _ = some 0 by decide +kernel) (ks_w hB hv) rfl (by decide) (by omega) (Nat.le_of_ble_eq_true rfl) (ct_Wo_makeAllLeft hB hv ht hvt (tOK_cg (xCopy_ne (by omega)) hn)) ?_
            rintro _ _ ⟨rfl, rfl⟩
            refine pw_iconst (n := 0) (v := 0) (by decide) (by decide +kernel) ?_
            refine pq_istore (i := 4) (Nat.le_of_ble_eq_true rfl) rfl (by decide +kernel) ?_
            have hT : xTry I t w v ns a i = aU (xCopy I v w) (v + 1) (xLeft (xCopy I v w (v + 1)) ns) := (by unfold xTry; rw [if_neg (show ¬ a = 0 from sw_ne (k := 0) z48 (by decide) (by decide) (by decide)), if_neg (show ¬ a = 1 from sw_ne (k := 1) z48 (by decide) (by decide) (by decide)), if_neg (show ¬ a = 2 from sw_ne (k := 2) z48 (by decide) (by decide) (by decide)), if_neg (show ¬ a = 3 from sw_ne (k := 3) z48 (by decide) (by decide) (by decide))])
            have q9 := hL n hc hn5 (xTry I t w v ns a i) (fun q h => by rw [hT, aU_ne (by omega)]; exact xCopy_ne h) rfl 0 (Nat.zero_le _) (xTry I t w v ns a i) L (o61.rf _)
            rw [← hT]
            exact q9
          · rcases (show j48 = 0 ∨ j48 = 1 ∨ j48 = 2 ∨ j48 = 3 by omega) with rfl | rfl | rfl | rfl
            · refine pw_tableIn (off := 32) (tgt := 80) hsw48 (by rw [e48]; decide) (by rw [e48]; decide) (by rw [e48]; decide) (by decide +kernel) ?_
              refine pw_aload_n (k4 := 0) rfl (by decide +kernel) ?_
              refine pq_getP (c := 10) (k := 9) (ks_x hB) (by decide) (by decide) ((sP_o (by omega)).trans hxv) lf_Ls_50 (by decide +kernel) ?_
              refine pw_iconst (n := 0) (v := 0) (by decide) (by decide +kernel) ?_
              refine pq_putZ (c := 9) (k := 2) (ks_w hB hv) (by decide) (by decide) (by decide) lf_Ls_368 (Or.inl rfl) (by decide +kernel) ?_
              refine pw_goto (off := 43) (tgt := 131) (by decide +kernel) (by decide +kernel) ?_
              refine pw_iconst (n := 0) (v := 0) (by decide) (by decide +kernel) ?_
              refine pq_istore (i := 4) (Nat.le_of_ble_eq_true rfl) rfl (by decide +kernel) ?_
              have hT : xTry I t w v ns a i = sI (xCopy I v w) v 2 0 := (by unfold xTry; rw [if_pos (show a = 0 by rw [e48]; rfl)])
              have q9 := hL n hc hn5 (xTry I t w v ns a i) (fun q h => by rw [hT, sI_ne (by omega)]; exact xCopy_ne h) rfl 0 (Nat.zero_le _) (xTry I t w v ns a i) L (o61.rf _)
              rw [← hT]
              exact q9
            · refine pw_tableIn (off := 43) (tgt := 91) hsw48 (by rw [e48]; decide) (by rw [e48]; decide) (by rw [e48]; decide) (by decide +kernel) ?_
              refine pw_aload_n (k4 := 0) rfl (by decide +kernel) ?_
              refine pq_getP (c := 10) (k := 9) (ks_x hB) (by decide) (by decide) ((sP_o (by omega)).trans hxv) lf_Ls_50 (by decide +kernel) ?_
              refine pw_iconst (n := 0) (v := 0) (by decide) (by decide +kernel) ?_
              refine pq_putZ (c := 9) (k := 3) (ks_w hB hv) (by decide) (by decide) (by decide) lf_Ls_371 (Or.inl rfl) (by decide +kernel) ?_
              refine pw_goto (off := 32) (tgt := 131) (by decide +kernel) (by decide +kernel) ?_
              refine pw_iconst (n := 0) (v := 0) (by decide) (by decide +kernel) ?_
              refine pq_istore (i := 4) (Nat.le_of_ble_eq_true rfl) rfl (by decide +kernel) ?_
              have hT : xTry I t w v ns a i = sI (xCopy I v w) v 3 0 := (by unfold xTry; rw [if_neg (show ¬ a = 0 by rw [e48]; decide), if_pos (show a = 1 by rw [e48]; rfl)])
              have q9 := hL n hc hn5 (xTry I t w v ns a i) (fun q h => by rw [hT, sI_ne (by omega)]; exact xCopy_ne h) rfl 0 (Nat.zero_le _) (xTry I t w v ns a i) L (o61.rf _)
              rw [← hT]
              exact q9
            · refine pw_tableIn (off := 54) (tgt := 102) hsw48 (by rw [e48]; decide) (by rw [e48]; decide) (by rw [e48]; decide) (by decide +kernel) ?_
              refine pw_aload_n (k4 := 0) rfl (by decide +kernel) ?_
              refine pq_getP (c := 10) (k := 9) (ks_x hB) (by decide) (by decide) ((sP_o (by omega)).trans hxv) lf_Ls_50 (by decide +kernel) ?_
              obtain ⟨j, hj, rfl⟩ := nIn hn.1 (by omega) (show xHasP I t i by have q := z6; unfold xCanTry at q; rw [if_pos (show a = 2 by rw [e48]; rfl)] at q; exact q)
              refine pw_iload_n (k4 := 2) rfl (by decide +kernel) ?_
              refine pq_callV (ν := m_Wo_undress) (d' := 1) (av := [_]) (c := 9) (by decide +kernel) lm_Ls_374 ok_Wo_undress (show _ = some 1 by decide +kernel) (ks_w hB hv) rfl (by decide) (by omega) (Nat.le_of_ble_eq_true rfl) (ct_Wo_undress hB hv ht hvt (tOK_cg (xCopy_ne (by omega)) hn) j hj) ?_
              rintro _ _ ⟨rfl, rfl⟩
              refine pw_goto (off := 21) (tgt := 131) (by decide +kernel) (by decide +kernel) ?_
              refine pw_iconst (n := 0) (v := 0) (by decide) (by decide +kernel) ?_
              refine pq_istore (i := 4) (Nat.le_of_ble_eq_true rfl) rfl (by decide +kernel) ?_
              have hT : xTry I t w v ns a (nI j) = sI (sI (xCopy I v w) (v + 4) (2 * j) (-1)) (v + 4) (2 * j + 1) (-1) := (by unfold xTry; rw [if_neg (show ¬ a = 0 by rw [e48]; decide), if_neg (show ¬ a = 1 by rw [e48]; decide), if_pos (show a = 2 by rw [e48]; rfl), ixn_nI (by omega)])
              have q9 := hL n hc hn5 (xTry I t w v ns a (nI j)) (fun q h => by rw [hT, sI_ne (by omega), sI_ne (by omega)]; exact xCopy_ne h) rfl 0 (Nat.zero_le _) (xTry I t w v ns a (nI j)) L (o61.rf _)
              rw [← hT]
              exact q9
            · refine pw_tableIn (off := 65) (tgt := 113) hsw48 (by rw [e48]; decide) (by rw [e48]; decide) (by rw [e48]; decide) (by decide +kernel) ?_
              refine pw_aload_n (k4 := 0) rfl (by decide +kernel) ?_
              refine pq_getP (c := 10) (k := 9) (ks_x hB) (by decide) (by decide) ((sP_o (by omega)).trans hxv) lf_Ls_50 (by decide +kernel) ?_
              obtain ⟨j, hj, rfl⟩ := nIn hn.2.2.1 (by omega) (show xHasS I t i by have q := z6; unfold xCanTry at q; rw [if_neg (show ¬ a = 2 by rw [e48]; decide), if_pos (show a = 3 by rw [e48]; rfl)] at q; exact q)
              refine pw_iload_n (k4 := 2) rfl (by decide +kernel) ?_
              refine pq_callV (ν := m_Wo_bury) (d' := 3) (av := [_]) (c := 9) (by decide +kernel) lm_Ls_356 ok_Wo_bury (show _ = some 1 by decide +kernel) (ks_w hB hv) rfl (by decide) (by omega) (Nat.le_of_ble_eq_true rfl) (ct_Wo_bury hB hv ht hvt (tOK_cg (xCopy_ne (by omega)) hn) j hj) ?_
              rintro _ _ ⟨rfl, rfl⟩
              refine pw_goto (off := 10) (tgt := 131) (by decide +kernel) (by decide +kernel) ?_
              refine pw_iconst (n := 0) (v := 0) (by decide) (by decide +kernel) ?_
              refine pq_istore (i := 4) (Nat.le_of_ble_eq_true rfl) rfl (by decide +kernel) ?_
              have hT : xTry I t w v ns a (nI j) = xMove (xCopy I v w) t v j (-2) := (by unfold xTry; rw [if_neg (show ¬ a = 0 by rw [e48]; decide), if_neg (show ¬ a = 1 by rw [e48]; decide), if_neg (show ¬ a = 2 by rw [e48]; decide), if_pos (show a = 3 by rw [e48]; rfl), ixn_nI (by omega)])
              have q9 := hL n hc hn5 (xTry I t w v ns a (nI j)) (fun q h => by rw [hT, xMove_ne (by omega) (by omega)]; exact xCopy_ne h) rfl 0 (Nat.zero_le _) (xTry I t w v ns a (nI j)) L (o61.rf _)
              rw [← hT]
              exact q9
        · refine pw_iconst (n := -1) (v := -1) (by decide) (by decide +kernel) ?_
          exact pq_iret rfl (by decide +kernel) ⟨fun h => absurd h (fun h => z31 h.2.2.2), fun _ => ⟨rfl, rfl⟩⟩

def iRem (a b : Int32) : Int32 := a - a / b * b
theorem iRem_def (a b : Int32) : a - a / b * b = iRem a b := rfl
/-- a day of a year by chance -/
def xLuck (I : Nat → Nat → Int32) (t v np : Nat) (num : Int32) : (Nat → Nat → Int32) × Int32 :=
  if iRem (xNext num / 65536) 3 = 0 then (xMud I t v (2 * np), xNext num)
  else if iRem (xNext num / 65536) 3 = 1 ∧ ¬ I t 6 ≤ 0 then (xMove I t v (ixn (iRem (xNext (xNext num) / 65536) (I t 6))) (-2), xNext (xNext num))
  else (I, xNext num)
def xYear (I : Nat → Nat → Int32) (t v np ns nd : Nat) (num : Int32) : Nat → (Nat → Nat → Int32) × Int32
  | 0 => (I, num)
  | k + 1 => (xDay (xLuck (xYear I t v np ns nd num k).1 t v np (xYear I t v np ns nd num k).2).1 t v np ns nd, (xLuck (xYear I t v np ns nd num k).1 t v np (xYear I t v np ns nd num k).2).2)
/-- years: memory, the last number, in how many the person is rich -/
def xCha (I : Nat → Nat → Int32) (t w v np ns nd n : Nat) (num p bound : Int32) : Nat → (Nat → Nat → Int32) × Int32 × Int32
  | 0 => (I, num, 0)
  | k + 1 => (fun (c : (Nat → Nat → Int32) × Int32 × Int32) => (fun (y : (Nat → Nat → Int32) × Int32) => (y.1, y.2, if sumW (xWorthNow y.1 t v) (fun j => decide (y.1 (v + 3) j = p)) ns < bound then c.2.2 else c.2.2 + 1)) (xYear (xCopy c.1 v w) t v np ns nd c.2.1 n)) (xCha I t w v np ns nd n num p bound k)
theorem o61.copy {I J : Nat → Nat → Int32} (h : o61 I J) {w v : Nat} (hw : w = 62 ∨ w = 68 ∨ w = 74) (hv : v = 62 ∨ v = 68 ∨ v = 74) : o61 (xCopy I v w) (xCopy J v w) := by
  unfold xCopy
  rw [h w (by omega), h (w + 1) (by omega), h (w + 2) (by omega), h (w + 3) (by omega), h (w + 4) (by omega), h (w + 5) (by omega), h (v + 1) (by omega), h (v + 2) (by omega), h (v + 3) (by omega), h (v + 4) (by omega), h (v + 5) (by omega)]
  exact ((((((h.sI (by omega) _ _).sI (by omega) _ _).sI (by omega) _ _).aU _ _).aU _ _).aU _ _).aU _ _ |>.aU _ _
theorem o61.mud {I J : Nat → Nat → Int32} (h : o61 I J) {t w : Nat} (hw : w = 62 ∨ w = 68 ∨ w = 74) (ht : t = 3 ∨ t = 30) : ∀ n, o61 (xMud I t w n) (xMud J t w n)
  | 0 => h
  | k + 1 => by
    unfold xMud
    rw [(o61.mud h hw ht k) (w + 4) (by omega)]
    exact (o61.mud h hw ht k).use hw ht _ _
theorem xLuck_0 {I : Nat → Nat → Int32} {t v np : Nat} {num : Int32} (h : iRem (xNext num / 65536) 3 = 0) : xLuck I t v np num = (xMud I t v (2 * np), xNext num) := by
  unfold xLuck
  rw [if_pos h]
theorem xLuck_1 {I : Nat → Nat → Int32} {t v np : Nat} {num : Int32} (h : ¬ iRem (xNext num / 65536) 3 = 0) (h1 : iRem (xNext num / 65536) 3 = 1) (h2 : ¬ I t 6 ≤ 0) : xLuck I t v np num = (xMove I t v (ixn (iRem (xNext (xNext num) / 65536) (I t 6))) (-2), xNext (xNext num)) := by
  unfold xLuck
  rw [if_neg h, if_pos ⟨h1, h2⟩]
theorem xLuck_2 {I : Nat → Nat → Int32} {t v np : Nat} {num : Int32} (h : ¬ iRem (xNext num / 65536) 3 = 0) (h1 : ¬ (iRem (xNext num / 65536) 3 = 1 ∧ ¬ I t 6 ≤ 0)) : xLuck I t v np num = (I, xNext num) := by
  unfold xLuck
  rw [if_neg h, if_neg h1]
theorem xLuck_ne {I : Nat → Nat → Int32} {t v np a : Nat} {num : Int32} (h : a < v ∨ v + 6 ≤ a) : (xLuck I t v np num).1 a = I a := by
  by_cases h0 : iRem (xNext num / 65536) 3 = 0
  · rw [xLuck_0 h0]
    exact xMud_ne (by omega) (by omega) (by omega) _
  · by_cases h1 : iRem (xNext num / 65536) 3 = 1 ∧ ¬ I t 6 ≤ 0
    · rw [xLuck_1 h0 h1.1 h1.2]
      exact xMove_ne (by omega) (by omega)
    · rw [xLuck_2 h0 h1]
theorem xYear_ne {I : Nat → Nat → Int32} {t v np ns nd a : Nat} {num : Int32} (h : a < v ∨ v + 6 ≤ a) : ∀ k, (xYear I t v np ns nd num k).1 a = I a
  | 0 => rfl
  | k + 1 => by
    show xDay _ t v np ns nd a = I a
    rw [xDay_ne h, xLuck_ne h]
    exact xYear_ne h k
theorem xCha_ne {I : Nat → Nat → Int32} {t w v np ns nd n a : Nat} {num p bound : Int32} (h : a < v ∨ v + 6 ≤ a) : ∀ k, (xCha I t w v np ns nd n num p bound k).1 a = I a
  | 0 => rfl
  | k + 1 => by
    show (xYear _ t v np ns nd _ n).1 a = I a
    rw [xYear_ne h, xCopy_ne h]
    exact xCha_ne h k
theorem xNext_in (n : Int32) : ∃ q, q < 2 ^ 31 ∧ xNext n = nI q := by
  unfold xNext
  obtain ⟨q, hq, e⟩ := wb_of (n.toInt64 * 1103515245 + 12345)
  refine ⟨q % 2 ^ 31, Nat.mod_lt _ (by decide), ?_⟩
  rw [e, show (2147483647 : Int64) = lN (2 ^ 31 - 1) from rfl, wb_mask hq (by decide)]
  exact lN_i _
theorem sP_sP {P : Nat → Nat → Option Nat} {a k q : Nat} : sP (sP P a k q) a k q = sP P a k q := by
  funext b j
  by_cases hb : b = a
  · subst hb
    by_cases hj : j = k
    · subst hj; simp [sP, va_up]
    · simp [sP, va_up, hj]
  · simp [sP, va_up, hb]
theorem pr1 {α β : Type} {K : α × β} {a : α} {b : β} (h : K = (a, b)) : K.1 = a := by rw [h]
theorem pr2 {α β : Type} {K : α × β} {a : α} {b : β} (h : K = (a, b)) : K.2 = b := by rw [h]
def rCh (P : Nat → Nat → Option Nat) (t v : Nat) (c : (Nat → Nat → Int32) × Int32 × Int32) : Option Value → pM → Prop := fun r M => r = some (.int c.2.2) ∧ ∃ J L', M = (J, L', sP P v 0 t) ∧ o61 J c.1

theorem luck_in {x y : Int32} {ns : Nat} (hy : y = nI ns) (h16 : ns ≤ 16) (h0 : ¬ y ≤ 0) : ∃ j, j < ns ∧ iRem (xNext x / 65536) y = nI j := by
  obtain ⟨q, hq, e⟩ := xNext_in x
  have h1 : 0 < ns := by
    rcases Nat.eq_zero_or_pos ns with h | h
    · subst h; exact absurd (by rw [hy]; decide) h0
    · exact h
  refine ⟨q / 65536 % ns, Nat.mod_lt _ h1, ?_⟩
  unfold iRem
  rw [e, hy, show (65536 : Int32) = nI 65536 from rfl, pk_div hq (by decide) (by decide), pk_rem (by have := Nat.div_le_self q 65536; omega) h1 (by omega)]

set_option maxHeartbeats 4000000 in
theorem ct_Ls_chance {sh : List pSh} {I : Nat → Nat → Int32} {L : Nat → Nat → Int64} {P : Nat → Nat → Option Nat} (hA : kA sh P) {w t : Nat} (hw : w = 62 ∨ w = 68 ∨ w = 74) (ht : t = 3 ∨ t = 30) (hwt : P w 0 = some t) (hxt : P 1 2 = some t) (hxw : P 1 7 = some w) {np ns nd : Nat} (hn : tOK I t np ns nd) (hl : lOK I t) (hd : dOK I t nd) {v : Nat} (hv : v = 62 ∨ v = 68 ∨ v = 74) (hvw : v ≠ w) (hxv : P 1 9 = some v) (h2 : I w 2 = 0 ∨ I w 2 = 1) (h3 : I w 3 = 0 ∨ I w 3 = 1) {yn : Nat} (hyn : yn = 10) (sd n p bd : Int32) : pCn m_Ls_chance 6 [.ref 1, .int sd, .int n, .int p, .int bd] sh (I, L, P) (rIf (0 ≤ sd ∧ 1 ≤ n ∧ n ≤ 30 ∧ xHasP I t p ∧ 0 ≤ bd ∧ bd ≤ 9999 ∧ I w 1 + n ≤ 999) (rCh P t v (xCha I t w v np ns nd (ixn n) sd p bd yn)) (rI (-1) (I, L, P))) := by
  refine pCn_of (by decide +kernel) (Nat.le_of_ble_eq_true rfl) ?_
  have h16 := hn.2.2.2.1
  have h5 := hn.2.1
  have hB : kA sh (sP P v 0 t) := kA_sP hA t (kPs_w hv)
  have hvt : sP P v 0 t v 0 = some t := by rw [sP_eq]; exact va_up_eq2 _ _ _
  have hv1 : (1 : Nat) ≠ v := by omega
  have hDy : ∀ n, (0 ≤ sd ∧ 1 ≤ nI n ∧ nI n ≤ 30 ∧ xHasP I t p ∧ 0 ≤ bd ∧ bd ≤ 9999 ∧ I w 1 + nI n ≤ 999) → n ≤ 30 → ∀ (y : Nat) (C : Nat → Nat → Int32) (num rich : Int32), (∀ a, a < v ∨ v + 6 ≤ a → C a = I a) → (∀ Y : (Nat → Nat → Int32) × Int32, Y = (xYear C t v np ns nd num n) → ∀ (J : Nat → Nat → Int32) (L0 : Nat → Nat → Int64), o61 J Y.1 → pWn m_Ls_chance 6 sh (rIf (0 ≤ sd ∧ 1 ≤ nI n ∧ nI n ≤ 30 ∧ xHasP I t p ∧ 0 ≤ bd ∧ bd ≤ 9999 ∧ I w 1 + nI n ≤ 999) (rCh P t v (xCha I t w v np ns nd (ixn (nI n)) sd p bd yn)) (rI (-1) (I, L, P))) 65 [some (.ref 1), some (.int sd), some (.int (nI n)), some (.int p), some (.int bd), some (.int Y.2), some (.int (if sumW (xWorthNow Y.1 t v) (fun j => decide (Y.1 (v + 3) j = p)) ns < bd then rich else rich + 1)), some (.int (nI (y + 1))), none, none] [] (J, L0, sP P v 0 t)) → ∀ k, k ≤ n → ∀ (J : Nat → Nat → Int32) (L0 : Nat → Nat → Int64), o61 J (xYear C t v np ns nd num k).1 → pWn m_Ls_chance 6 sh (rIf (0 ≤ sd ∧ 1 ≤ nI n ∧ nI n ≤ 30 ∧ xHasP I t p ∧ 0 ≤ bd ∧ bd ≤ 9999 ∧ I w 1 + nI n ≤ 999) (rCh P t v (xCha I t w v np ns nd (ixn (nI n)) sd p bd yn)) (rI (-1) (I, L, P))) 86 [some (.ref 1), some (.int sd), some (.int (nI n)), some (.int p), some (.int bd), some (.int (xYear C t v np ns nd num k).2), some (.int rich), some (.int (nI y)), some (.int (nI k)), none] [] (J, L0, sP P v 0 t) := fun n hc hn3 y C num rich hCo hnx => pUpTo n _ (by
    intro k hk ih J L0 hJ
    have hYo : ∀ a, a < v ∨ v + 6 ≤ a → (xYear C t v np ns nd num k).1 a = I a := fun a ha => (xYear_ne ha k).trans (hCo a ha)
    obtain ⟨Y, hY⟩ : ∃ Y, Y = (xYear C t v np ns nd num k) := ⟨_, rfl⟩
    obtain ⟨K, hK⟩ : ∃ K, K = xLuck Y.1 t v np Y.2 := ⟨_, rfl⟩
    have hYs : xYear C t v np ns nd num (k + 1) = (xDay K.1 t v np ns nd, K.2) := by rw [hK, hY]; rfl
    have hKo : ∀ a, a < v ∨ v + 6 ≤ a → K.1 a = I a := by rw [hK, hY]; exact fun a ha => (xLuck_ne ha).trans (hYo a ha)
    rw [pr1 hYs, pr2 hYs] at ih
    rw [← hY] at hJ hYo
    rw [← hY]
    refine pw_iload (i := 8) rfl (by decide +kernel) ?_
    refine pw_iload_n (k4 := 2) rfl (by decide +kernel) ?_
    refine pn_icmp_ge (off := 92) (tgt := 181) k n rfl rfl (by omega) (by omega) (by decide +kernel) (by decide +kernel) (fun z89 => ?_) (fun z89 => ?_)
    · have hkn : k = n := Nat.le_antisymm hk z89
      replace hnx := hnx Y (by rw [hY, hkn])
      obtain ⟨S, hS⟩ : ∃ S, S = sumW (xWorthNow Y.1 t v) (fun j => decide (Y.1 (v + 3) j = p)) ns := ⟨_, rfl⟩
      rw [← hS] at hnx
      refine pw_aload_n (k4 := 0) rfl (by decide +kernel) ?_
      refine pq_getP (c := 10) (k := 9) (ks_x hB) (by decide) (by decide) ((sP_o hv1).trans hxv) lf_Ls_50 (by decide +kernel) ?_
      refine pw_iload_n (k4 := 3) rfl (by decide +kernel) ?_
      refine pq_callV (ν := m_Wo_worthOwned) (d' := 5) (av := [_]) (c := 9) (by decide +kernel) lm_Ls_168 ok_Wo_worthOwned (show _ = some 1 by decide +kernel) (ks_w hB hv) rfl (by decide) (by omega) (Nat.le_of_ble_eq_true rfl) (ct_Wo_worthOwned hB hv ht hvt (tOK_cg ((hJ t (by omega)).trans (hYo _ (by omega))) hn) (lOK_cg ((hJ _ (by omega)).trans (hYo _ (by omega))) ((hJ _ (by omega)).trans (hYo _ (by omega))) hl) _) ?_
      rintro _ _ ⟨rfl, L', rfl⟩
      refine pn_val (S) (hS.symm ▸ sumW_cg (fun j => xWorthNow_cg (hJ.rng hv ht) j) (fun j => by rw [hJ (v + 3) (by omega)]) ns) ?_
      refine pw_iload (i := 4) rfl (by decide +kernel) ?_
      refine pw_icmp_lt (off := 6) (tgt := 197) (by decide +kernel) (by decide +kernel) (fun z191 => ?_) (fun z191 => ?_)
      · refine pn_iinc (i := 7) (n := 1) 1 y rfl rfl (by decide) rfl (by decide +kernel) ?_
        refine pw_goto (off := -135) (tgt := 65) (by decide +kernel) (by decide +kernel) ?_
        rw [if_pos z191] at hnx
        exact pw_forget [8] (hnx J L' hJ)
      · refine pq_iinc (i := 6) (n := 1) (1) rfl (by decide) rfl (by decide +kernel) ?_
        refine pn_iinc (i := 7) (n := 1) 1 y rfl rfl (by decide) rfl (by decide +kernel) ?_
        refine pw_goto (off := -135) (tgt := 65) (by decide +kernel) (by decide +kernel) ?_
        rw [if_neg z191] at hnx
        exact pw_forget [8] (hnx J L' hJ)
    · refine pw_iload (i := 5) rfl (by decide +kernel) ?_
      refine pq_callS (ν := m_Ls_nextNumber) (d' := 0) (av := [_]) (by decide +kernel) lm_Ls_346 ok_Ls_nextNumber (show _ = some 1 by decide +kernel) (by omega) (Nat.le_of_ble_eq_true rfl) (ct_Ls_nextNumber _) ?_
      rintro _ _ ⟨rfl, rfl⟩
      refine pq_istore (i := 5) (Nat.le_of_ble_eq_true rfl) rfl (by decide +kernel) ?_
      refine pw_iload (i := 5) rfl (by decide +kernel) ?_
      refine pw_ldc_w lc_Ls_349 (by decide +kernel) ?_
      refine pw_idiv (by decide) (by decide +kernel) ?_
      refine pw_iconst (n := 3) (v := 3) (by decide) (by decide +kernel) ?_
      refine pw_irem (by decide) (by decide +kernel) ?_
      refine pn_val (iRem (xNext Y.2 / 65536) 3) (iRem_def _ _) ?_
      refine pq_istore (i := 9) (Nat.le_of_ble_eq_true rfl) rfl (by decide +kernel) ?_
      refine pw_iload (i := 9) rfl (by decide +kernel) ?_
      refine pw_if_ne (off := 13) (tgt := 124) (by decide +kernel) (by decide +kernel) (fun z111 => ?_) (fun z111 => ?_)
      · refine pw_iload (i := 9) rfl (by decide +kernel) ?_
        refine pw_iconst (n := 1) (v := 1) (by decide) (by decide +kernel) ?_
        refine pw_icmp_ne (off := 41) (tgt := 168) (by decide +kernel) (by decide +kernel) (fun z127 => ?_) (fun z127 => ?_)
        · refine pw_aload_n (k4 := 0) rfl (by decide +kernel) ?_
          refine pq_getP (c := 10) (k := 9) (ks_x hB) (by decide) (by decide) ((sP_o hv1).trans hxv) lf_Ls_50 (by decide +kernel) ?_
          have hlk : K = (Y.1, xNext Y.2) := hK.trans (xLuck_2 z111 (fun h => z127 h.1))
          have hk1 := pr1 hlk
          have hk2 := pr2 hlk
          have hJ9 : o61 J K.1 := by rw [hk1]; exact hJ
          refine pq_callV (ν := m_Wo_passDay) (d' := 5) (av := []) (c := 9) (by decide +kernel) lm_Ls_243 ok_Wo_passDay (show _ = some 0 by decide +kernel) (ks_w hB hv) rfl (by decide) (by omega) (Nat.le_of_ble_eq_true rfl) (ct_Wo_passDay hB hv ht hvt hJ9 (tOK_cg (hKo _ (by omega)) hn) (lOK_cg (hKo _ (by omega)) (hKo _ (by omega)) hl) (dOK_cg (hKo _ (by omega)) hd)) ?_
          rintro _ _ ⟨rfl, I', L', rfl, hJ2⟩
          refine pn_iinc (i := 8) (n := 1) 1 k rfl rfl (by decide) rfl (by decide +kernel) ?_
          refine pw_goto (off := -92) (tgt := 86) (by decide +kernel) (by decide +kernel) ?_
          rw [hk2] at ih
          exact pw_forget [9] (ih (by omega) I' L' hJ2)
        · refine pw_aload_n (k4 := 0) rfl (by decide +kernel) ?_
          refine pq_getP (c := 10) (k := 2) (ks_x hB) (by decide) (by decide) ((sP_o hv1).trans hxt) lf_Ls_18 (by decide +kernel) ?_
          refine pq_getI (c := 7) (k := 6) (ks_t hB ht) (by decide) (by decide) lf_Ls_353 (by decide +kernel) ?_
          refine pw_if_le (off := 31) (tgt := 168) (by decide +kernel) (by decide +kernel) (fun z137 => ?_) (fun z137 => ?_)
          · rw [hJ t (by omega)] at z137
            refine pw_aload_n (k4 := 0) rfl (by decide +kernel) ?_
            refine pq_getP (c := 10) (k := 9) (ks_x hB) (by decide) (by decide) ((sP_o hv1).trans hxv) lf_Ls_50 (by decide +kernel) ?_
            have hlk : K = (Y.1, xNext Y.2) := hK.trans (xLuck_2 z111 (fun h => h.2 z137))
            have hk1 := pr1 hlk
            have hk2 := pr2 hlk
            have hJ9 : o61 J K.1 := by rw [hk1]; exact hJ
            refine pq_callV (ν := m_Wo_passDay) (d' := 5) (av := []) (c := 9) (by decide +kernel) lm_Ls_243 ok_Wo_passDay (show _ = some 0 by decide +kernel) (ks_w hB hv) rfl (by decide) (by omega) (Nat.le_of_ble_eq_true rfl) (ct_Wo_passDay hB hv ht hvt hJ9 (tOK_cg (hKo _ (by omega)) hn) (lOK_cg (hKo _ (by omega)) (hKo _ (by omega)) hl) (dOK_cg (hKo _ (by omega)) hd)) ?_
            rintro _ _ ⟨rfl, I', L', rfl, hJ2⟩
            refine pn_iinc (i := 8) (n := 1) 1 k rfl rfl (by decide) rfl (by decide +kernel) ?_
            refine pw_goto (off := -92) (tgt := 86) (by decide +kernel) (by decide +kernel) ?_
            rw [hk2] at ih
            exact pw_forget [9] (ih (by omega) I' L' hJ2)
          · rw [hJ t (by omega)] at z137
            obtain ⟨j, hj, hje⟩ : ∃ j, j < ns ∧ iRem (xNext (xNext Y.2) / 65536) (Y.1 t 6) = nI j := luck_in (by rw [hYo _ (by omega)]; exact hn.2.2.1) h16 z137
            refine pw_iload (i := 5) rfl (by decide +kernel) ?_
            refine pq_callS (ν := m_Ls_nextNumber) (d' := 0) (av := [_]) (by decide +kernel) lm_Ls_346 ok_Ls_nextNumber (show _ = some 1 by decide +kernel) (by omega) (Nat.le_of_ble_eq_true rfl) (ct_Ls_nextNumber _) ?_
            rintro _ _ ⟨rfl, rfl⟩
            refine pq_istore (i := 5) (Nat.le_of_ble_eq_true rfl) rfl (by decide +kernel) ?_
            refine pw_aload_n (k4 := 0) rfl (by decide +kernel) ?_
            refine pq_getP (c := 10) (k := 9) (ks_x hB) (by decide) (by decide) ((sP_o hv1).trans hxv) lf_Ls_50 (by decide +kernel) ?_
            refine pw_iload (i := 5) rfl (by decide +kernel) ?_
            refine pw_ldc_w lc_Ls_349 (by decide +kernel) ?_
            refine pw_idiv (by decide) (by decide +kernel) ?_
            refine pw_aload_n (k4 := 0) rfl (by decide +kernel) ?_
            refine pq_getP (c := 10) (k := 2) (ks_x hB) (by decide) (by decide) ((sP_o hv1).trans hxt) lf_Ls_18 (by decide +kernel) ?_
            refine pq_getI (c := 7) (k := 6) (ks_t hB ht) (by decide) (by decide) lf_Ls_353 (by decide +kernel) ?_
            rw [hJ t (by omega)]
            refine pw_irem (fun e => z137 (by rw [e]; decide)) (by decide +kernel) ?_
            refine pn_val (nI j) ((iRem_def _ _).trans hje) ?_
            refine pq_callV (ν := m_Wo_bury) (d' := 3) (av := [_]) (c := 9) (by decide +kernel) lm_Ls_356 ok_Wo_bury (show _ = some 1 by decide +kernel) (ks_w hB hv) rfl (by decide) (by omega) (Nat.le_of_ble_eq_true rfl) (ct_Wo_bury hB hv ht hvt (tOK_cg ((hJ t (by omega)).trans (hYo _ (by omega))) hn) j hj) ?_
            rintro _ _ ⟨rfl, rfl⟩
            refine pw_aload_n (k4 := 0) rfl (by decide +kernel) ?_
            refine pq_getP (c := 10) (k := 9) (ks_x hB) (by decide) (by decide) ((sP_o hv1).trans hxv) lf_Ls_50 (by decide +kernel) ?_
            have hlk : K = (xMove Y.1 t v (ixn (iRem (xNext (xNext Y.2) / 65536) (Y.1 t 6))) (-2), xNext (xNext Y.2)) := hK.trans (xLuck_1 z111 z127 z137)
            have hk1 := pr1 hlk
            have hk2 := pr2 hlk
            have hJ9 : o61 (xMove J t v j (-2)) K.1 := by rw [hk1]; exact (by rw [hje, ixn_nI (by omega)]; exact hJ.move hv ht j (-2))
            refine pq_callV (ν := m_Wo_passDay) (d' := 5) (av := []) (c := 9) (by decide +kernel) lm_Ls_243 ok_Wo_passDay (show _ = some 0 by decide +kernel) (ks_w hB hv) rfl (by decide) (by omega) (Nat.le_of_ble_eq_true rfl) (ct_Wo_passDay hB hv ht hvt hJ9 (tOK_cg (hKo _ (by omega)) hn) (lOK_cg (hKo _ (by omega)) (hKo _ (by omega)) hl) (dOK_cg (hKo _ (by omega)) hd)) ?_
            rintro _ _ ⟨rfl, I', L', rfl, hJ2⟩
            refine pn_iinc (i := 8) (n := 1) 1 k rfl rfl (by decide) rfl (by decide +kernel) ?_
            refine pw_goto (off := -92) (tgt := 86) (by decide +kernel) (by decide +kernel) ?_
            rw [hk2] at ih
            exact pw_forget [9] (ih (by omega) I' L' hJ2)
      · refine pw_aload_n (k4 := 0) rfl (by decide +kernel) ?_
        refine pq_getP (c := 10) (k := 9) (ks_x hB) (by decide) (by decide) ((sP_o hv1).trans hxv) lf_Ls_50 (by decide +kernel) ?_
        refine pq_callV (ν := m_Wo_walkThroughMud) (d' := 5) (av := []) (c := 9) (by decide +kernel) lm_Ls_350 ok_Wo_walkThroughMud (show _ = some 0 by decide +kernel) (ks_w hB hv) rfl (by decide) (by omega) (Nat.le_of_ble_eq_true rfl) (ct_Wo_walkThroughMud hB hv ht hvt (tOK_cg ((hJ t (by omega)).trans (hYo _ (by omega))) hn)) ?_
        rintro _ _ ⟨rfl, rfl⟩
        refine pw_goto (off := 47) (tgt := 168) (by decide +kernel) (by decide +kernel) ?_
        refine pw_aload_n (k4 := 0) rfl (by decide +kernel) ?_
        refine pq_getP (c := 10) (k := 9) (ks_x hB) (by decide) (by decide) ((sP_o hv1).trans hxv) lf_Ls_50 (by decide +kernel) ?_
        have hlk : K = (xMud Y.1 t v (2 * np), xNext Y.2) := hK.trans (xLuck_0 z111)
        have hk1 := pr1 hlk
        have hk2 := pr2 hlk
        have hJ9 : o61 (xMud J t v (2 * np)) K.1 := by rw [hk1]; exact (hJ.mud hv ht (2 * np))
        refine pq_callV (ν := m_Wo_passDay) (d' := 5) (av := []) (c := 9) (by decide +kernel) lm_Ls_243 ok_Wo_passDay (show _ = some 0 by decide +kernel) (ks_w hB hv) rfl (by decide) (by omega) (Nat.le_of_ble_eq_true rfl) (ct_Wo_passDay hB hv ht hvt hJ9 (tOK_cg (hKo _ (by omega)) hn) (lOK_cg (hKo _ (by omega)) (hKo _ (by omega)) hl) (dOK_cg (hKo _ (by omega)) hd)) ?_
        rintro _ _ ⟨rfl, I', L', rfl, hJ2⟩
        refine pn_iinc (i := 8) (n := 1) 1 k rfl rfl (by decide) rfl (by decide +kernel) ?_
        refine pw_goto (off := -92) (tgt := 86) (by decide +kernel) (by decide +kernel) ?_
        rw [hk2] at ih
        exact pw_forget [9] (ih (by omega) I' L' hJ2)
)
  have hL : ∀ n, (0 ≤ sd ∧ 1 ≤ nI n ∧ nI n ≤ 30 ∧ xHasP I t p ∧ 0 ≤ bd ∧ bd ≤ 9999 ∧ I w 1 + nI n ≤ 999) → n ≤ 30 → ∀ y, y ≤ 10 → ∀ (J : Nat → Nat → Int32) (L0 : Nat → Nat → Int64) (P0 : Nat → Nat → Option Nat), kA sh P0 → (∀ a, a ≠ v → P0 a = P a) → ((P0 = P ∧ y = 0) ∨ P0 = sP P v 0 t) → o61 J (xCha I t w v np ns nd n sd p bd y).1 → pWn m_Ls_chance 6 sh (rIf (0 ≤ sd ∧ 1 ≤ nI n ∧ nI n ≤ 30 ∧ xHasP I t p ∧ 0 ≤ bd ∧ bd ≤ 9999 ∧ I w 1 + nI n ≤ 999) (rCh P t v (xCha I t w v np ns nd (ixn (nI n)) sd p bd yn)) (rI (-1) (I, L, P))) 65 [some (.ref 1), some (.int sd), some (.int (nI n)), some (.int p), some (.int bd), some (.int (xCha I t w v np ns nd n sd p bd y).2.1), some (.int (xCha I t w v np ns nd n sd p bd y).2.2), some (.int (nI y)), none, none] [] (J, L0, P0) := fun n hc hn3 => pUpTo 10 _ (by
    intro y hy ihY J L0 P0 hA0 hP0 hPe hJ
    have hPP : sP P0 v 0 t = sP P v 0 t := by
      rcases hPe with ⟨e, _⟩ | e
      · rw [e]
      · rw [e]; exact sP_sP
    have hPf : y = 10 → P0 = sP P v 0 t := fun e => by
      rcases hPe with ⟨_, e2⟩ | e2
      · omega
      · exact e2
    have hwt0 : P0 w 0 = some t := by rw [hP0 w (Ne.symm hvw)]; exact hwt
    have h20 : J w 2 = 0 ∨ J w 2 = 1 := by rw [hJ w (by omega), xCha_ne (by omega)]; exact h2
    have h30 : J w 3 = 0 ∨ J w 3 = 1 := by rw [hJ w (by omega), xCha_ne (by omega)]; exact h3
    replace ihY := fun h J L0 => ihY h J L0 (sP P v 0 t) hB (fun a ha => sP_ne ha) (Or.inr rfl)
    have hco : ∀ a, a < v ∨ v + 6 ≤ a → (xCha I t w v np ns nd n sd p bd y).1 a = I a := fun a ha => xCha_ne ha y
    have hcs : xCha I t w v np ns nd n sd p bd (y + 1) = (fun (c : (Nat → Nat → Int32) × Int32 × Int32) => (fun (y : (Nat → Nat → Int32) × Int32) => (y.1, y.2, if sumW (xWorthNow y.1 t v) (fun j => decide (y.1 (v + 3) j = p)) ns < bd then c.2.2 else c.2.2 + 1)) (xYear (xCopy c.1 v w) t v np ns nd c.2.1 n)) (xCha I t w v np ns nd n sd p bd y) := rfl
    obtain ⟨c, hce⟩ : ∃ c, c = (xCha I t w v np ns nd n sd p bd y) := ⟨_, rfl⟩
    rw [hcs, ← hce] at ihY
    rw [← hce] at hJ hco
    rw [← hce]
    dsimp only at ihY
    refine pw_iload (i := 7) rfl (by decide +kernel) ?_
    refine pw_bipush (n := 10) (v := 10) (by decide) (by decide +kernel) ?_
    refine pn_icmp_ge (off := 134) (tgt := 203) y 10 rfl rfl (by omega) (by omega) (by decide +kernel) (by decide +kernel) (fun z69 => ?_) (fun z69 => ?_)
    · obtain rfl : y = 10 := by omega
      refine pw_iload (i := 6) rfl (by decide +kernel) ?_
      exact pq_iret rfl (by decide +kernel) ⟨fun _ => by rw [ixn_nI (by omega), hyn, ← hce]; exact ⟨rfl, J, L0, by rw [hPf rfl], hJ⟩, fun h => absurd hc h⟩
    · have hyl : y < 10 := by omega
      refine pw_aload_n (k4 := 0) rfl (by decide +kernel) ?_
      refine pq_getP (c := 10) (k := 9) (ks_x hA0) (by decide) (by decide) (by rw [hP0 1 (by omega)]; exact hxv) lf_Ls_50 (by decide +kernel) ?_
      refine pw_aload_n (k4 := 0) rfl (by decide +kernel) ?_
      refine pq_getP (c := 10) (k := 7) (ks_x hA0) (by decide) (by decide) (by rw [hP0 1 (by omega)]; exact hxw) lf_Ls_43 (by decide +kernel) ?_
      refine pq_callV (ν := m_Wo_copyFrom) (d' := 1) (av := [_]) (c := 9) (by decide +kernel) lm_Ls_343 ok_Wo_copyFrom (show _ = some 1 by decide +kernel) (ks_w hA0 hv) rfl (by decide) (by omega) (Nat.le_of_ble_eq_true rfl) (ct_Wo_copyFrom hA0 hv hw (Ne.symm hvw) hwt0 (by rw [hPP]; exact hB) h20 h30) ?_
      rintro _ _ ⟨rfl, rfl⟩
      rw [hPP]
      refine pw_iconst (n := 0) (v := 0) (by decide) (by decide +kernel) ?_
      refine pq_istore (i := 8) (Nat.le_of_ble_eq_true rfl) rfl (by decide +kernel) ?_
      exact hDy n hc hn3 y (xCopy c.1 v w) c.2.1 c.2.2 (fun a ha => (xCopy_ne ha).trans (hco a ha)) (fun Y hY J L0 h => by rw [hY] at h ⊢; exact ihY hyl J L0 h) 0 (Nat.zero_le _) _ _ (hJ.copy hw hv)
)
  refine pw_iload_n (k4 := 1) rfl (by decide +kernel) ?_
  refine pw_if_lt (off := 53) (tgt := 54) (by decide +kernel) (by decide +kernel) (fun z1 => ?_) (fun z1 => ?_)
  · refine pw_iconst (n := -1) (v := -1) (by decide) (by decide +kernel) ?_
    exact pq_iret rfl (by decide +kernel) ⟨fun h => absurd h (fun h => Int32.not_lt.mpr h.1 z1), fun _ => ⟨rfl, rfl⟩⟩
  · refine pw_iload_n (k4 := 2) rfl (by decide +kernel) ?_
    refine pw_iconst (n := 1) (v := 1) (by decide) (by decide +kernel) ?_
    refine pw_icmp_lt (off := 48) (tgt := 54) (by decide +kernel) (by decide +kernel) (fun z6 => ?_) (fun z6 => ?_)
    · refine pw_iconst (n := -1) (v := -1) (by decide) (by decide +kernel) ?_
      exact pq_iret rfl (by decide +kernel) ⟨fun h => absurd h (fun h => Int32.not_lt.mpr h.2.1 z6), fun _ => ⟨rfl, rfl⟩⟩
    · refine pw_iload_n (k4 := 2) rfl (by decide +kernel) ?_
      refine pw_bipush (n := 30) (v := 30) (by decide) (by decide +kernel) ?_
      refine pw_icmp_gt (off := 42) (tgt := 54) (by decide +kernel) (by decide +kernel) (fun z12 => ?_) (fun z12 => ?_)
      · refine pw_iconst (n := -1) (v := -1) (by decide) (by decide +kernel) ?_
        exact pq_iret rfl (by decide +kernel) ⟨fun h => absurd h (fun h => Int32.not_lt.mpr h.2.2.1 z12), fun _ => ⟨rfl, rfl⟩⟩
      · refine pw_aload_n (k4 := 0) rfl (by decide +kernel) ?_
        refine pq_getP (c := 10) (k := 2) (ks_x hA) (by decide) (by decide) hxt lf_Ls_18 (by decide +kernel) ?_
        refine pw_iload_n (k4 := 3) rfl (by decide +kernel) ?_
        refine pq_callV (ν := m_Ta_hasPerson) (d' := 0) (av := [_]) (c := 7) (by decide +kernel) lm_Ls_162 ok_Ta_hasPerson (show _ = some 1 by decide +kernel) (ks_t hA ht) rfl (by decide) (by omega) (Nat.le_of_ble_eq_true rfl) (ct_Ta_hasPerson hA ht _) ?_
        rintro _ _ ⟨rfl, rfl⟩
        refine pn_ifB_eq (off := 31) (tgt := 54) (by decide +kernel) (by decide +kernel) (fun z23 => ?_) (fun z23 => ?_)
        · refine pw_iconst (n := -1) (v := -1) (by decide) (by decide +kernel) ?_
          exact pq_iret rfl (by decide +kernel) ⟨fun h => absurd h (fun h => z23 h.2.2.2.1), fun _ => ⟨rfl, rfl⟩⟩
        · refine pw_iload (i := 4) rfl (by decide +kernel) ?_
          refine pw_if_lt (off := 26) (tgt := 54) (by decide +kernel) (by decide +kernel) (fun z28 => ?_) (fun z28 => ?_)
          · refine pw_iconst (n := -1) (v := -1) (by decide) (by decide +kernel) ?_
            exact pq_iret rfl (by decide +kernel) ⟨fun h => absurd h (fun h => Int32.not_lt.mpr h.2.2.2.2.1 z28), fun _ => ⟨rfl, rfl⟩⟩
          · refine pw_iload (i := 4) rfl (by decide +kernel) ?_
            refine pw_sipush (n := 9999) (v := 9999) (by decide) (by decide +kernel) ?_
            refine pw_icmp_gt (off := 18) (tgt := 54) (by decide +kernel) (by decide +kernel) (fun z36 => ?_) (fun z36 => ?_)
            · refine pw_iconst (n := -1) (v := -1) (by decide) (by decide +kernel) ?_
              exact pq_iret rfl (by decide +kernel) ⟨fun h => absurd h (fun h => Int32.not_lt.mpr h.2.2.2.2.2.1 z36), fun _ => ⟨rfl, rfl⟩⟩
            · refine pw_aload_n (k4 := 0) rfl (by decide +kernel) ?_
              refine pq_getP (c := 10) (k := 7) (ks_x hA) (by decide) (by decide) hxw lf_Ls_43 (by decide +kernel) ?_
              refine pq_getI (c := 9) (k := 1) (ks_w hA hw) (by decide) (by decide) lf_Ls_214 (by decide +kernel) ?_
              refine pw_iload_n (k4 := 2) rfl (by decide +kernel) ?_
              refine pw_iadd (by decide +kernel) ?_
              refine pw_sipush (n := 999) (v := 999) (by decide) (by decide +kernel) ?_
              refine pw_icmp_le (off := 5) (tgt := 56) (by decide +kernel) (by decide +kernel) (fun z51 => ?_) (fun z51 => ?_)
              · obtain ⟨n, hn0, rfl⟩ := nI_of (show ¬ n < 0 from fun e => z6 (Int32.lt_trans e (by decide)))
                have hc : 0 ≤ sd ∧ 1 ≤ nI n ∧ nI n ≤ 30 ∧ xHasP I t p ∧ 0 ≤ bd ∧ bd ≤ 9999 ∧ I w 1 + nI n ≤ 999 := ⟨Int32.not_lt.mp z1, Int32.not_lt.mp z6, Int32.not_lt.mp z12, z23, Int32.not_lt.mp z28, Int32.not_lt.mp z36, z51⟩
                have hn3 : n ≤ 30 := (nI_leI hn0 (by decide)).mp hc.2.2.1
                refine pw_iload_n (k4 := 1) rfl (by decide +kernel) ?_
                refine pq_istore (i := 5) (Nat.le_of_ble_eq_true rfl) rfl (by decide +kernel) ?_
                refine pw_iconst (n := 0) (v := 0) (by decide) (by decide +kernel) ?_
                refine pq_istore (i := 6) (Nat.le_of_ble_eq_true rfl) rfl (by decide +kernel) ?_
                refine pw_iconst (n := 0) (v := 0) (by decide) (by decide +kernel) ?_
                refine pq_istore (i := 7) (Nat.le_of_ble_eq_true rfl) rfl (by decide +kernel) ?_
                exact hL n hc hn3 0 (Nat.zero_le _) I L P hA (fun a ha => rfl) (Or.inl ⟨rfl, rfl⟩) (o61.rf I)
              · refine pw_iconst (n := -1) (v := -1) (by decide) (by decide +kernel) ?_
                exact pq_iret rfl (by decide +kernel) ⟨fun h => absurd h (fun h => z51 h.2.2.2.2.2.2), fun _ => ⟨rfl, rfl⟩⟩
