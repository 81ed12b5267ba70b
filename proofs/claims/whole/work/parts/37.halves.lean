/-! ===== the class: images, halves, the bank, counts ===== -/
def rKp (v : Int32) (I : Nat → Nat → Int32) (L : Nat → Nat → Int64) (P : Nat → Nat → Option Nat) : Option Value → pM → Prop := fun r M => r = some (.int v) ∧ M = (I, L, P)
theorem sP_o {P : Nat → Nat → Option Nat} {a k b j q : Nat} (h : b ≠ a) : sP P a k q b j = P b j := by rw [sP_ne h]
theorem xCopy_ne {I : Nat → Nat → Int32} {w v a : Nat} (h : a < w ∨ w + 6 ≤ a) : xCopy I w v a = I a := by
  unfold xCopy
  rw [aU_ne (by omega), aU_ne (by omega), aU_ne (by omega), aU_ne (by omega), aU_ne (by omega), sI_ne (by omega), sI_ne (by omega), sI_ne (by omega)]
theorem xCopy_day {I : Nat → Nat → Int32} {w v : Nat} : xCopy I w v w 1 = I v 1 := by
  unfold xCopy
  rw [aU_ne (by omega), aU_ne (by omega), aU_ne (by omega), aU_ne (by omega), aU_ne (by omega), sI_rd (by decide), sI_rd (by decide), sI_rs]

theorem ct_Ls_keep {sh : List pSh} {I : Nat → Nat → Int32} {L : Nat → Nat → Int64} {P : Nat → Nat → Option Nat} (hA : kA sh P) {w t : Nat} (hw : w = 62 ∨ w = 68 ∨ w = 74) (ht : t = 3 ∨ t = 30) (hwt : P w 0 = some t) (hxt : P 1 2 = some t) (hxw : P 1 7 = some w) {v : Nat} (hv : v = 62 ∨ v = 68 ∨ v = 74) (hvw : v ≠ w) (hxv : P 1 8 = some v) (h2 : I w 2 = 0 ∨ I w 2 = 1) (h3 : I w 3 = 0 ∨ I w 3 = 1) : pCn m_Ls_keep 2 [.ref 1] sh (I, L, P) (rKp (I w 1) (sI (xCopy I v w) 1 10 1) L (sP P v 0 t)) := by
  refine pCn_of (by decide +kernel) (Nat.le_of_ble_eq_true rfl) ?_
  have hB : kA sh (sP P v 0 t) := kA_sP hA t (kPs_w hv)
  refine pw_aload_n (k4 := 0) rfl (by decide +kernel) ?_
  refine pq_getP (c := 10) (k := 8) (ks_x hA) (by decide) (by decide) hxv lf_Ls_47 (by decide +kernel) ?_
  refine pw_aload_n (k4 := 0) rfl (by decide +kernel) ?_
  refine pq_getP (c := 10) (k := 7) (ks_x hA) (by decide) (by decide) hxw lf_Ls_43 (by decide +kernel) ?_
  refine pq_callV (ν := m_Wo_copyFrom) (d' := 1) (av := [_]) (c := 9) (by decide +kernel) lm_Ls_343 ok_Wo_copyFrom (show _ = some 1 by decide +kernel) (ks_w hA hv) rfl (by decide) (by omega) (Nat.le_of_ble_eq_true rfl) (ct_Wo_copyFrom hA hv hw (Ne.symm hvw) hwt hB h2 h3) ?_
  rintro _ _ ⟨rfl, rfl⟩
  refine pw_aload_n (k4 := 0) rfl (by decide +kernel) ?_
  refine pw_iconst (n := 1) (v := 1) (by decide) (by decide +kernel) ?_
  refine pq_putZ (c := 10) (k := 10) (ks_x hB) (by decide) (by decide) (by decide) lf_Ls_114 (Or.inl rfl) (by decide +kernel) ?_
  refine pw_aload_n (k4 := 0) rfl (by decide +kernel) ?_
  refine pq_getP (c := 10) (k := 7) (ks_x hB) (by decide) (by decide) ((sP_o (by omega)).trans hxw) lf_Ls_43 (by decide +kernel) ?_
  refine pq_getI (c := 9) (k := 1) (ks_w hB hw) (by decide) (by decide) lf_Ls_214 (by decide +kernel) ?_
  exact pq_iret rfl (by decide +kernel) ⟨congrArg (fun z => some (Value.int z)) (by rw [sI_ne (by omega), xCopy_ne (by omega)]), rfl⟩

theorem ct_Ls_back {sh : List pSh} {I : Nat → Nat → Int32} {L : Nat → Nat → Int64} {P : Nat → Nat → Option Nat} (hA : kA sh P) {w t : Nat} (hw : w = 62 ∨ w = 68 ∨ w = 74) (ht : t = 3 ∨ t = 30) (hwt : P w 0 = some t) (hxt : P 1 2 = some t) (hxw : P 1 7 = some w) {v : Nat} (hv : v = 62 ∨ v = 68 ∨ v = 74) (hvw : v ≠ w) (hxv : P 1 8 = some v) (hvt : P v 0 = some t) (h2 : I v 2 = 0 ∨ I v 2 = 1) (h3 : I v 3 = 0 ∨ I v 3 = 1) : pCn m_Ls_back 2 [.ref 1] sh (I, L, P) (rIf (I 1 10 = 0) (rI (-1) (I, L, P)) (rKp (I v 1) (sI (sI (xCopy I w v) 80 0 0) 80 1 0) L (sP P w 0 t))) := by
  refine pCn_of (by decide +kernel) (Nat.le_of_ble_eq_true rfl) ?_
  have hB : kA sh (sP P w 0 t) := kA_sP hA t (kPs_w hw)
  refine pw_aload_n (k4 := 0) rfl (by decide +kernel) ?_
  refine pq_getI (c := 10) (k := 10) (ks_x hA) (by decide) (by decide) lf_Ls_114 (by decide +kernel) ?_
  refine pw_if_ne (off := 5) (tgt := 9) (by decide +kernel) (by decide +kernel) (fun z4 => ?_) (fun z4 => ?_)
  · refine pw_aload_n (k4 := 0) rfl (by decide +kernel) ?_
    refine pq_getP (c := 10) (k := 7) (ks_x hA) (by decide) (by decide) hxw lf_Ls_43 (by decide +kernel) ?_
    refine pw_aload_n (k4 := 0) rfl (by decide +kernel) ?_
    refine pq_getP (c := 10) (k := 8) (ks_x hA) (by decide) (by decide) hxv lf_Ls_47 (by decide +kernel) ?_
    refine pq_callV (ν := m_Wo_copyFrom) (d' := 1) (av := [_]) (c := 9) (by decide +kernel) lm_Ls_343 ok_Wo_copyFrom (show _ = some 1 by decide +kernel) (ks_w hA hw) rfl (by decide) (by omega) (Nat.le_of_ble_eq_true rfl) (ct_Wo_copyFrom hA hw hv hvw hvt hB h2 h3) ?_
    rintro _ _ ⟨rfl, rfl⟩
    refine pw_aload_n (k4 := 0) rfl (by decide +kernel) ?_
    refine pq_getP (c := 10) (k := 11) (ks_x hB) (by decide) (by decide) ((sP_o (by omega)).trans (kp_x_history hA)) lf_Ls_56 (by decide +kernel) ?_
    refine pq_callV (ν := m_Hi_clear) (d' := 0) (av := []) (c := 1) (by decide +kernel) lm_Ls_113 ok_Hi_clear (show _ = some 0 by decide +kernel) (ks_hi hB) rfl (by decide) (by omega) (Nat.le_of_ble_eq_true rfl) (ct_Hi_clear hB) ?_
    rintro _ _ ⟨rfl, rfl⟩
    refine pw_aload_n (k4 := 0) rfl (by decide +kernel) ?_
    refine pq_getP (c := 10) (k := 7) (ks_x hB) (by decide) (by decide) ((sP_o (by omega)).trans hxw) lf_Ls_43 (by decide +kernel) ?_
    refine pq_getI (c := 9) (k := 1) (ks_w hB hw) (by decide) (by decide) lf_Ls_214 (by decide +kernel) ?_
    exact pq_iret rfl (by decide +kernel) ⟨fun h => absurd h z4, fun _ => ⟨congrArg (fun z => some (Value.int z)) (by rw [sI_ne (by omega), sI_ne (by omega), xCopy_day]), rfl⟩⟩
  · refine pw_iconst (n := -1) (v := -1) (by decide) (by decide +kernel) ?_
    exact pq_iret rfl (by decide +kernel) ⟨fun _ => ⟨rfl, rfl⟩, fun h => absurd z4 h⟩

def xMA (a p : Int32) : Int32 := iMax 0 (iMin 9 (p - a))
abbrev xRest (m y p : Int32) : Prop := (if m + y ≤ p then m else 0) = xMA y p ∧ (if m + y ≤ p then y else 0) = xMA m p
abbrev xHalves (I : Nat → Nat → Int32) (t w : Nat) (l r : Int32) : Prop := xPairs I t w l r ∧ xHasP I t (I (w + 3) (ixn l)) ∧ xHasP I t (I (w + 3) (ixn r)) ∧ I (w + 3) (ixn l) ≠ I (w + 3) (ixn r)

theorem ct_Ls_mostAgainst {sh : List pSh} {I : Nat → Nat → Int32} {L : Nat → Nat → Int64} {P : Nat → Nat → Option Nat} (a p : Int32) : pCn m_Ls_mostAgainst 1 [.int a, .int p] sh (I, L, P) (rI (xMA a p) (I, L, P)) := by
  refine pCn_of (by decide +kernel) (Nat.le_of_ble_eq_true rfl) ?_
  refine pw_iconst (n := 0) (v := 0) (by decide) (by decide +kernel) ?_
  refine pw_bipush (n := 9) (v := 9) (by decide) (by decide +kernel) ?_
  refine pw_iload_n (k4 := 1) rfl (by decide +kernel) ?_
  refine pw_iload_n (k4 := 0) rfl (by decide +kernel) ?_
  refine pw_isub (by decide +kernel) ?_
  refine pw_mmin (by decide +kernel) lm_Ls_285 (by omega) (Nat.le_of_ble_eq_true rfl) (Nat.le_refl _) (Nat.le_refl _) ?_
  refine pw_mmax (by decide +kernel) lm_Ls_290 (by omega) (Nat.le_of_ble_eq_true rfl) (Nat.le_refl _) (Nat.le_refl _) ?_
  exact pq_iret rfl (by decide +kernel) ⟨rfl, rfl⟩

theorem ct_Ls_isRest {sh : List pSh} {I : Nat → Nat → Int32} {L : Nat → Nat → Int64} {P : Nat → Nat → Option Nat} (m y p : Int32) : pCn m_Ls_isRest 2 [.int m, .int y, .int p] sh (I, L, P) (rI (B (xRest m y p)) (I, L, P)) := by
  refine pCn_of (by decide +kernel) (Nat.le_of_ble_eq_true rfl) ?_
  refine pw_iload_n (k4 := 0) rfl (by decide +kernel) ?_
  refine pw_iload_n (k4 := 1) rfl (by decide +kernel) ?_
  refine pw_iadd (by decide +kernel) ?_
  refine pw_iload_n (k4 := 2) rfl (by decide +kernel) ?_
  refine pw_icmp_gt (off := 7) (tgt := 11) (by decide +kernel) (by decide +kernel) (fun z4 => ?_) (fun z4 => ?_)
  · refine pw_iconst (n := 0) (v := 0) (by decide) (by decide +kernel) ?_
    refine pq_istore_n (k4 := 3) (Nat.le_of_ble_eq_true rfl) rfl (by decide +kernel) ?_
    refine pw_iload_n (k4 := 3) rfl (by decide +kernel) ?_
    refine pw_if_eq (off := 7) (tgt := 21) (by decide +kernel) (by decide +kernel) (fun z14 => ?_) (fun z14 => ?_)
    · refine pw_iconst (n := 0) (v := 0) (by decide) (by decide +kernel) ?_
      refine pw_iload_n (k4 := 1) rfl (by decide +kernel) ?_
      refine pw_iload_n (k4 := 2) rfl (by decide +kernel) ?_
      refine pq_callS (ν := m_Ls_mostAgainst) (d' := 1) (av := [_, _]) (by decide +kernel) lm_Ls_282 ok_Ls_mostAgainst (show _ = some 2 by decide +kernel) (by omega) (Nat.le_of_ble_eq_true rfl) (ct_Ls_mostAgainst _ _) ?_
      rintro _ _ ⟨rfl, rfl⟩
      refine pw_icmp_ne (off := 24) (tgt := 51) (by decide +kernel) (by decide +kernel) (fun z27 => ?_) (fun z27 => ?_)
      · refine pw_iconst (n := 0) (v := 0) (by decide) (by decide +kernel) ?_
        exact pq_zret rfl (by decide) (by decide +kernel) ⟨congrArg (fun z => some (Value.int z)) (B_f (fun h => z27 (by have q := h.1; rwa [if_neg (Int32.not_le.mpr z4)] at q))).symm, rfl⟩
      · refine pw_iload_n (k4 := 3) rfl (by decide +kernel) ?_
        refine pw_if_eq (off := 7) (tgt := 38) (by decide +kernel) (by decide +kernel) (fun z31 => ?_) (fun z31 => ?_)
        · refine pw_iconst (n := 0) (v := 0) (by decide) (by decide +kernel) ?_
          refine pw_iload_n (k4 := 0) rfl (by decide +kernel) ?_
          refine pw_iload_n (k4 := 2) rfl (by decide +kernel) ?_
          refine pq_callS (ν := m_Ls_mostAgainst) (d' := 1) (av := [_, _]) (by decide +kernel) lm_Ls_282 ok_Ls_mostAgainst (show _ = some 2 by decide +kernel) (by omega) (Nat.le_of_ble_eq_true rfl) (ct_Ls_mostAgainst _ _) ?_
          rintro _ _ ⟨rfl, rfl⟩
          refine pw_icmp_ne (off := 7) (tgt := 51) (by decide +kernel) (by decide +kernel) (fun z44 => ?_) (fun z44 => ?_)
          · refine pw_iconst (n := 0) (v := 0) (by decide) (by decide +kernel) ?_
            exact pq_zret rfl (by decide) (by decide +kernel) ⟨congrArg (fun z => some (Value.int z)) (B_f (fun h => z44 (by have q := h.2; rwa [if_neg (Int32.not_le.mpr z4)] at q))).symm, rfl⟩
          · refine pw_iconst (n := 1) (v := 1) (by decide) (by decide +kernel) ?_
            refine pw_goto (off := 4) (tgt := 52) (by decide +kernel) (by decide +kernel) ?_
            exact pq_zret rfl (by decide) (by decide +kernel) ⟨congrArg (fun z => some (Value.int z)) (B_t ⟨by rw [if_neg (Int32.not_le.mpr z4)]; exact z27, by rw [if_neg (Int32.not_le.mpr z4)]; exact z44⟩).symm, rfl⟩
        · exact absurd z31 (by decide)
    · exact absurd z14 (by decide)
  · refine pw_iconst (n := 1) (v := 1) (by decide) (by decide +kernel) ?_
    refine pw_goto (off := 4) (tgt := 12) (by decide +kernel) (by decide +kernel) ?_
    refine pq_istore_n (k4 := 3) (Nat.le_of_ble_eq_true rfl) rfl (by decide +kernel) ?_
    refine pw_iload_n (k4 := 3) rfl (by decide +kernel) ?_
    refine pw_if_eq (off := 7) (tgt := 21) (by decide +kernel) (by decide +kernel) (fun z14 => ?_) (fun z14 => ?_)
    · exact absurd z14 (by decide)
    · refine pw_iload_n (k4 := 0) rfl (by decide +kernel) ?_
      refine pw_goto (off := 4) (tgt := 22) (by decide +kernel) (by decide +kernel) ?_
      refine pw_iload_n (k4 := 1) rfl (by decide +kernel) ?_
      refine pw_iload_n (k4 := 2) rfl (by decide +kernel) ?_
      refine pq_callS (ν := m_Ls_mostAgainst) (d' := 1) (av := [_, _]) (by decide +kernel) lm_Ls_282 ok_Ls_mostAgainst (show _ = some 2 by decide +kernel) (by omega) (Nat.le_of_ble_eq_true rfl) (ct_Ls_mostAgainst _ _) ?_
      rintro _ _ ⟨rfl, rfl⟩
      refine pw_icmp_ne (off := 24) (tgt := 51) (by decide +kernel) (by decide +kernel) (fun z27 => ?_) (fun z27 => ?_)
      · refine pw_iconst (n := 0) (v := 0) (by decide) (by decide +kernel) ?_
        exact pq_zret rfl (by decide) (by decide +kernel) ⟨congrArg (fun z => some (Value.int z)) (B_f (fun h => z27 (by have q := h.1; rwa [if_pos (Int32.not_lt.mp z4)] at q))).symm, rfl⟩
      · refine pw_iload_n (k4 := 3) rfl (by decide +kernel) ?_
        refine pw_if_eq (off := 7) (tgt := 38) (by decide +kernel) (by decide +kernel) (fun z31 => ?_) (fun z31 => ?_)
        · exact absurd z31 (by decide)
        · refine pw_iload_n (k4 := 1) rfl (by decide +kernel) ?_
          refine pw_goto (off := 4) (tgt := 39) (by decide +kernel) (by decide +kernel) ?_
          refine pw_iload_n (k4 := 0) rfl (by decide +kernel) ?_
          refine pw_iload_n (k4 := 2) rfl (by decide +kernel) ?_
          refine pq_callS (ν := m_Ls_mostAgainst) (d' := 1) (av := [_, _]) (by decide +kernel) lm_Ls_282 ok_Ls_mostAgainst (show _ = some 2 by decide +kernel) (by omega) (Nat.le_of_ble_eq_true rfl) (ct_Ls_mostAgainst _ _) ?_
          rintro _ _ ⟨rfl, rfl⟩
          refine pw_icmp_ne (off := 7) (tgt := 51) (by decide +kernel) (by decide +kernel) (fun z44 => ?_) (fun z44 => ?_)
          · refine pw_iconst (n := 0) (v := 0) (by decide) (by decide +kernel) ?_
            exact pq_zret rfl (by decide) (by decide +kernel) ⟨congrArg (fun z => some (Value.int z)) (B_f (fun h => z44 (by have q := h.2; rwa [if_pos (Int32.not_lt.mp z4)] at q))).symm, rfl⟩
          · refine pw_iconst (n := 1) (v := 1) (by decide) (by decide +kernel) ?_
            refine pw_goto (off := 4) (tgt := 52) (by decide +kernel) (by decide +kernel) ?_
            exact pq_zret rfl (by decide) (by decide +kernel) ⟨congrArg (fun z => some (Value.int z)) (B_t ⟨by rw [if_pos (Int32.not_lt.mp z4)]; exact z27, by rw [if_pos (Int32.not_lt.mp z4)]; exact z44⟩).symm, rfl⟩

theorem ct_Ls_areHalves {sh : List pSh} {I : Nat → Nat → Int32} {L : Nat → Nat → Int64} {P : Nat → Nat → Option Nat} (hA : kA sh P) {w t : Nat} (hw : w = 62 ∨ w = 68 ∨ w = 74) (ht : t = 3 ∨ t = 30) (hwt : P w 0 = some t) (hxt : P 1 2 = some t) (hxw : P 1 7 = some w) {np ns nd : Nat} (hn : tOK I t np ns nd) (l r : Int32) : pCn m_Ls_areHalves 3 [.ref 1, .int l, .int r] sh (I, L, P) (rI (B (xHalves I t w l r)) (I, L, P)) := by
  refine pCn_of (by decide +kernel) (Nat.le_of_ble_eq_true rfl) ?_
  have h16 := hn.2.2.2.1
  have h5 := hn.2.1
  have h8 := hn.2.2.2.2.2
  refine pw_aload_n (k4 := 0) rfl (by decide +kernel) ?_
  refine pq_getP (c := 10) (k := 7) (ks_x hA) (by decide) (by decide) hxw lf_Ls_43 (by decide +kernel) ?_
  refine pw_iload_n (k4 := 1) rfl (by decide +kernel) ?_
  refine pw_iload_n (k4 := 2) rfl (by decide +kernel) ?_
  refine pq_callV (ν := m_Wo_arePair) (d' := 2) (av := [_, _]) (c := 9) (by decide +kernel) lm_Ls_197 ok_Wo_arePair (show _ = some 2 by decide +kernel) (ks_w hA hw) rfl (by decide) (by omega) (Nat.le_of_ble_eq_true rfl) (ct_Wo_arePair hA hw ht hwt hn _ _) ?_
  rintro _ _ ⟨rfl, rfl⟩
  refine pn_ifB_eq (off := 66) (tgt := 75) (by decide +kernel) (by decide +kernel) (fun z9 => ?_) (fun z9 => ?_)
  · refine pw_iconst (n := 0) (v := 0) (by decide) (by decide +kernel) ?_
    exact pq_zret rfl (by decide) (by decide +kernel) ⟨congrArg (fun z => some (Value.int z)) (B_f (fun h => z9 h.1)).symm, rfl⟩
  · obtain ⟨i, hi, rfl⟩ := nIn hn.2.2.1 (by omega) z9.1.1
    obtain ⟨j, hj, rfl⟩ := nIn hn.2.2.1 (by omega) z9.2.1.1
    refine pw_aload_n (k4 := 0) rfl (by decide +kernel) ?_
    refine pq_getP (c := 10) (k := 2) (ks_x hA) (by decide) (by decide) hxt lf_Ls_18 (by decide +kernel) ?_
    refine pw_aload_n (k4 := 0) rfl (by decide +kernel) ?_
    refine pq_getP (c := 10) (k := 7) (ks_x hA) (by decide) (by decide) hxw lf_Ls_43 (by decide +kernel) ?_
    refine pq_getP (c := 9) (k := 6) (ks_w hA hw) (by decide) (by decide) (kp_w_owner hA hw) lf_Ls_148 (by decide +kernel) ?_
    refine pw_iload_n (k4 := 1) rfl (by decide +kernel) ?_
    refine pq_iald i rfl (by omega) (by decide) (ks_w_owner hA hw) (by decide +kernel) ?_
    refine pq_callV (ν := m_Ta_hasPerson) (d' := 0) (av := [_]) (c := 7) (by decide +kernel) lm_Ls_162 ok_Ta_hasPerson (show _ = some 1 by decide +kernel) (ks_t hA ht) rfl (by decide) (by omega) (Nat.le_of_ble_eq_true rfl) (ct_Ta_hasPerson hA ht _) ?_
    rintro _ _ ⟨rfl, rfl⟩
    refine pn_ifB_eq (off := 47) (tgt := 75) (by decide +kernel) (by decide +kernel) (fun z28 => ?_) (fun z28 => ?_)
    · refine pw_iconst (n := 0) (v := 0) (by decide) (by decide +kernel) ?_
      exact pq_zret rfl (by decide) (by decide +kernel) ⟨congrArg (fun z => some (Value.int z)) (B_f (fun h => z28 (by have q := h.2.1; rwa [ixn_nI (by omega)] at q))).symm, rfl⟩
    · refine pw_aload_n (k4 := 0) rfl (by decide +kernel) ?_
      refine pq_getP (c := 10) (k := 2) (ks_x hA) (by decide) (by decide) hxt lf_Ls_18 (by decide +kernel) ?_
      refine pw_aload_n (k4 := 0) rfl (by decide +kernel) ?_
      refine pq_getP (c := 10) (k := 7) (ks_x hA) (by decide) (by decide) hxw lf_Ls_43 (by decide +kernel) ?_
      refine pq_getP (c := 9) (k := 6) (ks_w hA hw) (by decide) (by decide) (kp_w_owner hA hw) lf_Ls_148 (by decide +kernel) ?_
      refine pw_iload_n (k4 := 2) rfl (by decide +kernel) ?_
      refine pq_iald j rfl (by omega) (by decide) (ks_w_owner hA hw) (by decide +kernel) ?_
      refine pq_callV (ν := m_Ta_hasPerson) (d' := 0) (av := [_]) (c := 7) (by decide +kernel) lm_Ls_162 ok_Ta_hasPerson (show _ = some 1 by decide +kernel) (ks_t hA ht) rfl (by decide) (by omega) (Nat.le_of_ble_eq_true rfl) (ct_Ta_hasPerson hA ht _) ?_
      rintro _ _ ⟨rfl, rfl⟩
      refine pn_ifB_eq (off := 28) (tgt := 75) (by decide +kernel) (by decide +kernel) (fun z47 => ?_) (fun z47 => ?_)
      · refine pw_iconst (n := 0) (v := 0) (by decide) (by decide +kernel) ?_
        exact pq_zret rfl (by decide) (by decide +kernel) ⟨congrArg (fun z => some (Value.int z)) (B_f (fun h => z47 (by have q := h.2.2.1; rwa [ixn_nI (by omega)] at q))).symm, rfl⟩
      · refine pw_aload_n (k4 := 0) rfl (by decide +kernel) ?_
        refine pq_getP (c := 10) (k := 7) (ks_x hA) (by decide) (by decide) hxw lf_Ls_43 (by decide +kernel) ?_
        refine pq_getP (c := 9) (k := 6) (ks_w hA hw) (by decide) (by decide) (kp_w_owner hA hw) lf_Ls_148 (by decide +kernel) ?_
        refine pw_iload_n (k4 := 1) rfl (by decide +kernel) ?_
        refine pq_iald i rfl (by omega) (by decide) (ks_w_owner hA hw) (by decide +kernel) ?_
        refine pw_aload_n (k4 := 0) rfl (by decide +kernel) ?_
        refine pq_getP (c := 10) (k := 7) (ks_x hA) (by decide) (by decide) hxw lf_Ls_43 (by decide +kernel) ?_
        refine pq_getP (c := 9) (k := 6) (ks_w hA hw) (by decide) (by decide) (kp_w_owner hA hw) lf_Ls_148 (by decide +kernel) ?_
        refine pw_iload_n (k4 := 2) rfl (by decide +kernel) ?_
        refine pq_iald j rfl (by omega) (by decide) (ks_w_owner hA hw) (by decide +kernel) ?_
        refine pw_icmp_eq (off := 7) (tgt := 75) (by decide +kernel) (by decide +kernel) (fun z68 => ?_) (fun z68 => ?_)
        · refine pw_iconst (n := 0) (v := 0) (by decide) (by decide +kernel) ?_
          exact pq_zret rfl (by decide) (by decide +kernel) ⟨congrArg (fun z => some (Value.int z)) (B_f (fun h => absurd z68 (by have q := h.2.2.2; rwa [ixn_nI (by omega), ixn_nI (by omega)] at q))).symm, rfl⟩
        · refine pw_iconst (n := 1) (v := 1) (by decide) (by decide +kernel) ?_
          refine pw_goto (off := 4) (tgt := 76) (by decide +kernel) (by decide +kernel) ?_
          exact pq_zret rfl (by decide) (by decide +kernel) ⟨congrArg (fun z => some (Value.int z)) (B_t ⟨z9, by rw [ixn_nI (by omega)]; exact z28, by rw [ixn_nI (by omega)]; exact z47, by rw [ixn_nI (by omega), ixn_nI (by omega)]; exact z68⟩).symm, rfl⟩

def restB (p : Int32) (k : Nat) : Bool := decide (xRest (nI (k / 10)) (nI (k % 10)) p)
/-- the first k from i on, c looked at, that is the wanted one of those with R; n were found -/
def kth (R : Nat → Bool) (want : Int32) : Nat → Nat → Nat → Int32
  | 0, _, _ => -2
  | c + 1, i, n => if R i = true then (if nI n = want then nI i else kth R want c (i + 1) (n + 1)) else kth R want c (i + 1) n

theorem pWP_w {μ : pMeth} {d NC NS : Nat} {Q Q' : Option Value → pH → Prop} {pc : Nat} {ls : List (Option Value)} {st : List Value} {h : pH} (hq : ∀ r h, Q r h → Q' r h) (k : pWP μ d NC NS Q pc ls st h) : pWP μ d NC NS Q' pc ls st h := by
  intro p l e s m args below meth c D dA b base H locs arr mc ms cells slots nc ns C R S B L e1 e2 e3 e4
  intro T hT X
  obtain ⟨t, a, o, h1, h2, h3, h4⟩ := k p l e s m args below meth c D dA b base H locs arr mc ms cells slots nc ns C R S B L e1 e2 e3 e4 T hT X
  exact ⟨t, a, o, h1, h2, (by obtain ⟨r, h0, q1, q2, q3⟩ := h3; exact ⟨r, h0, q1, hq r h0 q2, q3⟩), h4⟩
theorem ct_y {R : Nat → Bool} {k : Nat} (h : R k = true) : fb_ct R (k + 1) = fb_ct R k + 1 := by rw [fb_ct_succ, if_pos h]
theorem ct_n {R : Nat → Bool} {k : Nat} (h : ¬ R k = true) : fb_ct R (k + 1) = fb_ct R k := by rw [fb_ct_succ, if_neg h]; rfl
theorem kth_n {R : Nat → Bool} {q : Int32} {c i n : Nat} (h : ¬ R i = true) : kth R q (c + 1) i n = kth R q c (i + 1) n := if_neg h
theorem kth_y {R : Nat → Bool} {q : Int32} {c i n : Nat} (h : R i = true) (h2 : ¬ nI n = q) : kth R q (c + 1) i n = kth R q c (i + 1) (n + 1) := (if_pos h).trans (if_neg h2)
theorem kth_f {R : Nat → Bool} {q : Int32} {c i n : Nat} (h : R i = true) (h2 : nI n = q) : kth R q (c + 1) i n = nI i := (if_pos h).trans (if_pos h2)
theorem ct_Ls_rests {sh : List pSh} {I : Nat → Nat → Int32} {L : Nat → Nat → Int64} {P : Nat → Nat → Option Nat} (hA : kA sh P) {w t : Nat} (hw : w = 62 ∨ w = 68 ∨ w = 74) (ht : t = 3 ∨ t = 30) (hwt : P w 0 = some t) (hxt : P 1 2 = some t) (hxw : P 1 7 = some w) {np ns nd : Nat} (hn : tOK I t np ns nd) (hl : lOK I t) (l r : Int32) : pCn m_Ls_rests 4 [.ref 1, .int l, .int r] sh (I, L, P) (rIf (xHalves I t w l r) (rIx (nI (fb_ct (restB (xPair I t w (ixn l) (ixn r))) 100)) I P) (rI (-1) (I, L, P))) := by
  refine pCn_of (by decide +kernel) (Nat.le_of_ble_eq_true rfl) ?_
  have h16 := hn.2.2.2.1
  have hL : ∀ (i j : Nat) (p : Int32) (L : Nat → Nat → Int64) (k : Nat), k ≤ 100 → pWn m_Ls_rests 4 sh (rIx (nI (fb_ct (restB p) 100)) I P) 27 [some (.ref 1), some (.int (nI i)), some (.int (nI j)), some (.int p), some (.int (nI (fb_ct (restB p) k))), some (.int (nI k))] [] (I, L, P) := fun i j p L => pUpTo 100 _ (by
    intro k hk ih
    refine pw_iload (i := 5) rfl (by decide +kernel) ?_
    refine pw_bipush (n := 100) (v := 100) (by decide) (by decide +kernel) ?_
    refine pn_icmp_ge (off := 29) (tgt := 60) k 100 rfl rfl (by omega) (by omega) (by decide +kernel) (by decide +kernel) (fun z31 => ?_) (fun z31 => ?_)
    · obtain rfl : k = 100 := by omega
      refine pw_iload (i := 4) rfl (by decide +kernel) ?_
      exact pq_iret rfl (by decide +kernel) ⟨rfl, _, rfl⟩
    · have hct := fb_ct_le (restB p) k
      refine pw_iload (i := 5) rfl (by decide +kernel) ?_
      refine pw_bipush (n := 10) (v := 10) (by decide) (by decide +kernel) ?_
      refine pn_idiv k 10 rfl rfl (by omega) (by omega) (by omega) (by decide +kernel) ?_
      refine pw_iload (i := 5) rfl (by decide +kernel) ?_
      refine pw_bipush (n := 10) (v := 10) (by decide) (by decide +kernel) ?_
      refine pn_irem k 10 rfl rfl (by omega) (by omega) (by omega) (by decide +kernel) ?_
      refine pw_iload_n (k4 := 3) rfl (by decide +kernel) ?_
      refine pq_callS (ν := m_Ls_isRest) (d' := 2) (av := [_, _, _]) (by decide +kernel) lm_Ls_279 ok_Ls_isRest (show _ = some 3 by decide +kernel) (by omega) (Nat.le_of_ble_eq_true rfl) (ct_Ls_isRest _ _ _) ?_
      rintro _ _ ⟨rfl, rfl⟩
      refine pn_ifB_eq (off := 6) (tgt := 54) (by decide +kernel) (by decide +kernel) (fun z48 => ?_) (fun z48 => ?_)
      · refine pn_iinc (i := 5) (n := 1) 1 k rfl rfl (by decide) rfl (by decide +kernel) ?_
        refine pw_goto (off := -30) (tgt := 27) (by decide +kernel) (by decide +kernel) ?_
        have q := ih (by omega)
        rw [ct_n (k := k) (fun e => z48 (of_decide_eq_true e))] at q
        exact q
      · refine pn_iinc (i := 4) (n := 1) 1 (fb_ct (restB p) k) rfl rfl (by decide) rfl (by decide +kernel) ?_
        refine pn_iinc (i := 5) (n := 1) 1 k rfl rfl (by decide) rfl (by decide +kernel) ?_
        refine pw_goto (off := -30) (tgt := 27) (by decide +kernel) (by decide +kernel) ?_
        have q := ih (by omega)
        rw [ct_y (k := k) (decide_eq_true z48)] at q
        exact q
)
  refine pw_aload_n (k4 := 0) rfl (by decide +kernel) ?_
  refine pw_iload_n (k4 := 1) rfl (by decide +kernel) ?_
  refine pw_iload_n (k4 := 2) rfl (by decide +kernel) ?_
  refine pq_callV (ν := m_Ls_areHalves) (d' := 3) (av := [_, _]) (c := 10) (by decide +kernel) lm_Ls_276 ok_Ls_areHalves (show _ = some 2 by decide +kernel) (ks_x hA) rfl (by decide) (by omega) (Nat.le_of_ble_eq_true rfl) (ct_Ls_areHalves hA hw ht hwt hxt hxw hn _ _) ?_
  rintro _ _ ⟨rfl, rfl⟩
  refine pn_ifB_ne (off := 5) (tgt := 11) (by decide +kernel) (by decide +kernel) (fun z6 => ?_) (fun z6 => ?_)
  · obtain ⟨i, hi, rfl⟩ := nIn hn.2.2.1 (by omega) z6.1.1.1
    obtain ⟨j, hj, rfl⟩ := nIn hn.2.2.1 (by omega) z6.1.2.1.1
    refine pw_aload_n (k4 := 0) rfl (by decide +kernel) ?_
    refine pq_getP (c := 10) (k := 7) (ks_x hA) (by decide) (by decide) hxw lf_Ls_43 (by decide +kernel) ?_
    refine pw_iload_n (k4 := 1) rfl (by decide +kernel) ?_
    refine pw_iload_n (k4 := 2) rfl (by decide +kernel) ?_
    refine pq_callV (ν := m_Wo_pairOf) (d' := 3) (av := [_, _]) (c := 9) (by decide +kernel) lm_Ls_201 ok_Wo_pairOf (show _ = some 2 by decide +kernel) (ks_w hA hw) rfl (by decide) (by omega) (Nat.le_of_ble_eq_true rfl) (ct_Wo_pairOf hA hw ht hwt hn hl i j hi hj) ?_
    rintro _ _ ⟨rfl, L', rfl⟩
    refine pq_istore_n (k4 := 3) (Nat.le_of_ble_eq_true rfl) rfl (by decide +kernel) ?_
    refine pw_iconst (n := 0) (v := 0) (by decide) (by decide +kernel) ?_
    refine pq_istore (i := 4) (Nat.le_of_ble_eq_true rfl) rfl (by decide +kernel) ?_
    refine pw_iconst (n := 0) (v := 0) (by decide) (by decide +kernel) ?_
    refine pq_istore (i := 5) (Nat.le_of_ble_eq_true rfl) rfl (by decide +kernel) ?_
    refine pWP_w ?_ (hL i j _ L' 0 (Nat.zero_le _))
    exact fun r h q => ⟨q.1, fun _ => by rw [ixn_nI (by omega), ixn_nI (by omega)]; exact q.2, fun e => absurd z6 e⟩
  · refine pw_iconst (n := -1) (v := -1) (by decide) (by decide +kernel) ?_
    exact pq_iret rfl (by decide +kernel) ⟨fun h => absurd h z6, fun _ => ⟨rfl, rfl⟩⟩

theorem ct_Ls_rest {sh : List pSh} {I : Nat → Nat → Int32} {L : Nat → Nat → Int64} {P : Nat → Nat → Option Nat} (hA : kA sh P) {w t : Nat} (hw : w = 62 ∨ w = 68 ∨ w = 74) (ht : t = 3 ∨ t = 30) (hwt : P w 0 = some t) (hxt : P 1 2 = some t) (hxw : P 1 7 = some w) {np ns nd : Nat} (hn : tOK I t np ns nd) (hl : lOK I t) (l r q : Int32) : pCn m_Ls_rest 4 [.ref 1, .int l, .int r, .int q] sh (I, L, P) (rIf (xHalves I t w l r ∧ 0 ≤ q) (rIx (kth (restB (xPair I t w (ixn l) (ixn r))) q 100 0 0) I P) (rI (-1) (I, L, P))) := by
  refine pCn_of (by decide +kernel) (Nat.le_of_ble_eq_true rfl) ?_
  have h16 := hn.2.2.2.1
  have hL : ∀ (i j : Nat) (p : Int32) (L : Nat → Nat → Int64) (c k f : Nat), k + c = 100 → f ≤ k → kth (restB p) q 100 0 0 = kth (restB p) q c k f → pWn m_Ls_rest 4 sh (rIx (kth (restB p) q 100 0 0) I P) 32 [some (.ref 1), some (.int (nI i)), some (.int (nI j)), some (.int q), some (.int p), some (.int (nI f)), some (.int (nI k))] [] (I, L, P) := fun i j p L => pDown _ (by
    intro c ih k f hk hf hV
    refine pw_iload (i := 6) rfl (by decide +kernel) ?_
    refine pw_bipush (n := 100) (v := 100) (by decide) (by decide +kernel) ?_
    refine pn_icmp_ge (off := 39) (tgt := 75) k 100 rfl rfl (by omega) (by omega) (by decide +kernel) (by decide +kernel) (fun z36 => ?_) (fun z36 => ?_)
    · refine pw_bipush (n := -2) (v := -2) (by decide) (by decide +kernel) ?_
      exact pq_iret rfl (by decide +kernel) ⟨congrArg (fun z => some (Value.int z)) (by have hc : c = 0 := (by omega); subst hc; rw [hV]; rfl), _, rfl⟩
    · refine pw_iload (i := 6) rfl (by decide +kernel) ?_
      refine pw_bipush (n := 10) (v := 10) (by decide) (by decide +kernel) ?_
      refine pn_idiv k 10 rfl rfl (by omega) (by omega) (by omega) (by decide +kernel) ?_
      refine pw_iload (i := 6) rfl (by decide +kernel) ?_
      refine pw_bipush (n := 10) (v := 10) (by decide) (by decide +kernel) ?_
      refine pn_irem k 10 rfl rfl (by omega) (by omega) (by omega) (by decide +kernel) ?_
      refine pw_iload (i := 4) rfl (by decide +kernel) ?_
      refine pq_callS (ν := m_Ls_isRest) (d' := 2) (av := [_, _, _]) (by decide +kernel) lm_Ls_279 ok_Ls_isRest (show _ = some 3 by decide +kernel) (by omega) (Nat.le_of_ble_eq_true rfl) (ct_Ls_isRest _ _ _) ?_
      rintro _ _ ⟨rfl, rfl⟩
      refine pn_ifB_eq (off := 15) (tgt := 69) (by decide +kernel) (by decide +kernel) (fun z54 => ?_) (fun z54 => ?_)
      · refine pn_iinc (i := 6) (n := 1) 1 k rfl rfl (by decide) rfl (by decide +kernel) ?_
        refine pw_goto (off := -40) (tgt := 32) (by decide +kernel) (by decide +kernel) ?_
        obtain ⟨e, rfl⟩ : ∃ e, c = e + 1 := ⟨c - 1, by omega⟩
        refine ih e rfl (k + 1) f (by omega) (by omega) (hV.trans (kth_n (fun q => z54 (of_decide_eq_true q))))
      · refine pw_iload (i := 5) rfl (by decide +kernel) ?_
        refine pw_iload_n (k4 := 3) rfl (by decide +kernel) ?_
        refine pw_icmp_ne (off := 6) (tgt := 66) (by decide +kernel) (by decide +kernel) (fun z60 => ?_) (fun z60 => ?_)
        · refine pn_iinc (i := 5) (n := 1) 1 f rfl rfl (by decide) rfl (by decide +kernel) ?_
          refine pn_iinc (i := 6) (n := 1) 1 k rfl rfl (by decide) rfl (by decide +kernel) ?_
          refine pw_goto (off := -40) (tgt := 32) (by decide +kernel) (by decide +kernel) ?_
          obtain ⟨e, rfl⟩ : ∃ e, c = e + 1 := ⟨c - 1, by omega⟩
          refine ih e rfl (k + 1) (f + 1) (by omega) (by omega) (hV.trans (kth_y (decide_eq_true z54) z60))
        · refine pw_iload (i := 6) rfl (by decide +kernel) ?_
          exact pq_iret rfl (by decide +kernel) ⟨congrArg (fun z => some (Value.int z)) (by obtain ⟨e, rfl⟩ : ∃ e, c = e + 1 := ⟨c - 1, by omega⟩; exact (hV.trans (kth_f (decide_eq_true z54) z60)).symm), _, rfl⟩
)
  refine pw_aload_n (k4 := 0) rfl (by decide +kernel) ?_
  refine pw_iload_n (k4 := 1) rfl (by decide +kernel) ?_
  refine pw_iload_n (k4 := 2) rfl (by decide +kernel) ?_
  refine pq_callV (ν := m_Ls_areHalves) (d' := 3) (av := [_, _]) (c := 10) (by decide +kernel) lm_Ls_276 ok_Ls_areHalves (show _ = some 2 by decide +kernel) (ks_x hA) rfl (by decide) (by omega) (Nat.le_of_ble_eq_true rfl) (ct_Ls_areHalves hA hw ht hwt hxt hxw hn _ _) ?_
  rintro _ _ ⟨rfl, rfl⟩
  refine pn_ifB_eq (off := 7) (tgt := 13) (by decide +kernel) (by decide +kernel) (fun z6 => ?_) (fun z6 => ?_)
  · refine pw_iconst (n := -1) (v := -1) (by decide) (by decide +kernel) ?_
    exact pq_iret rfl (by decide +kernel) ⟨fun h => absurd h.1 z6, fun _ => ⟨rfl, rfl⟩⟩
  · refine pw_iload_n (k4 := 3) rfl (by decide +kernel) ?_
    refine pw_if_ge (off := 5) (tgt := 15) (by decide +kernel) (by decide +kernel) (fun z10 => ?_) (fun z10 => ?_)
    · obtain ⟨i, hi, rfl⟩ := nIn hn.2.2.1 (by omega) z6.1.1.1
      obtain ⟨j, hj, rfl⟩ := nIn hn.2.2.1 (by omega) z6.1.2.1.1
      refine pw_aload_n (k4 := 0) rfl (by decide +kernel) ?_
      refine pq_getP (c := 10) (k := 7) (ks_x hA) (by decide) (by decide) hxw lf_Ls_43 (by decide +kernel) ?_
      refine pw_iload_n (k4 := 1) rfl (by decide +kernel) ?_
      refine pw_iload_n (k4 := 2) rfl (by decide +kernel) ?_
      refine pq_callV (ν := m_Wo_pairOf) (d' := 3) (av := [_, _]) (c := 9) (by decide +kernel) lm_Ls_201 ok_Wo_pairOf (show _ = some 2 by decide +kernel) (ks_w hA hw) rfl (by decide) (by omega) (Nat.le_of_ble_eq_true rfl) (ct_Wo_pairOf hA hw ht hwt hn hl i j hi hj) ?_
      rintro _ _ ⟨rfl, L', rfl⟩
      refine pq_istore (i := 4) (Nat.le_of_ble_eq_true rfl) rfl (by decide +kernel) ?_
      refine pw_iconst (n := 0) (v := 0) (by decide) (by decide +kernel) ?_
      refine pq_istore (i := 5) (Nat.le_of_ble_eq_true rfl) rfl (by decide +kernel) ?_
      refine pw_iconst (n := 0) (v := 0) (by decide) (by decide +kernel) ?_
      refine pq_istore (i := 6) (Nat.le_of_ble_eq_true rfl) rfl (by decide +kernel) ?_
      refine pWP_w ?_ (hL i j _ L' 100 0 0 (by omega) (by omega) rfl)
      exact fun r h q => ⟨q.1, fun _ => by rw [ixn_nI (by omega), ixn_nI (by omega)]; exact q.2, fun e => absurd ⟨z6, z10⟩ e⟩
    · refine pw_iconst (n := -1) (v := -1) (by decide) (by decide +kernel) ?_
      exact pq_iret rfl (by decide +kernel) ⟨fun h => absurd h.2 z10, fun _ => ⟨rfl, rfl⟩⟩
