/-! ===== the reference: years by chance, what is tried ===== -/
def rNo (v : Int32) (d : Int64) (I : Nat → Nat → Int32) (L : Nat → Nat → Int64) (P : Nat → Nat → Option Nat) : Option Value → pM → Prop := fun r M => r = some (.int v) ∧ M = (I, sL L 134 61 d, P)
theorem n64 {k : Nat} (hk : 0 < k) (hk2 : k < 2 ^ 31) : ¬ (nI k).toInt64 = 0 := by
  rw [nI_l hk2]
  intro h
  have := (pk_lLT (a := 0) (b := k) (by decide) (by omega)).mpr hk
  rw [h] at this
  exact absurd this (by decide)
theorem sL_rs {L : Nat → Nat → Int64} {a k : Nat} {x : Int64} : sL L a k x a k = x := by
  rw [sL_eq]
  exact pk_uLs

theorem ct_Mo_number1 {sh : List pSh} {I : Nat → Nat → Int32} {L : Nat → Nat → Int64} {P : Nat → Nat → Option Nat} (hA : kA sh P) {x : Int32} (hx : L 134 61 = x.toInt64) {k : Nat} (hk : 0 < k) (hk2 : k < 2 ^ 31) : pCn m_Mo_number1 0 [.ref 134, .int (nI k)] sh (I, L, P) (rNo (iRem (xNext x / 65536) (nI k)) (xNext x).toInt64 I L P) := by
  refine pCn_of (by decide +kernel) (Nat.le_of_ble_eq_true rfl) ?_
  refine pw_aload_n (k4 := 0) rfl (by decide +kernel) ?_
  refine pw_aload_n (k4 := 0) rfl (by decide +kernel) ?_
  refine pq_getL (c := 11) (k := 61) (ks_m hA) (by decide) (by decide) lf_Mo_562 (by decide +kernel) ?_
  refine pn_valJ (x.toInt64) hx ?_
  refine pw_ldc2 lc_Mo_566 (by decide +kernel) ?_
  refine pw_lmul (by decide +kernel) ?_
  refine pw_ldc2 lc_Mo_568 (by decide +kernel) ?_
  refine pw_ladd (by decide +kernel) ?_
  refine pw_ldc2 lc_Mo_570 (by decide +kernel) ?_
  refine pw_land (by decide +kernel) ?_
  refine pn_valJ ((xNext x).toInt64) (by obtain ⟨q, _, _, h2, h3⟩ := num_n x; rw [h2, h3]) ?_
  refine pq_putL (c := 11) (k := 61) (ks_m hA) (by decide) (by decide) lf_Mo_562 (Or.inl rfl) (by decide +kernel) ?_
  refine pw_aload_n (k4 := 0) rfl (by decide +kernel) ?_
  refine pq_getL (c := 11) (k := 61) (ks_m hA) (by decide) (by decide) lf_Mo_562 (by decide +kernel) ?_
  refine pn_valJ ((xNext x).toInt64) sL_rs ?_
  refine pw_ldc2 lc_Mo_572 (by decide +kernel) ?_
  refine pw_ldiv (by decide) (by decide +kernel) ?_
  refine pw_iload_n (k4 := 1) rfl (by decide +kernel) ?_
  refine pw_i2l (by decide +kernel) ?_
  refine pw_lrem (n64 hk hk2) (by decide +kernel) ?_
  refine pw_l2i (by decide +kernel) ?_
  refine pn_val (iRem (xNext x / 65536) (nI k)) (num_r hk hk2 _ rfl) ?_
  exact pq_iret rfl (by decide +kernel) ⟨rfl, rfl⟩

/-- mud: all that is worn -/
def yMd (I : Nat → Nat → Int32) (np : Nat) : Nat → Nat → Nat → Int32
  | 0 => I
  | p + 1 => (fun K => yWears K 1 np (K 165 (5 + p)) 5) (yWears (yMd I np p) 1 np (yMd I np p 164 (5 + p)) 5)
def yLkN (ns : Nat) (x : Int32) : Int32 := if iRem (xNext x / 65536) 3 = 1 ∧ 0 < ns then xNext (xNext x) else xNext x
def yLkM (I : Nat → Nat → Int32) (np ns : Nat) (x : Int32) : Nat → Nat → Int32 :=
  if iRem (xNext x / 65536) 3 = 0 then yMd I np np
  else if iRem (xNext x / 65536) 3 = 1 ∧ 0 < ns then (if I 163 (16 + ixn (iRem (xNext (xNext x) / 65536) (nI ns))) = -2 then I else yGoes I 1 (ixn (iRem (xNext (xNext x) / 65536) (nI ns))) np (-2))
  else I
theorem yMd_fr {I : Nat → Nat → Int32} {np a : Nat} (h : a < 162 ∨ 165 < a) : ∀ n, yMd I np n a = I a
  | 0 => rfl
  | n + 1 => by
    show yWears _ 1 np _ 5 a = I a
    rw [yWears_fr h, yWears_fr h]
    exact yMd_fr h n
theorem yLkM_fr {I : Nat → Nat → Int32} {np ns a : Nat} {x : Int32} (h : a < 162 ∨ 165 < a) : yLkM I np ns x a = I a := by
  unfold yLkM
  by_cases h0 : iRem (xNext x / 65536) 3 = 0
  · rw [if_pos h0]; exact yMd_fr h np
  · rw [if_neg h0]
    by_cases h1 : iRem (xNext x / 65536) 3 = 1 ∧ 0 < ns
    · rw [if_pos h1]
      by_cases h2 : I 163 (16 + ixn (iRem (xNext (xNext x) / 65536) (nI ns))) = -2
      · rw [if_pos h2]
      · rw [if_neg h2]; exact yGoes_fr (by omega) (by omega) (by omega)
    · rw [if_neg h1]
theorem mI_mud {I : Nat → Nat → Int32} {np ns p : Nat} {x : Int32} (h : mI I 1 np ns) (hnp : np ≤ 5) (hns : ns ≤ 16) (hf : ftOK I 1 ns p x) : mI (yWears I 1 np x 5) 1 np ns := by
  rcases hf with rfl | ⟨j, hj, rfl, _, hu⟩
  · unfold yWears
    rw [if_pos (by decide)]
    exact h
  · exact mI_wears (m := 5) h hnp hns hj hu (by decide)
theorem mI_md {I : Nat → Nat → Int32} {np ns : Nat} (h : mI I 1 np ns) (hnp : np ≤ 5) (hns : ns ≤ 16) : ∀ n, n ≤ np → mI (yMd I np n) 1 np ns
  | 0, _ => h
  | n + 1, hn => by
    have h1 := mI_md h hnp hns n (by omega)
    have h2 := mI_mud h1 hnp hns (h1.2 n (by omega)).1
    exact mI_mud h2 hnp hns (h2.2 n (by omega)).2
theorem lk_in {x : Int32} {ns : Nat} (h16 : ns ≤ 16) (h0 : 0 < ns) : ∃ j, j < ns ∧ iRem (xNext x / 65536) (nI ns) = nI j := luck_in rfl h16 (fun w => by
  have := (nI_leI (show ns < 2 ^ 31 by omega) (show 0 < 2 ^ 31 by decide)).mp w
  omega)
theorem mI_lk {I : Nat → Nat → Int32} {np ns : Nat} {x : Int32} (h : mI I 1 np ns) (hnp : np ≤ 5) (hns : ns ≤ 16) : mI (yLkM I np ns x) 1 np ns := by
  unfold yLkM
  by_cases h0 : iRem (xNext x / 65536) 3 = 0
  · rw [if_pos h0]; exact mI_md h hnp hns np (Nat.le_refl _)
  · rw [if_neg h0]
    by_cases h1 : iRem (xNext x / 65536) 3 = 1 ∧ 0 < ns
    · rw [if_pos h1]
      by_cases h2 : I 163 (16 + ixn (iRem (xNext (xNext x) / 65536) (nI ns))) = -2
      · rw [if_pos h2]; exact h
      · rw [if_neg h2]
        obtain ⟨j, hj, hje⟩ := lk_in (x := xNext x) hns h1.2
        rw [hje, ixn_nI (by omega)]
        exact mI_goes h hj hns (Or.inl rfl)
    · rw [if_neg h1]; exact h
def rLk (J : Nat → Nat → Int32) (d : Int64) (L : Nat → Nat → Int64) (P : Nat → Nat → Option Nat) : Option Value → pM → Prop := fun r M => r = none ∧ ∃ I' L', M = (I', L', P) ∧ rep I' J ∧ L' 134 61 = d

theorem ft_j {I : Nat → Nat → Int32} {b ns p : Nat} {x : Int32} (h : ftOK I b ns p x) (hns : ns ≤ 16) (hx : ¬ x < 0) : ∃ j, j < 16 ∧ x = nI j := by
  rcases h with rfl | ⟨j, hj, rfl, _⟩
  · exact absurd (by decide) hx
  · exact ⟨j, by omega, rfl⟩

set_option maxHeartbeats 4000000 in
theorem ct_Mo_chances {sh : List pSh} {I : Nat → Nat → Int32} {L : Nat → Nat → Int64} {P : Nat → Nat → Option Nat} (hA : kA sh P) {J : Nat → Nat → Int32} (hJ : rep I J) {np ns nd : Nat} (hm : mOK J np ns nd) (hi : mI J 1 np ns) {x : Int32} (hx : L 134 61 = x.toInt64) : pCn m_Mo_chances 3 [.ref 134] sh (I, L, P) (rLk (yLkM J np ns x) (yLkN ns x).toInt64 L P) := by
  refine pCn_of (by decide +kernel) (Nat.le_of_ble_eq_true rfl) ?_
  have h5 := hm.2.1
  have h16 := hm.2.2.2.1
  have hendz : iRem (xNext x / 65536) 3 = 0 → ∀ (I : Nat → Nat → Int32) (L0 : Nat → Nat → Int64), rep I (yMd J np np) → L0 134 61 = (xNext x).toInt64 → pWn m_Mo_chances 3 sh (rLk (yLkM J np ns x) (yLkN ns x).toInt64 L P) 54 [some (.ref 134), some (.int (iRem (xNext x / 65536) 3)), none] [] (I, L0, P) := by
    intro hz0 I L0 hR hL0
    refine pw_iload_n (k4 := 1) rfl (by decide +kernel) ?_
    refine pw_iconst (n := 1) (v := 1) (by decide) (by decide +kernel) ?_
    refine pw_icmp_ne (off := 41) (tgt := 97) (by decide +kernel) (by decide +kernel) (fun z56 => ?_) (fun z56 => ?_)
    · exact pq_vret rfl (by decide +kernel) ⟨rfl, _, _, rfl, by unfold yLkM; rw [if_pos hz0]; exact hR, by rw [hL0]; unfold yLkN; rw [if_neg (fun w => absurd (hz0.symm.trans w.1) (by decide))]⟩
    · exact absurd (hz0.symm.trans z56) (by decide)
  have h12 : iRem (xNext x / 65536) 3 = 0 → ∀ p, p ≤ np → ∀ (I : Nat → Nat → Int32) (L0 : Nat → Nat → Int64), rep I (yMd J np p) → L0 134 61 = (xNext x).toInt64 → pWn m_Mo_chances 3 sh (rLk (yLkM J np ns x) (yLkN ns x).toInt64 L P) 12 [some (.ref 134), some (.int (iRem (xNext x / 65536) 3)), some (.int (nI p))] [] (I, L0, P) := fun hz0 => pUpTo np _ (by
    intro p hp ih I L0 hR hL0
    have hend := hendz hz0
    have hiK := mI_md hi h5 h16 p hp
    have hi2 : p < np → mI (yWears (yMd J np p) 1 np (yMd J np p 164 (5 + p)) 5) 1 np ns := fun w => mI_mud hiK h5 h16 (hiK.2 p w).1
    refine pw_iload_n (k4 := 2) rfl (by decide +kernel) ?_
    refine pw_aload_n (k4 := 0) rfl (by decide +kernel) ?_
    refine pq_getI (c := 11) (k := 12) (ks_m hA) (by decide) (by decide) lf_Mo_259 (by decide +kernel) ?_
    refine pn_val (nI (np)) (mOK_rep hR (sameT.mOK (fun a ha => yMd_fr (Or.inl ha) p) hm)).1 ?_
    refine pn_icmp_ge (off := 37) (tgt := 54) p np rfl rfl (by omega) (by omega) (by decide +kernel) (by decide +kernel) (fun z17 => ?_) (fun z17 => ?_)
    · obtain rfl : p = np := by omega
      exact pw_forget [2] (hend I L0 hR hL0)
    · refine pw_aload_n (k4 := 0) rfl (by decide +kernel) ?_
      refine pw_iconst (n := 1) (v := 1) (by decide) (by decide +kernel) ?_
      refine pw_aload_n (k4 := 0) rfl (by decide +kernel) ?_
      refine pq_getP (c := 11) (k := 57) (ks_m hA) (by decide) (by decide) (kp_m_leftOn hA) lf_Mo_103 (by decide +kernel) ?_
      refine pw_iconst (n := 5) (v := 5) (by decide) (by decide +kernel) ?_
      refine pw_iload_n (k4 := 2) rfl (by decide +kernel) ?_
      refine pn_iadd 5 p rfl rfl (by decide +kernel) ?_
      refine pq_iald (5 + p) rfl (by omega) (by decide) (ks_m_leftOn hA) (by decide +kernel) ?_
      refine pw_iconst (n := 5) (v := 5) (by decide) (by decide +kernel) ?_
      refine pq_callV (ν := m_Mo_wears) (d' := 2) (av := [_, _, _]) (c := 11) (by decide +kernel) lm_Mo_478 ok_Mo_wears (show _ = some 3 by decide +kernel) (ks_m hA) rfl (by decide) (by omega) (Nat.le_of_ble_eq_true rfl) (ct_Mo_wears hA (mOK_rep hR (sameT.mOK (fun a ha => yMd_fr (Or.inl ha) p) hm)) (b := 1) (by decide) _ _ (ft_j (by rw [hR.a164]; exact (hiK.2 p (by omega)).1) h16)) ?_
      rintro _ _ ⟨rfl, rfl⟩
      refine pw_aload_n (k4 := 0) rfl (by decide +kernel) ?_
      refine pw_iconst (n := 1) (v := 1) (by decide) (by decide +kernel) ?_
      refine pw_aload_n (k4 := 0) rfl (by decide +kernel) ?_
      refine pq_getP (c := 11) (k := 58) (ks_m hA) (by decide) (by decide) (kp_m_rightOn hA) lf_Mo_106 (by decide +kernel) ?_
      refine pw_iconst (n := 5) (v := 5) (by decide) (by decide +kernel) ?_
      refine pw_iload_n (k4 := 2) rfl (by decide +kernel) ?_
      refine pn_iadd 5 p rfl rfl (by decide +kernel) ?_
      refine pq_iald (5 + p) rfl (by omega) (by decide) (ks_m_rightOn hA) (by decide +kernel) ?_
      refine pw_iconst (n := 5) (v := 5) (by decide) (by decide +kernel) ?_
      refine pq_callV (ν := m_Mo_wears) (d' := 2) (av := [_, _, _]) (c := 11) (by decide +kernel) lm_Mo_478 ok_Mo_wears (show _ = some 3 by decide +kernel) (ks_m hA) rfl (by decide) (by omega) (Nat.le_of_ble_eq_true rfl) (ct_Mo_wears hA (mOK_rep (hR.wears 1 np _ 5) (sameT.mOK (fun a ha => (yWears_fr (Or.inl ha)).trans (yMd_fr (Or.inl ha) p)) hm)) (b := 1) (by decide) _ _ (ft_j (by rw [hR.a164, (hR.wears 1 np _ 5).a165]; exact ((hi2 (by omega)).2 p (by omega)).2) h16)) ?_
      rintro _ _ ⟨rfl, rfl⟩
      refine pn_iinc (i := 2) (n := 1) 1 p rfl rfl (by decide) rfl (by decide +kernel) ?_
      refine pw_goto (off := -39) (tgt := 12) (by decide +kernel) (by decide +kernel) ?_
      refine ih (by omega) _ L0 ?_ hL0
      show rep _ (yWears (yWears (yMd J np p) 1 np (yMd J np p 164 (5 + p)) 5) 1 np _ 5)
      have w := hR.wears 1 np (yMd J np p 164 (5 + p)) 5
      rw [hR.a164, w.a165]
      exact w.wears 1 np _ 5
)
  refine pw_aload_n (k4 := 0) rfl (by decide +kernel) ?_
  refine pw_iconst (n := 3) (v := 3) (by decide) (by decide +kernel) ?_
  refine pq_callV (ν := m_Mo_number1) (d' := 0) (av := [_]) (c := 11) (by decide +kernel) lm_Mo_574 ok_Mo_number1 (show _ = some 1 by decide +kernel) (ks_m hA) rfl (by decide) (by omega) (Nat.le_of_ble_eq_true rfl) (ct_Mo_number1 hA hx (k := 3) (by decide) (by decide)) ?_
  rintro _ _ ⟨rfl, rfl⟩
  refine pq_istore_n (k4 := 1) (Nat.le_of_ble_eq_true rfl) rfl (by decide +kernel) ?_
  refine pw_iload_n (k4 := 1) rfl (by decide +kernel) ?_
  refine pw_if_ne (off := 47) (tgt := 54) (by decide +kernel) (by decide +kernel) (fun z7 => ?_) (fun z7 => ?_)
  · change ¬ iRem (xNext x / 65536) 3 = 0 at z7
    refine pw_iload_n (k4 := 1) rfl (by decide +kernel) ?_
    refine pw_iconst (n := 1) (v := 1) (by decide) (by decide +kernel) ?_
    refine pw_icmp_ne (off := 41) (tgt := 97) (by decide +kernel) (by decide +kernel) (fun z56 => ?_) (fun z56 => ?_)
    · exact pq_vret rfl (by decide +kernel) ⟨rfl, _, _, rfl, by unfold yLkM; rw [if_neg z7, if_neg (fun w => z56 w.1)]; exact hJ, by rw [sL_rs]; unfold yLkN; rw [if_neg (fun w => z56 w.1)]⟩
    · refine pw_aload_n (k4 := 0) rfl (by decide +kernel) ?_
      refine pq_getI (c := 11) (k := 13) (ks_m hA) (by decide) (by decide) lf_Mo_262 (by decide +kernel) ?_
      refine pn_val (nI (ns)) (mOK_rep hJ hm).2.2.1 ?_
      refine pn_if_le (off := 34) (tgt := 97) ns rfl (by omega) (by decide +kernel) (by decide +kernel) (fun z63 => ?_) (fun z63 => ?_)
      · exact pq_vret rfl (by decide +kernel) ⟨rfl, _, _, rfl, by unfold yLkM; rw [if_neg z7, if_neg (fun w => absurd w.2 (by omega))]; exact hJ, by rw [sL_rs]; unfold yLkN; rw [if_neg (fun w => absurd w.2 (by omega))]⟩
      · have z63 : 0 < ns := by omega
        obtain ⟨j, hj, hje⟩ := lk_in (x := xNext x) h16 z63
        refine pw_aload_n (k4 := 0) rfl (by decide +kernel) ?_
        refine pw_aload_n (k4 := 0) rfl (by decide +kernel) ?_
        refine pq_getI (c := 11) (k := 13) (ks_m hA) (by decide) (by decide) lf_Mo_262 (by decide +kernel) ?_
        refine pn_val (nI (ns)) (mOK_rep hJ hm).2.2.1 ?_
        refine pq_callV (ν := m_Mo_number1) (d' := 0) (av := [_]) (c := 11) (by decide +kernel) lm_Mo_574 ok_Mo_number1 (show _ = some 1 by decide +kernel) (ks_m hA) rfl (by decide) (by omega) (Nat.le_of_ble_eq_true rfl) (ct_Mo_number1 hA (x := xNext x) sL_rs (k := ns) z63 (by omega)) ?_
        rintro _ _ ⟨rfl, rfl⟩
        refine pn_val (nI (j)) hje ?_
        refine pq_istore_n (k4 := 2) (Nat.le_of_ble_eq_true rfl) rfl (by decide +kernel) ?_
        refine pw_aload_n (k4 := 0) rfl (by decide +kernel) ?_
        refine pq_getP (c := 11) (k := 56) (ks_m hA) (by decide) (by decide) (kp_m_whose hA) lf_Mo_100 (by decide +kernel) ?_
        refine pw_bipush (n := 16) (v := 16) (by decide) (by decide +kernel) ?_
        refine pw_iload_n (k4 := 2) rfl (by decide +kernel) ?_
        refine pn_iadd 16 j rfl rfl (by decide +kernel) ?_
        refine pq_iald (16 + j) rfl (by omega) (by decide) (ks_m_whose hA) (by decide +kernel) ?_
        refine pw_bipush (n := -2) (v := -2) (by decide) (by decide +kernel) ?_
        refine pw_icmp_eq (off := 11) (tgt := 97) (by decide +kernel) (by decide +kernel) (fun z86 => ?_) (fun z86 => ?_)
        · rw [hJ.a163] at z86
          exact pq_vret rfl (by decide +kernel) ⟨rfl, _, _, rfl, by unfold yLkM; rw [if_neg z7, if_pos ⟨z56, z63⟩, hje, ixn_nI (by omega), if_pos z86]; exact hJ, by rw [sL_rs]; unfold yLkN; rw [if_pos ⟨z56, z63⟩]⟩
        · rw [hJ.a163] at z86
          refine pw_aload_n (k4 := 0) rfl (by decide +kernel) ?_
          refine pw_iconst (n := 1) (v := 1) (by decide) (by decide +kernel) ?_
          refine pw_iload_n (k4 := 2) rfl (by decide +kernel) ?_
          refine pw_bipush (n := -2) (v := -2) (by decide) (by decide +kernel) ?_
          refine pq_callV (ν := m_Mo_goes) (d' := 1) (av := [_, _, _]) (c := 11) (by decide +kernel) lm_Mo_466 ok_Mo_goes (show _ = some 3 by decide +kernel) (ks_m hA) rfl (by decide) (by omega) (Nat.le_of_ble_eq_true rfl) (ct_Mo_goes hA (mOK_rep hJ hm) (b := 1) (by decide) (by omega) _) ?_
          rintro _ _ ⟨rfl, rfl⟩
          exact pq_vret rfl (by decide +kernel) ⟨rfl, _, _, rfl, by unfold yLkM; rw [if_neg z7, if_pos ⟨z56, z63⟩, hje, ixn_nI (by omega), if_neg z86]; exact hJ.goes 1 j np (-2), by rw [sL_rs]; unfold yLkN; rw [if_pos ⟨z56, z63⟩]⟩
  · change iRem (xNext x / 65536) 3 = 0 at z7
    refine pw_iconst (n := 0) (v := 0) (by decide) (by decide +kernel) ?_
    refine pq_istore_n (k4 := 2) (Nat.le_of_ble_eq_true rfl) rfl (by decide +kernel) ?_
    exact h12 z7 0 (Nat.zero_le _) I _ hJ sL_rs
