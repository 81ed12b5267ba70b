/-! ===== the reference: halves ===== -/
def yHas (a b p : Int32) : Int32 := if p < a + b then 0 else a
abbrev yRest (a b p : Int32) : Prop := ∀ c, c < 10 → ¬ (yHas a b p < yHas (nI c) b p) ∧ ¬ (yHas b a p < yHas (nI c) a p)
def yRestB (p : Int32) (k : Nat) : Bool := decide (yRest (nI (k / 10)) (nI (k % 10)) p)
abbrev yHalves (I : Nat → Nat → Int32) (l r : Int32) : Prop := yPairs I l r ∧ ¬ I 163 (ixn l) < 0 ∧ ¬ I 163 (ixn r) < 0 ∧ I 163 (ixn l) ≠ I 163 (ixn r)

theorem ct_Mo_hasOf {sh : List pSh} {I : Nat → Nat → Int32} {L : Nat → Nat → Int64} {P : Nat → Nat → Option Nat} (a b p : Int32) : pCn m_Mo_hasOf 0 [.int a, .int b, .int p] sh (I, L, P) (rI (yHas a b p) (I, L, P)) := by
  refine pCn_of (by decide +kernel) (Nat.le_of_ble_eq_true rfl) ?_
  refine pw_iload_n (k4 := 0) rfl (by decide +kernel) ?_
  refine pw_iload_n (k4 := 1) rfl (by decide +kernel) ?_
  refine pw_iadd (by decide +kernel) ?_
  refine pw_iload_n (k4 := 2) rfl (by decide +kernel) ?_
  refine pw_icmp_gt (off := 7) (tgt := 11) (by decide +kernel) (by decide +kernel) (fun z4 => ?_) (fun z4 => ?_)
  · refine pw_iconst (n := 0) (v := 0) (by decide) (by decide +kernel) ?_
    exact pq_iret rfl (by decide +kernel) ⟨congrArg (fun z => some (Value.int z)) (if_pos z4).symm, rfl⟩
  · refine pw_iload_n (k4 := 0) rfl (by decide +kernel) ?_
    refine pw_goto (off := 4) (tgt := 12) (by decide +kernel) (by decide +kernel) ?_
    exact pq_iret rfl (by decide +kernel) ⟨congrArg (fun z => some (Value.int z)) (if_neg z4).symm, rfl⟩

theorem ct_Mo_isRest {sh : List pSh} {I : Nat → Nat → Int32} {L : Nat → Nat → Int64} {P : Nat → Nat → Option Nat} (a b p : Int32) : pCn m_Mo_isRest 1 [.int a, .int b, .int p] sh (I, L, P) (rI (B (yRest a b p)) (I, L, P)) := by
  refine pCn_of (by decide +kernel) (Nat.le_of_ble_eq_true rfl) ?_
  have hL := pUpTo 10 (fun k => (∀ c, c < k → ¬ (yHas a b p < yHas (nI c) b p) ∧ ¬ (yHas b a p < yHas (nI c) a p)) → pWn m_Mo_isRest 1 sh (rI (B (yRest a b p)) (I, L, P)) 2 [some (.int a), some (.int b), some (.int p), some (.int (nI k))] [] (I, L, P)) (by
    intro k hk ih hP
    refine pw_iload_n (k4 := 3) rfl (by decide +kernel) ?_
    refine pw_bipush (n := 10) (v := 10) (by decide) (by decide +kernel) ?_
    refine pn_icmp_ge (off := 41) (tgt := 46) k 10 rfl rfl (by omega) (by omega) (by decide +kernel) (by decide +kernel) (fun z5 => ?_) (fun z5 => ?_)
    · have hk10 : k = 10 := by omega
      refine pw_iconst (n := 1) (v := 1) (by decide) (by decide +kernel) ?_
      exact pq_zret rfl (by decide) (by decide +kernel) ⟨congrArg (fun z => some (Value.int z)) (B_t (fun c hc => hP c (by omega))).symm, rfl⟩
    · refine pw_iload_n (k4 := 3) rfl (by decide +kernel) ?_
      refine pw_iload_n (k4 := 1) rfl (by decide +kernel) ?_
      refine pw_iload_n (k4 := 2) rfl (by decide +kernel) ?_
      refine pq_callS (ν := m_Mo_hasOf) (d' := 0) (av := [_, _, _]) (by decide +kernel) lm_Mo_517 ok_Mo_hasOf (show _ = some 3 by decide +kernel) (by omega) (Nat.le_of_ble_eq_true rfl) (ct_Mo_hasOf _ _ _) ?_
      rintro _ _ ⟨rfl, rfl⟩
      refine pw_iload_n (k4 := 0) rfl (by decide +kernel) ?_
      refine pw_iload_n (k4 := 1) rfl (by decide +kernel) ?_
      refine pw_iload_n (k4 := 2) rfl (by decide +kernel) ?_
      refine pq_callS (ν := m_Mo_hasOf) (d' := 0) (av := [_, _, _]) (by decide +kernel) lm_Mo_517 ok_Mo_hasOf (show _ = some 3 by decide +kernel) (by omega) (Nat.le_of_ble_eq_true rfl) (ct_Mo_hasOf _ _ _) ?_
      rintro _ _ ⟨rfl, rfl⟩
      refine pw_icmp_gt (off := 18) (tgt := 38) (by decide +kernel) (by decide +kernel) (fun z20 => ?_) (fun z20 => ?_)
      · refine pw_iconst (n := 0) (v := 0) (by decide) (by decide +kernel) ?_
        exact pq_zret rfl (by decide) (by decide +kernel) ⟨congrArg (fun z => some (Value.int z)) (B_f (fun q => (q k (by omega)).1 z20)).symm, rfl⟩
      · refine pw_iload_n (k4 := 3) rfl (by decide +kernel) ?_
        refine pw_iload_n (k4 := 0) rfl (by decide +kernel) ?_
        refine pw_iload_n (k4 := 2) rfl (by decide +kernel) ?_
        refine pq_callS (ν := m_Mo_hasOf) (d' := 0) (av := [_, _, _]) (by decide +kernel) lm_Mo_517 ok_Mo_hasOf (show _ = some 3 by decide +kernel) (by omega) (Nat.le_of_ble_eq_true rfl) (ct_Mo_hasOf _ _ _) ?_
        rintro _ _ ⟨rfl, rfl⟩
        refine pw_iload_n (k4 := 1) rfl (by decide +kernel) ?_
        refine pw_iload_n (k4 := 0) rfl (by decide +kernel) ?_
        refine pw_iload_n (k4 := 2) rfl (by decide +kernel) ?_
        refine pq_callS (ν := m_Mo_hasOf) (d' := 0) (av := [_, _, _]) (by decide +kernel) lm_Mo_517 ok_Mo_hasOf (show _ = some 3 by decide +kernel) (by omega) (Nat.le_of_ble_eq_true rfl) (ct_Mo_hasOf _ _ _) ?_
        rintro _ _ ⟨rfl, rfl⟩
        refine pw_icmp_le (off := 5) (tgt := 40) (by decide +kernel) (by decide +kernel) (fun z35 => ?_) (fun z35 => ?_)
        · refine pn_iinc (i := 3) (n := 1) 1 k rfl rfl (by decide) rfl (by decide +kernel) ?_
          refine pw_goto (off := -41) (tgt := 2) (by decide +kernel) (by decide +kernel) ?_
          exact ih (by omega) (fun c hc => (Nat.lt_succ_iff_lt_or_eq.mp hc).elim (hP c) (fun q => by subst q; exact ⟨z20, Int32.not_lt.mpr z35⟩))
        · refine pw_iconst (n := 0) (v := 0) (by decide) (by decide +kernel) ?_
          exact pq_zret rfl (by decide) (by decide +kernel) ⟨congrArg (fun z => some (Value.int z)) (B_f (fun q => (q k (by omega)).2 (Int32.not_le.mp z35))).symm, rfl⟩
)
  refine pw_iconst (n := 0) (v := 0) (by decide) (by decide +kernel) ?_
  refine pq_istore_n (k4 := 3) (Nat.le_of_ble_eq_true rfl) rfl (by decide +kernel) ?_
  exact hL 0 (Nat.zero_le _) (fun c hc => absurd hc (Nat.not_lt_zero _))

theorem ct_Mo_areHalves {sh : List pSh} {I : Nat → Nat → Int32} {L : Nat → Nat → Int64} {P : Nat → Nat → Option Nat} (hA : kA sh P) {np ns nd : Nat} (hm : mOK I np ns nd) (l r : Int32) : pCn m_Mo_areHalves 3 [.ref 134, .int l, .int r] sh (I, L, P) (rI (B (yHalves I l r)) (I, L, P)) := by
  refine pCn_of (by decide +kernel) (Nat.le_of_ble_eq_true rfl) ?_
  have h5 := hm.2.1
  have h16 := hm.2.2.2.1
  have h8 := hm.2.2.2.2.2
  refine pw_aload_n (k4 := 0) rfl (by decide +kernel) ?_
  refine pw_iload_n (k4 := 1) rfl (by decide +kernel) ?_
  refine pw_iload_n (k4 := 2) rfl (by decide +kernel) ?_
  refine pq_callV (ν := m_Mo_arePair) (d' := 2) (av := [_, _]) (c := 11) (by decide +kernel) lm_Mo_449 ok_Mo_arePair (show _ = some 2 by decide +kernel) (ks_m hA) rfl (by decide) (by omega) (Nat.le_of_ble_eq_true rfl) (ct_Mo_arePair hA (by exact hm) _ _) ?_
  rintro _ _ ⟨rfl, rfl⟩
  refine pn_ifB_eq (off := 40) (tgt := 46) (by decide +kernel) (by decide +kernel) (fun z6 => ?_) (fun z6 => ?_)
  · refine pw_iconst (n := 0) (v := 0) (by decide) (by decide +kernel) ?_
    exact pq_zret rfl (by decide) (by decide +kernel) ⟨congrArg (fun z => some (Value.int z)) (B_f (fun q => z6 q.1)).symm, rfl⟩
  · obtain ⟨i, hi, rfl⟩ := nIn hm.2.2.1 (by omega) z6.1.1
    obtain ⟨j, hj, rfl⟩ := nIn hm.2.2.1 (by omega) z6.2.1.1
    refine pw_aload_n (k4 := 0) rfl (by decide +kernel) ?_
    refine pq_getP (c := 11) (k := 56) (ks_m hA) (by decide) (by decide) (kp_m_whose hA) lf_Mo_100 (by decide +kernel) ?_
    refine pw_iload_n (k4 := 1) rfl (by decide +kernel) ?_
    refine pq_iald i rfl (by omega) (by decide) (ks_m_whose hA) (by decide +kernel) ?_
    refine pw_if_lt (off := 31) (tgt := 46) (by decide +kernel) (by decide +kernel) (fun z15 => ?_) (fun z15 => ?_)
    · refine pw_iconst (n := 0) (v := 0) (by decide) (by decide +kernel) ?_
      exact pq_zret rfl (by decide) (by decide +kernel) ⟨congrArg (fun z => some (Value.int z)) (B_f (fun q => q.2.1 (by rw [ixn_nI (by omega)]; exact z15))).symm, rfl⟩
    · refine pw_aload_n (k4 := 0) rfl (by decide +kernel) ?_
      refine pq_getP (c := 11) (k := 56) (ks_m hA) (by decide) (by decide) (kp_m_whose hA) lf_Mo_100 (by decide +kernel) ?_
      refine pw_iload_n (k4 := 2) rfl (by decide +kernel) ?_
      refine pq_iald j rfl (by omega) (by decide) (ks_m_whose hA) (by decide +kernel) ?_
      refine pw_if_lt (off := 22) (tgt := 46) (by decide +kernel) (by decide +kernel) (fun z24 => ?_) (fun z24 => ?_)
      · refine pw_iconst (n := 0) (v := 0) (by decide) (by decide +kernel) ?_
        exact pq_zret rfl (by decide) (by decide +kernel) ⟨congrArg (fun z => some (Value.int z)) (B_f (fun q => q.2.2.1 (by rw [ixn_nI (by omega)]; exact z24))).symm, rfl⟩
      · refine pw_aload_n (k4 := 0) rfl (by decide +kernel) ?_
        refine pq_getP (c := 11) (k := 56) (ks_m hA) (by decide) (by decide) (kp_m_whose hA) lf_Mo_100 (by decide +kernel) ?_
        refine pw_iload_n (k4 := 1) rfl (by decide +kernel) ?_
        refine pq_iald i rfl (by omega) (by decide) (ks_m_whose hA) (by decide +kernel) ?_
        refine pw_aload_n (k4 := 0) rfl (by decide +kernel) ?_
        refine pq_getP (c := 11) (k := 56) (ks_m hA) (by decide) (by decide) (kp_m_whose hA) lf_Mo_100 (by decide +kernel) ?_
        refine pw_iload_n (k4 := 2) rfl (by decide +kernel) ?_
        refine pq_iald j rfl (by omega) (by decide) (ks_m_whose hA) (by decide +kernel) ?_
        refine pw_icmp_eq (off := 7) (tgt := 46) (by decide +kernel) (by decide +kernel) (fun z39 => ?_) (fun z39 => ?_)
        · refine pw_iconst (n := 0) (v := 0) (by decide) (by decide +kernel) ?_
          exact pq_zret rfl (by decide) (by decide +kernel) ⟨congrArg (fun z => some (Value.int z)) (B_f (fun q => q.2.2.2 (by rw [ixn_nI (by omega), ixn_nI (by omega)]; exact z39))).symm, rfl⟩
        · refine pw_iconst (n := 1) (v := 1) (by decide) (by decide +kernel) ?_
          refine pw_goto (off := 4) (tgt := 47) (by decide +kernel) (by decide +kernel) ?_
          exact pq_zret rfl (by decide) (by decide +kernel) ⟨congrArg (fun z => some (Value.int z)) (B_t ⟨z6, by rw [ixn_nI (by omega)]; exact z15, by rw [ixn_nI (by omega)]; exact z24, by rw [ixn_nI (by omega), ixn_nI (by omega)]; exact z39⟩).symm, rfl⟩

theorem ct_Mo_restAt {sh : List pSh} {I : Nat → Nat → Int32} {L : Nat → Nat → Int64} {P : Nat → Nat → Option Nat} (hA : kA sh P) (hwf : wfL I) {i j : Nat} (hi : i < 16) (hj : j < 16) (w : Int32) : pCn m_Mo_restAt 5 [.ref 134, .int (nI i), .int (nI j), .int w] sh (I, L, P) (rIe (if w < 0 then nI (fb_ct (yRestB (yPairB I i j)) 100) else kth (yRestB (yPairB I i j)) w 100 0 0) I L P) := by
  refine pCn_of (by decide +kernel) (Nat.le_of_ble_eq_true rfl) ?_
  have hL : ∀ (ev : Int32) (L2 : Nat → Nat → Int64), lfm L2 L → ∀ cc k f, k + cc = 100 → f ≤ k → f = fb_ct (yRestB (yPairB I i j)) k → kth (yRestB (yPairB I i j)) w 100 0 0 = kth (yRestB (yPairB I i j)) w cc k f → pWn m_Mo_restAt 5 sh (rIe (if w < 0 then nI (fb_ct (yRestB (yPairB I i j)) 100) else kth (yRestB (yPairB I i j)) w 100 0 0) I L P) 14 [some (.ref 134), some (.int (nI i)), some (.int (nI j)), some (.int w), some (.int (yPairB I i j)), some (.int (nI f)), some (.int (nI k))] [] (sI I 134 54 ev, L2, P) := fun ev L2 hL2 => pDown _ (by
    intro cc ih k f hk hfk hF hV
    refine pw_iload (i := 6) rfl (by decide +kernel) ?_
    refine pw_bipush (n := 100) (v := 100) (by decide) (by decide +kernel) ?_
    refine pn_icmp_ge (off := 42) (tgt := 60) k 100 rfl rfl (by omega) (by omega) (by decide +kernel) (by decide +kernel) (fun z18 => ?_) (fun z18 => ?_)
    · refine pw_iload_n (k4 := 3) rfl (by decide +kernel) ?_
      refine pw_if_ge (off := 8) (tgt := 69) (by decide +kernel) (by decide +kernel) (fun z61 => ?_) (fun z61 => ?_)
      · refine pw_bipush (n := -2) (v := -2) (by decide) (by decide +kernel) ?_
        exact pq_iret rfl (by decide +kernel) ⟨congrArg (fun z => some (Value.int z)) (by rw [if_neg (Int32.not_lt.mpr z61), hV, show cc = 0 by omega]; rfl), ev, L2, rfl, hL2⟩
      · refine pw_iload (i := 5) rfl (by decide +kernel) ?_
        refine pw_goto (off := 5) (tgt := 71) (by decide +kernel) (by decide +kernel) ?_
        exact pq_iret rfl (by decide +kernel) ⟨congrArg (fun z => some (Value.int z)) (by rw [if_pos (Int32.not_le.mp z61), hF, show k = 100 by omega]), ev, L2, rfl, hL2⟩
    · refine pw_iload (i := 6) rfl (by decide +kernel) ?_
      refine pw_bipush (n := 10) (v := 10) (by decide) (by decide +kernel) ?_
      refine pn_idiv k 10 rfl rfl (by omega) (by omega) (by omega) (by decide +kernel) ?_
      refine pw_iload (i := 6) rfl (by decide +kernel) ?_
      refine pw_bipush (n := 10) (v := 10) (by decide) (by decide +kernel) ?_
      refine pn_irem k 10 rfl rfl (by omega) (by omega) (by omega) (by decide +kernel) ?_
      refine pw_iload (i := 4) rfl (by decide +kernel) ?_
      refine pq_callS (ν := m_Mo_isRest) (d' := 1) (av := [_, _, _]) (by decide +kernel) lm_Mo_520 ok_Mo_isRest (show _ = some 3 by decide +kernel) (by omega) (Nat.le_of_ble_eq_true rfl) (ct_Mo_isRest _ _ _) ?_
      rintro _ _ ⟨rfl, rfl⟩
      refine pn_ifB_ne (off := 6) (tgt := 42) (by decide +kernel) (by decide +kernel) (fun z36 => ?_) (fun z36 => ?_)
      · refine pw_iload (i := 5) rfl (by decide +kernel) ?_
        refine pw_iload_n (k4 := 3) rfl (by decide +kernel) ?_
        refine pw_icmp_ne (off := 6) (tgt := 51) (by decide +kernel) (by decide +kernel) (fun z45 => ?_) (fun z45 => ?_)
        · refine pn_iinc (i := 5) (n := 1) 1 f rfl rfl (by decide) rfl (by decide +kernel) ?_
          refine pn_iinc (i := 6) (n := 1) 1 k rfl rfl (by decide) rfl (by decide +kernel) ?_
          refine pw_goto (off := -43) (tgt := 14) (by decide +kernel) (by decide +kernel) ?_
          obtain ⟨ce, rfl⟩ : ∃ ce, cc = ce + 1 := ⟨cc - 1, by omega⟩
          exact ih ce rfl (k + 1) (f + 1) (by omega) (by omega) (by rw [hF]; exact (ct_y (k := k) (decide_eq_true z36)).symm) (hV.trans (kth_y (decide_eq_true z36) z45))
        · refine pw_iload (i := 6) rfl (by decide +kernel) ?_
          exact pq_iret rfl (by decide +kernel) ⟨congrArg (fun z => some (Value.int z)) (by obtain ⟨ce, rfl⟩ : ∃ ce, cc = ce + 1 := ⟨cc - 1, by omega⟩; rw [if_neg (by rw [← z45]; exact nI_pos (by omega)), hV, kth_f (decide_eq_true z36) z45]), ev, L2, rfl, hL2⟩
      · refine pw_goto (off := 15) (tgt := 54) (by decide +kernel) (by decide +kernel) ?_
        refine pn_iinc (i := 6) (n := 1) 1 k rfl rfl (by decide) rfl (by decide +kernel) ?_
        refine pw_goto (off := -43) (tgt := 14) (by decide +kernel) (by decide +kernel) ?_
        obtain ⟨ce, rfl⟩ : ∃ ce, cc = ce + 1 := ⟨cc - 1, by omega⟩
        exact ih ce rfl (k + 1) f (by omega) (by omega) (by rw [hF]; exact (ct_n (k := k) (fun e9 => z36 (of_decide_eq_true e9))).symm) (hV.trans (kth_n (fun e9 => z36 (of_decide_eq_true e9))))
)
  refine pw_aload_n (k4 := 0) rfl (by decide +kernel) ?_
  refine pw_iload_n (k4 := 1) rfl (by decide +kernel) ?_
  refine pw_iload_n (k4 := 2) rfl (by decide +kernel) ?_
  refine pq_callV (ν := m_Mo_pairOf) (d' := 4) (av := [_, _]) (c := 11) (by decide +kernel) lm_Mo_452 ok_Mo_pairOf (show _ = some 2 by decide +kernel) (ks_m hA) rfl (by decide) (by omega) (Nat.le_of_ble_eq_true rfl) (ct_Mo_pairOf hA (by exact hwf) (i := i) (j := j) (by omega) (by omega)) ?_
  rintro _ _ ⟨rfl, ev, L2, rfl, hL2⟩
  refine pq_istore (i := 4) (Nat.le_of_ble_eq_true rfl) rfl (by decide +kernel) ?_
  refine pw_iconst (n := 0) (v := 0) (by decide) (by decide +kernel) ?_
  refine pq_istore (i := 5) (Nat.le_of_ble_eq_true rfl) rfl (by decide +kernel) ?_
  refine pw_iconst (n := 0) (v := 0) (by decide) (by decide +kernel) ?_
  refine pq_istore (i := 6) (Nat.le_of_ble_eq_true rfl) rfl (by decide +kernel) ?_
  exact hL ev L2 hL2 100 0 0 (by omega) (by omega) rfl rfl

theorem ct_Mo_rests {sh : List pSh} {I : Nat → Nat → Int32} {L : Nat → Nat → Int64} {P : Nat → Nat → Option Nat} (hA : kA sh P) {np ns nd : Nat} (hm : mOK I np ns nd) (hwf : wfL I) (l r : Int32) : pCn m_Mo_rests 6 [.ref 134, .int l, .int r] sh (I, L, P) (rA (if yHalves I l r then nI (fb_ct (yRestB (yPairB I (ixn l) (ixn r))) 100) else -1) I P) := by
  refine pCn_of (by decide +kernel) (Nat.le_of_ble_eq_true rfl) ?_
  have h5 := hm.2.1
  have h16 := hm.2.2.2.1
  have h8 := hm.2.2.2.2.2
  refine pw_aload_n (k4 := 0) rfl (by decide +kernel) ?_
  refine pw_iconst (n := 0) (v := 0) (by decide) (by decide +kernel) ?_
  refine pq_putI (c := 11) (k := 2) (ks_m hA) (by decide) (by decide) lf_Mo_175 (Or.inl rfl) (by decide +kernel) ?_
  refine pw_aload_n (k4 := 0) rfl (by decide +kernel) ?_
  refine pw_iload_n (k4 := 1) rfl (by decide +kernel) ?_
  refine pw_iload_n (k4 := 2) rfl (by decide +kernel) ?_
  refine pq_callV (ν := m_Mo_areHalves) (d' := 3) (av := [_, _]) (c := 11) (by decide +kernel) lm_Mo_523 ok_Mo_areHalves (show _ = some 2 by decide +kernel) (ks_m hA) rfl (by decide) (by omega) (Nat.le_of_ble_eq_true rfl) (ct_Mo_areHalves hA (by exact hm) _ _) ?_
  rintro _ _ ⟨rfl, rfl⟩
  refine pn_ifB_eq (off := 13) (tgt := 24) (by decide +kernel) (by decide +kernel) (fun z11 => ?_) (fun z11 => ?_)
  · refine pw_iconst (n := -1) (v := -1) (by decide) (by decide +kernel) ?_
    exact pq_iret rfl (by decide +kernel) ⟨congrArg (fun z => some (Value.int z)) (if_neg z11).symm, _, _, rfl, rep_t⟩
  · obtain ⟨i, hi, rfl⟩ := nIn hm.2.2.1 (by omega) z11.1.1.1
    obtain ⟨j, hj, rfl⟩ := nIn hm.2.2.1 (by omega) z11.1.2.1.1
    refine pw_aload_n (k4 := 0) rfl (by decide +kernel) ?_
    refine pw_iload_n (k4 := 1) rfl (by decide +kernel) ?_
    refine pw_iload_n (k4 := 2) rfl (by decide +kernel) ?_
    refine pw_iconst (n := -1) (v := -1) (by decide) (by decide +kernel) ?_
    refine pq_callV (ν := m_Mo_restAt) (d' := 5) (av := [_, _, _]) (c := 11) (by decide +kernel) lm_Mo_526 ok_Mo_restAt (show _ = some 3 by decide +kernel) (ks_m hA) rfl (by decide) (by omega) (Nat.le_of_ble_eq_true rfl) (ct_Mo_restAt hA (by exact hwf) (i := i) (j := j) (by omega) (by omega) _) ?_
    rintro _ _ ⟨rfl, ev, L2, rfl, hL2⟩
    refine pw_goto (off := 4) (tgt := 25) (by decide +kernel) (by decide +kernel) ?_
    exact pq_iret rfl (by decide +kernel) ⟨congrArg (fun z => some (Value.int z)) (by rw [if_pos (show yHalves I (nI i) (nI j) from z11), if_pos (show (-1 : Int32) < 0 by decide), ixn_nI (by omega), ixn_nI (by omega)] <;> rfl), _, _, rfl, rep_te⟩

theorem ct_Mo_rest {sh : List pSh} {I : Nat → Nat → Int32} {L : Nat → Nat → Int64} {P : Nat → Nat → Option Nat} (hA : kA sh P) {np ns nd : Nat} (hm : mOK I np ns nd) (hwf : wfL I) (l r q : Int32) : pCn m_Mo_rest 6 [.ref 134, .int l, .int r, .int q] sh (I, L, P) (rA (if yHalves I l r ∧ 0 ≤ q then kth (yRestB (yPairB I (ixn l) (ixn r))) q 100 0 0 else -1) I P) := by
  refine pCn_of (by decide +kernel) (Nat.le_of_ble_eq_true rfl) ?_
  have h5 := hm.2.1
  have h16 := hm.2.2.2.1
  have h8 := hm.2.2.2.2.2
  refine pw_aload_n (k4 := 0) rfl (by decide +kernel) ?_
  refine pw_iconst (n := 0) (v := 0) (by decide) (by decide +kernel) ?_
  refine pq_putI (c := 11) (k := 2) (ks_m hA) (by decide) (by decide) lf_Mo_175 (Or.inl rfl) (by decide +kernel) ?_
  refine pw_aload_n (k4 := 0) rfl (by decide +kernel) ?_
  refine pw_iload_n (k4 := 1) rfl (by decide +kernel) ?_
  refine pw_iload_n (k4 := 2) rfl (by decide +kernel) ?_
  refine pq_callV (ν := m_Mo_areHalves) (d' := 3) (av := [_, _]) (c := 11) (by decide +kernel) lm_Mo_523 ok_Mo_areHalves (show _ = some 2 by decide +kernel) (ks_m hA) rfl (by decide) (by omega) (Nat.le_of_ble_eq_true rfl) (ct_Mo_areHalves hA (by exact hm) _ _) ?_
  rintro _ _ ⟨rfl, rfl⟩
  refine pn_ifB_eq (off := 17) (tgt := 28) (by decide +kernel) (by decide +kernel) (fun z11 => ?_) (fun z11 => ?_)
  · refine pw_iconst (n := -1) (v := -1) (by decide) (by decide +kernel) ?_
    exact pq_iret rfl (by decide +kernel) ⟨congrArg (fun z => some (Value.int z)) (if_neg (fun h => z11 h.1)).symm, _, _, rfl, rep_t⟩
  · refine pw_iload_n (k4 := 3) rfl (by decide +kernel) ?_
    refine pw_if_lt (off := 13) (tgt := 28) (by decide +kernel) (by decide +kernel) (fun z15 => ?_) (fun z15 => ?_)
    · refine pw_iconst (n := -1) (v := -1) (by decide) (by decide +kernel) ?_
      exact pq_iret rfl (by decide +kernel) ⟨congrArg (fun z => some (Value.int z)) (if_neg (fun h => Int32.not_lt.mpr h.2 z15)).symm, _, _, rfl, rep_t⟩
    · obtain ⟨i, hi, rfl⟩ := nIn hm.2.2.1 (by omega) z11.1.1.1
      obtain ⟨j, hj, rfl⟩ := nIn hm.2.2.1 (by omega) z11.1.2.1.1
      refine pw_aload_n (k4 := 0) rfl (by decide +kernel) ?_
      refine pw_iload_n (k4 := 1) rfl (by decide +kernel) ?_
      refine pw_iload_n (k4 := 2) rfl (by decide +kernel) ?_
      refine pw_iload_n (k4 := 3) rfl (by decide +kernel) ?_
      refine pq_callV (ν := m_Mo_restAt) (d' := 5) (av := [_, _, _]) (c := 11) (by decide +kernel) lm_Mo_526 ok_Mo_restAt (show _ = some 3 by decide +kernel) (ks_m hA) rfl (by decide) (by omega) (Nat.le_of_ble_eq_true rfl) (ct_Mo_restAt hA (by exact hwf) (i := i) (j := j) (by omega) (by omega) _) ?_
      rintro _ _ ⟨rfl, ev, L2, rfl, hL2⟩
      refine pw_goto (off := 4) (tgt := 29) (by decide +kernel) (by decide +kernel) ?_
      exact pq_iret rfl (by decide +kernel) ⟨congrArg (fun z => some (Value.int z)) (by rw [if_pos (show yHalves I (nI i) (nI j) ∧ 0 ≤ q from ⟨z11, Int32.not_lt.mp z15⟩), if_neg z15, ixn_nI (by omega), ixn_nI (by omega)] <;> rfl), _, _, rfl, rep_te⟩
