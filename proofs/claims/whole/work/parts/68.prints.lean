/-! ===== the reference: walk, prints ===== -/
/-- the least walk: sum or days -/
def rWkM (I : Nat → Nat → Int32) (P : Nat → Nat → Option Nat) (p n : Nat) (q : Int32) : Option Value → pM → Prop := fun r M => ∃ cs, cs < 2 ^ n ∧ r = some (.int (if q = 0 then yWS I p n cs else nI (wkS cs n n))) ∧ (∀ cd, cd < 2 ^ n → yWS I p n cs ≤ yWS I p n cd ∧ (cd < cs → yWS I p n cs < yWS I p n cd)) ∧ ∃ I' L', M = (I', L', P) ∧ rep I' I
theorem yWS_t (I : Nat → Nat → Int32) (x : Int32) (p n cd : Nat) : yWS (sI I 134 2 x) p n cd = yWS I p n cd := by
  have h : ∀ j so k, yUB (sI I 134 2 x) j p so k = yUB I j p so k := fun j so k => by
    induction k with
    | zero => rfl
    | succ k ih =>
      unfold yUB
      rw [ih]
      rfl
  have h2 : ∀ j so, yBe (sI I 134 2 x) j p n so = yBe I j p n so := fun j so => by
    unfold yBe
    rw [h]
    rfl
  unfold yWS yFo
  rw [h2, h2, h2, h2]
  rfl

theorem ct_Mo_walk {sh : List pSh} {I : Nat → Nat → Int32} {L : Nat → Nat → Int64} {P : Nat → Nat → Option Nat} (hA : kA sh P) {np ns nd : Nat} (hm : mOK I np ns nd) (hwf : wfL I) (hi : mI I 0 np ns) (p n q : Int32) : pCn m_Mo_walk 7 [.ref 134, .int p, .int n, .int q] sh (I, L, P) (rIf (yHasP I p ∧ (1 ≤ n ∧ n ≤ 8) ∧ (0 ≤ q ∧ q ≤ 1)) (rWkM I P (ixn p) (ixn n) q) (rA (-1) I P)) := by
  refine pCn_of (by decide +kernel) (Nat.le_of_ble_eq_true rfl) ?_
  have h5 := hm.2.1
  have h16 := hm.2.2.2.1
  have h8 := hm.2.2.2.2.2
  refine pw_aload_n (k4 := 0) rfl (by decide +kernel) ?_
  refine pw_iconst (n := 0) (v := 0) (by decide) (by decide +kernel) ?_
  refine pq_putI (c := 11) (k := 2) (ks_m hA) (by decide) (by decide) lf_Mo_175 (Or.inl rfl) (by decide +kernel) ?_
  refine pw_aload_n (k4 := 0) rfl (by decide +kernel) ?_
  refine pw_iload_n (k4 := 1) rfl (by decide +kernel) ?_
  refine pq_callV (ν := m_Mo_isPerson) (d' := 0) (av := [_]) (c := 11) (by decide +kernel) lm_Mo_440 ok_Mo_isPerson (show _ = some 1 by decide +kernel) (ks_m hA) rfl (by decide) (by omega) (Nat.le_of_ble_eq_true rfl) (ct_Mo_isPerson hA _) ?_
  rintro _ _ ⟨rfl, rfl⟩
  refine pn_ifB_eq (off := 22) (tgt := 32) (by decide +kernel) (by decide +kernel) (fun z10 => ?_) (fun z10 => ?_)
  · refine pw_iconst (n := -1) (v := -1) (by decide) (by decide +kernel) ?_
    exact pq_iret rfl (by decide +kernel) ⟨fun h => absurd h.1 z10, fun _ => ⟨rfl, _, _, rfl, rep_t⟩⟩
  · refine pw_iload_n (k4 := 2) rfl (by decide +kernel) ?_
    refine pw_iconst (n := 1) (v := 1) (by decide) (by decide +kernel) ?_
    refine pw_bipush (n := 8) (v := 8) (by decide) (by decide +kernel) ?_
    refine pq_callS (ν := m_Mo_isIn) (d' := 0) (av := [_, _, _]) (by decide +kernel) lm_Mo_220 ok_Mo_isIn (show _ = some 3 by decide +kernel) (by omega) (Nat.le_of_ble_eq_true rfl) (ct_Mo_isIn _ _ _) ?_
    rintro _ _ ⟨rfl, rfl⟩
    refine pn_ifB_eq (off := 12) (tgt := 32) (by decide +kernel) (by decide +kernel) (fun z20 => ?_) (fun z20 => ?_)
    · refine pw_iconst (n := -1) (v := -1) (by decide) (by decide +kernel) ?_
      exact pq_iret rfl (by decide +kernel) ⟨fun h => absurd h.2.1 z20, fun _ => ⟨rfl, _, _, rfl, rep_t⟩⟩
    · refine pw_iload_n (k4 := 3) rfl (by decide +kernel) ?_
      refine pw_iconst (n := 0) (v := 0) (by decide) (by decide +kernel) ?_
      refine pw_iconst (n := 1) (v := 1) (by decide) (by decide +kernel) ?_
      refine pq_callS (ν := m_Mo_isIn) (d' := 0) (av := [_, _, _]) (by decide +kernel) lm_Mo_220 ok_Mo_isIn (show _ = some 3 by decide +kernel) (by omega) (Nat.le_of_ble_eq_true rfl) (ct_Mo_isIn _ _ _) ?_
      rintro _ _ ⟨rfl, rfl⟩
      refine pn_ifB_ne (off := 5) (tgt := 34) (by decide +kernel) (by decide +kernel) (fun z29 => ?_) (fun z29 => ?_)
      · obtain ⟨j, hj, rfl⟩ := nIn hm.1 (by omega) z10
        obtain ⟨n, hn0, rfl⟩ := nI_of (show ¬ n < 0 from fun w => Int32.not_lt.mpr z20.1 (Int32.lt_trans w (by decide)))
        have hn8 : n ≤ 8 := (nI_leI hn0 (by decide)).mp z20.2
        refine pw_aload_n (k4 := 0) rfl (by decide +kernel) ?_
        refine pw_iload_n (k4 := 1) rfl (by decide +kernel) ?_
        refine pw_iload_n (k4 := 2) rfl (by decide +kernel) ?_
        refine pq_callV (ν := m_Mo_layWalk) (d' := 6) (av := [_, _]) (c := 11) (by decide +kernel) lm_Mo_514 ok_Mo_layWalk (show _ = some 2 by decide +kernel) (ks_m hA) rfl (by decide) (by omega) (Nat.le_of_ble_eq_true rfl) (ct_Mo_layWalk hA (by exact hwf) (p := j) (n := n) (np := np) (ns := ns) h5 h16 (by exact hi) hj hn8) ?_
        rintro _ _ ⟨rfl, ev, ws, wd, L2, rfl, cs, hcs, hws, hwd, hmin⟩
        rw [yWS_t] at hws
        replace hmin : ∀ cd, cd < 2 ^ n → yWS I j n cs ≤ yWS I j n cd ∧ (cd < cs → yWS I j n cs < yWS I j n cd) := fun cd hc => by have w := hmin cd hc; rw [yWS_t, yWS_t] at w; exact w
        refine pw_iload_n (k4 := 3) rfl (by decide +kernel) ?_
        refine pw_if_ne (off := 10) (tgt := 51) (by decide +kernel) (by decide +kernel) (fun z41 => ?_) (fun z41 => ?_)
        · refine pw_aload_n (k4 := 0) rfl (by decide +kernel) ?_
          refine pq_getI (c := 11) (k := 79) (ks_m hA) (by decide) (by decide) lf_Mo_511 (by decide +kernel) ?_
          exact pq_iret rfl (by decide +kernel) ⟨fun _ => by rw [ixn_nI (by omega), ixn_nI (by omega)]; exact ⟨cs, hcs, (by rw [if_neg z41]; exact congrArg (fun z => some (Value.int z)) hwd), hmin, _, _, rfl, rep_wm.tr rep_t⟩, fun h => absurd (show yHasP I (nI j) ∧ (1 ≤ nI n ∧ nI n ≤ 8) ∧ (0 ≤ q ∧ q ≤ 1) from ⟨z10, z20, z29⟩) h⟩
        · refine pw_aload_n (k4 := 0) rfl (by decide +kernel) ?_
          refine pq_getI (c := 11) (k := 78) (ks_m hA) (by decide) (by decide) lf_Mo_508 (by decide +kernel) ?_
          refine pw_goto (off := 7) (tgt := 55) (by decide +kernel) (by decide +kernel) ?_
          exact pq_iret rfl (by decide +kernel) ⟨fun _ => by rw [ixn_nI (by omega), ixn_nI (by omega)]; exact ⟨cs, hcs, (by rw [if_pos z41]; exact congrArg (fun z => some (Value.int z)) hws), hmin, _, _, rfl, rep_wm.tr rep_t⟩, fun h => absurd (show yHasP I (nI j) ∧ (1 ≤ nI n ∧ nI n ≤ 8) ∧ (0 ≤ q ∧ q ≤ 1) from ⟨z10, z20, z29⟩) h⟩
      · refine pw_iconst (n := -1) (v := -1) (by decide) (by decide +kernel) ?_
        exact pq_iret rfl (by decide +kernel) ⟨fun h => absurd h.2.2 z29, fun _ => ⟨rfl, _, _, rfl, rep_t⟩⟩

/-- the print that person p leaves on a side -/
def yPr (I : Nat → Nat → Int32) (side : Int32) (p : Nat) : Int32 := if (if side = 0 then I 164 p else I 165 p) < 0 then I 138 p else I 143 (ixn (if side = 0 then I 164 p else I 165 p))

theorem ct_Mo_isTrackOf {sh : List pSh} {I : Nat → Nat → Int32} {L : Nat → Nat → Int64} {P : Nat → Nat → Option Nat} (hA : kA sh P) {np ns nd : Nat} (hm : mOK I np ns nd) (hi : mI I 0 np ns) {p : Nat} (hp : p < np) (a b : Int32) : pCn m_Mo_isTrackOf 0 [.ref 134, .int (nI p), .int a, .int b] sh (I, L, P) (rI (B (b = yPr I a p)) (I, L, P)) := by
  refine pCn_of (by decide +kernel) (Nat.le_of_ble_eq_true rfl) ?_
  have h5 := hm.2.1
  have h16 := hm.2.2.2.1
  have h8 := hm.2.2.2.2.2
  refine pw_iload_n (k4 := 2) rfl (by decide +kernel) ?_
  refine pw_if_ne (off := 12) (tgt := 13) (by decide +kernel) (by decide +kernel) (fun z1 => ?_) (fun z1 => ?_)
  · refine pw_aload_n (k4 := 0) rfl (by decide +kernel) ?_
    refine pq_getP (c := 11) (k := 58) (ks_m hA) (by decide) (by decide) (kp_m_rightOn hA) lf_Mo_106 (by decide +kernel) ?_
    refine pw_iload_n (k4 := 1) rfl (by decide +kernel) ?_
    refine pq_iald p rfl (by omega) (by decide) (ks_m_rightOn hA) (by decide +kernel) ?_
    refine pq_istore (i := 4) (Nat.le_of_ble_eq_true rfl) rfl (by decide +kernel) ?_
    refine pw_iload_n (k4 := 3) rfl (by decide +kernel) ?_
    refine pw_iload (i := 4) rfl (by decide +kernel) ?_
    refine pw_if_ge (off := 12) (tgt := 36) (by decide +kernel) (by decide +kernel) (fun z24 => ?_) (fun z24 => ?_)
    · obtain ⟨j, hj, hje⟩ := ft_j (show ftOK I 0 ns p (I 165 p) from by have w := (hi.2 p hp).2; rwa [show 5 * 0 + p = p by omega] at w) h16 (Int32.not_lt.mpr z24)
      have hje2 : I 165 p = nI j := hje
      refine pw_aload_n (k4 := 0) rfl (by decide +kernel) ?_
      refine pq_getP (c := 11) (k := 29) (ks_m hA) (by decide) (by decide) (kp_m_sizeOf hA) lf_Mo_38 (by decide +kernel) ?_
      refine pw_iload (i := 4) rfl (by decide +kernel) ?_
      refine pq_iald j hje (by omega) (by decide) (ks_m_sizeOf hA) (by decide +kernel) ?_
      refine pw_icmp_ne (off := 7) (tgt := 50) (by decide +kernel) (by decide +kernel) (fun z43 => ?_) (fun z43 => ?_)
      · refine pw_iconst (n := 0) (v := 0) (by decide) (by decide +kernel) ?_
        exact pq_zret rfl (by decide) (by decide +kernel) ⟨congrArg (fun z => some (Value.int z)) (B_f (fun q => z43 (q.trans (show yPr I a p = I 143 j from by unfold yPr; rw [if_neg z1, if_neg (Int32.not_lt.mpr z24), hje, ixn_nI (by omega)])))).symm, rfl⟩
      · refine pw_iconst (n := 1) (v := 1) (by decide) (by decide +kernel) ?_
        refine pw_goto (off := 4) (tgt := 51) (by decide +kernel) (by decide +kernel) ?_
        exact pq_zret rfl (by decide) (by decide +kernel) ⟨congrArg (fun z => some (Value.int z)) (B_t (z43.trans (show yPr I a p = I 143 j from by unfold yPr; rw [if_neg z1, if_neg (Int32.not_lt.mpr z24), hje, ixn_nI (by omega)]).symm)).symm, rfl⟩
    · refine pw_aload_n (k4 := 0) rfl (by decide +kernel) ?_
      refine pq_getP (c := 11) (k := 24) (ks_m hA) (by decide) (by decide) (kp_m_footOf hA) lf_Mo_23 (by decide +kernel) ?_
      refine pw_iload_n (k4 := 1) rfl (by decide +kernel) ?_
      refine pq_iald p rfl (by omega) (by decide) (ks_m_footOf hA) (by decide +kernel) ?_
      refine pw_goto (off := 10) (tgt := 43) (by decide +kernel) (by decide +kernel) ?_
      refine pw_icmp_ne (off := 7) (tgt := 50) (by decide +kernel) (by decide +kernel) (fun z43 => ?_) (fun z43 => ?_)
      · refine pw_iconst (n := 0) (v := 0) (by decide) (by decide +kernel) ?_
        exact pq_zret rfl (by decide) (by decide +kernel) ⟨congrArg (fun z => some (Value.int z)) (B_f (fun q => z43 (q.trans (show yPr I a p = I 138 p from by unfold yPr; rw [if_neg z1, if_pos (Int32.not_le.mp z24)])))).symm, rfl⟩
      · refine pw_iconst (n := 1) (v := 1) (by decide) (by decide +kernel) ?_
        refine pw_goto (off := 4) (tgt := 51) (by decide +kernel) (by decide +kernel) ?_
        exact pq_zret rfl (by decide) (by decide +kernel) ⟨congrArg (fun z => some (Value.int z)) (B_t (z43.trans (show yPr I a p = I 138 p from by unfold yPr; rw [if_neg z1, if_pos (Int32.not_le.mp z24)]).symm)).symm, rfl⟩
  · refine pw_aload_n (k4 := 0) rfl (by decide +kernel) ?_
    refine pq_getP (c := 11) (k := 57) (ks_m hA) (by decide) (by decide) (kp_m_leftOn hA) lf_Mo_103 (by decide +kernel) ?_
    refine pw_iload_n (k4 := 1) rfl (by decide +kernel) ?_
    refine pq_iald p rfl (by omega) (by decide) (ks_m_leftOn hA) (by decide +kernel) ?_
    refine pw_goto (off := 9) (tgt := 19) (by decide +kernel) (by decide +kernel) ?_
    refine pq_istore (i := 4) (Nat.le_of_ble_eq_true rfl) rfl (by decide +kernel) ?_
    refine pw_iload_n (k4 := 3) rfl (by decide +kernel) ?_
    refine pw_iload (i := 4) rfl (by decide +kernel) ?_
    refine pw_if_ge (off := 12) (tgt := 36) (by decide +kernel) (by decide +kernel) (fun z24 => ?_) (fun z24 => ?_)
    · obtain ⟨j, hj, hje⟩ := ft_j (show ftOK I 0 ns p (I 164 p) from by have w := (hi.2 p hp).1; rwa [show 5 * 0 + p = p by omega] at w) h16 (Int32.not_lt.mpr z24)
      have hje2 : I 164 p = nI j := hje
      refine pw_aload_n (k4 := 0) rfl (by decide +kernel) ?_
      refine pq_getP (c := 11) (k := 29) (ks_m hA) (by decide) (by decide) (kp_m_sizeOf hA) lf_Mo_38 (by decide +kernel) ?_
      refine pw_iload (i := 4) rfl (by decide +kernel) ?_
      refine pq_iald j hje (by omega) (by decide) (ks_m_sizeOf hA) (by decide +kernel) ?_
      refine pw_icmp_ne (off := 7) (tgt := 50) (by decide +kernel) (by decide +kernel) (fun z43 => ?_) (fun z43 => ?_)
      · refine pw_iconst (n := 0) (v := 0) (by decide) (by decide +kernel) ?_
        exact pq_zret rfl (by decide) (by decide +kernel) ⟨congrArg (fun z => some (Value.int z)) (B_f (fun q => z43 (q.trans (show yPr I a p = I 143 j from by unfold yPr; rw [if_pos z1, if_neg (Int32.not_lt.mpr z24), hje, ixn_nI (by omega)])))).symm, rfl⟩
      · refine pw_iconst (n := 1) (v := 1) (by decide) (by decide +kernel) ?_
        refine pw_goto (off := 4) (tgt := 51) (by decide +kernel) (by decide +kernel) ?_
        exact pq_zret rfl (by decide) (by decide +kernel) ⟨congrArg (fun z => some (Value.int z)) (B_t (z43.trans (show yPr I a p = I 143 j from by unfold yPr; rw [if_pos z1, if_neg (Int32.not_lt.mpr z24), hje, ixn_nI (by omega)]).symm)).symm, rfl⟩
    · refine pw_aload_n (k4 := 0) rfl (by decide +kernel) ?_
      refine pq_getP (c := 11) (k := 24) (ks_m hA) (by decide) (by decide) (kp_m_footOf hA) lf_Mo_23 (by decide +kernel) ?_
      refine pw_iload_n (k4 := 1) rfl (by decide +kernel) ?_
      refine pq_iald p rfl (by omega) (by decide) (ks_m_footOf hA) (by decide +kernel) ?_
      refine pw_goto (off := 10) (tgt := 43) (by decide +kernel) (by decide +kernel) ?_
      refine pw_icmp_ne (off := 7) (tgt := 50) (by decide +kernel) (by decide +kernel) (fun z43 => ?_) (fun z43 => ?_)
      · refine pw_iconst (n := 0) (v := 0) (by decide) (by decide +kernel) ?_
        exact pq_zret rfl (by decide) (by decide +kernel) ⟨congrArg (fun z => some (Value.int z)) (B_f (fun q => z43 (q.trans (show yPr I a p = I 138 p from by unfold yPr; rw [if_pos z1, if_pos (Int32.not_le.mp z24)])))).symm, rfl⟩
      · refine pw_iconst (n := 1) (v := 1) (by decide) (by decide +kernel) ?_
        refine pw_goto (off := 4) (tgt := 51) (by decide +kernel) (by decide +kernel) ?_
        exact pq_zret rfl (by decide) (by decide +kernel) ⟨congrArg (fun z => some (Value.int z)) (B_t (z43.trans (show yPr I a p = I 138 p from by unfold yPr; rw [if_pos z1, if_pos (Int32.not_le.mp z24)]).symm)).symm, rfl⟩
