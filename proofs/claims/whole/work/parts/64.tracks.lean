/-! ===== the reference: tracks ===== -/
/-- a track more -/
def yTrk (I : Nat → Nat → Int32) (tk : Nat) (a b : Int32) : Nat → Nat → Int32 := sI (sI (sI I 178 (2 * tk) a) 178 (2 * tk + 1) b) 134 80 (nI (tk + 1))

theorem ct_Mo_tracked {sh : List pSh} {I : Nat → Nat → Int32} {L : Nat → Nat → Int64} {P : Nat → Nat → Option Nat} (hA : kA sh P) {tk : Nat} (htk : I 134 80 = nI tk) (h24 : tk < 24) (a b : Int32) : pCn m_Mo_tracked 0 [.ref 134, .int a, .int b] sh (I, L, P) (rI (nI tk) (yTrk I tk a b, L, P)) := by
  refine pCn_of (by decide +kernel) (Nat.le_of_ble_eq_true rfl) ?_
  refine pw_aload_n (k4 := 0) rfl (by decide +kernel) ?_
  refine pq_getP (c := 11) (k := 82) (ks_m hA) (by decide) (by decide) (kp_m_track hA) lf_Mo_148 (by decide +kernel) ?_
  refine pw_iconst (n := 2) (v := 2) (by decide) (by decide +kernel) ?_
  refine pw_aload_n (k4 := 0) rfl (by decide +kernel) ?_
  refine pq_getI (c := 11) (k := 80) (ks_m hA) (by decide) (by decide) lf_Mo_390 (by decide +kernel) ?_
  refine pn_val (nI (tk)) htk ?_
  refine pn_imul 2 tk rfl rfl (by decide +kernel) ?_
  refine pw_iload_n (k4 := 1) rfl (by decide +kernel) ?_
  refine pq_iast (2 * tk) rfl (by omega) (by decide) (ks_m_track hA) (by decide +kernel) ?_
  refine pw_aload_n (k4 := 0) rfl (by decide +kernel) ?_
  refine pq_getP (c := 11) (k := 82) (ks_m hA) (by decide) (by decide) (kp_m_track hA) lf_Mo_148 (by decide +kernel) ?_
  refine pw_iconst (n := 2) (v := 2) (by decide) (by decide +kernel) ?_
  refine pw_aload_n (k4 := 0) rfl (by decide +kernel) ?_
  refine pq_getI (c := 11) (k := 80) (ks_m hA) (by decide) (by decide) lf_Mo_390 (by decide +kernel) ?_
  refine pn_val (nI (tk)) htk ?_
  refine pn_imul 2 tk rfl rfl (by decide +kernel) ?_
  refine pw_iconst (n := 1) (v := 1) (by decide) (by decide +kernel) ?_
  refine pn_iadd (2 * tk) 1 rfl rfl (by decide +kernel) ?_
  refine pw_iload_n (k4 := 2) rfl (by decide +kernel) ?_
  refine pq_iast ((2 * tk) + 1) rfl (by omega) (by decide) (ks_m_track hA) (by decide +kernel) ?_
  refine pw_aload_n (k4 := 0) rfl (by decide +kernel) ?_
  refine pw_dup rfl (by decide +kernel) ?_
  refine pq_getI (c := 11) (k := 80) (ks_m hA) (by decide) (by decide) lf_Mo_390 (by decide +kernel) ?_
  refine pn_val (nI (tk)) htk ?_
  refine pw_iconst (n := 1) (v := 1) (by decide) (by decide +kernel) ?_
  refine pn_iadd tk 1 rfl rfl (by decide +kernel) ?_
  refine pq_putI (c := 11) (k := 80) (ks_m hA) (by decide) (by decide) lf_Mo_390 (Or.inl rfl) (by decide +kernel) ?_
  refine pw_aload_n (k4 := 0) rfl (by decide +kernel) ?_
  refine pq_getI (c := 11) (k := 80) (ks_m hA) (by decide) (by decide) lf_Mo_390 (by decide +kernel) ?_
  refine pn_val (nI (tk + 1)) sI_rs ?_
  refine pw_iconst (n := 1) (v := 1) (by decide) (by decide +kernel) ?_
  refine pn_isub (tk + 1) 1 rfl rfl (by omega) (by decide +kernel) ?_
  exact pq_iret rfl (by decide +kernel) ⟨congrArg (fun z => some (Value.int z)) (by rw [show tk + 1 - 1 = tk by omega]), rfl⟩

theorem ct_Mo_track {sh : List pSh} {I : Nat → Nat → Int32} {L : Nat → Nat → Int64} {P : Nat → Nat → Option Nat} (hA : kA sh P) {tk : Nat} (htk : I 134 80 = nI tk) (h24 : tk ≤ 24) (a b : Int32) : pCn m_Mo_track 1 [.ref 134, .int a, .int b] sh (I, L, P) (rIf (tk < 24 ∧ (0 ≤ a ∧ a ≤ 1) ∧ (1 ≤ b ∧ b ≤ 20)) (rM (nI tk) (yTrk (sI I 134 2 0) tk a b) P) (rA (-1) I P)) := by
  refine pCn_of (by decide +kernel) (Nat.le_of_ble_eq_true rfl) ?_
  refine pw_aload_n (k4 := 0) rfl (by decide +kernel) ?_
  refine pw_iconst (n := 0) (v := 0) (by decide) (by decide +kernel) ?_
  refine pq_putI (c := 11) (k := 2) (ks_m hA) (by decide) (by decide) lf_Mo_175 (Or.inl rfl) (by decide +kernel) ?_
  refine pw_aload_n (k4 := 0) rfl (by decide +kernel) ?_
  refine pq_getI (c := 11) (k := 80) (ks_m hA) (by decide) (by decide) lf_Mo_390 (by decide +kernel) ?_
  refine pn_val (nI (tk)) htk ?_
  refine pw_bipush (n := 24) (v := 24) (by decide) (by decide +kernel) ?_
  refine pn_icmp_eq (off := 22) (tgt := 33) tk 24 rfl rfl (by omega) (by omega) (by decide +kernel) (by decide +kernel) (fun z11 => ?_) (fun z11 => ?_)
  · refine pw_iconst (n := -1) (v := -1) (by decide) (by decide +kernel) ?_
    refine pw_goto (off := 9) (tgt := 43) (by decide +kernel) (by decide +kernel) ?_
    exact pq_iret rfl (by decide +kernel) ⟨fun h => absurd h.1 (by omega), fun _ => ⟨rfl, _, _, rfl, rep_t⟩⟩
  · refine pw_iload_n (k4 := 1) rfl (by decide +kernel) ?_
    refine pw_iconst (n := 0) (v := 0) (by decide) (by decide +kernel) ?_
    refine pw_iconst (n := 1) (v := 1) (by decide) (by decide +kernel) ?_
    refine pq_callS (ν := m_Mo_isIn) (d' := 0) (av := [_, _, _]) (by decide +kernel) lm_Mo_220 ok_Mo_isIn (show _ = some 3 by decide +kernel) (by omega) (Nat.le_of_ble_eq_true rfl) (ct_Mo_isIn _ _ _) ?_
    rintro _ _ ⟨rfl, rfl⟩
    refine pn_ifB_eq (off := 13) (tgt := 33) (by decide +kernel) (by decide +kernel) (fun z20 => ?_) (fun z20 => ?_)
    · refine pw_iconst (n := -1) (v := -1) (by decide) (by decide +kernel) ?_
      refine pw_goto (off := 9) (tgt := 43) (by decide +kernel) (by decide +kernel) ?_
      exact pq_iret rfl (by decide +kernel) ⟨fun h => absurd h.2.1 z20, fun _ => ⟨rfl, _, _, rfl, rep_t⟩⟩
    · refine pw_iload_n (k4 := 2) rfl (by decide +kernel) ?_
      refine pw_iconst (n := 1) (v := 1) (by decide) (by decide +kernel) ?_
      refine pw_bipush (n := 20) (v := 20) (by decide) (by decide +kernel) ?_
      refine pq_callS (ν := m_Mo_isIn) (d' := 0) (av := [_, _, _]) (by decide +kernel) lm_Mo_220 ok_Mo_isIn (show _ = some 3 by decide +kernel) (by omega) (Nat.le_of_ble_eq_true rfl) (ct_Mo_isIn _ _ _) ?_
      rintro _ _ ⟨rfl, rfl⟩
      refine pn_ifB_ne (off := 7) (tgt := 37) (by decide +kernel) (by decide +kernel) (fun z30 => ?_) (fun z30 => ?_)
      · refine pw_aload_n (k4 := 0) rfl (by decide +kernel) ?_
        refine pw_iload_n (k4 := 1) rfl (by decide +kernel) ?_
        refine pw_iload_n (k4 := 2) rfl (by decide +kernel) ?_
        refine pq_callV (ν := m_Mo_tracked) (d' := 0) (av := [_, _]) (c := 11) (by decide +kernel) lm_Mo_535 ok_Mo_tracked (show _ = some 2 by decide +kernel) (ks_m hA) rfl (by decide) (by omega) (Nat.le_of_ble_eq_true rfl) (ct_Mo_tracked hA (by exact htk) (by omega) _ _) ?_
        rintro _ _ ⟨rfl, rfl⟩
        exact pq_iret rfl (by decide +kernel) ⟨fun _ => ⟨rfl, _, rfl⟩, fun h => absurd ⟨by omega, z20, z30⟩ h⟩
      · refine pw_iconst (n := -1) (v := -1) (by decide) (by decide +kernel) ?_
        refine pw_goto (off := 9) (tgt := 43) (by decide +kernel) (by decide +kernel) ?_
        exact pq_iret rfl (by decide +kernel) ⟨fun h => absurd h.2.2 z30, fun _ => ⟨rfl, _, _, rfl, rep_t⟩⟩

theorem ct_Mo_strike {sh : List pSh} {I : Nat → Nat → Int32} {L : Nat → Nat → Int64} {P : Nat → Nat → Option Nat} (hA : kA sh P) {tk : Nat} (htk : I 134 80 = nI tk) (h24 : tk ≤ 24) (a : Int32) : pCn m_Mo_strike 1 [.ref 134, .int a] sh (I, L, P) (rIf (tk < 24 ∧ 0 ≤ a ∧ a < nI tk) (rM (nI tk) (yTrk (sI I 134 2 0) tk (-1) a) P) (rA (-1) I P)) := by
  refine pCn_of (by decide +kernel) (Nat.le_of_ble_eq_true rfl) ?_
  refine pw_aload_n (k4 := 0) rfl (by decide +kernel) ?_
  refine pw_iconst (n := 0) (v := 0) (by decide) (by decide +kernel) ?_
  refine pq_putI (c := 11) (k := 2) (ks_m hA) (by decide) (by decide) lf_Mo_175 (Or.inl rfl) (by decide +kernel) ?_
  refine pw_aload_n (k4 := 0) rfl (by decide +kernel) ?_
  refine pq_getI (c := 11) (k := 80) (ks_m hA) (by decide) (by decide) lf_Mo_390 (by decide +kernel) ?_
  refine pn_val (nI (tk)) htk ?_
  refine pw_bipush (n := 24) (v := 24) (by decide) (by decide +kernel) ?_
  refine pn_icmp_eq (off := 15) (tgt := 26) tk 24 rfl rfl (by omega) (by omega) (by decide +kernel) (by decide +kernel) (fun z11 => ?_) (fun z11 => ?_)
  · refine pw_iconst (n := -1) (v := -1) (by decide) (by decide +kernel) ?_
    refine pw_goto (off := 9) (tgt := 36) (by decide +kernel) (by decide +kernel) ?_
    exact pq_iret rfl (by decide +kernel) ⟨fun h => absurd h.1 (by omega), fun _ => ⟨rfl, _, _, rfl, rep_t⟩⟩
  · refine pw_iload_n (k4 := 1) rfl (by decide +kernel) ?_
    refine pw_if_lt (off := 11) (tgt := 26) (by decide +kernel) (by decide +kernel) (fun z15 => ?_) (fun z15 => ?_)
    · refine pw_iconst (n := -1) (v := -1) (by decide) (by decide +kernel) ?_
      refine pw_goto (off := 9) (tgt := 36) (by decide +kernel) (by decide +kernel) ?_
      exact pq_iret rfl (by decide +kernel) ⟨fun h => absurd z15 (Int32.not_lt.mpr h.2.1), fun _ => ⟨rfl, _, _, rfl, rep_t⟩⟩
    · refine pw_iload_n (k4 := 1) rfl (by decide +kernel) ?_
      refine pw_aload_n (k4 := 0) rfl (by decide +kernel) ?_
      refine pq_getI (c := 11) (k := 80) (ks_m hA) (by decide) (by decide) lf_Mo_390 (by decide +kernel) ?_
      refine pn_val (nI (tk)) htk ?_
      refine pw_icmp_lt (off := 7) (tgt := 30) (by decide +kernel) (by decide +kernel) (fun z23 => ?_) (fun z23 => ?_)
      · refine pw_aload_n (k4 := 0) rfl (by decide +kernel) ?_
        refine pw_iconst (n := -1) (v := -1) (by decide) (by decide +kernel) ?_
        refine pw_iload_n (k4 := 1) rfl (by decide +kernel) ?_
        refine pq_callV (ν := m_Mo_tracked) (d' := 0) (av := [_, _]) (c := 11) (by decide +kernel) lm_Mo_535 ok_Mo_tracked (show _ = some 2 by decide +kernel) (ks_m hA) rfl (by decide) (by omega) (Nat.le_of_ble_eq_true rfl) (ct_Mo_tracked hA (by exact htk) (by omega) _ _) ?_
        rintro _ _ ⟨rfl, rfl⟩
        exact pq_iret rfl (by decide +kernel) ⟨fun _ => ⟨rfl, _, rfl⟩, fun h => absurd ⟨by omega, Int32.not_lt.mp z15, z23⟩ h⟩
      · refine pw_iconst (n := -1) (v := -1) (by decide) (by decide +kernel) ?_
        refine pw_goto (off := 9) (tgt := 36) (by decide +kernel) (by decide +kernel) ?_
        exact pq_iret rfl (by decide +kernel) ⟨fun h => absurd h.2.2 z23, fun _ => ⟨rfl, _, _, rfl, rep_t⟩⟩

theorem ct_Mo_known {sh : List pSh} {I : Nat → Nat → Int32} {L : Nat → Nat → Int64} {P : Nat → Nat → Option Nat} (hA : kA sh P) {tk : Nat} (htk : I 134 80 = nI tk) (h24 : tk ≤ 24) (q : Int32) : pCn m_Mo_known 1 [.ref 134, .int q] sh (I, L, P) (rIf (-1 ≤ q ∧ q ≤ nI tk) (rM 1 (sI (sI I 134 2 0) 134 81 q) P) (rA 0 I P)) := by
  refine pCn_of (by decide +kernel) (Nat.le_of_ble_eq_true rfl) ?_
  refine pw_aload_n (k4 := 0) rfl (by decide +kernel) ?_
  refine pw_iconst (n := 0) (v := 0) (by decide) (by decide +kernel) ?_
  refine pq_putI (c := 11) (k := 2) (ks_m hA) (by decide) (by decide) lf_Mo_175 (Or.inl rfl) (by decide +kernel) ?_
  refine pw_iload_n (k4 := 1) rfl (by decide +kernel) ?_
  refine pw_iconst (n := -1) (v := -1) (by decide) (by decide +kernel) ?_
  refine pw_aload_n (k4 := 0) rfl (by decide +kernel) ?_
  refine pq_getI (c := 11) (k := 80) (ks_m hA) (by decide) (by decide) lf_Mo_390 (by decide +kernel) ?_
  refine pn_val (nI (tk)) htk ?_
  refine pq_callS (ν := m_Mo_isIn) (d' := 0) (av := [_, _, _]) (by decide +kernel) lm_Mo_220 ok_Mo_isIn (show _ = some 3 by decide +kernel) (by omega) (Nat.le_of_ble_eq_true rfl) (ct_Mo_isIn _ _ _) ?_
  rintro _ _ ⟨rfl, rfl⟩
  refine pn_ifB_ne (off := 5) (tgt := 19) (by decide +kernel) (by decide +kernel) (fun z14 => ?_) (fun z14 => ?_)
  · refine pw_aload_n (k4 := 0) rfl (by decide +kernel) ?_
    refine pw_iload_n (k4 := 1) rfl (by decide +kernel) ?_
    refine pq_putI (c := 11) (k := 81) (ks_m hA) (by decide) (by decide) lf_Mo_145 (Or.inl rfl) (by decide +kernel) ?_
    refine pw_iconst (n := 1) (v := 1) (by decide) (by decide +kernel) ?_
    exact pq_zret rfl (by decide) (by decide +kernel) ⟨fun _ => ⟨rfl, _, rfl⟩, fun h => absurd z14 h⟩
  · refine pw_iconst (n := 0) (v := 0) (by decide) (by decide +kernel) ?_
    exact pq_zret rfl (by decide) (by decide +kernel) ⟨fun h => absurd h z14, fun _ => ⟨rfl, _, _, rfl, rep_t⟩⟩
