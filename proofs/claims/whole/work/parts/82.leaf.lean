/-! ===== the reference: leafRead, signs ===== -/
def rCc (cn : Nat) (I : Nat → Nat → Int32) (L : Nat → Nat → Int64) (P : Nat → Nat → Option Nat) : Option Value → pM → Prop := fun r M => (cn = 64 → r = some (.int 0) ∧ M = (yWr I 2, L, P)) ∧ (¬ cn = 64 → r = some (.int 1) ∧ M = (sI I 134 49 (nI (cn + 1)), L, P))

theorem ct_Mo_isCounted {sh : List pSh} {I : Nat → Nat → Int32} {L : Nat → Nat → Int64} {P : Nat → Nat → Option Nat} (hA : kA sh P) {cn : Nat} (hcn : I 134 49 = nI cn) (hc6 : cn ≤ 64) : pCn m_Mo_isCounted 1 [.ref 134] sh (I, L, P) (rCc cn I L P) := by
  refine pCn_of (by decide +kernel) (Nat.le_of_ble_eq_true rfl) ?_
  refine pw_aload_n (k4 := 0) rfl (by decide +kernel) ?_
  refine pq_getI (c := 11) (k := 49) (ks_m hA) (by decide) (by decide) lf_Mo_252 (by decide +kernel) ?_
  refine pn_val (nI (cn)) (by exact hcn) ?_
  refine pw_bipush (n := 64) (v := 64) (by decide) (by decide +kernel) ?_
  refine pn_icmp_ne (off := 9) (tgt := 15) cn 64 rfl rfl (by omega) (by omega) (by decide +kernel) (by decide +kernel) (fun z6 => ?_) (fun z6 => ?_)
  · refine pw_aload_n (k4 := 0) rfl (by decide +kernel) ?_
    refine pw_dup rfl (by decide +kernel) ?_
    refine pq_getI (c := 11) (k := 49) (ks_m hA) (by decide) (by decide) lf_Mo_252 (by decide +kernel) ?_
    refine pn_val (nI (cn)) (by exact hcn) ?_
    refine pw_iconst (n := 1) (v := 1) (by decide) (by decide +kernel) ?_
    refine pn_iadd cn 1 rfl rfl (by decide +kernel) ?_
    refine pq_putI (c := 11) (k := 49) (ks_m hA) (by decide) (by decide) lf_Mo_252 (Or.inl rfl) (by decide +kernel) ?_
    refine pw_iconst (n := 1) (v := 1) (by decide) (by decide +kernel) ?_
    exact pq_zret rfl (by decide) (by decide +kernel) ⟨fun w => absurd w z6, fun _ => ⟨rfl, rfl⟩⟩
  · refine pw_aload_n (k4 := 0) rfl (by decide +kernel) ?_
    refine pw_iconst (n := 2) (v := 2) (by decide) (by decide +kernel) ?_
    refine pq_callV (ν := m_Mo_wrong) (d' := 0) (av := [_]) (c := 11) (by decide +kernel) lm_Mo_217 ok_Mo_wrong (show _ = some 1 by decide +kernel) (ks_m hA) rfl (by decide) (by omega) (Nat.le_of_ble_eq_true rfl) (ct_Mo_wrong hA _) ?_
    rintro _ _ ⟨rfl, rfl⟩
    exact pq_zret rfl (by decide) (by decide +kernel) ⟨fun _ => ⟨rfl, rfl⟩, fun w => absurd (Decidable.not_not.mp z6) w⟩

theorem ct_Mo_nameMet {sh : List pSh} {I : Nat → Nat → Int32} {L : Nat → Nat → Int64} {P : Nat → Nat → Option Nat} (hA : kA sh P) : pCn m_Mo_nameMet 0 [.ref 134] sh (I, L, P) (rI (nmA I) (I, L, P)) := by
  refine pCn_of (by decide +kernel) (Nat.le_of_ble_eq_true rfl) ?_
  refine pw_aload_n (k4 := 0) rfl (by decide +kernel) ?_
  refine pq_getI (c := 11) (k := 8) (ks_m hA) (by decide) (by decide) lf_Mo_193 (by decide +kernel) ?_
  refine pw_iconst (n := 1) (v := 1) (by decide) (by decide +kernel) ?_
  refine pw_icmp_eq (off := 7) (tgt := 12) (by decide +kernel) (by decide +kernel) (fun z5 => ?_) (fun z5 => ?_)
  · refine pw_aload_n (k4 := 0) rfl (by decide +kernel) ?_
    refine pq_getI (c := 11) (k := 9) (ks_m hA) (by decide) (by decide) lf_Mo_204 (by decide +kernel) ?_
    refine pw_bipush (n := 7) (v := 7) (by decide) (by decide +kernel) ?_
    refine pw_icmp_ne (off := 7) (tgt := 25) (by decide +kernel) (by decide +kernel) (fun z18 => ?_) (fun z18 => ?_)
    · refine pw_aload_n (k4 := 0) rfl (by decide +kernel) ?_
      refine pq_getI (c := 11) (k := 9) (ks_m hA) (by decide) (by decide) lf_Mo_204 (by decide +kernel) ?_
      refine pw_bipush (n := 21) (v := 21) (by decide) (by decide +kernel) ?_
      refine pw_icmp_lt (off := 15) (tgt := 46) (by decide +kernel) (by decide +kernel) (fun z31 => ?_) (fun z31 => ?_)
      · refine pw_aload_n (k4 := 0) rfl (by decide +kernel) ?_
        refine pq_getI (c := 11) (k := 9) (ks_m hA) (by decide) (by decide) lf_Mo_204 (by decide +kernel) ?_
        refine pw_bipush (n := 19) (v := 19) (by decide) (by decide +kernel) ?_
        refine pw_icmp_lt (off := 13) (tgt := 65) (by decide +kernel) (by decide +kernel) (fun z52 => ?_) (fun z52 => ?_)
        · refine pw_iconst (n := -1) (v := -1) (by decide) (by decide +kernel) ?_
          exact pq_iret rfl (by decide +kernel) ⟨congrArg (fun z => some (Value.int z)) (show _ = nmA I from ((if_neg (fun w => w z5)).trans ((if_neg z18).trans ((if_neg (Int32.not_le.mpr z31)).trans (if_neg (Int32.not_le.mpr z52))))).symm), rfl⟩
        · refine pw_aload_n (k4 := 0) rfl (by decide +kernel) ?_
          refine pq_getI (c := 11) (k := 9) (ks_m hA) (by decide) (by decide) lf_Mo_204 (by decide +kernel) ?_
          refine pw_bipush (n := 19) (v := 19) (by decide) (by decide +kernel) ?_
          refine pw_isub (by decide +kernel) ?_
          refine pw_goto (off := 4) (tgt := 66) (by decide +kernel) (by decide +kernel) ?_
          exact pq_iret rfl (by decide +kernel) ⟨congrArg (fun z => some (Value.int z)) (show _ = nmA I from ((if_neg (fun w => w z5)).trans ((if_neg z18).trans ((if_neg (Int32.not_le.mpr z31)).trans (if_pos (Int32.not_lt.mp z52))))).symm), rfl⟩
      · refine pw_iconst (n := 3) (v := 3) (by decide) (by decide +kernel) ?_
        refine pw_aload_n (k4 := 0) rfl (by decide +kernel) ?_
        refine pq_getI (c := 11) (k := 9) (ks_m hA) (by decide) (by decide) lf_Mo_204 (by decide +kernel) ?_
        refine pw_iadd (by decide +kernel) ?_
        refine pw_bipush (n := 21) (v := 21) (by decide) (by decide +kernel) ?_
        refine pw_isub (by decide +kernel) ?_
        refine pw_goto (off := 23) (tgt := 66) (by decide +kernel) (by decide +kernel) ?_
        exact pq_iret rfl (by decide +kernel) ⟨congrArg (fun z => some (Value.int z)) (show _ = nmA I from ((if_neg (fun w => w z5)).trans ((if_neg z18).trans (if_pos (Int32.not_lt.mp z31)))).symm), rfl⟩
    · refine pw_iconst (n := 2) (v := 2) (by decide) (by decide +kernel) ?_
      refine pw_goto (off := 44) (tgt := 66) (by decide +kernel) (by decide +kernel) ?_
      exact pq_iret rfl (by decide +kernel) ⟨congrArg (fun z => some (Value.int z)) (show (2 : Int32) = nmA I from ((if_neg (fun w => w z5)).trans (if_pos z18)).symm), rfl⟩
  · refine pw_iconst (n := -1) (v := -1) (by decide) (by decide +kernel) ?_
    refine pw_goto (off := 57) (tgt := 66) (by decide +kernel) (by decide +kernel) ?_
    exact pq_iret rfl (by decide +kernel) ⟨congrArg (fun z => some (Value.int z)) (show (-1 : Int32) = nmA I from (if_pos z5).symm), rfl⟩

theorem nmA_cg {I G : Nat → Nat → Int32} (h : tq I G) : nmA I = nmA G := by
  unfold nmA
  rw [h.2.2 8 (by decide) (by decide), h.2.2 9 (by decide) (by decide)]
theorem opA_cg {I G : Nat → Nat → Int32} (h : tq I G) : opA I = opA G := by
  unfold opA
  rw [h.2.2 8 (by decide) (by decide), h.2.2 9 (by decide) (by decide)]
/-- a name that is met is one of seven -/
theorem nmA_in {G : Nat → Nat → Int32} (h : tkI G) (hn : ¬ nmA G < 0) : ∃ v, v < 7 ∧ nmA G = nI v := by
  unfold nmA at hn ⊢
  by_cases h1 : G 134 8 = 1
  · obtain ⟨v, hv, he⟩ := h.2.1 h1
    rw [if_neg (fun w => w h1), he] at hn ⊢
    by_cases h2 : nI v = 7
    · rw [if_pos h2]; exact ⟨2, by decide, rfl⟩
    · rw [if_neg h2] at hn ⊢
      by_cases h3 : (21 : Int32) ≤ nI v
      · rw [if_pos h3]
        have h4 : 21 ≤ v := (nI_leI (by decide) (by omega)).mp h3
        refine ⟨3 + v - 21, by omega, ?_⟩
        rw [show (3 : Int32) = nI 3 from rfl, show (21 : Int32) = nI 21 from rfl, nI_add, pk_sub (by omega)]
      · rw [if_neg h3] at hn ⊢
        by_cases h5 : (19 : Int32) ≤ nI v
        · rw [if_pos h5]
          have h4 : 19 ≤ v := (nI_leI (by decide) (by omega)).mp h5
          have h6 : v < 21 := by rcases Nat.lt_or_ge v 21 with q | q; exact q; exact absurd ((nI_leI (by decide) (by omega)).mpr q) h3
          refine ⟨v - 19, by omega, ?_⟩
          rw [show (19 : Int32) = nI 19 from rfl, pk_sub (by omega)]
        · rw [if_neg h5] at hn; exact absurd (by decide) hn
  · rw [if_pos h1] at hn; exact absurd (by decide) hn
theorem opA_14 {G : Nat → Nat → Int32} (h : tkI G) : opA G ≤ 14 ∧ (opA G = 0 ∨ 3 ≤ opA G) := by
  unfold opA
  by_cases h1 : G 134 8 = 1 ∧ G 134 9 = 16
  · rw [if_pos h1]; omega
  rw [if_neg h1]
  by_cases h2 : G 134 8 = 1 ∧ G 134 9 = 17
  · rw [if_pos h2]; omega
  rw [if_neg h2]
  by_cases h3 : G 134 8 = 5
  · rw [if_pos h3]
    obtain ⟨v, hv, he⟩ := h.2.2 h3
    rw [he, ixn_nI (by omega)]; omega
  rw [if_neg h3]
  repeat' split
  all_goals omega
/-- a value has grown -/
theorem sgX_leaf {I : Nat → Nat → Int32} {b0 br cn q v : Nat} {E : List (Nat × Nat)} {W : List Nat} {a : Int32} (hc : sgX I b0 E W 0 br cn) (hn : cn < 64) (hq : (q = 0 ∧ v ≤ 9999 ∧ a = nI v) ∨ (q = 1 ∧ v < 7 ∧ a = nI v)) {hl : Nat} (hhl : I 134 47 = nI hl) (hl9 : hl < 96) : sgX (yGrow (sI I 134 49 (nI (cn + 1))) (b0 + E.length) hl (nI q) a 0) b0 ((q, v) :: E) W 1 br (cn + 1) ∧ sgF (yGrow (sI I 134 49 (nI (cn + 1))) (b0 + E.length) hl (nI q) a 0) I (b0 + E.length) := by
  obtain ⟨S, q1, q2, q3, q4, q5, q6, q7, q8, q9⟩ := hc
  have hSl : S.length = hl := by
    have hw := W_len W q7
    exact (nI_eq (by omega) (by omega)).mp (q1.2.2.2.1.symm.trans hhl)
  subst hSl
  have hI : shS (sI I 134 49 (nI (cn + 1))) b0 E W S := shS_to q1 rfl rfl rfl rfl rfl rfl rfl rfl
  have e47 : sI I 134 49 (nI (cn + 1)) = sI (sI I 134 49 (nI (cn + 1))) 134 47 (nI S.length) := by
    have := sI_same (sI I 134 49 (nI (cn + 1))) 134 47
    rw [show sI I 134 49 (nI (cn + 1)) 134 47 = nI S.length from hhl] at this
    exact this.symm
  obtain ⟨g1, g2⟩ := shS_grow (q := q) (v := v) (a := a) (b := 0) (S2 := S) hI (by
    rcases hq with ⟨r1, r2, r3⟩ | ⟨r1, r2, r3⟩
    · exact Or.inl ⟨r1, r2, r3, rfl⟩
    · exact Or.inr (Or.inl ⟨r1, r2, r3, rfl⟩)) e47
  refine ⟨⟨_, g1, ?_, ?_, by omega, q5, q6, q7, q8, rfl⟩, sgF_shF ((sgF.rf I _).set (by decide) _) g2 (Nat.le_refl _)⟩
  · show S.length + 1 = nbW W + 1; omega
  · show b0 + (E.length + 1) + opW W = cn + 1; omega

theorem prI_grow {I : Nat → Nat → Int32} (h : prI I) {kr hl : Nat} {k a b : Int32} : prI (yGrow I kr hl k a b) := prI_set (prI_set (prI_st (prI_st (prI_st (prI_st h (by decide) _) (by decide) _) (by decide) _) (by decide) _) (by decide) (by decide) _) (by decide) (by decide) _
theorem tq_grow {I G : Nat → Nat → Int32} (h : tq I G) {x y k a b : Int32} {kr hl : Nat} : tq (sI (yGrow (sI I 134 49 x) kr hl k a b) 134 50 y) G := tq_set (tq_set (tq_set (tq_st (tq_st (tq_st (tq_st (tq_set h (by decide) _) (by decide) _) (by decide) _) (by decide) _) (by decide) _) (by decide) _) (by decide) _) (by decide) _
theorem ct_Mo_isC1 {sh : List pSh} {I : Nat → Nat → Int32} {L : Nat → Nat → Int64} {P : Nat → Nat → Option Nat} (hA : kA sh P) {cn : Nat} (hcn : I 134 49 = nI cn) (hc : cn = 64) : pCn m_Mo_isCounted 1 [.ref 134] sh (I, L, P) (rI 0 (yWr I 2, L, P)) := pCn_im (ct_Mo_isCounted hA hcn (by omega)) (fun r M h => h.1 hc)
theorem ct_Mo_isC2 {sh : List pSh} {I : Nat → Nat → Int32} {L : Nat → Nat → Int64} {P : Nat → Nat → Option Nat} (hA : kA sh P) {cn : Nat} (hcn : I 134 49 = nI cn) (hc6 : cn ≤ 64) (hc : ¬ cn = 64) : pCn m_Mo_isCounted 1 [.ref 134] sh (I, L, P) (rI 1 (sI I 134 49 (nI (cn + 1)), L, P)) := pCn_im (ct_Mo_isCounted hA hcn hc6) (fun r M h => h.2 hc)

set_option maxHeartbeats 8000000 in
theorem ct_Mo_leafRead {sh : List pSh} {I : Nat → Nat → Int32} {L : Nat → Nat → Int64} {P : Nat → Nat → Option Nat} (hA : kA sh P) {b0 br cn : Nat} {E : List (Nat × Nat)} {W : List Nat} {mn : Bool} {G : Nat → Nat → Int32} (hs : sgI I b0 E W true mn br cn G) (hpG : prI G) : pCn m_Mo_leafRead 2 [.ref 134] sh (I, L, P) (rSg (leafA E W true mn br cn G) I L P b0 (b0 + E.length)) := by
  obtain ⟨hX0, hwn, hmn, hp, htq, htk⟩ := hs
  rw [if_pos rfl] at hX0
  have hlens := sgX_len hX0
  obtain ⟨S, hS1, hS2, hS3, hc64, hS5, hS6, hS7, hbr, hcn⟩ := id hX0
  have hWl : I 134 46 = nI W.length := hS1.2.2.1
  have hkr : I 134 21 = nI (b0 + E.length) := hS1.2.1
  have hwl2 := W_len W hS7
  obtain ⟨hl, hhle⟩ : ∃ hl, hl = S.length := ⟨_, rfl⟩
  have hhl : I 134 47 = nI hl := by rw [hhle]; exact hS1.2.2.2.1
  refine pCn_of (by decide +kernel) (Nat.le_of_ble_eq_true rfl) ?_
  by_cases hc : cn = 64
  · skip
    refine pw_aload_n (k4 := 0) rfl (by decide +kernel) ?_
    refine pw_bipush (n := 40) (v := 40) (by decide) (by decide +kernel) ?_
    refine pq_callV (ν := m_Mo_isSign) (d' := 0) (av := [_]) (c := 11) (by decide +kernel) lm_Mo_230 ok_Mo_isSign (show _ = some 1 by decide +kernel) (ks_m hA) rfl (by decide) (by omega) (Nat.le_of_ble_eq_true rfl) (ct_Mo_isSign hA _) ?_
    rintro _ _ ⟨rfl, rfl⟩
    refine pn_ifB_eq (off := 44) (tgt := 50) (by decide +kernel) (by decide +kernel) (fun z6 => ?_) (fun z6 => ?_)
    · refine pw_aload_n (k4 := 0) rfl (by decide +kernel) ?_
      refine pw_bipush (n := 18) (v := 18) (by decide) (by decide +kernel) ?_
      refine pq_callV (ν := m_Mo_isKey) (d' := 0) (av := [_]) (c := 11) (by decide +kernel) lm_Mo_288 ok_Mo_isKey (show _ = some 1 by decide +kernel) (ks_m hA) rfl (by decide) (by omega) (Nat.le_of_ble_eq_true rfl) (ct_Mo_isKey hA _) ?_
      rintro _ _ ⟨rfl, rfl⟩
      refine pn_ifB_eq (off := 30) (tgt := 86) (by decide +kernel) (by decide +kernel) (fun z56 => ?_) (fun z56 => ?_)
      · refine pw_aload_n (k4 := 0) rfl (by decide +kernel) ?_
        refine pq_callV (ν := m_Mo_nameMet) (d' := 0) (av := []) (c := 11) (by decide +kernel) lm_Mo_347 ok_Mo_nameMet (show _ = some 0 by decide +kernel) (ks_m hA) rfl (by decide) (by omega) (Nat.le_of_ble_eq_true rfl) (ct_Mo_nameMet hA) ?_
        rintro _ _ ⟨rfl, rfl⟩
        refine pq_istore_n (k4 := 1) (Nat.le_of_ble_eq_true rfl) rfl (by decide +kernel) ?_
        refine pw_iload_n (k4 := 1) rfl (by decide +kernel) ?_
        refine pw_if_ge (off := 17) (tgt := 109) (by decide +kernel) (by decide +kernel) (fun z92 => ?_) (fun z92 => ?_)
        · have hnmL : ¬ nmA G < 0 := by rw [← nmA_cg htq]; exact Int32.not_lt.mpr z92
          obtain ⟨nmv, hnm7, hnme⟩ := nmA_in htk hnmL
          have hnmI : nmA I = nmA G := nmA_cg htq
          refine pw_iload_n (k4 := 1) rfl (by decide +kernel) ?_
          refine pw_if_ge (off := 19) (tgt := 129) (by decide +kernel) (by decide +kernel) (fun z110 => ?_) (fun z110 => ?_)
          · refine pw_aload_n (k4 := 0) rfl (by decide +kernel) ?_
            refine pq_callV (ν := m_Mo_isCounted) (d' := 1) (av := []) (c := 11) (by decide +kernel) lm_Mo_344 ok_Mo_isCounted (show _ = some 0 by decide +kernel) (ks_m hA) rfl (by decide) (by omega) (Nat.le_of_ble_eq_true rfl) (ct_Mo_isC1 hA (cn := cn) (by exact hcn) hc) ?_
            rintro _ _ ⟨rfl, rfl⟩
            refine pn_if_ne (off := 5) (tgt := 138) 0 rfl (by omega) (by decide +kernel) (by decide +kernel) (fun z133 => ?_) (fun z133 => ?_)
            · exact absurd z133 (by decide)
            · refine pw_iconst (n := 0) (v := 0) (by decide) (by decide +kernel) ?_
              exact pq_zret rfl (by decide) (by decide +kernel) ⟨2, E, W, true, mn, br, cn, G, _, (if_neg (fun w => z6 (by rw [(htq.2.2 8 (by decide) (by decide)), (htq.2.2 9 (by decide) (by decide))]; exact w))).trans ((if_neg (fun w => z56 (by rw [(htq.2.2 8 (by decide) (by decide)), (htq.2.2 9 (by decide) (by decide))]; exact w.1))).trans ((if_neg (fun w => hnmL w.1)).trans ((if_neg (fun w => hnmL w.1)).trans (if_pos hc)))), rfl, rfl, prI_wr hp _, ((sgF.rf I _).set (by decide) _).set (by decide) _, fun w => absurd w (by decide), fun _ => ⟨rfl, (htq.2.2 10 (by decide) (by decide))⟩⟩
          · exact absurd z92 z110
        · have hnmL : nmA G < 0 := by rw [← nmA_cg htq]; exact Int32.not_le.mp z92
          refine pw_aload_n (k4 := 0) rfl (by decide +kernel) ?_
          refine pq_getI (c := 11) (k := 8) (ks_m hA) (by decide) (by decide) lf_Mo_193 (by decide +kernel) ?_
          refine pw_iconst (n := 3) (v := 3) (by decide) (by decide +kernel) ?_
          refine pw_icmp_eq (off := 9) (tgt := 109) (by decide +kernel) (by decide +kernel) (fun z100 => ?_) (fun z100 => ?_)
          · refine pw_iload_n (k4 := 1) rfl (by decide +kernel) ?_
            refine pw_if_ge (off := 19) (tgt := 129) (by decide +kernel) (by decide +kernel) (fun z110 => ?_) (fun z110 => ?_)
            · exact absurd z110 z92
            · obtain ⟨nv, hnv, hve0⟩ := htk.1 (by rw [← (htq.2.2 8 (by decide) (by decide))]; exact z100)
              refine pw_aload_n (k4 := 0) rfl (by decide +kernel) ?_
              refine pq_getI (c := 11) (k := 9) (ks_m hA) (by decide) (by decide) lf_Mo_204 (by decide +kernel) ?_
              refine pw_sipush (n := 9999) (v := 9999) (by decide) (by decide +kernel) ?_
              refine pw_icmp_le (off := 9) (tgt := 129) (by decide +kernel) (by decide +kernel) (fun z120 => ?_) (fun z120 => ?_)
              · have hve : G 134 9 = nI nv := hve0
                have hv9 : nv ≤ 9999 := (nI_leI (by omega) (by decide)).mp (by rw [← hve, ← (htq.2.2 9 (by decide) (by decide))]; exact z120)
                refine pw_aload_n (k4 := 0) rfl (by decide +kernel) ?_
                refine pq_callV (ν := m_Mo_isCounted) (d' := 1) (av := []) (c := 11) (by decide +kernel) lm_Mo_344 ok_Mo_isCounted (show _ = some 0 by decide +kernel) (ks_m hA) rfl (by decide) (by omega) (Nat.le_of_ble_eq_true rfl) (ct_Mo_isC1 hA (cn := cn) (by exact hcn) hc) ?_
                rintro _ _ ⟨rfl, rfl⟩
                refine pn_if_ne (off := 5) (tgt := 138) 0 rfl (by omega) (by decide +kernel) (by decide +kernel) (fun z133 => ?_) (fun z133 => ?_)
                · exact absurd z133 (by decide)
                · refine pw_iconst (n := 0) (v := 0) (by decide) (by decide +kernel) ?_
                  exact pq_zret rfl (by decide) (by decide +kernel) ⟨2, E, W, true, mn, br, cn, G, _, (if_neg (fun w => z6 (by rw [(htq.2.2 8 (by decide) (by decide)), (htq.2.2 9 (by decide) (by decide))]; exact w))).trans ((if_neg (fun w => z56 (by rw [(htq.2.2 8 (by decide) (by decide)), (htq.2.2 9 (by decide) (by decide))]; exact w.1))).trans ((if_neg (fun w => w.2 (by rw [← (htq.2.2 8 (by decide) (by decide))]; exact z100))).trans ((if_neg (fun w => Int32.not_lt.mpr z120 (by rw [(htq.2.2 9 (by decide) (by decide))]; exact w.2))).trans (if_pos hc)))), rfl, rfl, prI_wr hp _, ((sgF.rf I _).set (by decide) _).set (by decide) _, fun w => absurd w (by decide), fun _ => ⟨rfl, (htq.2.2 10 (by decide) (by decide))⟩⟩
              · refine pw_aload_n (k4 := 0) rfl (by decide +kernel) ?_
                refine pw_iconst (n := 2) (v := 2) (by decide) (by decide +kernel) ?_
                refine pq_callV (ν := m_Mo_wrong) (d' := 0) (av := [_]) (c := 11) (by decide +kernel) lm_Mo_217 ok_Mo_wrong (show _ = some 1 by decide +kernel) (ks_m hA) rfl (by decide) (by omega) (Nat.le_of_ble_eq_true rfl) (ct_Mo_wrong hA _) ?_
                rintro _ _ ⟨rfl, rfl⟩
                exact pq_zret rfl (by decide) (by decide +kernel) ⟨2, E, W, true, mn, br, cn, G, _, (if_neg (fun w => z6 (by rw [(htq.2.2 8 (by decide) (by decide)), (htq.2.2 9 (by decide) (by decide))]; exact w))).trans ((if_neg (fun w => z56 (by rw [(htq.2.2 8 (by decide) (by decide)), (htq.2.2 9 (by decide) (by decide))]; exact w.1))).trans ((if_neg (fun w => w.2 (by rw [← (htq.2.2 8 (by decide) (by decide))]; exact z100))).trans (if_pos ⟨hnmL, (by rw [← (htq.2.2 9 (by decide) (by decide))]; exact Int32.not_le.mp z120)⟩))), rfl, rfl, prI_wr hp _, ((sgF.rf I _).set (by decide) _).set (by decide) _, fun w => absurd w (by decide), fun _ => ⟨rfl, (htq.2.2 10 (by decide) (by decide))⟩⟩
          · refine pw_aload_n (k4 := 0) rfl (by decide +kernel) ?_
            refine pw_iconst (n := 1) (v := 1) (by decide) (by decide +kernel) ?_
            refine pq_callV (ν := m_Mo_wrong) (d' := 0) (av := [_]) (c := 11) (by decide +kernel) lm_Mo_217 ok_Mo_wrong (show _ = some 1 by decide +kernel) (ks_m hA) rfl (by decide) (by omega) (Nat.le_of_ble_eq_true rfl) (ct_Mo_wrong hA _) ?_
            rintro _ _ ⟨rfl, rfl⟩
            exact pq_zret rfl (by decide) (by decide +kernel) ⟨1, E, W, true, mn, br, cn, G, _, (if_neg (fun w => z6 (by rw [(htq.2.2 8 (by decide) (by decide)), (htq.2.2 9 (by decide) (by decide))]; exact w))).trans ((if_neg (fun w => z56 (by rw [(htq.2.2 8 (by decide) (by decide)), (htq.2.2 9 (by decide) (by decide))]; exact w.1))).trans (if_pos ⟨hnmL, (by rw [← (htq.2.2 8 (by decide) (by decide))]; exact z100)⟩)), rfl, rfl, prI_wr hp _, ((sgF.rf I _).set (by decide) _).set (by decide) _, fun w => absurd w (by decide), fun _ => ⟨rfl, (htq.2.2 10 (by decide) (by decide))⟩⟩
      · refine pw_aload_n (k4 := 0) rfl (by decide +kernel) ?_
        refine pq_getI (c := 11) (k := 51) (ks_m hA) (by decide) (by decide) lf_Mo_341 (by decide +kernel) ?_
        refine pw_if_eq (off := 23) (tgt := 86) (by decide +kernel) (by decide +kernel) (fun z63 => ?_) (fun z63 => ?_)
        · have hmnF : ¬ mn = true := fun w => by rw [w] at hmn; exact absurd (hmn.symm.trans z63) (by decide)
          refine pw_aload_n (k4 := 0) rfl (by decide +kernel) ?_
          refine pq_callV (ν := m_Mo_nameMet) (d' := 0) (av := []) (c := 11) (by decide +kernel) lm_Mo_347 ok_Mo_nameMet (show _ = some 0 by decide +kernel) (ks_m hA) rfl (by decide) (by omega) (Nat.le_of_ble_eq_true rfl) (ct_Mo_nameMet hA) ?_
          rintro _ _ ⟨rfl, rfl⟩
          refine pq_istore_n (k4 := 1) (Nat.le_of_ble_eq_true rfl) rfl (by decide +kernel) ?_
          refine pw_iload_n (k4 := 1) rfl (by decide +kernel) ?_
          refine pw_if_ge (off := 17) (tgt := 109) (by decide +kernel) (by decide +kernel) (fun z92 => ?_) (fun z92 => ?_)
          · have hnmL : ¬ nmA G < 0 := by rw [← nmA_cg htq]; exact Int32.not_lt.mpr z92
            obtain ⟨nmv, hnm7, hnme⟩ := nmA_in htk hnmL
            have hnmI : nmA I = nmA G := nmA_cg htq
            refine pw_iload_n (k4 := 1) rfl (by decide +kernel) ?_
            refine pw_if_ge (off := 19) (tgt := 129) (by decide +kernel) (by decide +kernel) (fun z110 => ?_) (fun z110 => ?_)
            · refine pw_aload_n (k4 := 0) rfl (by decide +kernel) ?_
              refine pq_callV (ν := m_Mo_isCounted) (d' := 1) (av := []) (c := 11) (by decide +kernel) lm_Mo_344 ok_Mo_isCounted (show _ = some 0 by decide +kernel) (ks_m hA) rfl (by decide) (by omega) (Nat.le_of_ble_eq_true rfl) (ct_Mo_isC1 hA (cn := cn) (by exact hcn) hc) ?_
              rintro _ _ ⟨rfl, rfl⟩
              refine pn_if_ne (off := 5) (tgt := 138) 0 rfl (by omega) (by decide +kernel) (by decide +kernel) (fun z133 => ?_) (fun z133 => ?_)
              · exact absurd z133 (by decide)
              · refine pw_iconst (n := 0) (v := 0) (by decide) (by decide +kernel) ?_
                exact pq_zret rfl (by decide) (by decide +kernel) ⟨2, E, W, true, mn, br, cn, G, _, (if_neg (fun w => z6 (by rw [(htq.2.2 8 (by decide) (by decide)), (htq.2.2 9 (by decide) (by decide))]; exact w))).trans ((if_neg (fun w => hmnF w.2)).trans ((if_neg (fun w => hnmL w.1)).trans ((if_neg (fun w => hnmL w.1)).trans (if_pos hc)))), rfl, rfl, prI_wr hp _, ((sgF.rf I _).set (by decide) _).set (by decide) _, fun w => absurd w (by decide), fun _ => ⟨rfl, (htq.2.2 10 (by decide) (by decide))⟩⟩
            · exact absurd z92 z110
          · have hnmL : nmA G < 0 := by rw [← nmA_cg htq]; exact Int32.not_le.mp z92
            refine pw_aload_n (k4 := 0) rfl (by decide +kernel) ?_
            refine pq_getI (c := 11) (k := 8) (ks_m hA) (by decide) (by decide) lf_Mo_193 (by decide +kernel) ?_
            refine pw_iconst (n := 3) (v := 3) (by decide) (by decide +kernel) ?_
            refine pw_icmp_eq (off := 9) (tgt := 109) (by decide +kernel) (by decide +kernel) (fun z100 => ?_) (fun z100 => ?_)
            · refine pw_iload_n (k4 := 1) rfl (by decide +kernel) ?_
              refine pw_if_ge (off := 19) (tgt := 129) (by decide +kernel) (by decide +kernel) (fun z110 => ?_) (fun z110 => ?_)
              · exact absurd z110 z92
              · obtain ⟨nv, hnv, hve0⟩ := htk.1 (by rw [← (htq.2.2 8 (by decide) (by decide))]; exact z100)
                refine pw_aload_n (k4 := 0) rfl (by decide +kernel) ?_
                refine pq_getI (c := 11) (k := 9) (ks_m hA) (by decide) (by decide) lf_Mo_204 (by decide +kernel) ?_
                refine pw_sipush (n := 9999) (v := 9999) (by decide) (by decide +kernel) ?_
                refine pw_icmp_le (off := 9) (tgt := 129) (by decide +kernel) (by decide +kernel) (fun z120 => ?_) (fun z120 => ?_)
                · have hve : G 134 9 = nI nv := hve0
                  have hv9 : nv ≤ 9999 := (nI_leI (by omega) (by decide)).mp (by rw [← hve, ← (htq.2.2 9 (by decide) (by decide))]; exact z120)
                  refine pw_aload_n (k4 := 0) rfl (by decide +kernel) ?_
                  refine pq_callV (ν := m_Mo_isCounted) (d' := 1) (av := []) (c := 11) (by decide +kernel) lm_Mo_344 ok_Mo_isCounted (show _ = some 0 by decide +kernel) (ks_m hA) rfl (by decide) (by omega) (Nat.le_of_ble_eq_true rfl) (ct_Mo_isC1 hA (cn := cn) (by exact hcn) hc) ?_
                  rintro _ _ ⟨rfl, rfl⟩
                  refine pn_if_ne (off := 5) (tgt := 138) 0 rfl (by omega) (by decide +kernel) (by decide +kernel) (fun z133 => ?_) (fun z133 => ?_)
                  · exact absurd z133 (by decide)
                  · refine pw_iconst (n := 0) (v := 0) (by decide) (by decide +kernel) ?_
                    exact pq_zret rfl (by decide) (by decide +kernel) ⟨2, E, W, true, mn, br, cn, G, _, (if_neg (fun w => z6 (by rw [(htq.2.2 8 (by decide) (by decide)), (htq.2.2 9 (by decide) (by decide))]; exact w))).trans ((if_neg (fun w => hmnF w.2)).trans ((if_neg (fun w => w.2 (by rw [← (htq.2.2 8 (by decide) (by decide))]; exact z100))).trans ((if_neg (fun w => Int32.not_lt.mpr z120 (by rw [(htq.2.2 9 (by decide) (by decide))]; exact w.2))).trans (if_pos hc)))), rfl, rfl, prI_wr hp _, ((sgF.rf I _).set (by decide) _).set (by decide) _, fun w => absurd w (by decide), fun _ => ⟨rfl, (htq.2.2 10 (by decide) (by decide))⟩⟩
                · refine pw_aload_n (k4 := 0) rfl (by decide +kernel) ?_
                  refine pw_iconst (n := 2) (v := 2) (by decide) (by decide +kernel) ?_
                  refine pq_callV (ν := m_Mo_wrong) (d' := 0) (av := [_]) (c := 11) (by decide +kernel) lm_Mo_217 ok_Mo_wrong (show _ = some 1 by decide +kernel) (ks_m hA) rfl (by decide) (by omega) (Nat.le_of_ble_eq_true rfl) (ct_Mo_wrong hA _) ?_
                  rintro _ _ ⟨rfl, rfl⟩
                  exact pq_zret rfl (by decide) (by decide +kernel) ⟨2, E, W, true, mn, br, cn, G, _, (if_neg (fun w => z6 (by rw [(htq.2.2 8 (by decide) (by decide)), (htq.2.2 9 (by decide) (by decide))]; exact w))).trans ((if_neg (fun w => hmnF w.2)).trans ((if_neg (fun w => w.2 (by rw [← (htq.2.2 8 (by decide) (by decide))]; exact z100))).trans (if_pos ⟨hnmL, (by rw [← (htq.2.2 9 (by decide) (by decide))]; exact Int32.not_le.mp z120)⟩))), rfl, rfl, prI_wr hp _, ((sgF.rf I _).set (by decide) _).set (by decide) _, fun w => absurd w (by decide), fun _ => ⟨rfl, (htq.2.2 10 (by decide) (by decide))⟩⟩
            · refine pw_aload_n (k4 := 0) rfl (by decide +kernel) ?_
              refine pw_iconst (n := 1) (v := 1) (by decide) (by decide +kernel) ?_
              refine pq_callV (ν := m_Mo_wrong) (d' := 0) (av := [_]) (c := 11) (by decide +kernel) lm_Mo_217 ok_Mo_wrong (show _ = some 1 by decide +kernel) (ks_m hA) rfl (by decide) (by omega) (Nat.le_of_ble_eq_true rfl) (ct_Mo_wrong hA _) ?_
              rintro _ _ ⟨rfl, rfl⟩
              exact pq_zret rfl (by decide) (by decide +kernel) ⟨1, E, W, true, mn, br, cn, G, _, (if_neg (fun w => z6 (by rw [(htq.2.2 8 (by decide) (by decide)), (htq.2.2 9 (by decide) (by decide))]; exact w))).trans ((if_neg (fun w => hmnF w.2)).trans (if_pos ⟨hnmL, (by rw [← (htq.2.2 8 (by decide) (by decide))]; exact z100)⟩)), rfl, rfl, prI_wr hp _, ((sgF.rf I _).set (by decide) _).set (by decide) _, fun w => absurd w (by decide), fun _ => ⟨rfl, (htq.2.2 10 (by decide) (by decide))⟩⟩
        · have hmnT : mn = true := by cases mn; exact absurd hmn z63; rfl
          refine pw_aload_n (k4 := 0) rfl (by decide +kernel) ?_
          refine pq_callV (ν := m_Mo_isCounted) (d' := 1) (av := []) (c := 11) (by decide +kernel) lm_Mo_344 ok_Mo_isCounted (show _ = some 0 by decide +kernel) (ks_m hA) rfl (by decide) (by omega) (Nat.le_of_ble_eq_true rfl) (ct_Mo_isC1 hA (cn := cn) (by exact hcn) hc) ?_
          rintro _ _ ⟨rfl, rfl⟩
          refine pn_if_ne (off := 5) (tgt := 75) 0 rfl (by omega) (by decide +kernel) (by decide +kernel) (fun z70 => ?_) (fun z70 => ?_)
          · exact absurd z70 (by decide)
          · refine pw_iconst (n := 0) (v := 0) (by decide) (by decide +kernel) ?_
            exact pq_zret rfl (by decide) (by decide +kernel) ⟨2, E, W, true, mn, br, cn, G, _, (if_neg (fun w => z6 (by rw [(htq.2.2 8 (by decide) (by decide)), (htq.2.2 9 (by decide) (by decide))]; exact w))).trans ((if_pos ⟨(by rw [← (htq.2.2 8 (by decide) (by decide)), ← (htq.2.2 9 (by decide) (by decide))]; exact z56), hmnT⟩).trans (if_pos hc)), rfl, rfl, prI_wr hp _, ((sgF.rf I _).set (by decide) _).set (by decide) _, fun w => absurd w (by decide), fun _ => ⟨rfl, (htq.2.2 10 (by decide) (by decide))⟩⟩
    · refine pw_aload_n (k4 := 0) rfl (by decide +kernel) ?_
      refine pq_getI (c := 11) (k := 48) (ks_m hA) (by decide) (by decide) lf_Mo_334 (by decide +kernel) ?_
      refine pn_val (nI (br)) (by exact hbr) ?_
      refine pw_bipush (n := 8) (v := 8) (by decide) (by decide +kernel) ?_
      refine pn_icmp_ne (off := 9) (tgt := 24) br 8 rfl rfl (by omega) (by omega) (by decide +kernel) (by decide +kernel) (fun z15 => ?_) (fun z15 => ?_)
      · refine pw_aload_n (k4 := 0) rfl (by decide +kernel) ?_
        refine pw_dup rfl (by decide +kernel) ?_
        refine pq_getI (c := 11) (k := 48) (ks_m hA) (by decide) (by decide) lf_Mo_334 (by decide +kernel) ?_
        refine pn_val (nI (br)) (by exact hbr) ?_
        refine pw_iconst (n := 1) (v := 1) (by decide) (by decide +kernel) ?_
        refine pn_iadd br 1 rfl rfl (by decide +kernel) ?_
        refine pq_putI (c := 11) (k := 48) (ks_m hA) (by decide) (by decide) lf_Mo_334 (Or.inl rfl) (by decide +kernel) ?_
        refine pw_aload_n (k4 := 0) rfl (by decide +kernel) ?_
        refine pw_iconst (n := 0) (v := 0) (by decide) (by decide +kernel) ?_
        refine pq_callV (ν := m_Mo_waitsFor) (d' := 0) (av := [_]) (c := 11) (by decide +kernel) lm_Mo_337 ok_Mo_waitsFor (show _ = some 1 by decide +kernel) (ks_m hA) rfl (by decide) (by omega) (Nat.le_of_ble_eq_true rfl) (ct_Mo_waitsFor hA (wl := W.length) (by exact hWl) (by omega) _) ?_
        rintro _ _ ⟨rfl, rfl⟩
        refine pw_aload_n (k4 := 0) rfl (by decide +kernel) ?_
        refine pw_iconst (n := 1) (v := 1) (by decide) (by decide +kernel) ?_
        refine pq_putZ (c := 11) (k := 51) (ks_m hA) (by decide) (by decide) (by decide) lf_Mo_341 (Or.inl rfl) (by decide +kernel) ?_
        refine pw_aload_n (k4 := 0) rfl (by decide +kernel) ?_
        refine pq_callV (ν := m_Mo_token) (d' := 1) (av := []) (c := 11) (by decide +kernel) lm_Mo_227 ok_Mo_token (show _ = some 0 by decide +kernel) (ks_m hA) rfl (by decide) (by omega) (Nat.le_of_ble_eq_true rfl) (ct_Mo_tok hA (by first | exact prI_set (prI_set (prI_st (prI_set hp (by decide) (by decide) _) (by decide) _) (by decide) (by decide) _) (by decide) (by decide) _ | exact prI_set (prI_st (prI_set hp (by decide) (by decide) _) (by decide) _) (by decide) (by decide) _ | exact prI_set (prI_grow (prI_set hp (by decide) (by decide) _)) (by decide) (by decide) _)) ?_
        rintro _ _ ⟨J, hJ, hpJ, hfJ, rfl, rfl⟩
        refine pw_iconst (n := 1) (v := 1) (by decide) (by decide +kernel) ?_
        exact pq_zret rfl (by decide) (by decide +kernel) ⟨0, E, 0 :: W, true, true, br + 1, cn, yTok G, _, (if_pos (by rw [← (htq.2.2 8 (by decide) (by decide)), ← (htq.2.2 9 (by decide) (by decide))]; exact z6)).trans (if_neg z15), rfl, rfl, hpJ, sgF_prF ((((sgF.rf I _).set (by decide) _).st (Or.inl rfl) _ _).set (by decide) _ |>.set (by decide) _) hfJ, fun _ => ⟨⟨sgX_prF (sgX_set (sgX_op0 hX0 (by omega)) (Or.inr rfl) _) hfJ, (hfJ.2 50 (by decide)).trans hwn, hfJ.2 51 (by decide), hpJ, by rw [← hJ]; exact tq_tok (tq_set (tq_set (tq_st (tq_set htq (by decide) _) (by decide) _) (by decide) _) (by decide) _), tkI_tok hpG⟩, Nat.le_refl _⟩, fun w => absurd rfl w⟩
      · refine pw_aload_n (k4 := 0) rfl (by decide +kernel) ?_
        refine pw_iconst (n := 2) (v := 2) (by decide) (by decide +kernel) ?_
        refine pq_callV (ν := m_Mo_wrong) (d' := 0) (av := [_]) (c := 11) (by decide +kernel) lm_Mo_217 ok_Mo_wrong (show _ = some 1 by decide +kernel) (ks_m hA) rfl (by decide) (by omega) (Nat.le_of_ble_eq_true rfl) (ct_Mo_wrong hA _) ?_
        rintro _ _ ⟨rfl, rfl⟩
        exact pq_zret rfl (by decide) (by decide +kernel) ⟨2, E, W, true, mn, br, cn, G, _, (if_pos (by rw [← (htq.2.2 8 (by decide) (by decide)), ← (htq.2.2 9 (by decide) (by decide))]; exact z6)).trans (if_pos (Decidable.not_not.mp z15)), rfl, rfl, prI_wr hp _, ((sgF.rf I _).set (by decide) _).set (by decide) _, fun w => absurd w (by decide), fun _ => ⟨rfl, (htq.2.2 10 (by decide) (by decide))⟩⟩

  · skip
    refine pw_aload_n (k4 := 0) rfl (by decide +kernel) ?_
    refine pw_bipush (n := 40) (v := 40) (by decide) (by decide +kernel) ?_
    refine pq_callV (ν := m_Mo_isSign) (d' := 0) (av := [_]) (c := 11) (by decide +kernel) lm_Mo_230 ok_Mo_isSign (show _ = some 1 by decide +kernel) (ks_m hA) rfl (by decide) (by omega) (Nat.le_of_ble_eq_true rfl) (ct_Mo_isSign hA _) ?_
    rintro _ _ ⟨rfl, rfl⟩
    refine pn_ifB_eq (off := 44) (tgt := 50) (by decide +kernel) (by decide +kernel) (fun z6 => ?_) (fun z6 => ?_)
    · refine pw_aload_n (k4 := 0) rfl (by decide +kernel) ?_
      refine pw_bipush (n := 18) (v := 18) (by decide) (by decide +kernel) ?_
      refine pq_callV (ν := m_Mo_isKey) (d' := 0) (av := [_]) (c := 11) (by decide +kernel) lm_Mo_288 ok_Mo_isKey (show _ = some 1 by decide +kernel) (ks_m hA) rfl (by decide) (by omega) (Nat.le_of_ble_eq_true rfl) (ct_Mo_isKey hA _) ?_
      rintro _ _ ⟨rfl, rfl⟩
      refine pn_ifB_eq (off := 30) (tgt := 86) (by decide +kernel) (by decide +kernel) (fun z56 => ?_) (fun z56 => ?_)
      · refine pw_aload_n (k4 := 0) rfl (by decide +kernel) ?_
        refine pq_callV (ν := m_Mo_nameMet) (d' := 0) (av := []) (c := 11) (by decide +kernel) lm_Mo_347 ok_Mo_nameMet (show _ = some 0 by decide +kernel) (ks_m hA) rfl (by decide) (by omega) (Nat.le_of_ble_eq_true rfl) (ct_Mo_nameMet hA) ?_
        rintro _ _ ⟨rfl, rfl⟩
        refine pq_istore_n (k4 := 1) (Nat.le_of_ble_eq_true rfl) rfl (by decide +kernel) ?_
        refine pw_iload_n (k4 := 1) rfl (by decide +kernel) ?_
        refine pw_if_ge (off := 17) (tgt := 109) (by decide +kernel) (by decide +kernel) (fun z92 => ?_) (fun z92 => ?_)
        · have hnmL : ¬ nmA G < 0 := by rw [← nmA_cg htq]; exact Int32.not_lt.mpr z92
          obtain ⟨nmv, hnm7, hnme⟩ := nmA_in htk hnmL
          have hnmI : nmA I = nmA G := nmA_cg htq
          refine pw_iload_n (k4 := 1) rfl (by decide +kernel) ?_
          refine pw_if_ge (off := 19) (tgt := 129) (by decide +kernel) (by decide +kernel) (fun z110 => ?_) (fun z110 => ?_)
          · refine pw_aload_n (k4 := 0) rfl (by decide +kernel) ?_
            refine pq_callV (ν := m_Mo_isCounted) (d' := 1) (av := []) (c := 11) (by decide +kernel) lm_Mo_344 ok_Mo_isCounted (show _ = some 0 by decide +kernel) (ks_m hA) rfl (by decide) (by omega) (Nat.le_of_ble_eq_true rfl) (ct_Mo_isC2 hA (cn := cn) (by exact hcn) hc64 hc) ?_
            rintro _ _ ⟨rfl, rfl⟩
            refine pn_if_ne (off := 5) (tgt := 138) 1 rfl (by omega) (by decide +kernel) (by decide +kernel) (fun z133 => ?_) (fun z133 => ?_)
            · refine pw_aload_n (k4 := 0) rfl (by decide +kernel) ?_
              refine pw_iload_n (k4 := 1) rfl (by decide +kernel) ?_
              refine pw_if_lt (off := 7) (tgt := 147) (by decide +kernel) (by decide +kernel) (fun z140 => ?_) (fun z140 => ?_)
              · exact absurd (Int32.not_lt.mpr z92) (fun w => w z140)
              · refine pw_iconst (n := 1) (v := 1) (by decide) (by decide +kernel) ?_
                refine pw_goto (off := 4) (tgt := 148) (by decide +kernel) (by decide +kernel) ?_
                refine pw_iload_n (k4 := 1) rfl (by decide +kernel) ?_
                refine pw_if_lt (off := 7) (tgt := 156) (by decide +kernel) (by decide +kernel) (fun z149 => ?_) (fun z149 => ?_)
                · exact absurd (Int32.not_lt.mpr z92) (fun w => w z149)
                · refine pw_iload_n (k4 := 1) rfl (by decide +kernel) ?_
                  refine pw_goto (off := 7) (tgt := 160) (by decide +kernel) (by decide +kernel) ?_
                  refine pw_iconst (n := 0) (v := 0) (by decide) (by decide +kernel) ?_
                  refine pq_callV (ν := m_Mo_grown) (d' := 0) (av := [_, _, _]) (c := 11) (by decide +kernel) lm_Mo_330 ok_Mo_grown (show _ = some 3 by decide +kernel) (ks_m hA) rfl (by decide) (by omega) (Nat.le_of_ble_eq_true rfl) (ct_Mo_grown hA (kr := b0 + E.length) (hl := hl) (by exact hkr) (by exact hhl) (by omega) (by omega) _ _ _) ?_
                  rintro _ _ ⟨rfl, rfl⟩
                  refine pw_aload_n (k4 := 0) rfl (by decide +kernel) ?_
                  refine pw_iconst (n := 0) (v := 0) (by decide) (by decide +kernel) ?_
                  refine pq_putZ (c := 11) (k := 50) (ks_m hA) (by decide) (by decide) (by decide) lf_Mo_350 (Or.inl rfl) (by decide +kernel) ?_
                  refine pw_aload_n (k4 := 0) rfl (by decide +kernel) ?_
                  refine pq_callV (ν := m_Mo_token) (d' := 1) (av := []) (c := 11) (by decide +kernel) lm_Mo_227 ok_Mo_token (show _ = some 0 by decide +kernel) (ks_m hA) rfl (by decide) (by omega) (Nat.le_of_ble_eq_true rfl) (ct_Mo_tok hA (by first | exact prI_set (prI_set (prI_st (prI_set hp (by decide) (by decide) _) (by decide) _) (by decide) (by decide) _) (by decide) (by decide) _ | exact prI_set (prI_st (prI_set hp (by decide) (by decide) _) (by decide) _) (by decide) (by decide) _ | exact prI_set (prI_grow (prI_set hp (by decide) (by decide) _)) (by decide) (by decide) _)) ?_
                  rintro _ _ ⟨J, hJ, hpJ, hfJ, rfl, rfl⟩
                  refine pw_iconst (n := 1) (v := 1) (by decide) (by decide +kernel) ?_
                  exact pq_zret rfl (by decide) (by decide +kernel) ⟨0, (1, ixn (nmA G)) :: E, W, false, mn, br, cn + 1, yTok G, _, (if_neg (fun w => z6 (by rw [(htq.2.2 8 (by decide) (by decide)), (htq.2.2 9 (by decide) (by decide))]; exact w))).trans ((if_neg (fun w => z56 (by rw [(htq.2.2 8 (by decide) (by decide)), (htq.2.2 9 (by decide) (by decide))]; exact w.1))).trans ((if_neg (fun w => hnmL w.1)).trans ((if_neg (fun w => hnmL w.1)).trans ((if_neg hc).trans (by rw [if_neg hnmL]))))), rfl, rfl, hpJ, sgF_prF (((sgX_leaf (q := 1) (v := ixn (nmA G)) hX0 (by omega) (Or.inr ⟨rfl, by rw [hnme, ixn_nI (by omega)]; exact hnm7, by rw [hnmI, hnme, ixn_nI (by omega)]⟩) hhl (by omega)).2).set (by decide) _) hfJ, fun _ => ⟨⟨sgX_prF (sgX_set (sgX_leaf (q := 1) (v := ixn (nmA G)) hX0 (by omega) (Or.inr ⟨rfl, by rw [hnme, ixn_nI (by omega)]; exact hnm7, by rw [hnmI, hnme, ixn_nI (by omega)]⟩) hhl (by omega)).1 (Or.inl rfl) _) hfJ, hfJ.2 50 (by decide), (hfJ.2 51 (by decide)).trans hmn, hpJ, by rw [← hJ]; exact tq_tok (tq_grow htq), tkI_tok hpG⟩, by show b0 + E.length ≤ b0 + (E.length + 1); omega⟩, fun w => absurd rfl w⟩
            · exact absurd (by decide) z133
          · exact absurd z92 z110
        · have hnmL : nmA G < 0 := by rw [← nmA_cg htq]; exact Int32.not_le.mp z92
          refine pw_aload_n (k4 := 0) rfl (by decide +kernel) ?_
          refine pq_getI (c := 11) (k := 8) (ks_m hA) (by decide) (by decide) lf_Mo_193 (by decide +kernel) ?_
          refine pw_iconst (n := 3) (v := 3) (by decide) (by decide +kernel) ?_
          refine pw_icmp_eq (off := 9) (tgt := 109) (by decide +kernel) (by decide +kernel) (fun z100 => ?_) (fun z100 => ?_)
          · refine pw_iload_n (k4 := 1) rfl (by decide +kernel) ?_
            refine pw_if_ge (off := 19) (tgt := 129) (by decide +kernel) (by decide +kernel) (fun z110 => ?_) (fun z110 => ?_)
            · exact absurd z110 z92
            · obtain ⟨nv, hnv, hve0⟩ := htk.1 (by rw [← (htq.2.2 8 (by decide) (by decide))]; exact z100)
              refine pw_aload_n (k4 := 0) rfl (by decide +kernel) ?_
              refine pq_getI (c := 11) (k := 9) (ks_m hA) (by decide) (by decide) lf_Mo_204 (by decide +kernel) ?_
              refine pw_sipush (n := 9999) (v := 9999) (by decide) (by decide +kernel) ?_
              refine pw_icmp_le (off := 9) (tgt := 129) (by decide +kernel) (by decide +kernel) (fun z120 => ?_) (fun z120 => ?_)
              · have hve : G 134 9 = nI nv := hve0
                have hv9 : nv ≤ 9999 := (nI_leI (by omega) (by decide)).mp (by rw [← hve, ← (htq.2.2 9 (by decide) (by decide))]; exact z120)
                refine pw_aload_n (k4 := 0) rfl (by decide +kernel) ?_
                refine pq_callV (ν := m_Mo_isCounted) (d' := 1) (av := []) (c := 11) (by decide +kernel) lm_Mo_344 ok_Mo_isCounted (show _ = some 0 by decide +kernel) (ks_m hA) rfl (by decide) (by omega) (Nat.le_of_ble_eq_true rfl) (ct_Mo_isC2 hA (cn := cn) (by exact hcn) hc64 hc) ?_
                rintro _ _ ⟨rfl, rfl⟩
                refine pn_if_ne (off := 5) (tgt := 138) 1 rfl (by omega) (by decide +kernel) (by decide +kernel) (fun z133 => ?_) (fun z133 => ?_)
                · refine pw_aload_n (k4 := 0) rfl (by decide +kernel) ?_
                  refine pw_iload_n (k4 := 1) rfl (by decide +kernel) ?_
                  refine pw_if_lt (off := 7) (tgt := 147) (by decide +kernel) (by decide +kernel) (fun z140 => ?_) (fun z140 => ?_)
                  · refine pw_iconst (n := 0) (v := 0) (by decide) (by decide +kernel) ?_
                    refine pw_iload_n (k4 := 1) rfl (by decide +kernel) ?_
                    refine pw_if_lt (off := 7) (tgt := 156) (by decide +kernel) (by decide +kernel) (fun z149 => ?_) (fun z149 => ?_)
                    · refine pw_aload_n (k4 := 0) rfl (by decide +kernel) ?_
                      refine pq_getI (c := 11) (k := 9) (ks_m hA) (by decide) (by decide) lf_Mo_204 (by decide +kernel) ?_
                      refine pw_iconst (n := 0) (v := 0) (by decide) (by decide +kernel) ?_
                      refine pq_callV (ν := m_Mo_grown) (d' := 0) (av := [_, _, _]) (c := 11) (by decide +kernel) lm_Mo_330 ok_Mo_grown (show _ = some 3 by decide +kernel) (ks_m hA) rfl (by decide) (by omega) (Nat.le_of_ble_eq_true rfl) (ct_Mo_grown hA (kr := b0 + E.length) (hl := hl) (by exact hkr) (by exact hhl) (by omega) (by omega) _ _ _) ?_
                      rintro _ _ ⟨rfl, rfl⟩
                      refine pw_aload_n (k4 := 0) rfl (by decide +kernel) ?_
                      refine pw_iconst (n := 0) (v := 0) (by decide) (by decide +kernel) ?_
                      refine pq_putZ (c := 11) (k := 50) (ks_m hA) (by decide) (by decide) (by decide) lf_Mo_350 (Or.inl rfl) (by decide +kernel) ?_
                      refine pw_aload_n (k4 := 0) rfl (by decide +kernel) ?_
                      refine pq_callV (ν := m_Mo_token) (d' := 1) (av := []) (c := 11) (by decide +kernel) lm_Mo_227 ok_Mo_token (show _ = some 0 by decide +kernel) (ks_m hA) rfl (by decide) (by omega) (Nat.le_of_ble_eq_true rfl) (ct_Mo_tok hA (by first | exact prI_set (prI_set (prI_st (prI_set hp (by decide) (by decide) _) (by decide) _) (by decide) (by decide) _) (by decide) (by decide) _ | exact prI_set (prI_st (prI_set hp (by decide) (by decide) _) (by decide) _) (by decide) (by decide) _ | exact prI_set (prI_grow (prI_set hp (by decide) (by decide) _)) (by decide) (by decide) _)) ?_
                      rintro _ _ ⟨J, hJ, hpJ, hfJ, rfl, rfl⟩
                      refine pw_iconst (n := 1) (v := 1) (by decide) (by decide +kernel) ?_
                      exact pq_zret rfl (by decide) (by decide +kernel) ⟨0, (0, ixn (G 134 9)) :: E, W, false, mn, br, cn + 1, yTok G, _, (if_neg (fun w => z6 (by rw [(htq.2.2 8 (by decide) (by decide)), (htq.2.2 9 (by decide) (by decide))]; exact w))).trans ((if_neg (fun w => z56 (by rw [(htq.2.2 8 (by decide) (by decide)), (htq.2.2 9 (by decide) (by decide))]; exact w.1))).trans ((if_neg (fun w => w.2 (by rw [← (htq.2.2 8 (by decide) (by decide))]; exact z100))).trans ((if_neg (fun w => Int32.not_lt.mpr z120 (by rw [(htq.2.2 9 (by decide) (by decide))]; exact w.2))).trans ((if_neg hc).trans (by rw [if_pos hnmL]))))), rfl, rfl, hpJ, sgF_prF (((sgX_leaf (q := 0) (v := ixn (G 134 9)) hX0 (by omega) (Or.inl ⟨rfl, by rw [hve, ixn_nI (by omega)]; exact hv9, by rw [hve, ixn_nI (by omega), ← hve]; exact (htq.2.2 9 (by decide) (by decide))⟩) hhl (by omega)).2).set (by decide) _) hfJ, fun _ => ⟨⟨sgX_prF (sgX_set (sgX_leaf (q := 0) (v := ixn (G 134 9)) hX0 (by omega) (Or.inl ⟨rfl, by rw [hve, ixn_nI (by omega)]; exact hv9, by rw [hve, ixn_nI (by omega), ← hve]; exact (htq.2.2 9 (by decide) (by decide))⟩) hhl (by omega)).1 (Or.inl rfl) _) hfJ, hfJ.2 50 (by decide), (hfJ.2 51 (by decide)).trans hmn, hpJ, by rw [← hJ]; exact tq_tok (tq_grow htq), tkI_tok hpG⟩, by show b0 + E.length ≤ b0 + (E.length + 1); omega⟩, fun w => absurd rfl w⟩
                    · exact absurd (Int32.not_le.mp z92) z149
                  · exact absurd (Int32.not_le.mp z92) z140
                · exact absurd (by decide) z133
              · refine pw_aload_n (k4 := 0) rfl (by decide +kernel) ?_
                refine pw_iconst (n := 2) (v := 2) (by decide) (by decide +kernel) ?_
                refine pq_callV (ν := m_Mo_wrong) (d' := 0) (av := [_]) (c := 11) (by decide +kernel) lm_Mo_217 ok_Mo_wrong (show _ = some 1 by decide +kernel) (ks_m hA) rfl (by decide) (by omega) (Nat.le_of_ble_eq_true rfl) (ct_Mo_wrong hA _) ?_
                rintro _ _ ⟨rfl, rfl⟩
                exact pq_zret rfl (by decide) (by decide +kernel) ⟨2, E, W, true, mn, br, cn, G, _, (if_neg (fun w => z6 (by rw [(htq.2.2 8 (by decide) (by decide)), (htq.2.2 9 (by decide) (by decide))]; exact w))).trans ((if_neg (fun w => z56 (by rw [(htq.2.2 8 (by decide) (by decide)), (htq.2.2 9 (by decide) (by decide))]; exact w.1))).trans ((if_neg (fun w => w.2 (by rw [← (htq.2.2 8 (by decide) (by decide))]; exact z100))).trans (if_pos ⟨hnmL, (by rw [← (htq.2.2 9 (by decide) (by decide))]; exact Int32.not_le.mp z120)⟩))), rfl, rfl, prI_wr hp _, ((sgF.rf I _).set (by decide) _).set (by decide) _, fun w => absurd w (by decide), fun _ => ⟨rfl, (htq.2.2 10 (by decide) (by decide))⟩⟩
          · refine pw_aload_n (k4 := 0) rfl (by decide +kernel) ?_
            refine pw_iconst (n := 1) (v := 1) (by decide) (by decide +kernel) ?_
            refine pq_callV (ν := m_Mo_wrong) (d' := 0) (av := [_]) (c := 11) (by decide +kernel) lm_Mo_217 ok_Mo_wrong (show _ = some 1 by decide +kernel) (ks_m hA) rfl (by decide) (by omega) (Nat.le_of_ble_eq_true rfl) (ct_Mo_wrong hA _) ?_
            rintro _ _ ⟨rfl, rfl⟩
            exact pq_zret rfl (by decide) (by decide +kernel) ⟨1, E, W, true, mn, br, cn, G, _, (if_neg (fun w => z6 (by rw [(htq.2.2 8 (by decide) (by decide)), (htq.2.2 9 (by decide) (by decide))]; exact w))).trans ((if_neg (fun w => z56 (by rw [(htq.2.2 8 (by decide) (by decide)), (htq.2.2 9 (by decide) (by decide))]; exact w.1))).trans (if_pos ⟨hnmL, (by rw [← (htq.2.2 8 (by decide) (by decide))]; exact z100)⟩)), rfl, rfl, prI_wr hp _, ((sgF.rf I _).set (by decide) _).set (by decide) _, fun w => absurd w (by decide), fun _ => ⟨rfl, (htq.2.2 10 (by decide) (by decide))⟩⟩
      · refine pw_aload_n (k4 := 0) rfl (by decide +kernel) ?_
        refine pq_getI (c := 11) (k := 51) (ks_m hA) (by decide) (by decide) lf_Mo_341 (by decide +kernel) ?_
        refine pw_if_eq (off := 23) (tgt := 86) (by decide +kernel) (by decide +kernel) (fun z63 => ?_) (fun z63 => ?_)
        · have hmnF : ¬ mn = true := fun w => by rw [w] at hmn; exact absurd (hmn.symm.trans z63) (by decide)
          refine pw_aload_n (k4 := 0) rfl (by decide +kernel) ?_
          refine pq_callV (ν := m_Mo_nameMet) (d' := 0) (av := []) (c := 11) (by decide +kernel) lm_Mo_347 ok_Mo_nameMet (show _ = some 0 by decide +kernel) (ks_m hA) rfl (by decide) (by omega) (Nat.le_of_ble_eq_true rfl) (ct_Mo_nameMet hA) ?_
          rintro _ _ ⟨rfl, rfl⟩
          refine pq_istore_n (k4 := 1) (Nat.le_of_ble_eq_true rfl) rfl (by decide +kernel) ?_
          refine pw_iload_n (k4 := 1) rfl (by decide +kernel) ?_
          refine pw_if_ge (off := 17) (tgt := 109) (by decide +kernel) (by decide +kernel) (fun z92 => ?_) (fun z92 => ?_)
          · have hnmL : ¬ nmA G < 0 := by rw [← nmA_cg htq]; exact Int32.not_lt.mpr z92
            obtain ⟨nmv, hnm7, hnme⟩ := nmA_in htk hnmL
            have hnmI : nmA I = nmA G := nmA_cg htq
            refine pw_iload_n (k4 := 1) rfl (by decide +kernel) ?_
            refine pw_if_ge (off := 19) (tgt := 129) (by decide +kernel) (by decide +kernel) (fun z110 => ?_) (fun z110 => ?_)
            · refine pw_aload_n (k4 := 0) rfl (by decide +kernel) ?_
              refine pq_callV (ν := m_Mo_isCounted) (d' := 1) (av := []) (c := 11) (by decide +kernel) lm_Mo_344 ok_Mo_isCounted (show _ = some 0 by decide +kernel) (ks_m hA) rfl (by decide) (by omega) (Nat.le_of_ble_eq_true rfl) (ct_Mo_isC2 hA (cn := cn) (by exact hcn) hc64 hc) ?_
              rintro _ _ ⟨rfl, rfl⟩
              refine pn_if_ne (off := 5) (tgt := 138) 1 rfl (by omega) (by decide +kernel) (by decide +kernel) (fun z133 => ?_) (fun z133 => ?_)
              · refine pw_aload_n (k4 := 0) rfl (by decide +kernel) ?_
                refine pw_iload_n (k4 := 1) rfl (by decide +kernel) ?_
                refine pw_if_lt (off := 7) (tgt := 147) (by decide +kernel) (by decide +kernel) (fun z140 => ?_) (fun z140 => ?_)
                · exact absurd (Int32.not_lt.mpr z92) (fun w => w z140)
                · refine pw_iconst (n := 1) (v := 1) (by decide) (by decide +kernel) ?_
                  refine pw_goto (off := 4) (tgt := 148) (by decide +kernel) (by decide +kernel) ?_
                  refine pw_iload_n (k4 := 1) rfl (by decide +kernel) ?_
                  refine pw_if_lt (off := 7) (tgt := 156) (by decide +kernel) (by decide +kernel) (fun z149 => ?_) (fun z149 => ?_)
                  · exact absurd (Int32.not_lt.mpr z92) (fun w => w z149)
                  · refine pw_iload_n (k4 := 1) rfl (by decide +kernel) ?_
                    refine pw_goto (off := 7) (tgt := 160) (by decide +kernel) (by decide +kernel) ?_
                    refine pw_iconst (n := 0) (v := 0) (by decide) (by decide +kernel) ?_
                    refine pq_callV (ν := m_Mo_grown) (d' := 0) (av := [_, _, _]) (c := 11) (by decide +kernel) lm_Mo_330 ok_Mo_grown (show _ = some 3 by decide +kernel) (ks_m hA) rfl (by decide) (by omega) (Nat.le_of_ble_eq_true rfl) (ct_Mo_grown hA (kr := b0 + E.length) (hl := hl) (by exact hkr) (by exact hhl) (by omega) (by omega) _ _ _) ?_
                    rintro _ _ ⟨rfl, rfl⟩
                    refine pw_aload_n (k4 := 0) rfl (by decide +kernel) ?_
                    refine pw_iconst (n := 0) (v := 0) (by decide) (by decide +kernel) ?_
                    refine pq_putZ (c := 11) (k := 50) (ks_m hA) (by decide) (by decide) (by decide) lf_Mo_350 (Or.inl rfl) (by decide +kernel) ?_
                    refine pw_aload_n (k4 := 0) rfl (by decide +kernel) ?_
                    refine pq_callV (ν := m_Mo_token) (d' := 1) (av := []) (c := 11) (by decide +kernel) lm_Mo_227 ok_Mo_token (show _ = some 0 by decide +kernel) (ks_m hA) rfl (by decide) (by omega) (Nat.le_of_ble_eq_true rfl) (ct_Mo_tok hA (by first | exact prI_set (prI_set (prI_st (prI_set hp (by decide) (by decide) _) (by decide) _) (by decide) (by decide) _) (by decide) (by decide) _ | exact prI_set (prI_st (prI_set hp (by decide) (by decide) _) (by decide) _) (by decide) (by decide) _ | exact prI_set (prI_grow (prI_set hp (by decide) (by decide) _)) (by decide) (by decide) _)) ?_
                    rintro _ _ ⟨J, hJ, hpJ, hfJ, rfl, rfl⟩
                    refine pw_iconst (n := 1) (v := 1) (by decide) (by decide +kernel) ?_
                    exact pq_zret rfl (by decide) (by decide +kernel) ⟨0, (1, ixn (nmA G)) :: E, W, false, mn, br, cn + 1, yTok G, _, (if_neg (fun w => z6 (by rw [(htq.2.2 8 (by decide) (by decide)), (htq.2.2 9 (by decide) (by decide))]; exact w))).trans ((if_neg (fun w => hmnF w.2)).trans ((if_neg (fun w => hnmL w.1)).trans ((if_neg (fun w => hnmL w.1)).trans ((if_neg hc).trans (by rw [if_neg hnmL]))))), rfl, rfl, hpJ, sgF_prF (((sgX_leaf (q := 1) (v := ixn (nmA G)) hX0 (by omega) (Or.inr ⟨rfl, by rw [hnme, ixn_nI (by omega)]; exact hnm7, by rw [hnmI, hnme, ixn_nI (by omega)]⟩) hhl (by omega)).2).set (by decide) _) hfJ, fun _ => ⟨⟨sgX_prF (sgX_set (sgX_leaf (q := 1) (v := ixn (nmA G)) hX0 (by omega) (Or.inr ⟨rfl, by rw [hnme, ixn_nI (by omega)]; exact hnm7, by rw [hnmI, hnme, ixn_nI (by omega)]⟩) hhl (by omega)).1 (Or.inl rfl) _) hfJ, hfJ.2 50 (by decide), (hfJ.2 51 (by decide)).trans hmn, hpJ, by rw [← hJ]; exact tq_tok (tq_grow htq), tkI_tok hpG⟩, by show b0 + E.length ≤ b0 + (E.length + 1); omega⟩, fun w => absurd rfl w⟩
              · exact absurd (by decide) z133
            · exact absurd z92 z110
          · have hnmL : nmA G < 0 := by rw [← nmA_cg htq]; exact Int32.not_le.mp z92
            refine pw_aload_n (k4 := 0) rfl (by decide +kernel) ?_
            refine pq_getI (c := 11) (k := 8) (ks_m hA) (by decide) (by decide) lf_Mo_193 (by decide +kernel) ?_
            refine pw_iconst (n := 3) (v := 3) (by decide) (by decide +kernel) ?_
            refine pw_icmp_eq (off := 9) (tgt := 109) (by decide +kernel) (by decide +kernel) (fun z100 => ?_) (fun z100 => ?_)
            · refine pw_iload_n (k4 := 1) rfl (by decide +kernel) ?_
              refine pw_if_ge (off := 19) (tgt := 129) (by decide +kernel) (by decide +kernel) (fun z110 => ?_) (fun z110 => ?_)
              · exact absurd z110 z92
              · obtain ⟨nv, hnv, hve0⟩ := htk.1 (by rw [← (htq.2.2 8 (by decide) (by decide))]; exact z100)
                refine pw_aload_n (k4 := 0) rfl (by decide +kernel) ?_
                refine pq_getI (c := 11) (k := 9) (ks_m hA) (by decide) (by decide) lf_Mo_204 (by decide +kernel) ?_
                refine pw_sipush (n := 9999) (v := 9999) (by decide) (by decide +kernel) ?_
                refine pw_icmp_le (off := 9) (tgt := 129) (by decide +kernel) (by decide +kernel) (fun z120 => ?_) (fun z120 => ?_)
                · have hve : G 134 9 = nI nv := hve0
                  have hv9 : nv ≤ 9999 := (nI_leI (by omega) (by decide)).mp (by rw [← hve, ← (htq.2.2 9 (by decide) (by decide))]; exact z120)
                  refine pw_aload_n (k4 := 0) rfl (by decide +kernel) ?_
                  refine pq_callV (ν := m_Mo_isCounted) (d' := 1) (av := []) (c := 11) (by decide +kernel) lm_Mo_344 ok_Mo_isCounted (show _ = some 0 by decide +kernel) (ks_m hA) rfl (by decide) (by omega) (Nat.le_of_ble_eq_true rfl) (ct_Mo_isC2 hA (cn := cn) (by exact hcn) hc64 hc) ?_
                  rintro _ _ ⟨rfl, rfl⟩
                  refine pn_if_ne (off := 5) (tgt := 138) 1 rfl (by omega) (by decide +kernel) (by decide +kernel) (fun z133 => ?_) (fun z133 => ?_)
                  · refine pw_aload_n (k4 := 0) rfl (by decide +kernel) ?_
                    refine pw_iload_n (k4 := 1) rfl (by decide +kernel) ?_
                    refine pw_if_lt (off := 7) (tgt := 147) (by decide +kernel) (by decide +kernel) (fun z140 => ?_) (fun z140 => ?_)
                    · refine pw_iconst (n := 0) (v := 0) (by decide) (by decide +kernel) ?_
                      refine pw_iload_n (k4 := 1) rfl (by decide +kernel) ?_
                      refine pw_if_lt (off := 7) (tgt := 156) (by decide +kernel) (by decide +kernel) (fun z149 => ?_) (fun z149 => ?_)
                      · refine pw_aload_n (k4 := 0) rfl (by decide +kernel) ?_
                        refine pq_getI (c := 11) (k := 9) (ks_m hA) (by decide) (by decide) lf_Mo_204 (by decide +kernel) ?_
                        refine pw_iconst (n := 0) (v := 0) (by decide) (by decide +kernel) ?_
                        refine pq_callV (ν := m_Mo_grown) (d' := 0) (av := [_, _, _]) (c := 11) (by decide +kernel) lm_Mo_330 ok_Mo_grown (show _ = some 3 by decide +kernel) (ks_m hA) rfl (by decide) (by omega) (Nat.le_of_ble_eq_true rfl) (ct_Mo_grown hA (kr := b0 + E.length) (hl := hl) (by exact hkr) (by exact hhl) (by omega) (by omega) _ _ _) ?_
                        rintro _ _ ⟨rfl, rfl⟩
                        refine pw_aload_n (k4 := 0) rfl (by decide +kernel) ?_
                        refine pw_iconst (n := 0) (v := 0) (by decide) (by decide +kernel) ?_
                        refine pq_putZ (c := 11) (k := 50) (ks_m hA) (by decide) (by decide) (by decide) lf_Mo_350 (Or.inl rfl) (by decide +kernel) ?_
                        refine pw_aload_n (k4 := 0) rfl (by decide +kernel) ?_
                        refine pq_callV (ν := m_Mo_token) (d' := 1) (av := []) (c := 11) (by decide +kernel) lm_Mo_227 ok_Mo_token (show _ = some 0 by decide +kernel) (ks_m hA) rfl (by decide) (by omega) (Nat.le_of_ble_eq_true rfl) (ct_Mo_tok hA (by first | exact prI_set (prI_set (prI_st (prI_set hp (by decide) (by decide) _) (by decide) _) (by decide) (by decide) _) (by decide) (by decide) _ | exact prI_set (prI_st (prI_set hp (by decide) (by decide) _) (by decide) _) (by decide) (by decide) _ | exact prI_set (prI_grow (prI_set hp (by decide) (by decide) _)) (by decide) (by decide) _)) ?_
                        rintro _ _ ⟨J, hJ, hpJ, hfJ, rfl, rfl⟩
                        refine pw_iconst (n := 1) (v := 1) (by decide) (by decide +kernel) ?_
                        exact pq_zret rfl (by decide) (by decide +kernel) ⟨0, (0, ixn (G 134 9)) :: E, W, false, mn, br, cn + 1, yTok G, _, (if_neg (fun w => z6 (by rw [(htq.2.2 8 (by decide) (by decide)), (htq.2.2 9 (by decide) (by decide))]; exact w))).trans ((if_neg (fun w => hmnF w.2)).trans ((if_neg (fun w => w.2 (by rw [← (htq.2.2 8 (by decide) (by decide))]; exact z100))).trans ((if_neg (fun w => Int32.not_lt.mpr z120 (by rw [(htq.2.2 9 (by decide) (by decide))]; exact w.2))).trans ((if_neg hc).trans (by rw [if_pos hnmL]))))), rfl, rfl, hpJ, sgF_prF (((sgX_leaf (q := 0) (v := ixn (G 134 9)) hX0 (by omega) (Or.inl ⟨rfl, by rw [hve, ixn_nI (by omega)]; exact hv9, by rw [hve, ixn_nI (by omega), ← hve]; exact (htq.2.2 9 (by decide) (by decide))⟩) hhl (by omega)).2).set (by decide) _) hfJ, fun _ => ⟨⟨sgX_prF (sgX_set (sgX_leaf (q := 0) (v := ixn (G 134 9)) hX0 (by omega) (Or.inl ⟨rfl, by rw [hve, ixn_nI (by omega)]; exact hv9, by rw [hve, ixn_nI (by omega), ← hve]; exact (htq.2.2 9 (by decide) (by decide))⟩) hhl (by omega)).1 (Or.inl rfl) _) hfJ, hfJ.2 50 (by decide), (hfJ.2 51 (by decide)).trans hmn, hpJ, by rw [← hJ]; exact tq_tok (tq_grow htq), tkI_tok hpG⟩, by show b0 + E.length ≤ b0 + (E.length + 1); omega⟩, fun w => absurd rfl w⟩
                      · exact absurd (Int32.not_le.mp z92) z149
                    · exact absurd (Int32.not_le.mp z92) z140
                  · exact absurd (by decide) z133
                · refine pw_aload_n (k4 := 0) rfl (by decide +kernel) ?_
                  refine pw_iconst (n := 2) (v := 2) (by decide) (by decide +kernel) ?_
                  refine pq_callV (ν := m_Mo_wrong) (d' := 0) (av := [_]) (c := 11) (by decide +kernel) lm_Mo_217 ok_Mo_wrong (show _ = some 1 by decide +kernel) (ks_m hA) rfl (by decide) (by omega) (Nat.le_of_ble_eq_true rfl) (ct_Mo_wrong hA _) ?_
                  rintro _ _ ⟨rfl, rfl⟩
                  exact pq_zret rfl (by decide) (by decide +kernel) ⟨2, E, W, true, mn, br, cn, G, _, (if_neg (fun w => z6 (by rw [(htq.2.2 8 (by decide) (by decide)), (htq.2.2 9 (by decide) (by decide))]; exact w))).trans ((if_neg (fun w => hmnF w.2)).trans ((if_neg (fun w => w.2 (by rw [← (htq.2.2 8 (by decide) (by decide))]; exact z100))).trans (if_pos ⟨hnmL, (by rw [← (htq.2.2 9 (by decide) (by decide))]; exact Int32.not_le.mp z120)⟩))), rfl, rfl, prI_wr hp _, ((sgF.rf I _).set (by decide) _).set (by decide) _, fun w => absurd w (by decide), fun _ => ⟨rfl, (htq.2.2 10 (by decide) (by decide))⟩⟩
            · refine pw_aload_n (k4 := 0) rfl (by decide +kernel) ?_
              refine pw_iconst (n := 1) (v := 1) (by decide) (by decide +kernel) ?_
              refine pq_callV (ν := m_Mo_wrong) (d' := 0) (av := [_]) (c := 11) (by decide +kernel) lm_Mo_217 ok_Mo_wrong (show _ = some 1 by decide +kernel) (ks_m hA) rfl (by decide) (by omega) (Nat.le_of_ble_eq_true rfl) (ct_Mo_wrong hA _) ?_
              rintro _ _ ⟨rfl, rfl⟩
              exact pq_zret rfl (by decide) (by decide +kernel) ⟨1, E, W, true, mn, br, cn, G, _, (if_neg (fun w => z6 (by rw [(htq.2.2 8 (by decide) (by decide)), (htq.2.2 9 (by decide) (by decide))]; exact w))).trans ((if_neg (fun w => hmnF w.2)).trans (if_pos ⟨hnmL, (by rw [← (htq.2.2 8 (by decide) (by decide))]; exact z100)⟩)), rfl, rfl, prI_wr hp _, ((sgF.rf I _).set (by decide) _).set (by decide) _, fun w => absurd w (by decide), fun _ => ⟨rfl, (htq.2.2 10 (by decide) (by decide))⟩⟩
        · have hmnT : mn = true := by cases mn; exact absurd hmn z63; rfl
          refine pw_aload_n (k4 := 0) rfl (by decide +kernel) ?_
          refine pq_callV (ν := m_Mo_isCounted) (d' := 1) (av := []) (c := 11) (by decide +kernel) lm_Mo_344 ok_Mo_isCounted (show _ = some 0 by decide +kernel) (ks_m hA) rfl (by decide) (by omega) (Nat.le_of_ble_eq_true rfl) (ct_Mo_isC2 hA (cn := cn) (by exact hcn) hc64 hc) ?_
          rintro _ _ ⟨rfl, rfl⟩
          refine pn_if_ne (off := 5) (tgt := 75) 1 rfl (by omega) (by decide +kernel) (by decide +kernel) (fun z70 => ?_) (fun z70 => ?_)
          · refine pw_aload_n (k4 := 0) rfl (by decide +kernel) ?_
            refine pw_iconst (n := 2) (v := 2) (by decide) (by decide +kernel) ?_
            refine pq_callV (ν := m_Mo_waitsFor) (d' := 0) (av := [_]) (c := 11) (by decide +kernel) lm_Mo_337 ok_Mo_waitsFor (show _ = some 1 by decide +kernel) (ks_m hA) rfl (by decide) (by omega) (Nat.le_of_ble_eq_true rfl) (ct_Mo_waitsFor hA (wl := W.length) (by exact hWl) (by omega) _) ?_
            rintro _ _ ⟨rfl, rfl⟩
            refine pw_aload_n (k4 := 0) rfl (by decide +kernel) ?_
            refine pq_callV (ν := m_Mo_token) (d' := 1) (av := []) (c := 11) (by decide +kernel) lm_Mo_227 ok_Mo_token (show _ = some 0 by decide +kernel) (ks_m hA) rfl (by decide) (by omega) (Nat.le_of_ble_eq_true rfl) (ct_Mo_tok hA (by first | exact prI_set (prI_set (prI_st (prI_set hp (by decide) (by decide) _) (by decide) _) (by decide) (by decide) _) (by decide) (by decide) _ | exact prI_set (prI_st (prI_set hp (by decide) (by decide) _) (by decide) _) (by decide) (by decide) _ | exact prI_set (prI_grow (prI_set hp (by decide) (by decide) _)) (by decide) (by decide) _)) ?_
            rintro _ _ ⟨J, hJ, hpJ, hfJ, rfl, rfl⟩
            refine pw_iconst (n := 1) (v := 1) (by decide) (by decide +kernel) ?_
            exact pq_zret rfl (by decide) (by decide +kernel) ⟨0, E, 2 :: W, true, mn, br, cn + 1, yTok G, _, (if_neg (fun w => z6 (by rw [(htq.2.2 8 (by decide) (by decide)), (htq.2.2 9 (by decide) (by decide))]; exact w))).trans ((if_pos ⟨(by rw [← (htq.2.2 8 (by decide) (by decide)), ← (htq.2.2 9 (by decide) (by decide))]; exact z56), hmnT⟩).trans (if_neg hc)), rfl, rfl, hpJ, sgF_prF (((sgF.rf I _).set (by decide) _).st (Or.inl rfl) _ _ |>.set (by decide) _) hfJ, fun _ => ⟨⟨sgX_prF (sgX_opk (k := 2) hX0 (by decide) (by decide) (by omega) rfl) hfJ, (hfJ.2 50 (by decide)).trans hwn, (hfJ.2 51 (by decide)).trans hmn, hpJ, by rw [← hJ]; exact tq_tok (tq_set (tq_st (tq_set htq (by decide) _) (by decide) _) (by decide) _), tkI_tok hpG⟩, Nat.le_refl _⟩, fun w => absurd rfl w⟩
          · exact absurd (by decide) z70
    · refine pw_aload_n (k4 := 0) rfl (by decide +kernel) ?_
      refine pq_getI (c := 11) (k := 48) (ks_m hA) (by decide) (by decide) lf_Mo_334 (by decide +kernel) ?_
      refine pn_val (nI (br)) (by exact hbr) ?_
      refine pw_bipush (n := 8) (v := 8) (by decide) (by decide +kernel) ?_
      refine pn_icmp_ne (off := 9) (tgt := 24) br 8 rfl rfl (by omega) (by omega) (by decide +kernel) (by decide +kernel) (fun z15 => ?_) (fun z15 => ?_)
      · refine pw_aload_n (k4 := 0) rfl (by decide +kernel) ?_
        refine pw_dup rfl (by decide +kernel) ?_
        refine pq_getI (c := 11) (k := 48) (ks_m hA) (by decide) (by decide) lf_Mo_334 (by decide +kernel) ?_
        refine pn_val (nI (br)) (by exact hbr) ?_
        refine pw_iconst (n := 1) (v := 1) (by decide) (by decide +kernel) ?_
        refine pn_iadd br 1 rfl rfl (by decide +kernel) ?_
        refine pq_putI (c := 11) (k := 48) (ks_m hA) (by decide) (by decide) lf_Mo_334 (Or.inl rfl) (by decide +kernel) ?_
        refine pw_aload_n (k4 := 0) rfl (by decide +kernel) ?_
        refine pw_iconst (n := 0) (v := 0) (by decide) (by decide +kernel) ?_
        refine pq_callV (ν := m_Mo_waitsFor) (d' := 0) (av := [_]) (c := 11) (by decide +kernel) lm_Mo_337 ok_Mo_waitsFor (show _ = some 1 by decide +kernel) (ks_m hA) rfl (by decide) (by omega) (Nat.le_of_ble_eq_true rfl) (ct_Mo_waitsFor hA (wl := W.length) (by exact hWl) (by omega) _) ?_
        rintro _ _ ⟨rfl, rfl⟩
        refine pw_aload_n (k4 := 0) rfl (by decide +kernel) ?_
        refine pw_iconst (n := 1) (v := 1) (by decide) (by decide +kernel) ?_
        refine pq_putZ (c := 11) (k := 51) (ks_m hA) (by decide) (by decide) (by decide) lf_Mo_341 (Or.inl rfl) (by decide +kernel) ?_
        refine pw_aload_n (k4 := 0) rfl (by decide +kernel) ?_
        refine pq_callV (ν := m_Mo_token) (d' := 1) (av := []) (c := 11) (by decide +kernel) lm_Mo_227 ok_Mo_token (show _ = some 0 by decide +kernel) (ks_m hA) rfl (by decide) (by omega) (Nat.le_of_ble_eq_true rfl) (ct_Mo_tok hA (by first | exact prI_set (prI_set (prI_st (prI_set hp (by decide) (by decide) _) (by decide) _) (by decide) (by decide) _) (by decide) (by decide) _ | exact prI_set (prI_st (prI_set hp (by decide) (by decide) _) (by decide) _) (by decide) (by decide) _ | exact prI_set (prI_grow (prI_set hp (by decide) (by decide) _)) (by decide) (by decide) _)) ?_
        rintro _ _ ⟨J, hJ, hpJ, hfJ, rfl, rfl⟩
        refine pw_iconst (n := 1) (v := 1) (by decide) (by decide +kernel) ?_
        exact pq_zret rfl (by decide) (by decide +kernel) ⟨0, E, 0 :: W, true, true, br + 1, cn, yTok G, _, (if_pos (by rw [← (htq.2.2 8 (by decide) (by decide)), ← (htq.2.2 9 (by decide) (by decide))]; exact z6)).trans (if_neg z15), rfl, rfl, hpJ, sgF_prF ((((sgF.rf I _).set (by decide) _).st (Or.inl rfl) _ _).set (by decide) _ |>.set (by decide) _) hfJ, fun _ => ⟨⟨sgX_prF (sgX_set (sgX_op0 hX0 (by omega)) (Or.inr rfl) _) hfJ, (hfJ.2 50 (by decide)).trans hwn, hfJ.2 51 (by decide), hpJ, by rw [← hJ]; exact tq_tok (tq_set (tq_set (tq_st (tq_set htq (by decide) _) (by decide) _) (by decide) _) (by decide) _), tkI_tok hpG⟩, Nat.le_refl _⟩, fun w => absurd rfl w⟩
      · refine pw_aload_n (k4 := 0) rfl (by decide +kernel) ?_
        refine pw_iconst (n := 2) (v := 2) (by decide) (by decide +kernel) ?_
        refine pq_callV (ν := m_Mo_wrong) (d' := 0) (av := [_]) (c := 11) (by decide +kernel) lm_Mo_217 ok_Mo_wrong (show _ = some 1 by decide +kernel) (ks_m hA) rfl (by decide) (by omega) (Nat.le_of_ble_eq_true rfl) (ct_Mo_wrong hA _) ?_
        rintro _ _ ⟨rfl, rfl⟩
        exact pq_zret rfl (by decide) (by decide +kernel) ⟨2, E, W, true, mn, br, cn, G, _, (if_pos (by rw [← (htq.2.2 8 (by decide) (by decide)), ← (htq.2.2 9 (by decide) (by decide))]; exact z6)).trans (if_pos (Decidable.not_not.mp z15)), rfl, rfl, prI_wr hp _, ((sgF.rf I _).set (by decide) _).set (by decide) _, fun w => absurd w (by decide), fun _ => ⟨rfl, (htq.2.2 10 (by decide) (by decide))⟩⟩

