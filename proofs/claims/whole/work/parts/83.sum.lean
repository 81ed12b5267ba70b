/-! ===== the reference: signs, a law whole ===== -/
theorem rk_1 {k : Nat} (h : 2 ≤ k) (h14 : k ≤ 14) : 1 ≤ rkN k := by
  unfold rkN
  repeat' split
  all_goals omega
theorem bindA_mem (l : Nat) : ∀ (W : List Nat) (E : List (Nat × Nat)), ∀ x ∈ (bindA l W E).1, x ∈ W
  | [], E, x, h => h
  | k :: W, E, x, h => by
    unfold bindA at h
    by_cases q : l ≤ rkN k
    · rw [if_pos q] at h; exact List.mem_cons_of_mem _ (bindA_mem l W _ x h)
    · rw [if_neg q] at h; exact h
theorem bindA_z {l : Nat} (hl : 1 ≤ l) : ∀ (W : List Nat) (E : List (Nat × Nat)), zW (bindA l W E).1 = zW W
  | [], E => rfl
  | k :: W, E => by
    unfold bindA
    by_cases q : l ≤ rkN k
    · rw [if_pos q, bindA_z hl W]
      have hk : ¬ k = 0 := fun e => by rw [e] at q; exact absurd q (by show ¬ l ≤ 0; omega)
      show zW W = (if k = 0 then 1 else 0) + zW W
      rw [if_neg hk]; omega
    · rw [if_neg q]
theorem bindA_0 : ∀ (W : List Nat) (E : List (Nat × Nat)), (∀ k ∈ W, (k = 0 ∨ 2 ≤ k) ∧ k ≤ 14) → (zW W = 0 ∧ (bindA 1 W E).1 = []) ∨ (1 ≤ zW W ∧ ∃ W2, (bindA 1 W E).1 = 0 :: W2)
  | [], E, _ => Or.inl ⟨rfl, rfl⟩
  | k :: W, E, h => by
    have e2 : zW (k :: W) = (if k = 0 then 1 else 0) + zW W := rfl
    have hk := h k List.mem_cons_self
    unfold bindA
    rcases hk.1 with q | q
    · subst q
      rw [if_neg (by decide), e2, if_pos rfl]
      exact Or.inr ⟨by omega, W, rfl⟩
    · rw [if_pos (rk_1 q hk.2), e2, if_neg (by omega)]
      rcases bindA_0 W ((k, 0) :: E) (fun x hx => h x (List.mem_cons_of_mem _ hx)) with ⟨w1, w2⟩ | ⟨w1, w2⟩
      · exact Or.inl ⟨by omega, w2⟩
      · exact Or.inr ⟨by omega, w2⟩
theorem bindA_len (l : Nat) : ∀ (W : List Nat) (E : List (Nat × Nat)), E.length ≤ (bindA l W E).2.length
  | [], E => Nat.le_refl _
  | k :: W, E => by
    unfold bindA
    by_cases q : l ≤ rkN k
    · rw [if_pos q]
      have := bindA_len l W ((k, 0) :: E)
      exact Nat.le_trans (Nat.le_succ _) this
    · rw [if_neg q]; exact Nat.le_refl _
theorem sgX_bind {I J : Nat → Nat → Int32} {b0 br cn l : Nat} {E : List (Nat × Nat)} {W S2 : List Nat} (hc : sgX I b0 E W 1 br cn) (hl : 1 ≤ l) (hS : shS J b0 (bindA l W E).2 (bindA l W E).1 S2) (hn : S2.length = nbW (bindA l W E).1 + 1) (hF : shF J I (b0 + E.length)) : sgX J b0 (bindA l W E).2 (bindA l W E).1 1 br cn := by
  obtain ⟨S, q1, q2, q3, q4, q5, q6, q7, q8, q9⟩ := hc
  have ho := bindA_op l hl W E
  exact ⟨S2, hS, hn, by omega, q4, (bindA_z hl W E).trans q5, q6, fun k hk => q7 k (bindA_mem l W E k hk), (hF.2.1 48 (by decide)).trans q8, (hF.2.1 49 (by decide)).trans q9⟩
theorem sgX_close {I : Nat → Nat → Int32} {b0 br cn : Nat} {E : List (Nat × Nat)} {W : List Nat} (hc : sgX I b0 E (0 :: W) 1 br cn) : sgX (sI (sI I 134 46 (nI W.length)) 134 48 (nI (br - 1))) b0 E W 1 (br - 1) cn := by
  obtain ⟨S, q1, q2, q3, q4, q5, q6, q7, q8, q9⟩ := hc
  have e1 : zW (0 :: W) = 1 + zW W := rfl
  have e2 : nbW (0 :: W) = 0 + nbW W := rfl
  have e3 : opW (0 :: W) = 0 + opW W := rfl
  exact ⟨S, shS_to (shS_pop q1) rfl rfl rfl rfl rfl rfl rfl rfl, by omega, by omega, q4, by omega, by omega, fun k hk => q7 k (List.mem_cons_of_mem _ hk), rfl, q9⟩
theorem prI_shF {I J : Nat → Nat → Int32} {kr : Nat} (h : prI I) (hF : shF J I kr) : prI J := by
  obtain ⟨h1, h2, n, p, h3, h4, h5, h6⟩ := h
  refine ⟨fun k hk => ?_, fun j hj => ?_, n, p, ?_, h4, ?_, h6⟩
  · rw [hF.1 135 (by decide)]; exact h1 k hk
  · rw [hF.1 136 (by decide)]; exact h2 j hj
  · rw [hF.2.1 6 (by decide)]; exact h3
  · rw [hF.2.1 7 (by decide)]; exact h5
theorem tq_shF {I J G : Nat → Nat → Int32} {kr : Nat} (h : tq I G) (hF : shF J I kr) : tq J G :=
  ⟨(hF.1 135 (by decide)).trans h.1, (hF.1 136 (by decide)).trans h.2.1, fun k k1 k2 => (hF.2.1 k (by simp; omega)).trans (h.2.2 k k1 k2)⟩

set_option maxHeartbeats 8000000 in
theorem ct_Mo_signs {sh : List pSh} {I : Nat → Nat → Int32} {L : Nat → Nat → Int64} {P : Nat → Nat → Option Nat} (hA : kA sh P) {b0 br cn : Nat} {E : List (Nat × Nat)} {W : List Nat} {mn : Bool} {G : Nat → Nat → Int32} (hs : sgI I b0 E W false mn br cn G) (hpG : prI G) : pCn m_Mo_signs 2 [.ref 134] sh (I, L, P) (rSg (signsA E W false mn br cn G) I L P b0 (b0 + E.length)) := by
  obtain ⟨hX0, hwn, hmn, hp, htq, htk⟩ := hs
  rw [if_neg (by decide)] at hX0
  have hlens := sgX_len hX0
  obtain ⟨S, hS1, hSn, hS3, hc64, hS5, hS6, hS7, hbr, hcn⟩ := id hX0
  have hwl2 := W_len W hS7
  have hW14 : ∀ k ∈ W, (k = 0 ∨ 2 ≤ k) ∧ k ≤ 14 := fun k hk => ⟨hS7 k hk, hS1.2.2.2.2.2.2 k hk⟩
  refine pCn_of (by decide +kernel) (Nat.le_of_ble_eq_true rfl) ?_
  have h148 : ¬ ((G 134 8 = 4 ∧ G 134 9 = 41) ∧ 0 < br) → ∀ k, opA G = k → pWn m_Mo_signs 2 sh (rSg (signsA E W false mn br cn G) I L P b0 (b0 + E.length)) 148 [some (.ref 134), some (.int (nI k))] [] (I, L, P) := by
    intro hnb k hk
    have hk14 : k ≤ 14 := by rw [← hk]; exact (opA_14 htk).1
    by_cases hc : cn = 64
    · skip
      refine pw_iload_n (k4 := 1) rfl (by decide +kernel) ?_
      refine pn_if_ne (off := 9) (tgt := 158) k rfl (by omega) (by decide +kernel) (by decide +kernel) (fun z149 => ?_) (fun z149 => ?_)
      · have hk3 : 3 ≤ k := by have := (opA_14 htk).2; omega
        have hr1 := rk_1 (show 2 ≤ k by omega) hk14
        have hr6 := rkN_6 k
        refine pw_aload_n (k4 := 0) rfl (by decide +kernel) ?_
        refine pw_iload_n (k4 := 1) rfl (by decide +kernel) ?_
        refine pq_callS (ν := m_Mo_rank) (d' := 0) (av := [_]) (by decide +kernel) lm_Mo_322 ok_Mo_rank (show _ = some 1 by decide +kernel) (by omega) (Nat.le_of_ble_eq_true rfl) (ct_Mo_rank (k := k) hk14) ?_
        rintro _ _ ⟨rfl, rfl⟩
        refine pw_iconst (n := 4) (v := 4) (by decide) (by decide +kernel) ?_
        refine pn_icmp_ne (off := 7) (tgt := 171) (rkN k) 4 rfl rfl (by omega) (by omega) (by decide +kernel) (by decide +kernel) (fun z164 => ?_) (fun z164 => ?_)
        · refine pw_iload_n (k4 := 1) rfl (by decide +kernel) ?_
          refine pq_callS (ν := m_Mo_rank) (d' := 0) (av := [_]) (by decide +kernel) lm_Mo_322 ok_Mo_rank (show _ = some 1 by decide +kernel) (by omega) (Nat.le_of_ble_eq_true rfl) (ct_Mo_rank (k := k) hk14) ?_
          rintro _ _ ⟨rfl, rfl⟩
          refine pq_callV (ν := m_Mo_bind) (d' := 1) (av := [_]) (c := 11) (by decide +kernel) lm_Mo_353 ok_Mo_bind (show _ = some 1 by decide +kernel) (ks_m hA) rfl (by decide) (by omega) (Nat.le_of_ble_eq_true rfl) (ct_Mo_bind hA (b0 := b0) (least := (rkN k)) (by omega) (by omega) (E := E) (W := W) (by exact hS1) hSn (by omega) (by omega) (by omega)) ?_
          rintro _ _ ⟨rfl, J, S2, rfl, hJS, hJn, hJF⟩
          have hXb := sgX_bind hX0 (l := (rkN k)) (by omega) hJS hJn hJF
          have hEl := bindA_len (rkN k) W E
          have hpb := prI_shF hp hJF
          have htb := tq_shF htq hJF
          have hlb := sgX_len hXb
          refine pw_iload_n (k4 := 1) rfl (by decide +kernel) ?_
          refine pq_callS (ν := m_Mo_rank) (d' := 0) (av := [_]) (by decide +kernel) lm_Mo_322 ok_Mo_rank (show _ = some 1 by decide +kernel) (by omega) (Nat.le_of_ble_eq_true rfl) (ct_Mo_rank (k := k) hk14) ?_
          rintro _ _ ⟨rfl, rfl⟩
          refine pw_iconst (n := 4) (v := 4) (by decide) (by decide +kernel) ?_
          refine pn_icmp_ne (off := 34) (tgt := 217) (rkN k) 4 rfl rfl (by omega) (by omega) (by decide +kernel) (by decide +kernel) (fun z183 => ?_) (fun z183 => ?_)
          · refine pw_aload_n (k4 := 0) rfl (by decide +kernel) ?_
            refine pq_callV (ν := m_Mo_isCounted) (d' := 1) (av := []) (c := 11) (by decide +kernel) lm_Mo_344 ok_Mo_isCounted (show _ = some 0 by decide +kernel) (ks_m hA) rfl (by decide) (by omega) (Nat.le_of_ble_eq_true rfl) (ct_Mo_isC1 hA (cn := cn) (by exact (hJF.2.1 49 (by decide)).trans hcn) hc) ?_
            rintro _ _ ⟨rfl, rfl⟩
            refine pn_if_ne (off := 5) (tgt := 226) 0 rfl (by omega) (by decide +kernel) (by decide +kernel) (fun z221 => ?_) (fun z221 => ?_)
            · exact absurd z221 (by decide)
            · refine pw_iconst (n := 0) (v := 0) (by decide) (by decide +kernel) ?_
              exact pq_zret rfl (by decide) (by decide +kernel) ⟨2, E, W, false, mn, br, cn, G, _, (if_neg hnb).trans ((if_neg (by rw [hk]; omega)).trans ((if_neg (fun w => z164 (by rw [hk] at w; exact w.1))).trans (if_pos hc))), rfl, rfl, prI_wr hpb _, (((sgF_shF (sgF.rf I _) hJF (Nat.le_refl _)).set (by decide) _).set (by decide) _), fun w => absurd w (by decide), fun _ => ⟨rfl, (htb.2.2 10 (by decide) (by decide))⟩⟩
          · exact absurd (Decidable.not_not.mp z183) z164
        · refine pw_iconst (n := 5) (v := 5) (by decide) (by decide +kernel) ?_
          refine pw_goto (off := 7) (tgt := 175) (by decide +kernel) (by decide +kernel) ?_
          refine pq_callV (ν := m_Mo_bind) (d' := 1) (av := [_]) (c := 11) (by decide +kernel) lm_Mo_353 ok_Mo_bind (show _ = some 1 by decide +kernel) (ks_m hA) rfl (by decide) (by omega) (Nat.le_of_ble_eq_true rfl) (ct_Mo_bind hA (b0 := b0) (least := 5) (by decide) (by decide) (E := E) (W := W) (by exact hS1) hSn (by omega) (by omega) (by omega)) ?_
          rintro _ _ ⟨rfl, J, S2, rfl, hJS, hJn, hJF⟩
          have hXb := sgX_bind hX0 (l := 5) (by decide) hJS hJn hJF
          have hEl := bindA_len 5 W E
          have hpb := prI_shF hp hJF
          have htb := tq_shF htq hJF
          have hlb := sgX_len hXb
          refine pw_iload_n (k4 := 1) rfl (by decide +kernel) ?_
          refine pq_callS (ν := m_Mo_rank) (d' := 0) (av := [_]) (by decide +kernel) lm_Mo_322 ok_Mo_rank (show _ = some 1 by decide +kernel) (by omega) (Nat.le_of_ble_eq_true rfl) (ct_Mo_rank (k := k) hk14) ?_
          rintro _ _ ⟨rfl, rfl⟩
          refine pw_iconst (n := 4) (v := 4) (by decide) (by decide +kernel) ?_
          refine pn_icmp_ne (off := 34) (tgt := 217) (rkN k) 4 rfl rfl (by omega) (by omega) (by decide +kernel) (by decide +kernel) (fun z183 => ?_) (fun z183 => ?_)
          · exact absurd (Decidable.not_not.mp z164) z183
          · refine pw_aload_n (k4 := 0) rfl (by decide +kernel) ?_
            refine pq_getI (c := 11) (k := 46) (ks_m hA) (by decide) (by decide) lf_Mo_319 (by decide +kernel) ?_
            refine pn_val (nI ((bindA 5 W E).1.length)) (by exact hJS.2.2.1) ?_
            refine pn_if_le (off := 27) (tgt := 217) ((bindA 5 W E).1.length) rfl (by omega) (by decide +kernel) (by decide +kernel) (fun z190 => ?_) (fun z190 => ?_)
            · have hW3 : (bindA 5 W E).1 = [] := List.eq_nil_of_length_eq_zero (by omega)
              have hhd : rkN ((bindA 5 W E).1.headD 0) = 0 := by rw [hW3]; rfl
              refine pw_aload_n (k4 := 0) rfl (by decide +kernel) ?_
              refine pq_callV (ν := m_Mo_isCounted) (d' := 1) (av := []) (c := 11) (by decide +kernel) lm_Mo_344 ok_Mo_isCounted (show _ = some 0 by decide +kernel) (ks_m hA) rfl (by decide) (by omega) (Nat.le_of_ble_eq_true rfl) (ct_Mo_isC1 hA (cn := cn) (by exact (hJF.2.1 49 (by decide)).trans hcn) hc) ?_
              rintro _ _ ⟨rfl, rfl⟩
              refine pn_if_ne (off := 5) (tgt := 226) 0 rfl (by omega) (by decide +kernel) (by decide +kernel) (fun z221 => ?_) (fun z221 => ?_)
              · exact absurd z221 (by decide)
              · refine pw_iconst (n := 0) (v := 0) (by decide) (by decide +kernel) ?_
                exact pq_zret rfl (by decide) (by decide +kernel) ⟨2, E, W, false, mn, br, cn, G, _, (if_neg hnb).trans ((if_neg (by rw [hk]; omega)).trans ((if_neg (fun w => by rw [hhd] at w; exact absurd w.2 (by omega))).trans (if_pos hc))), rfl, rfl, prI_wr hpb _, (((sgF_shF (sgF.rf I _) hJF (Nat.le_refl _)).set (by decide) _).set (by decide) _), fun w => absurd w (by decide), fun _ => ⟨rfl, (htb.2.2 10 (by decide) (by decide))⟩⟩
            · obtain ⟨k2, W3, hW3⟩ := len1 (show 1 ≤ (bindA 5 W E).1.length by omega)
              have hk24 : k2 ≤ 14 := (hW14 k2 (bindA_mem 5 W E k2 (by rw [hW3]; exact List.mem_cons_self))).2
              have htop : J 158 W3.length = nI k2 := by have w := hJS.2.2.2.2.1; rw [hW3] at w; exact (rwL_top w).1
              have hr26 := rkN_6 k2
              have hW3l : (bindA 5 W E).1.length = W3.length + 1 := by rw [hW3]; rfl
              have hhd : (bindA 5 W E).1.headD 0 = k2 := by rw [hW3]; rfl
              refine pw_aload_n (k4 := 0) rfl (by decide +kernel) ?_
              refine pq_getP (c := 11) (k := 44) (ks_m hA) (by decide) (by decide) (kp_m_wait hA) lf_Mo_84 (by decide +kernel) ?_
              refine pw_aload_n (k4 := 0) rfl (by decide +kernel) ?_
              refine pq_getI (c := 11) (k := 46) (ks_m hA) (by decide) (by decide) lf_Mo_319 (by decide +kernel) ?_
              refine pn_val (nI (W3.length + 1)) (by rw [hJS.2.2.1, hW3l]) ?_
              refine pw_iconst (n := 1) (v := 1) (by decide) (by decide +kernel) ?_
              refine pn_isub (W3.length + 1) 1 rfl rfl (by omega) (by decide +kernel) ?_
              refine pn_val (nI (W3.length)) (by rw [Nat.add_sub_cancel]) ?_
              refine pq_iald W3.length rfl (by omega) (by decide) (ks_m_wait hA) (by decide +kernel) ?_
              refine pn_val (nI (k2)) (by exact htop) ?_
              refine pq_callS (ν := m_Mo_rank) (d' := 0) (av := [_]) (by decide +kernel) lm_Mo_322 ok_Mo_rank (show _ = some 1 by decide +kernel) (by omega) (Nat.le_of_ble_eq_true rfl) (ct_Mo_rank (k := k2) hk24) ?_
              rintro _ _ ⟨rfl, rfl⟩
              refine pw_iconst (n := 4) (v := 4) (by decide) (by decide +kernel) ?_
              refine pn_icmp_ne (off := 9) (tgt := 217) (rkN k2) 4 rfl rfl (by omega) (by omega) (by decide +kernel) (by decide +kernel) (fun z208 => ?_) (fun z208 => ?_)
              · refine pw_aload_n (k4 := 0) rfl (by decide +kernel) ?_
                refine pq_callV (ν := m_Mo_isCounted) (d' := 1) (av := []) (c := 11) (by decide +kernel) lm_Mo_344 ok_Mo_isCounted (show _ = some 0 by decide +kernel) (ks_m hA) rfl (by decide) (by omega) (Nat.le_of_ble_eq_true rfl) (ct_Mo_isC1 hA (cn := cn) (by exact (hJF.2.1 49 (by decide)).trans hcn) hc) ?_
                rintro _ _ ⟨rfl, rfl⟩
                refine pn_if_ne (off := 5) (tgt := 226) 0 rfl (by omega) (by decide +kernel) (by decide +kernel) (fun z221 => ?_) (fun z221 => ?_)
                · exact absurd z221 (by decide)
                · refine pw_iconst (n := 0) (v := 0) (by decide) (by decide +kernel) ?_
                  exact pq_zret rfl (by decide) (by decide +kernel) ⟨2, E, W, false, mn, br, cn, G, _, (if_neg hnb).trans ((if_neg (by rw [hk]; omega)).trans ((if_neg (fun w => by rw [hhd] at w; exact absurd w.2 (by omega))).trans (if_pos hc))), rfl, rfl, prI_wr hpb _, (((sgF_shF (sgF.rf I _) hJF (Nat.le_refl _)).set (by decide) _).set (by decide) _), fun w => absurd w (by decide), fun _ => ⟨rfl, (htb.2.2 10 (by decide) (by decide))⟩⟩
              · refine pw_aload_n (k4 := 0) rfl (by decide +kernel) ?_
                refine pw_iconst (n := 1) (v := 1) (by decide) (by decide +kernel) ?_
                refine pq_callV (ν := m_Mo_wrong) (d' := 0) (av := [_]) (c := 11) (by decide +kernel) lm_Mo_217 ok_Mo_wrong (show _ = some 1 by decide +kernel) (ks_m hA) rfl (by decide) (by omega) (Nat.le_of_ble_eq_true rfl) (ct_Mo_wrong hA _) ?_
                rintro _ _ ⟨rfl, rfl⟩
                exact pq_zret rfl (by decide) (by decide +kernel) ⟨1, E, W, false, mn, br, cn, G, _, (if_neg hnb).trans ((if_neg (by rw [hk]; omega)).trans (if_pos (by rw [hk, hhd]; exact ⟨Decidable.not_not.mp z164, Decidable.not_not.mp z208⟩))), rfl, rfl, prI_wr hpb _, (((sgF_shF (sgF.rf I _) hJF (Nat.le_refl _)).set (by decide) _).set (by decide) _), fun w => absurd w (by decide), fun _ => ⟨rfl, (htb.2.2 10 (by decide) (by decide))⟩⟩
      · refine pw_aload_n (k4 := 0) rfl (by decide +kernel) ?_
        refine pw_iconst (n := 1) (v := 1) (by decide) (by decide +kernel) ?_
        refine pq_callV (ν := m_Mo_wrong) (d' := 0) (av := [_]) (c := 11) (by decide +kernel) lm_Mo_217 ok_Mo_wrong (show _ = some 1 by decide +kernel) (ks_m hA) rfl (by decide) (by omega) (Nat.le_of_ble_eq_true rfl) (ct_Mo_wrong hA _) ?_
        rintro _ _ ⟨rfl, rfl⟩
        exact pq_zret rfl (by decide) (by decide +kernel) ⟨1, E, W, false, mn, br, cn, G, _, (if_neg hnb).trans (if_pos (by rw [hk]; omega)), rfl, rfl, prI_wr hp _, ((sgF.rf I _).set (by decide) _).set (by decide) _, fun w => absurd w (by decide), fun _ => ⟨rfl, (htq.2.2 10 (by decide) (by decide))⟩⟩

    · skip
      refine pw_iload_n (k4 := 1) rfl (by decide +kernel) ?_
      refine pn_if_ne (off := 9) (tgt := 158) k rfl (by omega) (by decide +kernel) (by decide +kernel) (fun z149 => ?_) (fun z149 => ?_)
      · have hk3 : 3 ≤ k := by have := (opA_14 htk).2; omega
        have hr1 := rk_1 (show 2 ≤ k by omega) hk14
        have hr6 := rkN_6 k
        refine pw_aload_n (k4 := 0) rfl (by decide +kernel) ?_
        refine pw_iload_n (k4 := 1) rfl (by decide +kernel) ?_
        refine pq_callS (ν := m_Mo_rank) (d' := 0) (av := [_]) (by decide +kernel) lm_Mo_322 ok_Mo_rank (show _ = some 1 by decide +kernel) (by omega) (Nat.le_of_ble_eq_true rfl) (ct_Mo_rank (k := k) hk14) ?_
        rintro _ _ ⟨rfl, rfl⟩
        refine pw_iconst (n := 4) (v := 4) (by decide) (by decide +kernel) ?_
        refine pn_icmp_ne (off := 7) (tgt := 171) (rkN k) 4 rfl rfl (by omega) (by omega) (by decide +kernel) (by decide +kernel) (fun z164 => ?_) (fun z164 => ?_)
        · refine pw_iload_n (k4 := 1) rfl (by decide +kernel) ?_
          refine pq_callS (ν := m_Mo_rank) (d' := 0) (av := [_]) (by decide +kernel) lm_Mo_322 ok_Mo_rank (show _ = some 1 by decide +kernel) (by omega) (Nat.le_of_ble_eq_true rfl) (ct_Mo_rank (k := k) hk14) ?_
          rintro _ _ ⟨rfl, rfl⟩
          refine pq_callV (ν := m_Mo_bind) (d' := 1) (av := [_]) (c := 11) (by decide +kernel) lm_Mo_353 ok_Mo_bind (show _ = some 1 by decide +kernel) (ks_m hA) rfl (by decide) (by omega) (Nat.le_of_ble_eq_true rfl) (ct_Mo_bind hA (b0 := b0) (least := (rkN k)) (by omega) (by omega) (E := E) (W := W) (by exact hS1) hSn (by omega) (by omega) (by omega)) ?_
          rintro _ _ ⟨rfl, J, S2, rfl, hJS, hJn, hJF⟩
          have hXb := sgX_bind hX0 (l := (rkN k)) (by omega) hJS hJn hJF
          have hEl := bindA_len (rkN k) W E
          have hpb := prI_shF hp hJF
          have htb := tq_shF htq hJF
          have hlb := sgX_len hXb
          refine pw_iload_n (k4 := 1) rfl (by decide +kernel) ?_
          refine pq_callS (ν := m_Mo_rank) (d' := 0) (av := [_]) (by decide +kernel) lm_Mo_322 ok_Mo_rank (show _ = some 1 by decide +kernel) (by omega) (Nat.le_of_ble_eq_true rfl) (ct_Mo_rank (k := k) hk14) ?_
          rintro _ _ ⟨rfl, rfl⟩
          refine pw_iconst (n := 4) (v := 4) (by decide) (by decide +kernel) ?_
          refine pn_icmp_ne (off := 34) (tgt := 217) (rkN k) 4 rfl rfl (by omega) (by omega) (by decide +kernel) (by decide +kernel) (fun z183 => ?_) (fun z183 => ?_)
          · refine pw_aload_n (k4 := 0) rfl (by decide +kernel) ?_
            refine pq_callV (ν := m_Mo_isCounted) (d' := 1) (av := []) (c := 11) (by decide +kernel) lm_Mo_344 ok_Mo_isCounted (show _ = some 0 by decide +kernel) (ks_m hA) rfl (by decide) (by omega) (Nat.le_of_ble_eq_true rfl) (ct_Mo_isC2 hA (cn := cn) (by exact (hJF.2.1 49 (by decide)).trans hcn) hc64 hc) ?_
            rintro _ _ ⟨rfl, rfl⟩
            refine pn_if_ne (off := 5) (tgt := 226) 1 rfl (by omega) (by decide +kernel) (by decide +kernel) (fun z221 => ?_) (fun z221 => ?_)
            · refine pw_aload_n (k4 := 0) rfl (by decide +kernel) ?_
              refine pw_iload_n (k4 := 1) rfl (by decide +kernel) ?_
              refine pq_callV (ν := m_Mo_waitsFor) (d' := 0) (av := [_]) (c := 11) (by decide +kernel) lm_Mo_337 ok_Mo_waitsFor (show _ = some 1 by decide +kernel) (ks_m hA) rfl (by decide) (by omega) (Nat.le_of_ble_eq_true rfl) (ct_Mo_waitsFor hA (wl := (bindA (rkN k) W E).1.length) (by exact hJS.2.2.1) (by omega) _) ?_
              rintro _ _ ⟨rfl, rfl⟩
              refine pw_aload_n (k4 := 0) rfl (by decide +kernel) ?_
              refine pw_iconst (n := 1) (v := 1) (by decide) (by decide +kernel) ?_
              refine pq_putZ (c := 11) (k := 50) (ks_m hA) (by decide) (by decide) (by decide) lf_Mo_350 (Or.inl rfl) (by decide +kernel) ?_
              refine pw_aload_n (k4 := 0) rfl (by decide +kernel) ?_
              refine pw_iload_n (k4 := 1) rfl (by decide +kernel) ?_
              refine pq_callS (ν := m_Mo_rank) (d' := 0) (av := [_]) (by decide +kernel) lm_Mo_322 ok_Mo_rank (show _ = some 1 by decide +kernel) (by omega) (Nat.le_of_ble_eq_true rfl) (ct_Mo_rank (k := k) hk14) ?_
              rintro _ _ ⟨rfl, rfl⟩
              refine pw_iconst (n := 3) (v := 3) (by decide) (by decide +kernel) ?_
              refine pn_icmp_ge (off := 7) (tgt := 249) (rkN k) 3 rfl rfl (by omega) (by omega) (by decide +kernel) (by decide +kernel) (fun z242 => ?_) (fun z242 => ?_)
              · refine pw_iconst (n := 0) (v := 0) (by decide) (by decide +kernel) ?_
                refine pq_putZ (c := 11) (k := 51) (ks_m hA) (by decide) (by decide) (by decide) lf_Mo_341 (Or.inl rfl) (by decide +kernel) ?_
                refine pw_aload_n (k4 := 0) rfl (by decide +kernel) ?_
                refine pq_callV (ν := m_Mo_token) (d' := 1) (av := []) (c := 11) (by decide +kernel) lm_Mo_227 ok_Mo_token (show _ = some 0 by decide +kernel) (ks_m hA) rfl (by decide) (by omega) (Nat.le_of_ble_eq_true rfl) (ct_Mo_tok hA (prI_set (prI_set (prI_set (prI_st (prI_set hpb (by decide) (by decide) _) (by decide) _) (by decide) (by decide) _) (by decide) (by decide) _) (by decide) (by decide) _)) ?_
                rintro _ _ ⟨J2, hJ, hpJ, hfJ, rfl, rfl⟩
                refine pw_iconst (n := 1) (v := 1) (by decide) (by decide +kernel) ?_
                exact pq_zret rfl (by decide) (by decide +kernel) ⟨0, (bindA (rkN k) W E).2, k :: (bindA (rkN k) W E).1, true, false, br, cn + 1, yTok G, _, (if_neg hnb).trans ((if_neg (by rw [hk]; omega)).trans ((if_neg (fun w => z164 (by rw [hk] at w; exact w.1))).trans ((if_neg hc).trans (by rw [hk, if_neg z164, show decide (rkN k < 3) = false from decide_eq_false (by omega)])))), rfl, rfl, hpJ, sgF_prF (((((sgF_shF (sgF.rf I _) hJF (Nat.le_refl _)).set (by decide) _).st (Or.inl rfl) _ _).set (by decide) _ |>.set (by decide) _).set (by decide) _) hfJ, fun _ => ⟨⟨sgX_prF (sgX_set (sgX_set (sgX_opk (k := k) (h2 := 0) hXb (by omega) hk14 (by omega) (by rw [if_pos hk3])) (Or.inl rfl) _) (Or.inr rfl) _) hfJ, hfJ.2 50 (by decide), hfJ.2 51 (by decide), hpJ, by rw [← hJ]; exact tq_tok (tq_set (tq_set (tq_set (tq_st (tq_set htb (by decide) _) (by decide) _) (by decide) _) (by decide) _) (by decide) _), tkI_tok hpG⟩, by omega⟩, fun w => absurd rfl w⟩
              · refine pw_iconst (n := 1) (v := 1) (by decide) (by decide +kernel) ?_
                refine pw_goto (off := 4) (tgt := 250) (by decide +kernel) (by decide +kernel) ?_
                refine pq_putZ (c := 11) (k := 51) (ks_m hA) (by decide) (by decide) (by decide) lf_Mo_341 (Or.inl rfl) (by decide +kernel) ?_
                refine pw_aload_n (k4 := 0) rfl (by decide +kernel) ?_
                refine pq_callV (ν := m_Mo_token) (d' := 1) (av := []) (c := 11) (by decide +kernel) lm_Mo_227 ok_Mo_token (show _ = some 0 by decide +kernel) (ks_m hA) rfl (by decide) (by omega) (Nat.le_of_ble_eq_true rfl) (ct_Mo_tok hA (prI_set (prI_set (prI_set (prI_st (prI_set hpb (by decide) (by decide) _) (by decide) _) (by decide) (by decide) _) (by decide) (by decide) _) (by decide) (by decide) _)) ?_
                rintro _ _ ⟨J2, hJ, hpJ, hfJ, rfl, rfl⟩
                refine pw_iconst (n := 1) (v := 1) (by decide) (by decide +kernel) ?_
                exact pq_zret rfl (by decide) (by decide +kernel) ⟨0, (bindA (rkN k) W E).2, k :: (bindA (rkN k) W E).1, true, true, br, cn + 1, yTok G, _, (if_neg hnb).trans ((if_neg (by rw [hk]; omega)).trans ((if_neg (fun w => z164 (by rw [hk] at w; exact w.1))).trans ((if_neg hc).trans (by rw [hk, if_neg z164, show decide (rkN k < 3) = true from decide_eq_true (by omega)])))), rfl, rfl, hpJ, sgF_prF (((((sgF_shF (sgF.rf I _) hJF (Nat.le_refl _)).set (by decide) _).st (Or.inl rfl) _ _).set (by decide) _ |>.set (by decide) _).set (by decide) _) hfJ, fun _ => ⟨⟨sgX_prF (sgX_set (sgX_set (sgX_opk (k := k) (h2 := 0) hXb (by omega) hk14 (by omega) (by rw [if_pos hk3])) (Or.inl rfl) _) (Or.inr rfl) _) hfJ, hfJ.2 50 (by decide), hfJ.2 51 (by decide), hpJ, by rw [← hJ]; exact tq_tok (tq_set (tq_set (tq_set (tq_st (tq_set htb (by decide) _) (by decide) _) (by decide) _) (by decide) _) (by decide) _), tkI_tok hpG⟩, by omega⟩, fun w => absurd rfl w⟩
            · exact absurd (by decide) z221
          · exact absurd (Decidable.not_not.mp z183) z164
        · refine pw_iconst (n := 5) (v := 5) (by decide) (by decide +kernel) ?_
          refine pw_goto (off := 7) (tgt := 175) (by decide +kernel) (by decide +kernel) ?_
          refine pq_callV (ν := m_Mo_bind) (d' := 1) (av := [_]) (c := 11) (by decide +kernel) lm_Mo_353 ok_Mo_bind (show _ = some 1 by decide +kernel) (ks_m hA) rfl (by decide) (by omega) (Nat.le_of_ble_eq_true rfl) (ct_Mo_bind hA (b0 := b0) (least := 5) (by decide) (by decide) (E := E) (W := W) (by exact hS1) hSn (by omega) (by omega) (by omega)) ?_
          rintro _ _ ⟨rfl, J, S2, rfl, hJS, hJn, hJF⟩
          have hXb := sgX_bind hX0 (l := 5) (by decide) hJS hJn hJF
          have hEl := bindA_len 5 W E
          have hpb := prI_shF hp hJF
          have htb := tq_shF htq hJF
          have hlb := sgX_len hXb
          refine pw_iload_n (k4 := 1) rfl (by decide +kernel) ?_
          refine pq_callS (ν := m_Mo_rank) (d' := 0) (av := [_]) (by decide +kernel) lm_Mo_322 ok_Mo_rank (show _ = some 1 by decide +kernel) (by omega) (Nat.le_of_ble_eq_true rfl) (ct_Mo_rank (k := k) hk14) ?_
          rintro _ _ ⟨rfl, rfl⟩
          refine pw_iconst (n := 4) (v := 4) (by decide) (by decide +kernel) ?_
          refine pn_icmp_ne (off := 34) (tgt := 217) (rkN k) 4 rfl rfl (by omega) (by omega) (by decide +kernel) (by decide +kernel) (fun z183 => ?_) (fun z183 => ?_)
          · exact absurd (Decidable.not_not.mp z164) z183
          · refine pw_aload_n (k4 := 0) rfl (by decide +kernel) ?_
            refine pq_getI (c := 11) (k := 46) (ks_m hA) (by decide) (by decide) lf_Mo_319 (by decide +kernel) ?_
            refine pn_val (nI ((bindA 5 W E).1.length)) (by exact hJS.2.2.1) ?_
            refine pn_if_le (off := 27) (tgt := 217) ((bindA 5 W E).1.length) rfl (by omega) (by decide +kernel) (by decide +kernel) (fun z190 => ?_) (fun z190 => ?_)
            · have hW3 : (bindA 5 W E).1 = [] := List.eq_nil_of_length_eq_zero (by omega)
              have hhd : rkN ((bindA 5 W E).1.headD 0) = 0 := by rw [hW3]; rfl
              refine pw_aload_n (k4 := 0) rfl (by decide +kernel) ?_
              refine pq_callV (ν := m_Mo_isCounted) (d' := 1) (av := []) (c := 11) (by decide +kernel) lm_Mo_344 ok_Mo_isCounted (show _ = some 0 by decide +kernel) (ks_m hA) rfl (by decide) (by omega) (Nat.le_of_ble_eq_true rfl) (ct_Mo_isC2 hA (cn := cn) (by exact (hJF.2.1 49 (by decide)).trans hcn) hc64 hc) ?_
              rintro _ _ ⟨rfl, rfl⟩
              refine pn_if_ne (off := 5) (tgt := 226) 1 rfl (by omega) (by decide +kernel) (by decide +kernel) (fun z221 => ?_) (fun z221 => ?_)
              · refine pw_aload_n (k4 := 0) rfl (by decide +kernel) ?_
                refine pw_iload_n (k4 := 1) rfl (by decide +kernel) ?_
                refine pq_callV (ν := m_Mo_waitsFor) (d' := 0) (av := [_]) (c := 11) (by decide +kernel) lm_Mo_337 ok_Mo_waitsFor (show _ = some 1 by decide +kernel) (ks_m hA) rfl (by decide) (by omega) (Nat.le_of_ble_eq_true rfl) (ct_Mo_waitsFor hA (wl := (bindA 5 W E).1.length) (by exact hJS.2.2.1) (by omega) _) ?_
                rintro _ _ ⟨rfl, rfl⟩
                refine pw_aload_n (k4 := 0) rfl (by decide +kernel) ?_
                refine pw_iconst (n := 1) (v := 1) (by decide) (by decide +kernel) ?_
                refine pq_putZ (c := 11) (k := 50) (ks_m hA) (by decide) (by decide) (by decide) lf_Mo_350 (Or.inl rfl) (by decide +kernel) ?_
                refine pw_aload_n (k4 := 0) rfl (by decide +kernel) ?_
                refine pw_iload_n (k4 := 1) rfl (by decide +kernel) ?_
                refine pq_callS (ν := m_Mo_rank) (d' := 0) (av := [_]) (by decide +kernel) lm_Mo_322 ok_Mo_rank (show _ = some 1 by decide +kernel) (by omega) (Nat.le_of_ble_eq_true rfl) (ct_Mo_rank (k := k) hk14) ?_
                rintro _ _ ⟨rfl, rfl⟩
                refine pw_iconst (n := 3) (v := 3) (by decide) (by decide +kernel) ?_
                refine pn_icmp_ge (off := 7) (tgt := 249) (rkN k) 3 rfl rfl (by omega) (by omega) (by decide +kernel) (by decide +kernel) (fun z242 => ?_) (fun z242 => ?_)
                · refine pw_iconst (n := 0) (v := 0) (by decide) (by decide +kernel) ?_
                  refine pq_putZ (c := 11) (k := 51) (ks_m hA) (by decide) (by decide) (by decide) lf_Mo_341 (Or.inl rfl) (by decide +kernel) ?_
                  refine pw_aload_n (k4 := 0) rfl (by decide +kernel) ?_
                  refine pq_callV (ν := m_Mo_token) (d' := 1) (av := []) (c := 11) (by decide +kernel) lm_Mo_227 ok_Mo_token (show _ = some 0 by decide +kernel) (ks_m hA) rfl (by decide) (by omega) (Nat.le_of_ble_eq_true rfl) (ct_Mo_tok hA (prI_set (prI_set (prI_set (prI_st (prI_set hpb (by decide) (by decide) _) (by decide) _) (by decide) (by decide) _) (by decide) (by decide) _) (by decide) (by decide) _)) ?_
                  rintro _ _ ⟨J2, hJ, hpJ, hfJ, rfl, rfl⟩
                  refine pw_iconst (n := 1) (v := 1) (by decide) (by decide +kernel) ?_
                  exact pq_zret rfl (by decide) (by decide +kernel) ⟨0, (bindA 5 W E).2, k :: (bindA 5 W E).1, true, false, br, cn + 1, yTok G, _, (if_neg hnb).trans ((if_neg (by rw [hk]; omega)).trans ((if_neg (fun w => by rw [hhd] at w; exact absurd w.2 (by omega))).trans ((if_neg hc).trans (by rw [hk, if_pos (Decidable.not_not.mp z164), show decide (rkN k < 3) = false from decide_eq_false (by omega)])))), rfl, rfl, hpJ, sgF_prF (((((sgF_shF (sgF.rf I _) hJF (Nat.le_refl _)).set (by decide) _).st (Or.inl rfl) _ _).set (by decide) _ |>.set (by decide) _).set (by decide) _) hfJ, fun _ => ⟨⟨sgX_prF (sgX_set (sgX_set (sgX_opk (k := k) (h2 := 0) hXb (by omega) hk14 (by omega) (by rw [if_pos hk3])) (Or.inl rfl) _) (Or.inr rfl) _) hfJ, hfJ.2 50 (by decide), hfJ.2 51 (by decide), hpJ, by rw [← hJ]; exact tq_tok (tq_set (tq_set (tq_set (tq_st (tq_set htb (by decide) _) (by decide) _) (by decide) _) (by decide) _) (by decide) _), tkI_tok hpG⟩, by omega⟩, fun w => absurd rfl w⟩
                · refine pw_iconst (n := 1) (v := 1) (by decide) (by decide +kernel) ?_
                  refine pw_goto (off := 4) (tgt := 250) (by decide +kernel) (by decide +kernel) ?_
                  refine pq_putZ (c := 11) (k := 51) (ks_m hA) (by decide) (by decide) (by decide) lf_Mo_341 (Or.inl rfl) (by decide +kernel) ?_
                  refine pw_aload_n (k4 := 0) rfl (by decide +kernel) ?_
                  refine pq_callV (ν := m_Mo_token) (d' := 1) (av := []) (c := 11) (by decide +kernel) lm_Mo_227 ok_Mo_token (show _ = some 0 by decide +kernel) (ks_m hA) rfl (by decide) (by omega) (Nat.le_of_ble_eq_true rfl) (ct_Mo_tok hA (prI_set (prI_set (prI_set (prI_st (prI_set hpb (by decide) (by decide) _) (by decide) _) (by decide) (by decide) _) (by decide) (by decide) _) (by decide) (by decide) _)) ?_
                  rintro _ _ ⟨J2, hJ, hpJ, hfJ, rfl, rfl⟩
                  refine pw_iconst (n := 1) (v := 1) (by decide) (by decide +kernel) ?_
                  exact pq_zret rfl (by decide) (by decide +kernel) ⟨0, (bindA 5 W E).2, k :: (bindA 5 W E).1, true, true, br, cn + 1, yTok G, _, (if_neg hnb).trans ((if_neg (by rw [hk]; omega)).trans ((if_neg (fun w => by rw [hhd] at w; exact absurd w.2 (by omega))).trans ((if_neg hc).trans (by rw [hk, if_pos (Decidable.not_not.mp z164), show decide (rkN k < 3) = true from decide_eq_true (by omega)])))), rfl, rfl, hpJ, sgF_prF (((((sgF_shF (sgF.rf I _) hJF (Nat.le_refl _)).set (by decide) _).st (Or.inl rfl) _ _).set (by decide) _ |>.set (by decide) _).set (by decide) _) hfJ, fun _ => ⟨⟨sgX_prF (sgX_set (sgX_set (sgX_opk (k := k) (h2 := 0) hXb (by omega) hk14 (by omega) (by rw [if_pos hk3])) (Or.inl rfl) _) (Or.inr rfl) _) hfJ, hfJ.2 50 (by decide), hfJ.2 51 (by decide), hpJ, by rw [← hJ]; exact tq_tok (tq_set (tq_set (tq_set (tq_st (tq_set htb (by decide) _) (by decide) _) (by decide) _) (by decide) _) (by decide) _), tkI_tok hpG⟩, by omega⟩, fun w => absurd rfl w⟩
              · exact absurd (by decide) z221
            · obtain ⟨k2, W3, hW3⟩ := len1 (show 1 ≤ (bindA 5 W E).1.length by omega)
              have hk24 : k2 ≤ 14 := (hW14 k2 (bindA_mem 5 W E k2 (by rw [hW3]; exact List.mem_cons_self))).2
              have htop : J 158 W3.length = nI k2 := by have w := hJS.2.2.2.2.1; rw [hW3] at w; exact (rwL_top w).1
              have hr26 := rkN_6 k2
              have hW3l : (bindA 5 W E).1.length = W3.length + 1 := by rw [hW3]; rfl
              have hhd : (bindA 5 W E).1.headD 0 = k2 := by rw [hW3]; rfl
              refine pw_aload_n (k4 := 0) rfl (by decide +kernel) ?_
              refine pq_getP (c := 11) (k := 44) (ks_m hA) (by decide) (by decide) (kp_m_wait hA) lf_Mo_84 (by decide +kernel) ?_
              refine pw_aload_n (k4 := 0) rfl (by decide +kernel) ?_
              refine pq_getI (c := 11) (k := 46) (ks_m hA) (by decide) (by decide) lf_Mo_319 (by decide +kernel) ?_
              refine pn_val (nI (W3.length + 1)) (by rw [hJS.2.2.1, hW3l]) ?_
              refine pw_iconst (n := 1) (v := 1) (by decide) (by decide +kernel) ?_
              refine pn_isub (W3.length + 1) 1 rfl rfl (by omega) (by decide +kernel) ?_
              refine pn_val (nI (W3.length)) (by rw [Nat.add_sub_cancel]) ?_
              refine pq_iald W3.length rfl (by omega) (by decide) (ks_m_wait hA) (by decide +kernel) ?_
              refine pn_val (nI (k2)) (by exact htop) ?_
              refine pq_callS (ν := m_Mo_rank) (d' := 0) (av := [_]) (by decide +kernel) lm_Mo_322 ok_Mo_rank (show _ = some 1 by decide +kernel) (by omega) (Nat.le_of_ble_eq_true rfl) (ct_Mo_rank (k := k2) hk24) ?_
              rintro _ _ ⟨rfl, rfl⟩
              refine pw_iconst (n := 4) (v := 4) (by decide) (by decide +kernel) ?_
              refine pn_icmp_ne (off := 9) (tgt := 217) (rkN k2) 4 rfl rfl (by omega) (by omega) (by decide +kernel) (by decide +kernel) (fun z208 => ?_) (fun z208 => ?_)
              · refine pw_aload_n (k4 := 0) rfl (by decide +kernel) ?_
                refine pq_callV (ν := m_Mo_isCounted) (d' := 1) (av := []) (c := 11) (by decide +kernel) lm_Mo_344 ok_Mo_isCounted (show _ = some 0 by decide +kernel) (ks_m hA) rfl (by decide) (by omega) (Nat.le_of_ble_eq_true rfl) (ct_Mo_isC2 hA (cn := cn) (by exact (hJF.2.1 49 (by decide)).trans hcn) hc64 hc) ?_
                rintro _ _ ⟨rfl, rfl⟩
                refine pn_if_ne (off := 5) (tgt := 226) 1 rfl (by omega) (by decide +kernel) (by decide +kernel) (fun z221 => ?_) (fun z221 => ?_)
                · refine pw_aload_n (k4 := 0) rfl (by decide +kernel) ?_
                  refine pw_iload_n (k4 := 1) rfl (by decide +kernel) ?_
                  refine pq_callV (ν := m_Mo_waitsFor) (d' := 0) (av := [_]) (c := 11) (by decide +kernel) lm_Mo_337 ok_Mo_waitsFor (show _ = some 1 by decide +kernel) (ks_m hA) rfl (by decide) (by omega) (Nat.le_of_ble_eq_true rfl) (ct_Mo_waitsFor hA (wl := (bindA 5 W E).1.length) (by exact hJS.2.2.1) (by omega) _) ?_
                  rintro _ _ ⟨rfl, rfl⟩
                  refine pw_aload_n (k4 := 0) rfl (by decide +kernel) ?_
                  refine pw_iconst (n := 1) (v := 1) (by decide) (by decide +kernel) ?_
                  refine pq_putZ (c := 11) (k := 50) (ks_m hA) (by decide) (by decide) (by decide) lf_Mo_350 (Or.inl rfl) (by decide +kernel) ?_
                  refine pw_aload_n (k4 := 0) rfl (by decide +kernel) ?_
                  refine pw_iload_n (k4 := 1) rfl (by decide +kernel) ?_
                  refine pq_callS (ν := m_Mo_rank) (d' := 0) (av := [_]) (by decide +kernel) lm_Mo_322 ok_Mo_rank (show _ = some 1 by decide +kernel) (by omega) (Nat.le_of_ble_eq_true rfl) (ct_Mo_rank (k := k) hk14) ?_
                  rintro _ _ ⟨rfl, rfl⟩
                  refine pw_iconst (n := 3) (v := 3) (by decide) (by decide +kernel) ?_
                  refine pn_icmp_ge (off := 7) (tgt := 249) (rkN k) 3 rfl rfl (by omega) (by omega) (by decide +kernel) (by decide +kernel) (fun z242 => ?_) (fun z242 => ?_)
                  · refine pw_iconst (n := 0) (v := 0) (by decide) (by decide +kernel) ?_
                    refine pq_putZ (c := 11) (k := 51) (ks_m hA) (by decide) (by decide) (by decide) lf_Mo_341 (Or.inl rfl) (by decide +kernel) ?_
                    refine pw_aload_n (k4 := 0) rfl (by decide +kernel) ?_
                    refine pq_callV (ν := m_Mo_token) (d' := 1) (av := []) (c := 11) (by decide +kernel) lm_Mo_227 ok_Mo_token (show _ = some 0 by decide +kernel) (ks_m hA) rfl (by decide) (by omega) (Nat.le_of_ble_eq_true rfl) (ct_Mo_tok hA (prI_set (prI_set (prI_set (prI_st (prI_set hpb (by decide) (by decide) _) (by decide) _) (by decide) (by decide) _) (by decide) (by decide) _) (by decide) (by decide) _)) ?_
                    rintro _ _ ⟨J2, hJ, hpJ, hfJ, rfl, rfl⟩
                    refine pw_iconst (n := 1) (v := 1) (by decide) (by decide +kernel) ?_
                    exact pq_zret rfl (by decide) (by decide +kernel) ⟨0, (bindA 5 W E).2, k :: (bindA 5 W E).1, true, false, br, cn + 1, yTok G, _, (if_neg hnb).trans ((if_neg (by rw [hk]; omega)).trans ((if_neg (fun w => by rw [hhd] at w; exact absurd w.2 (by omega))).trans ((if_neg hc).trans (by rw [hk, if_pos (Decidable.not_not.mp z164), show decide (rkN k < 3) = false from decide_eq_false (by omega)])))), rfl, rfl, hpJ, sgF_prF (((((sgF_shF (sgF.rf I _) hJF (Nat.le_refl _)).set (by decide) _).st (Or.inl rfl) _ _).set (by decide) _ |>.set (by decide) _).set (by decide) _) hfJ, fun _ => ⟨⟨sgX_prF (sgX_set (sgX_set (sgX_opk (k := k) (h2 := 0) hXb (by omega) hk14 (by omega) (by rw [if_pos hk3])) (Or.inl rfl) _) (Or.inr rfl) _) hfJ, hfJ.2 50 (by decide), hfJ.2 51 (by decide), hpJ, by rw [← hJ]; exact tq_tok (tq_set (tq_set (tq_set (tq_st (tq_set htb (by decide) _) (by decide) _) (by decide) _) (by decide) _) (by decide) _), tkI_tok hpG⟩, by omega⟩, fun w => absurd rfl w⟩
                  · refine pw_iconst (n := 1) (v := 1) (by decide) (by decide +kernel) ?_
                    refine pw_goto (off := 4) (tgt := 250) (by decide +kernel) (by decide +kernel) ?_
                    refine pq_putZ (c := 11) (k := 51) (ks_m hA) (by decide) (by decide) (by decide) lf_Mo_341 (Or.inl rfl) (by decide +kernel) ?_
                    refine pw_aload_n (k4 := 0) rfl (by decide +kernel) ?_
                    refine pq_callV (ν := m_Mo_token) (d' := 1) (av := []) (c := 11) (by decide +kernel) lm_Mo_227 ok_Mo_token (show _ = some 0 by decide +kernel) (ks_m hA) rfl (by decide) (by omega) (Nat.le_of_ble_eq_true rfl) (ct_Mo_tok hA (prI_set (prI_set (prI_set (prI_st (prI_set hpb (by decide) (by decide) _) (by decide) _) (by decide) (by decide) _) (by decide) (by decide) _) (by decide) (by decide) _)) ?_
                    rintro _ _ ⟨J2, hJ, hpJ, hfJ, rfl, rfl⟩
                    refine pw_iconst (n := 1) (v := 1) (by decide) (by decide +kernel) ?_
                    exact pq_zret rfl (by decide) (by decide +kernel) ⟨0, (bindA 5 W E).2, k :: (bindA 5 W E).1, true, true, br, cn + 1, yTok G, _, (if_neg hnb).trans ((if_neg (by rw [hk]; omega)).trans ((if_neg (fun w => by rw [hhd] at w; exact absurd w.2 (by omega))).trans ((if_neg hc).trans (by rw [hk, if_pos (Decidable.not_not.mp z164), show decide (rkN k < 3) = true from decide_eq_true (by omega)])))), rfl, rfl, hpJ, sgF_prF (((((sgF_shF (sgF.rf I _) hJF (Nat.le_refl _)).set (by decide) _).st (Or.inl rfl) _ _).set (by decide) _ |>.set (by decide) _).set (by decide) _) hfJ, fun _ => ⟨⟨sgX_prF (sgX_set (sgX_set (sgX_opk (k := k) (h2 := 0) hXb (by omega) hk14 (by omega) (by rw [if_pos hk3])) (Or.inl rfl) _) (Or.inr rfl) _) hfJ, hfJ.2 50 (by decide), hfJ.2 51 (by decide), hpJ, by rw [← hJ]; exact tq_tok (tq_set (tq_set (tq_set (tq_st (tq_set htb (by decide) _) (by decide) _) (by decide) _) (by decide) _) (by decide) _), tkI_tok hpG⟩, by omega⟩, fun w => absurd rfl w⟩
                · exact absurd (by decide) z221
              · refine pw_aload_n (k4 := 0) rfl (by decide +kernel) ?_
                refine pw_iconst (n := 1) (v := 1) (by decide) (by decide +kernel) ?_
                refine pq_callV (ν := m_Mo_wrong) (d' := 0) (av := [_]) (c := 11) (by decide +kernel) lm_Mo_217 ok_Mo_wrong (show _ = some 1 by decide +kernel) (ks_m hA) rfl (by decide) (by omega) (Nat.le_of_ble_eq_true rfl) (ct_Mo_wrong hA _) ?_
                rintro _ _ ⟨rfl, rfl⟩
                exact pq_zret rfl (by decide) (by decide +kernel) ⟨1, E, W, false, mn, br, cn, G, _, (if_neg hnb).trans ((if_neg (by rw [hk]; omega)).trans (if_pos (by rw [hk, hhd]; exact ⟨Decidable.not_not.mp z164, Decidable.not_not.mp z208⟩))), rfl, rfl, prI_wr hpb _, (((sgF_shF (sgF.rf I _) hJF (Nat.le_refl _)).set (by decide) _).set (by decide) _), fun w => absurd w (by decide), fun _ => ⟨rfl, (htb.2.2 10 (by decide) (by decide))⟩⟩
      · refine pw_aload_n (k4 := 0) rfl (by decide +kernel) ?_
        refine pw_iconst (n := 1) (v := 1) (by decide) (by decide +kernel) ?_
        refine pq_callV (ν := m_Mo_wrong) (d' := 0) (av := [_]) (c := 11) (by decide +kernel) lm_Mo_217 ok_Mo_wrong (show _ = some 1 by decide +kernel) (ks_m hA) rfl (by decide) (by omega) (Nat.le_of_ble_eq_true rfl) (ct_Mo_wrong hA _) ?_
        rintro _ _ ⟨rfl, rfl⟩
        exact pq_zret rfl (by decide) (by decide +kernel) ⟨1, E, W, false, mn, br, cn, G, _, (if_neg hnb).trans (if_pos (by rw [hk]; omega)), rfl, rfl, prI_wr hp _, ((sgF.rf I _).set (by decide) _).set (by decide) _, fun w => absurd w (by decide), fun _ => ⟨rfl, (htq.2.2 10 (by decide) (by decide))⟩⟩

  refine pw_aload_n (k4 := 0) rfl (by decide +kernel) ?_
  refine pw_bipush (n := 41) (v := 41) (by decide) (by decide +kernel) ?_
  refine pq_callV (ν := m_Mo_isSign) (d' := 0) (av := [_]) (c := 11) (by decide +kernel) lm_Mo_230 ok_Mo_isSign (show _ = some 1 by decide +kernel) (ks_m hA) rfl (by decide) (by omega) (Nat.le_of_ble_eq_true rfl) (ct_Mo_isSign hA _) ?_
  rintro _ _ ⟨rfl, rfl⟩
  refine pn_ifB_eq (off := 41) (tgt := 47) (by decide +kernel) (by decide +kernel) (fun z6 => ?_) (fun z6 => ?_)
  · refine pw_aload_n (k4 := 0) rfl (by decide +kernel) ?_
    refine pw_bipush (n := 16) (v := 16) (by decide) (by decide +kernel) ?_
    refine pq_callV (ν := m_Mo_isKey) (d' := 0) (av := [_]) (c := 11) (by decide +kernel) lm_Mo_288 ok_Mo_isKey (show _ = some 1 by decide +kernel) (ks_m hA) rfl (by decide) (by omega) (Nat.le_of_ble_eq_true rfl) (ct_Mo_isKey hA _) ?_
    rintro _ _ ⟨rfl, rfl⟩
    refine pn_ifB_eq (off := 7) (tgt := 60) (by decide +kernel) (by decide +kernel) (fun z53 => ?_) (fun z53 => ?_)
    · refine pw_aload_n (k4 := 0) rfl (by decide +kernel) ?_
      refine pw_bipush (n := 17) (v := 17) (by decide) (by decide +kernel) ?_
      refine pq_callV (ν := m_Mo_isKey) (d' := 0) (av := [_]) (c := 11) (by decide +kernel) lm_Mo_288 ok_Mo_isKey (show _ = some 1 by decide +kernel) (ks_m hA) rfl (by decide) (by omega) (Nat.le_of_ble_eq_true rfl) (ct_Mo_isKey hA _) ?_
      rintro _ _ ⟨rfl, rfl⟩
      refine pn_ifB_eq (off := 7) (tgt := 73) (by decide +kernel) (by decide +kernel) (fun z66 => ?_) (fun z66 => ?_)
      · refine pw_aload_n (k4 := 0) rfl (by decide +kernel) ?_
        refine pq_getI (c := 11) (k := 8) (ks_m hA) (by decide) (by decide) lf_Mo_193 (by decide +kernel) ?_
        refine pw_iconst (n := 5) (v := 5) (by decide) (by decide +kernel) ?_
        refine pw_icmp_ne (off := 12) (tgt := 90) (by decide +kernel) (by decide +kernel) (fun z78 => ?_) (fun z78 => ?_)
        · refine pw_aload_n (k4 := 0) rfl (by decide +kernel) ?_
          refine pw_bipush (n := 43) (v := 43) (by decide) (by decide +kernel) ?_
          refine pq_callV (ν := m_Mo_isSign) (d' := 0) (av := [_]) (c := 11) (by decide +kernel) lm_Mo_230 ok_Mo_isSign (show _ = some 1 by decide +kernel) (ks_m hA) rfl (by decide) (by omega) (Nat.le_of_ble_eq_true rfl) (ct_Mo_isSign hA _) ?_
          rintro _ _ ⟨rfl, rfl⟩
          refine pn_ifB_eq (off := 8) (tgt := 104) (by decide +kernel) (by decide +kernel) (fun z96 => ?_) (fun z96 => ?_)
          · refine pw_aload_n (k4 := 0) rfl (by decide +kernel) ?_
            refine pw_bipush (n := 45) (v := 45) (by decide) (by decide +kernel) ?_
            refine pq_callV (ν := m_Mo_isSign) (d' := 0) (av := [_]) (c := 11) (by decide +kernel) lm_Mo_230 ok_Mo_isSign (show _ = some 1 by decide +kernel) (ks_m hA) rfl (by decide) (by omega) (Nat.le_of_ble_eq_true rfl) (ct_Mo_isSign hA _) ?_
            rintro _ _ ⟨rfl, rfl⟩
            refine pn_ifB_eq (off := 8) (tgt := 118) (by decide +kernel) (by decide +kernel) (fun z110 => ?_) (fun z110 => ?_)
            · refine pw_aload_n (k4 := 0) rfl (by decide +kernel) ?_
              refine pw_bipush (n := 42) (v := 42) (by decide) (by decide +kernel) ?_
              refine pq_callV (ν := m_Mo_isSign) (d' := 0) (av := [_]) (c := 11) (by decide +kernel) lm_Mo_230 ok_Mo_isSign (show _ = some 1 by decide +kernel) (ks_m hA) rfl (by decide) (by omega) (Nat.le_of_ble_eq_true rfl) (ct_Mo_isSign hA _) ?_
              rintro _ _ ⟨rfl, rfl⟩
              refine pn_ifB_eq (off := 8) (tgt := 132) (by decide +kernel) (by decide +kernel) (fun z124 => ?_) (fun z124 => ?_)
              · refine pw_aload_n (k4 := 0) rfl (by decide +kernel) ?_
                refine pw_bipush (n := 47) (v := 47) (by decide) (by decide +kernel) ?_
                refine pq_callV (ν := m_Mo_isSign) (d' := 0) (av := [_]) (c := 11) (by decide +kernel) lm_Mo_230 ok_Mo_isSign (show _ = some 1 by decide +kernel) (ks_m hA) rfl (by decide) (by omega) (Nat.le_of_ble_eq_true rfl) (ct_Mo_isSign hA _) ?_
                rintro _ _ ⟨rfl, rfl⟩
                refine pn_ifB_eq (off := 8) (tgt := 146) (by decide +kernel) (by decide +kernel) (fun z138 => ?_) (fun z138 => ?_)
                · refine pw_iconst (n := 0) (v := 0) (by decide) (by decide +kernel) ?_
                  refine pq_istore_n (k4 := 1) (Nat.le_of_ble_eq_true rfl) rfl (by decide +kernel) ?_
                  exact h148 (fun w => z6 (by rw [(htq.2.2 8 (by decide) (by decide)), (htq.2.2 9 (by decide) (by decide))]; exact w.1)) (0) (show opA G = 0 from (if_neg (fun w => z53 (by rw [(htq.2.2 8 (by decide) (by decide)), (htq.2.2 9 (by decide) (by decide))]; exact w))).trans ((if_neg (fun w => z66 (by rw [(htq.2.2 8 (by decide) (by decide)), (htq.2.2 9 (by decide) (by decide))]; exact w))).trans ((if_neg (fun w => z78 (by rw [(htq.2.2 8 (by decide) (by decide))]; exact w))).trans ((if_neg (fun w => z96 (by rw [(htq.2.2 8 (by decide) (by decide)), (htq.2.2 9 (by decide) (by decide))]; exact w))).trans ((if_neg (fun w => z110 (by rw [(htq.2.2 8 (by decide) (by decide)), (htq.2.2 9 (by decide) (by decide))]; exact w))).trans ((if_neg (fun w => z124 (by rw [(htq.2.2 8 (by decide) (by decide)), (htq.2.2 9 (by decide) (by decide))]; exact w))).trans ((if_neg (fun w => z138 (by rw [(htq.2.2 8 (by decide) (by decide)), (htq.2.2 9 (by decide) (by decide))]; exact w))))))))))
                · refine pw_bipush (n := 14) (v := 14) (by decide) (by decide +kernel) ?_
                  refine pw_goto (off := 4) (tgt := 147) (by decide +kernel) (by decide +kernel) ?_
                  refine pq_istore_n (k4 := 1) (Nat.le_of_ble_eq_true rfl) rfl (by decide +kernel) ?_
                  exact h148 (fun w => z6 (by rw [(htq.2.2 8 (by decide) (by decide)), (htq.2.2 9 (by decide) (by decide))]; exact w.1)) (14) (show opA G = 14 from (if_neg (fun w => z53 (by rw [(htq.2.2 8 (by decide) (by decide)), (htq.2.2 9 (by decide) (by decide))]; exact w))).trans ((if_neg (fun w => z66 (by rw [(htq.2.2 8 (by decide) (by decide)), (htq.2.2 9 (by decide) (by decide))]; exact w))).trans ((if_neg (fun w => z78 (by rw [(htq.2.2 8 (by decide) (by decide))]; exact w))).trans ((if_neg (fun w => z96 (by rw [(htq.2.2 8 (by decide) (by decide)), (htq.2.2 9 (by decide) (by decide))]; exact w))).trans ((if_neg (fun w => z110 (by rw [(htq.2.2 8 (by decide) (by decide)), (htq.2.2 9 (by decide) (by decide))]; exact w))).trans ((if_neg (fun w => z124 (by rw [(htq.2.2 8 (by decide) (by decide)), (htq.2.2 9 (by decide) (by decide))]; exact w))).trans ((if_pos (by rw [← (htq.2.2 8 (by decide) (by decide)), ← (htq.2.2 9 (by decide) (by decide))]; exact z138)))))))))
              · refine pw_bipush (n := 13) (v := 13) (by decide) (by decide +kernel) ?_
                refine pw_goto (off := 18) (tgt := 147) (by decide +kernel) (by decide +kernel) ?_
                refine pq_istore_n (k4 := 1) (Nat.le_of_ble_eq_true rfl) rfl (by decide +kernel) ?_
                exact h148 (fun w => z6 (by rw [(htq.2.2 8 (by decide) (by decide)), (htq.2.2 9 (by decide) (by decide))]; exact w.1)) (13) (show opA G = 13 from (if_neg (fun w => z53 (by rw [(htq.2.2 8 (by decide) (by decide)), (htq.2.2 9 (by decide) (by decide))]; exact w))).trans ((if_neg (fun w => z66 (by rw [(htq.2.2 8 (by decide) (by decide)), (htq.2.2 9 (by decide) (by decide))]; exact w))).trans ((if_neg (fun w => z78 (by rw [(htq.2.2 8 (by decide) (by decide))]; exact w))).trans ((if_neg (fun w => z96 (by rw [(htq.2.2 8 (by decide) (by decide)), (htq.2.2 9 (by decide) (by decide))]; exact w))).trans ((if_neg (fun w => z110 (by rw [(htq.2.2 8 (by decide) (by decide)), (htq.2.2 9 (by decide) (by decide))]; exact w))).trans ((if_pos (by rw [← (htq.2.2 8 (by decide) (by decide)), ← (htq.2.2 9 (by decide) (by decide))]; exact z124))))))))
            · refine pw_bipush (n := 12) (v := 12) (by decide) (by decide +kernel) ?_
              refine pw_goto (off := 32) (tgt := 147) (by decide +kernel) (by decide +kernel) ?_
              refine pq_istore_n (k4 := 1) (Nat.le_of_ble_eq_true rfl) rfl (by decide +kernel) ?_
              exact h148 (fun w => z6 (by rw [(htq.2.2 8 (by decide) (by decide)), (htq.2.2 9 (by decide) (by decide))]; exact w.1)) (12) (show opA G = 12 from (if_neg (fun w => z53 (by rw [(htq.2.2 8 (by decide) (by decide)), (htq.2.2 9 (by decide) (by decide))]; exact w))).trans ((if_neg (fun w => z66 (by rw [(htq.2.2 8 (by decide) (by decide)), (htq.2.2 9 (by decide) (by decide))]; exact w))).trans ((if_neg (fun w => z78 (by rw [(htq.2.2 8 (by decide) (by decide))]; exact w))).trans ((if_neg (fun w => z96 (by rw [(htq.2.2 8 (by decide) (by decide)), (htq.2.2 9 (by decide) (by decide))]; exact w))).trans ((if_pos (by rw [← (htq.2.2 8 (by decide) (by decide)), ← (htq.2.2 9 (by decide) (by decide))]; exact z110)))))))
          · refine pw_bipush (n := 11) (v := 11) (by decide) (by decide +kernel) ?_
            refine pw_goto (off := 46) (tgt := 147) (by decide +kernel) (by decide +kernel) ?_
            refine pq_istore_n (k4 := 1) (Nat.le_of_ble_eq_true rfl) rfl (by decide +kernel) ?_
            exact h148 (fun w => z6 (by rw [(htq.2.2 8 (by decide) (by decide)), (htq.2.2 9 (by decide) (by decide))]; exact w.1)) (11) (show opA G = 11 from (if_neg (fun w => z53 (by rw [(htq.2.2 8 (by decide) (by decide)), (htq.2.2 9 (by decide) (by decide))]; exact w))).trans ((if_neg (fun w => z66 (by rw [(htq.2.2 8 (by decide) (by decide)), (htq.2.2 9 (by decide) (by decide))]; exact w))).trans ((if_neg (fun w => z78 (by rw [(htq.2.2 8 (by decide) (by decide))]; exact w))).trans ((if_pos (by rw [← (htq.2.2 8 (by decide) (by decide)), ← (htq.2.2 9 (by decide) (by decide))]; exact z96))))))
        · obtain ⟨v, hv6, hve⟩ := htk.2.2 (by rw [← (htq.2.2 8 (by decide) (by decide))]; exact z78)
          refine pw_iconst (n := 5) (v := 5) (by decide) (by decide +kernel) ?_
          refine pw_aload_n (k4 := 0) rfl (by decide +kernel) ?_
          refine pq_getI (c := 11) (k := 9) (ks_m hA) (by decide) (by decide) lf_Mo_204 (by decide +kernel) ?_
          refine pn_val (nI (v)) (by rw [(htq.2.2 9 (by decide) (by decide))]; exact hve) ?_
          refine pn_iadd 5 v rfl rfl (by decide +kernel) ?_
          refine pw_goto (off := 60) (tgt := 147) (by decide +kernel) (by decide +kernel) ?_
          refine pq_istore_n (k4 := 1) (Nat.le_of_ble_eq_true rfl) rfl (by decide +kernel) ?_
          exact h148 (fun w => z6 (by rw [(htq.2.2 8 (by decide) (by decide)), (htq.2.2 9 (by decide) (by decide))]; exact w.1)) (5 + v) (show opA G = 5 + v from ((if_neg (fun w => z53 (by rw [(htq.2.2 8 (by decide) (by decide)), (htq.2.2 9 (by decide) (by decide))]; exact w))).trans ((if_neg (fun w => z66 (by rw [(htq.2.2 8 (by decide) (by decide)), (htq.2.2 9 (by decide) (by decide))]; exact w))).trans ((if_pos (by rw [← (htq.2.2 8 (by decide) (by decide))]; exact z78))))).trans (by rw [hve, ixn_nI (by omega)]))
      · refine pw_iconst (n := 4) (v := 4) (by decide) (by decide +kernel) ?_
        refine pw_goto (off := 77) (tgt := 147) (by decide +kernel) (by decide +kernel) ?_
        refine pq_istore_n (k4 := 1) (Nat.le_of_ble_eq_true rfl) rfl (by decide +kernel) ?_
        exact h148 (fun w => z6 (by rw [(htq.2.2 8 (by decide) (by decide)), (htq.2.2 9 (by decide) (by decide))]; exact w.1)) (4) (show opA G = 4 from (if_neg (fun w => z53 (by rw [(htq.2.2 8 (by decide) (by decide)), (htq.2.2 9 (by decide) (by decide))]; exact w))).trans ((if_pos (by rw [← (htq.2.2 8 (by decide) (by decide)), ← (htq.2.2 9 (by decide) (by decide))]; exact z66))))
    · refine pw_iconst (n := 3) (v := 3) (by decide) (by decide +kernel) ?_
      refine pw_goto (off := 90) (tgt := 147) (by decide +kernel) (by decide +kernel) ?_
      refine pq_istore_n (k4 := 1) (Nat.le_of_ble_eq_true rfl) rfl (by decide +kernel) ?_
      exact h148 (fun w => z6 (by rw [(htq.2.2 8 (by decide) (by decide)), (htq.2.2 9 (by decide) (by decide))]; exact w.1)) (3) (show opA G = 3 from (if_pos (by rw [← (htq.2.2 8 (by decide) (by decide)), ← (htq.2.2 9 (by decide) (by decide))]; exact z53)))
  · refine pw_aload_n (k4 := 0) rfl (by decide +kernel) ?_
    refine pq_getI (c := 11) (k := 48) (ks_m hA) (by decide) (by decide) lf_Mo_334 (by decide +kernel) ?_
    refine pn_val (nI (br)) (by exact hbr) ?_
    refine pn_if_le (off := 34) (tgt := 47) br rfl (by omega) (by decide +kernel) (by decide +kernel) (fun z13 => ?_) (fun z13 => ?_)
    · refine pw_aload_n (k4 := 0) rfl (by decide +kernel) ?_
      refine pw_bipush (n := 16) (v := 16) (by decide) (by decide +kernel) ?_
      refine pq_callV (ν := m_Mo_isKey) (d' := 0) (av := [_]) (c := 11) (by decide +kernel) lm_Mo_288 ok_Mo_isKey (show _ = some 1 by decide +kernel) (ks_m hA) rfl (by decide) (by omega) (Nat.le_of_ble_eq_true rfl) (ct_Mo_isKey hA _) ?_
      rintro _ _ ⟨rfl, rfl⟩
      refine pn_ifB_eq (off := 7) (tgt := 60) (by decide +kernel) (by decide +kernel) (fun z53 => ?_) (fun z53 => ?_)
      · refine pw_aload_n (k4 := 0) rfl (by decide +kernel) ?_
        refine pw_bipush (n := 17) (v := 17) (by decide) (by decide +kernel) ?_
        refine pq_callV (ν := m_Mo_isKey) (d' := 0) (av := [_]) (c := 11) (by decide +kernel) lm_Mo_288 ok_Mo_isKey (show _ = some 1 by decide +kernel) (ks_m hA) rfl (by decide) (by omega) (Nat.le_of_ble_eq_true rfl) (ct_Mo_isKey hA _) ?_
        rintro _ _ ⟨rfl, rfl⟩
        refine pn_ifB_eq (off := 7) (tgt := 73) (by decide +kernel) (by decide +kernel) (fun z66 => ?_) (fun z66 => ?_)
        · refine pw_aload_n (k4 := 0) rfl (by decide +kernel) ?_
          refine pq_getI (c := 11) (k := 8) (ks_m hA) (by decide) (by decide) lf_Mo_193 (by decide +kernel) ?_
          refine pw_iconst (n := 5) (v := 5) (by decide) (by decide +kernel) ?_
          refine pw_icmp_ne (off := 12) (tgt := 90) (by decide +kernel) (by decide +kernel) (fun z78 => ?_) (fun z78 => ?_)
          · refine pw_aload_n (k4 := 0) rfl (by decide +kernel) ?_
            refine pw_bipush (n := 43) (v := 43) (by decide) (by decide +kernel) ?_
            refine pq_callV (ν := m_Mo_isSign) (d' := 0) (av := [_]) (c := 11) (by decide +kernel) lm_Mo_230 ok_Mo_isSign (show _ = some 1 by decide +kernel) (ks_m hA) rfl (by decide) (by omega) (Nat.le_of_ble_eq_true rfl) (ct_Mo_isSign hA _) ?_
            rintro _ _ ⟨rfl, rfl⟩
            refine pn_ifB_eq (off := 8) (tgt := 104) (by decide +kernel) (by decide +kernel) (fun z96 => ?_) (fun z96 => ?_)
            · refine pw_aload_n (k4 := 0) rfl (by decide +kernel) ?_
              refine pw_bipush (n := 45) (v := 45) (by decide) (by decide +kernel) ?_
              refine pq_callV (ν := m_Mo_isSign) (d' := 0) (av := [_]) (c := 11) (by decide +kernel) lm_Mo_230 ok_Mo_isSign (show _ = some 1 by decide +kernel) (ks_m hA) rfl (by decide) (by omega) (Nat.le_of_ble_eq_true rfl) (ct_Mo_isSign hA _) ?_
              rintro _ _ ⟨rfl, rfl⟩
              refine pn_ifB_eq (off := 8) (tgt := 118) (by decide +kernel) (by decide +kernel) (fun z110 => ?_) (fun z110 => ?_)
              · refine pw_aload_n (k4 := 0) rfl (by decide +kernel) ?_
                refine pw_bipush (n := 42) (v := 42) (by decide) (by decide +kernel) ?_
                refine pq_callV (ν := m_Mo_isSign) (d' := 0) (av := [_]) (c := 11) (by decide +kernel) lm_Mo_230 ok_Mo_isSign (show _ = some 1 by decide +kernel) (ks_m hA) rfl (by decide) (by omega) (Nat.le_of_ble_eq_true rfl) (ct_Mo_isSign hA _) ?_
                rintro _ _ ⟨rfl, rfl⟩
                refine pn_ifB_eq (off := 8) (tgt := 132) (by decide +kernel) (by decide +kernel) (fun z124 => ?_) (fun z124 => ?_)
                · refine pw_aload_n (k4 := 0) rfl (by decide +kernel) ?_
                  refine pw_bipush (n := 47) (v := 47) (by decide) (by decide +kernel) ?_
                  refine pq_callV (ν := m_Mo_isSign) (d' := 0) (av := [_]) (c := 11) (by decide +kernel) lm_Mo_230 ok_Mo_isSign (show _ = some 1 by decide +kernel) (ks_m hA) rfl (by decide) (by omega) (Nat.le_of_ble_eq_true rfl) (ct_Mo_isSign hA _) ?_
                  rintro _ _ ⟨rfl, rfl⟩
                  refine pn_ifB_eq (off := 8) (tgt := 146) (by decide +kernel) (by decide +kernel) (fun z138 => ?_) (fun z138 => ?_)
                  · refine pw_iconst (n := 0) (v := 0) (by decide) (by decide +kernel) ?_
                    refine pq_istore_n (k4 := 1) (Nat.le_of_ble_eq_true rfl) rfl (by decide +kernel) ?_
                    exact h148 (fun w => absurd w.2 (by omega)) (0) (show opA G = 0 from (if_neg (fun w => z53 (by rw [(htq.2.2 8 (by decide) (by decide)), (htq.2.2 9 (by decide) (by decide))]; exact w))).trans ((if_neg (fun w => z66 (by rw [(htq.2.2 8 (by decide) (by decide)), (htq.2.2 9 (by decide) (by decide))]; exact w))).trans ((if_neg (fun w => z78 (by rw [(htq.2.2 8 (by decide) (by decide))]; exact w))).trans ((if_neg (fun w => z96 (by rw [(htq.2.2 8 (by decide) (by decide)), (htq.2.2 9 (by decide) (by decide))]; exact w))).trans ((if_neg (fun w => z110 (by rw [(htq.2.2 8 (by decide) (by decide)), (htq.2.2 9 (by decide) (by decide))]; exact w))).trans ((if_neg (fun w => z124 (by rw [(htq.2.2 8 (by decide) (by decide)), (htq.2.2 9 (by decide) (by decide))]; exact w))).trans ((if_neg (fun w => z138 (by rw [(htq.2.2 8 (by decide) (by decide)), (htq.2.2 9 (by decide) (by decide))]; exact w))))))))))
                  · refine pw_bipush (n := 14) (v := 14) (by decide) (by decide +kernel) ?_
                    refine pw_goto (off := 4) (tgt := 147) (by decide +kernel) (by decide +kernel) ?_
                    refine pq_istore_n (k4 := 1) (Nat.le_of_ble_eq_true rfl) rfl (by decide +kernel) ?_
                    exact h148 (fun w => absurd w.2 (by omega)) (14) (show opA G = 14 from (if_neg (fun w => z53 (by rw [(htq.2.2 8 (by decide) (by decide)), (htq.2.2 9 (by decide) (by decide))]; exact w))).trans ((if_neg (fun w => z66 (by rw [(htq.2.2 8 (by decide) (by decide)), (htq.2.2 9 (by decide) (by decide))]; exact w))).trans ((if_neg (fun w => z78 (by rw [(htq.2.2 8 (by decide) (by decide))]; exact w))).trans ((if_neg (fun w => z96 (by rw [(htq.2.2 8 (by decide) (by decide)), (htq.2.2 9 (by decide) (by decide))]; exact w))).trans ((if_neg (fun w => z110 (by rw [(htq.2.2 8 (by decide) (by decide)), (htq.2.2 9 (by decide) (by decide))]; exact w))).trans ((if_neg (fun w => z124 (by rw [(htq.2.2 8 (by decide) (by decide)), (htq.2.2 9 (by decide) (by decide))]; exact w))).trans ((if_pos (by rw [← (htq.2.2 8 (by decide) (by decide)), ← (htq.2.2 9 (by decide) (by decide))]; exact z138)))))))))
                · refine pw_bipush (n := 13) (v := 13) (by decide) (by decide +kernel) ?_
                  refine pw_goto (off := 18) (tgt := 147) (by decide +kernel) (by decide +kernel) ?_
                  refine pq_istore_n (k4 := 1) (Nat.le_of_ble_eq_true rfl) rfl (by decide +kernel) ?_
                  exact h148 (fun w => absurd w.2 (by omega)) (13) (show opA G = 13 from (if_neg (fun w => z53 (by rw [(htq.2.2 8 (by decide) (by decide)), (htq.2.2 9 (by decide) (by decide))]; exact w))).trans ((if_neg (fun w => z66 (by rw [(htq.2.2 8 (by decide) (by decide)), (htq.2.2 9 (by decide) (by decide))]; exact w))).trans ((if_neg (fun w => z78 (by rw [(htq.2.2 8 (by decide) (by decide))]; exact w))).trans ((if_neg (fun w => z96 (by rw [(htq.2.2 8 (by decide) (by decide)), (htq.2.2 9 (by decide) (by decide))]; exact w))).trans ((if_neg (fun w => z110 (by rw [(htq.2.2 8 (by decide) (by decide)), (htq.2.2 9 (by decide) (by decide))]; exact w))).trans ((if_pos (by rw [← (htq.2.2 8 (by decide) (by decide)), ← (htq.2.2 9 (by decide) (by decide))]; exact z124))))))))
              · refine pw_bipush (n := 12) (v := 12) (by decide) (by decide +kernel) ?_
                refine pw_goto (off := 32) (tgt := 147) (by decide +kernel) (by decide +kernel) ?_
                refine pq_istore_n (k4 := 1) (Nat.le_of_ble_eq_true rfl) rfl (by decide +kernel) ?_
                exact h148 (fun w => absurd w.2 (by omega)) (12) (show opA G = 12 from (if_neg (fun w => z53 (by rw [(htq.2.2 8 (by decide) (by decide)), (htq.2.2 9 (by decide) (by decide))]; exact w))).trans ((if_neg (fun w => z66 (by rw [(htq.2.2 8 (by decide) (by decide)), (htq.2.2 9 (by decide) (by decide))]; exact w))).trans ((if_neg (fun w => z78 (by rw [(htq.2.2 8 (by decide) (by decide))]; exact w))).trans ((if_neg (fun w => z96 (by rw [(htq.2.2 8 (by decide) (by decide)), (htq.2.2 9 (by decide) (by decide))]; exact w))).trans ((if_pos (by rw [← (htq.2.2 8 (by decide) (by decide)), ← (htq.2.2 9 (by decide) (by decide))]; exact z110)))))))
            · refine pw_bipush (n := 11) (v := 11) (by decide) (by decide +kernel) ?_
              refine pw_goto (off := 46) (tgt := 147) (by decide +kernel) (by decide +kernel) ?_
              refine pq_istore_n (k4 := 1) (Nat.le_of_ble_eq_true rfl) rfl (by decide +kernel) ?_
              exact h148 (fun w => absurd w.2 (by omega)) (11) (show opA G = 11 from (if_neg (fun w => z53 (by rw [(htq.2.2 8 (by decide) (by decide)), (htq.2.2 9 (by decide) (by decide))]; exact w))).trans ((if_neg (fun w => z66 (by rw [(htq.2.2 8 (by decide) (by decide)), (htq.2.2 9 (by decide) (by decide))]; exact w))).trans ((if_neg (fun w => z78 (by rw [(htq.2.2 8 (by decide) (by decide))]; exact w))).trans ((if_pos (by rw [← (htq.2.2 8 (by decide) (by decide)), ← (htq.2.2 9 (by decide) (by decide))]; exact z96))))))
          · obtain ⟨v, hv6, hve⟩ := htk.2.2 (by rw [← (htq.2.2 8 (by decide) (by decide))]; exact z78)
            refine pw_iconst (n := 5) (v := 5) (by decide) (by decide +kernel) ?_
            refine pw_aload_n (k4 := 0) rfl (by decide +kernel) ?_
            refine pq_getI (c := 11) (k := 9) (ks_m hA) (by decide) (by decide) lf_Mo_204 (by decide +kernel) ?_
            refine pn_val (nI (v)) (by rw [(htq.2.2 9 (by decide) (by decide))]; exact hve) ?_
            refine pn_iadd 5 v rfl rfl (by decide +kernel) ?_
            refine pw_goto (off := 60) (tgt := 147) (by decide +kernel) (by decide +kernel) ?_
            refine pq_istore_n (k4 := 1) (Nat.le_of_ble_eq_true rfl) rfl (by decide +kernel) ?_
            exact h148 (fun w => absurd w.2 (by omega)) (5 + v) (show opA G = 5 + v from ((if_neg (fun w => z53 (by rw [(htq.2.2 8 (by decide) (by decide)), (htq.2.2 9 (by decide) (by decide))]; exact w))).trans ((if_neg (fun w => z66 (by rw [(htq.2.2 8 (by decide) (by decide)), (htq.2.2 9 (by decide) (by decide))]; exact w))).trans ((if_pos (by rw [← (htq.2.2 8 (by decide) (by decide))]; exact z78))))).trans (by rw [hve, ixn_nI (by omega)]))
        · refine pw_iconst (n := 4) (v := 4) (by decide) (by decide +kernel) ?_
          refine pw_goto (off := 77) (tgt := 147) (by decide +kernel) (by decide +kernel) ?_
          refine pq_istore_n (k4 := 1) (Nat.le_of_ble_eq_true rfl) rfl (by decide +kernel) ?_
          exact h148 (fun w => absurd w.2 (by omega)) (4) (show opA G = 4 from (if_neg (fun w => z53 (by rw [(htq.2.2 8 (by decide) (by decide)), (htq.2.2 9 (by decide) (by decide))]; exact w))).trans ((if_pos (by rw [← (htq.2.2 8 (by decide) (by decide)), ← (htq.2.2 9 (by decide) (by decide))]; exact z66))))
      · refine pw_iconst (n := 3) (v := 3) (by decide) (by decide +kernel) ?_
        refine pw_goto (off := 90) (tgt := 147) (by decide +kernel) (by decide +kernel) ?_
        refine pq_istore_n (k4 := 1) (Nat.le_of_ble_eq_true rfl) rfl (by decide +kernel) ?_
        exact h148 (fun w => absurd w.2 (by omega)) (3) (show opA G = 3 from (if_pos (by rw [← (htq.2.2 8 (by decide) (by decide)), ← (htq.2.2 9 (by decide) (by decide))]; exact z53)))
    · refine pw_aload_n (k4 := 0) rfl (by decide +kernel) ?_
      refine pw_iconst (n := 1) (v := 1) (by decide) (by decide +kernel) ?_
      refine pq_callV (ν := m_Mo_bind) (d' := 1) (av := [_]) (c := 11) (by decide +kernel) lm_Mo_353 ok_Mo_bind (show _ = some 1 by decide +kernel) (ks_m hA) rfl (by decide) (by omega) (Nat.le_of_ble_eq_true rfl) (ct_Mo_bind hA (b0 := b0) (least := 1) (by decide) (by decide) (E := E) (W := W) (by exact hS1) hSn (by omega) (by omega) (by omega)) ?_
      rintro _ _ ⟨rfl, J, S2, rfl, hJS, hJn, hJF⟩
      have hXb := sgX_bind hX0 (l := 1) (by decide) hJS hJn hJF
      have hEl := bindA_len 1 W E
      have hpb := prI_shF hp hJF
      have htb := tq_shF htq hJF
      have hlb := sgX_len hXb
      obtain ⟨W2, hW2⟩ := ((bindA_0 W E hW14).resolve_left (fun w => by omega)).2
      refine pw_aload_n (k4 := 0) rfl (by decide +kernel) ?_
      refine pw_dup rfl (by decide +kernel) ?_
      refine pq_getI (c := 11) (k := 46) (ks_m hA) (by decide) (by decide) lf_Mo_319 (by decide +kernel) ?_
      refine pn_val (nI (W2.length + 1)) (by rw [hJS.2.2.1, hW2]; rfl) ?_
      refine pw_iconst (n := 1) (v := 1) (by decide) (by decide +kernel) ?_
      refine pn_isub (W2.length + 1) 1 rfl rfl (by omega) (by decide +kernel) ?_
      refine pn_val (nI (W2.length)) (by rw [Nat.add_sub_cancel]) ?_
      refine pq_putI (c := 11) (k := 46) (ks_m hA) (by decide) (by decide) lf_Mo_319 (Or.inl rfl) (by decide +kernel) ?_
      refine pw_aload_n (k4 := 0) rfl (by decide +kernel) ?_
      refine pw_dup rfl (by decide +kernel) ?_
      refine pq_getI (c := 11) (k := 48) (ks_m hA) (by decide) (by decide) lf_Mo_334 (by decide +kernel) ?_
      refine pn_val (nI (br)) (by exact (hJF.2.1 48 (by decide)).trans hbr) ?_
      refine pw_iconst (n := 1) (v := 1) (by decide) (by decide +kernel) ?_
      refine pn_isub br 1 rfl rfl (by omega) (by decide +kernel) ?_
      refine pq_putI (c := 11) (k := 48) (ks_m hA) (by decide) (by decide) lf_Mo_334 (Or.inl rfl) (by decide +kernel) ?_
      refine pw_aload_n (k4 := 0) rfl (by decide +kernel) ?_
      refine pq_callV (ν := m_Mo_token) (d' := 1) (av := []) (c := 11) (by decide +kernel) lm_Mo_227 ok_Mo_token (show _ = some 0 by decide +kernel) (ks_m hA) rfl (by decide) (by omega) (Nat.le_of_ble_eq_true rfl) (ct_Mo_tok hA (prI_set (prI_set hpb (by decide) (by decide) _) (by decide) (by decide) _)) ?_
      rintro _ _ ⟨J2, hJ, hpJ, hfJ, rfl, rfl⟩
      refine pw_iconst (n := 1) (v := 1) (by decide) (by decide +kernel) ?_
      exact pq_zret rfl (by decide) (by decide +kernel) ⟨0, (bindA 1 W E).2, (bindA 1 W E).1.tail, false, mn, br - 1, cn, yTok G, _, if_pos ⟨(by rw [← (htq.2.2 8 (by decide) (by decide)), ← (htq.2.2 9 (by decide) (by decide))]; exact z6), by omega⟩, rfl, rfl, hpJ, sgF_prF (((sgF_shF (sgF.rf I _) hJF (Nat.le_refl _)).set (by decide) _).set (by decide) _) hfJ, fun _ => ⟨⟨sgX_prF (by rw [hW2] at hXb ⊢; exact sgX_close hXb) hfJ, (hfJ.2 50 (by decide)).trans ((hJF.2.1 50 (by decide)).trans hwn), (hfJ.2 51 (by decide)).trans ((hJF.2.1 51 (by decide)).trans hmn), hpJ, by rw [← hJ]; exact tq_tok (tq_set (tq_set htb (by decide) _) (by decide) _), tkI_tok hpG⟩, by omega⟩, fun w => absurd rfl w⟩

