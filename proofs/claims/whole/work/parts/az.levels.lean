/-! ===== the class: levels of laws beside the machine ===== -/
theorem opW_c {k : Nat} (hk : 2 ≤ k) (W : List Nat) : opW (k :: W) = 1 + opW W := by show (if 2 ≤ k then 1 else 0) + opW W = _; rw [if_pos hk]
theorem lv_knot {I' G' I2 : Nat → Nat → Int32} {n t b0 cn' k w : Nat} {E1 : List (Nat × Nat)} {W : List Nat} (ht : t = 3 ∨ t = 30) (p4 : lvI I' G' n t b0 E1 W cn') (e1 : cn' < 64) (e2 : rdR I2 (yTok G') n) (e3 : ∀ a, a ≠ 58 → I2 a = sI I' (t + 19) 0 (nI (cn' + 1)) a) (hk : 2 ≤ k) : lvI I2 (yTok G') n t b0 E1 (k :: W) (cn' + 1) ∧ lvF t w I' I2 ∧ I2 57 = I' 57 := by
  have a57 : I2 57 = I' 57 := by rw [e3 57 (by decide), sI_ne (by omega)]
  have a20 : I2 (t + 20) = I' (t + 20) := by rw [e3 (t + 20) (by omega), sI_ne (by omega)]
  have a21 : I2 (t + 21) = I' (t + 21) := by rw [e3 (t + 21) (by omega), sI_ne (by omega)]
  have a19 := e3 (t + 19) (by omega)
  refine ⟨⟨e2, by rw [a57]; exact p4.2.1, by rw [a19, sI_rs], by rw [a19, sI_rd (by decide)]; exact p4.2.2.2.1, cdL_cg p4.2.2.2.2.1 (fun i _ => by rw [a20, a21]; exact ⟨rfl, rfl⟩), ?_, by omega⟩, ⟨fun a a1 a2 a3 a4 a5 => by rw [e3 a a2, sI_ne a3], fun i _ => by rw [a20, a21]; exact ⟨rfl, rfl⟩, gwN_e (by rw [a19, sI_rd (by decide)])⟩, a57⟩
  have := p4.2.2.2.2.2.1
  rw [opW_c hk]
  omega
/-- the class stands between two signs of level l, i of them are written -/
def lpI (l i : Nat) (E : List (Nat × Nat)) (W : List Nat) (mn : Bool) (br cn : Nat) (G I : Nat → Nat → Int32) (n t b0 : Nat) (E' : List (Nat × Nat)) (W' : List Nat) (mn' : Bool) (cn' : Nat) (G' : Nat → Nat → Int32) (E1 : List (Nat × Nat)) (I' : Nat → Nat → Int32) : Prop :=
  mRn (E, W, true, mn, br, cn, G) (E', W', false, mn', br, cn', G') ∧ bindA (l + 1) W' E' = (W, E1) ∧ stS (l + 1) E' W' G' ∧ lvI I' G' n t b0 E1 W cn' ∧ E.length ≤ E1.length ∧ I' 57 = I 57 ∧ lvF t (b0 + E.length) I I' ∧ i ≤ cn' ∧ (l = 3 → i = 0 → bindA 5 W' E' = (W, E1)) ∧ (l = 3 → 1 ≤ i → rkN ((bindA 5 W' E').1.headD 0) = 4)
theorem lp_sign {l i : Nat} {E E' E1 : List (Nat × Nat)} {W W' : List Nat} {mn mn' : Bool} {br cn cn' : Nat} {G G' I I' : Nat → Nat → Int32} {n t b0 : Nat} (h : lpI l i E W mn br cn G I n t b0 E' W' mn' cn' G' E1 I') (hw : rkN (W.headD 0) ≤ l) (hi : l = 3 → i = 0) (ho : ¬ opA G' = 0) (hr : rkN (opA G') = l + 1) (h41 : ¬ (G' 134 8 = 4 ∧ G' 134 9 = 41)) : signsA E' W' false mn' br cn' G' = if cn' = 64 then (2, E', W', false, mn', br, cn', G') else (0, E1, opA G' :: W, true, decide (l + 1 < 3), br, cn' + 1, yTok G') := by
  obtain ⟨h1, h2, h3, h4, h5, h6, h7, h8, h9, h10⟩ := h
  unfold signsA
  rw [if_neg (fun w => h41 w.1), if_neg ho]
  have hb : bindA (if rkN (opA G') = 4 then 5 else rkN (opA G')) W' E' = (W, E1) := by
    by_cases c : rkN (opA G') = 4
    · rw [if_pos c]; exact h9 (by omega) (hi (by omega))
    · rw [if_neg c, hr]; exact h2
  have hc : ¬ (rkN (opA G') = 4 ∧ rkN ((bindA 5 W' E').1.headD 0) = 4) := by
    rintro ⟨a, b⟩
    rw [h9 (by omega) (hi (by omega))] at b
    have b' : rkN (W.headD 0) = 4 := b
    omega
  rw [if_neg hc, hb, hr]
set_option maxHeartbeats 8000000 in
theorem ct_Sc_readLevel {sh : List pSh} {L : Nat → Nat → Int64} {P : Nat → Nat → Option Nat} (hA : kA sh P) (hrb : P 58 3 = some 2) {n t b0 : Nat} (ht : t = 3 ∨ t = 30) (hst : P 57 5 = some t) {l e dl dl2 : Nat} (hl6 : l ≤ 6) (hop : l = 6 → 1 ≤ dl) (hno : l = 2 → 6 ≤ dl) (hin : l < 6 → ¬ l = 2 → dl2 + 1 ≤ dl) (ihn : l < 6 → ¬ l = 2 → lvH sh L P n t b0 (l + 1) e dl2) (ih3 : l = 2 → lvH sh L P n t b0 3 e 4) (ih8 : ∀ e1, e = e1 + 1 → lvH sh L P n t b0 0 e1 8) : lvH sh L P n t b0 l e dl := by
  intro E W mn cn br G I hbe h hw hm1 hm2
  refine pCn_of (by decide +kernel) (Nat.le_of_ble_eq_true rfl) ?_
  have hL : l < 6 → ¬ l = 2 → ∀ m, (m = 65 ∨ (l = 3 ∧ m = 1)) → (l = 3 → m = 1) → ∀ c, ∀ (i : Nat) (E' : List (Nat × Nat)) (W' : List Nat) (mn' : Bool) (cn' : Nat) (G' : Nat → Nat → Int32) (E1 : List (Nat × Nat)) (I' : Nat → Nat → Int32) (v5 : Option Value), (v5 = none ∨ ∃ x, v5 = some (.int x)) → i + c = m → lpI l i E W mn br cn G I n t b0 E' W' mn' cn' G' E1 I' → pWn m_Sc_readLevel (14 * e + 4 + dl) sh (lvQ l E W mn br cn G I L P n t b0) 51 [some (.ref 57), some (.int (nI l)), some (.int (nI br)), some (.int (nI m)), some (.int (nI i)), v5] [] (I', L, P) := by
    intro hl6' hl2 m hm65 hm3
    have hd1 := hin hl6' hl2
    refine pDown (fun c => ∀ (i : Nat) (E' : List (Nat × Nat)) (W' : List Nat) (mn' : Bool) (cn' : Nat) (G' : Nat → Nat → Int32) (E1 : List (Nat × Nat)) (I' : Nat → Nat → Int32) (v5 : Option Value), (v5 = none ∨ ∃ x, v5 = some (.int x)) → i + c = m → lpI l i E W mn br cn G I n t b0 E' W' mn' cn' G' E1 I' → pWn m_Sc_readLevel (14 * e + 4 + dl) sh (lvQ l E W mn br cn G I L P n t b0) 51 [some (.ref 57), some (.int (nI l)), some (.int (nI br)), some (.int (nI m)), some (.int (nI i)), v5] [] (I', L, P)) ?_
    intro c ih i E' W' mn' cn' G' E1 I' v5 hv5 hic hp
    obtain ⟨p1, p2, p3, p4, p5, p6, p7, p8, p9, p10⟩ := id hp
    obtain ⟨K, hK41, hK, oK, K28, K29, K27, -, -, -⟩ := rdR_K p4.1
    have hlv := lvK_rk K (by omega)
    rcases hv5 with rfl | ⟨x5, rfl⟩
    · refine pw_iload (i := 4) rfl (by decide +kernel) ?_
      refine pw_iload_n (k4 := 3) rfl (by decide +kernel) ?_
      refine pn_icmp_ge (off := 65) (tgt := 119) i m rfl rfl (by omega) (by omega) (by decide +kernel) (by decide +kernel) (fun z54 => ?_) (fun z54 => ?_)
      · have hi : l = 3 ∧ 1 ≤ i := by
          have := p4.2.2.2.2.2.2
          omega
        have hS : stS l E' W' G' := by
          rcases p3 with q | q | q
          · exact Or.inl q
          · by_cases w : rkN (opA G') = 4
            · exact Or.inr (Or.inr ⟨w, p10 hi.1 hi.2⟩)
            · exact Or.inr (Or.inl (by omega))
          · exact Or.inr (Or.inr q)
        refine pw_iconst (n := 1) (v := 1) (by decide) (by decide +kernel) ?_
        exact pq_zret rfl (by decide) (by decide +kernel) ⟨I', true, rfl, rfl, p7, fun _ => ⟨E', W', mn', cn', G', E1, p1, p2, hS, p4, p5, p6⟩, fun q => by cases q⟩
      · refine pw_aload_n (k4 := 0) rfl (by decide +kernel) ?_
        refine pq_getP (c := 4) (k := 4) (ks_sc hA) (by decide) (by decide) (kp_sc_reader hA) lf_Sc_12 (by decide +kernel) ?_
        refine pq_getI (c := 3) (k := 0) (ks_re hA) (by decide) (by decide) lf_Sc_45 (by decide +kernel) ?_
        refine pn_val (nI (K)) hK ?_
        refine pq_callS (ν := m_Sc_levelOf) (d' := 0) (av := [_]) (by decide +kernel) lm_Sc_203 ok_Sc_levelOf (show _ = some 1 by decide +kernel) (by omega) (Nat.le_of_ble_eq_true rfl) (ct_Sc_levelOf hK41) ?_
        rintro _ _ ⟨rfl, rfl⟩
        refine pw_iload_n (k4 := 1) rfl (by decide +kernel) ?_
        refine pw_icmp_ne (off := 51) (tgt := 119) (by decide +kernel) (by decide +kernel) (fun z68 => ?_) (fun z68 => ?_)
        · have hS : stS l E' W' G' := by
            rcases p3 with q | q | q
            · exact Or.inl q
            · rcases hlv with ⟨q1, q2⟩ | ⟨q1, q2, q3, q4, q5, q6⟩
              · exact Or.inl (oK.trans q1)
              · refine Or.inr (Or.inl ?_)
                rw [oK] at q ⊢
                have : ¬ rkN (opK K) = l + 1 := fun w => z68 (by rw [q4, w]; rfl)
                omega
            · exact Or.inr (Or.inr q)
          refine pw_iconst (n := 1) (v := 1) (by decide) (by decide +kernel) ?_
          exact pq_zret rfl (by decide) (by decide +kernel) ⟨I', true, rfl, rfl, p7, fun _ => ⟨E', W', mn', cn', G', E1, p1, p2, hS, p4, p5, p6⟩, fun q => by cases q⟩
        · have hop : 3 ≤ opK K ∧ opK K ≤ 14 ∧ rkN (opK K) = l + 1 ∧ nI K = nI (cdO (opK K)) := by
            have z := z68
            rcases hlv with ⟨q1, q2⟩ | ⟨q1, q2, q3, q4, q5, q6⟩
            · have qq : ¬ nI l < 0 := nI_pos (by omega)
              rw [← z, q2] at qq; exact absurd (by decide) qq
            · rw [q4, nI_eq (by have := rkN_6 (opK K); omega) (by omega)] at z
              exact ⟨q1, q2, by omega, q5⟩
          have h41 : ¬ (G' 134 8 = 4 ∧ G' 134 9 = 41) := fun w => by
            have := K29.mp w
            subst this
            exact absurd hop.1 (by decide)
          have h59 : ¬ ((G' 134 8 = 4 ∧ G' 134 9 = 59) ∧ br = 0) := fun w => by
            have := K27.mp w.1
            subst this
            exact absurd hop.1 (by decide)
          have hsg := lp_sign hp hw (fun w => by omega) (by rw [oK]; omega) (by rw [oK]; exact hop.2.2.1) h41
          refine pw_aload_n (k4 := 0) rfl (by decide +kernel) ?_
          refine pq_getP (c := 4) (k := 4) (ks_sc hA) (by decide) (by decide) (kp_sc_reader hA) lf_Sc_12 (by decide +kernel) ?_
          refine pq_getI (c := 3) (k := 0) (ks_re hA) (by decide) (by decide) lf_Sc_45 (by decide +kernel) ?_
          refine pn_val (nI (K)) hK ?_
          refine pq_istore (i := 5) (Nat.le_of_ble_eq_true rfl) rfl (by decide +kernel) ?_
          refine pw_aload_n (k4 := 0) rfl (by decide +kernel) ?_
          refine pq_callV (ν := m_Sc_takeKnot) (d' := 3) (av := []) (c := 4) (by decide +kernel) lm_Sc_206 ok_Sc_takeKnot (show _ = some 0 by decide +kernel) (ks_sc hA) rfl (by decide) (by omega) (Nat.le_of_ble_eq_true rfl) (ct_Sc_takeKnot hA hrb (J := G') p4.1 ht hst p4.2.2.1 p4.2.2.2.2.2.2) ?_
          rintro _ _ ⟨I81, b81, rfl, rfl, hT81, hN81⟩
          refine pw_if_eq (off := 14) (tgt := 98) (by decide +kernel) (by decide +kernel) (fun z84 => ?_) (fun z84 => ?_)
          · obtain ⟨e1, e2⟩ := hN81 (bI_0 z84)
            rw [if_pos e1] at hsg
            refine pw_iconst (n := 0) (v := 0) (by decide) (by decide +kernel) ?_
            exact pq_zret rfl (by decide) (by decide +kernel) (by rw [e2]; exact lvQ_r (f := 2) ht (p1.fl (st_signF h59 hsg (by decide))) p4.1 p7)
          · obtain ⟨e1, e2, e3⟩ := hT81 (bI_1 z84)
            rw [if_neg (by omega), oK] at hsg
            obtain ⟨iA, iB, iC⟩ := lv_knot (w := b0 + E.length) ht p4 e1 e2 e3 (Nat.le_trans (by decide) hop.1)
            have fA : lvF t (b0 + E.length) I I81 := p7.tr iB (Nat.le_refl _)
            have f57 : I81 57 = I 57 := iC.trans p6
            refine pw_aload_n (k4 := 0) rfl (by decide +kernel) ?_
            refine pw_iload_n (k4 := 1) rfl (by decide +kernel) ?_
            refine pw_iconst (n := 1) (v := 1) (by decide) (by decide +kernel) ?_
            refine pn_iadd l 1 rfl rfl (by decide +kernel) ?_
            refine pw_iload_n (k4 := 2) rfl (by decide +kernel) ?_
            refine pq_callV (ν := m_Sc_readLevel) (d' := (14 * e + 4 + dl2)) (av := [_, _]) (c := 4) (by decide +kernel) lm_Sc_187 ok_Sc_readLevel (show _ = some 2 by decide +kernel) (ks_sc hA) rfl (by decide) (by omega) (Nat.le_of_ble_eq_true rfl) (ihn hl6' hl2 E1 (opK K :: W) (decide (l + 1 < 3)) (cn' + 1) br (yTok G') I81 (by omega) iA (show rkN (opK K) ≤ l + 1 by omega) (fun w => decide_eq_true (by omega)) (fun w q => absurd (of_decide_eq_true q.2) (by omega))) ?_
            rintro _ _ ⟨I92, b92, rfl, rfl, hF92, hT92, hN92⟩
            refine pw_if_ne (off := 5) (tgt := 100) (by decide +kernel) (by decide +kernel) (fun z95 => ?_) (fun z95 => ?_)
            · obtain ⟨E2', W2', mn2, cn2, G2, E2, m1, m2, m3, m4, m5, m6⟩ := hT92 (bI_1 z95)
              refine pw_aload_n (k4 := 0) rfl (by decide +kernel) ?_
              refine pq_getP (c := 4) (k := 5) (ks_sc hA) (by decide) (by decide) hst lf_Sc_18 (by decide +kernel) ?_
              refine pq_getP (c := 7) (k := 18) (ks_t hA ht) (by decide) (by decide) (kp_t_laws hA ht) lf_Sc_174 (by decide +kernel) ?_
              refine pw_iload (i := 5) rfl (by decide +kernel) ?_
              refine pw_iconst (n := 0) (v := 0) (by decide) (by decide +kernel) ?_
              refine pq_callV (ν := m_La_put) (d' := 0) (av := [_, _]) (c := 2) (by decide +kernel) lm_Sc_209 ok_La_put (show _ = some 2 by decide +kernel) (ks_t_laws hA ht) rfl (by decide) (by omega) (Nat.le_of_ble_eq_true rfl) (ct_La_put hA ht (w := b0 + E2.length) m4.2.2.2.1 (by have := m4.2.2.2.2.2.1; have := m4.2.2.2.2.2.2; omega) _ _) ?_
              rintro _ _ ⟨rfl, rfl⟩
              obtain ⟨r1, r2, r3⟩ := lvI_put (v := 0) (c := nI K) ht m4 (by omega) hop.2.1 hop.2.2.2
              have hcn : i + 1 ≤ cn2 := by
                have a1 := p4.2.2.2.2.2.1
                have a2 := m4.2.2.2.2.2.1
                have a3 : opW (opK K :: W) = 1 + opW W := opW_c (by omega) W
                omega
              refine pn_iinc (i := 4) (n := 1) 1 i rfl rfl (by decide) rfl (by decide +kernel) ?_
              refine pw_goto (off := -65) (tgt := 51) (by decide +kernel) (by decide +kernel) ?_
              refine ih (c - 1) (by omega) (i + 1) E2' W2' mn2 cn2 G2 ((opK K, 0) :: E2) _ _ (Or.inr ⟨_, rfl⟩) (by omega) ⟨(p1.tr (st_sign h59 hsg)).tr m1, bindA_op1 m2 (by omega) (by omega) (by omega), m3, r1, by show _ ≤ E2.length + 1; omega, by rw [r3, m6]; exact f57, (fA.tr hF92 (by omega)).tr r2 (by omega), hcn, fun _ w => absurd w (by omega), fun w _ => by subst w; rw [m2]; exact hop.2.2.1⟩
            · have hb := bI_0 (by simpa using z95)
              refine pw_iconst (n := 0) (v := 0) (by decide) (by decide +kernel) ?_
              exact pq_zret rfl (by decide) (by decide +kernel) ⟨_, false, rfl, rfl, fA.tr hF92 (by omega), fun q => (by cases q), fun _ => by
            obtain ⟨f, G2, g1, g2, g3⟩ := hN92 hb
            exact ⟨f, G2, (p1.tr (st_sign h59 hsg)).fl g1, g2, g3⟩⟩
    · refine pw_iload (i := 4) rfl (by decide +kernel) ?_
      refine pw_iload_n (k4 := 3) rfl (by decide +kernel) ?_
      refine pn_icmp_ge (off := 65) (tgt := 119) i m rfl rfl (by omega) (by omega) (by decide +kernel) (by decide +kernel) (fun z54 => ?_) (fun z54 => ?_)
      · have hi : l = 3 ∧ 1 ≤ i := by
          have := p4.2.2.2.2.2.2
          omega
        have hS : stS l E' W' G' := by
          rcases p3 with q | q | q
          · exact Or.inl q
          · by_cases w : rkN (opA G') = 4
            · exact Or.inr (Or.inr ⟨w, p10 hi.1 hi.2⟩)
            · exact Or.inr (Or.inl (by omega))
          · exact Or.inr (Or.inr q)
        refine pw_iconst (n := 1) (v := 1) (by decide) (by decide +kernel) ?_
        exact pq_zret rfl (by decide) (by decide +kernel) ⟨I', true, rfl, rfl, p7, fun _ => ⟨E', W', mn', cn', G', E1, p1, p2, hS, p4, p5, p6⟩, fun q => by cases q⟩
      · refine pw_aload_n (k4 := 0) rfl (by decide +kernel) ?_
        refine pq_getP (c := 4) (k := 4) (ks_sc hA) (by decide) (by decide) (kp_sc_reader hA) lf_Sc_12 (by decide +kernel) ?_
        refine pq_getI (c := 3) (k := 0) (ks_re hA) (by decide) (by decide) lf_Sc_45 (by decide +kernel) ?_
        refine pn_val (nI (K)) hK ?_
        refine pq_callS (ν := m_Sc_levelOf) (d' := 0) (av := [_]) (by decide +kernel) lm_Sc_203 ok_Sc_levelOf (show _ = some 1 by decide +kernel) (by omega) (Nat.le_of_ble_eq_true rfl) (ct_Sc_levelOf hK41) ?_
        rintro _ _ ⟨rfl, rfl⟩
        refine pw_iload_n (k4 := 1) rfl (by decide +kernel) ?_
        refine pw_icmp_ne (off := 51) (tgt := 119) (by decide +kernel) (by decide +kernel) (fun z68 => ?_) (fun z68 => ?_)
        · have hS : stS l E' W' G' := by
            rcases p3 with q | q | q
            · exact Or.inl q
            · rcases hlv with ⟨q1, q2⟩ | ⟨q1, q2, q3, q4, q5, q6⟩
              · exact Or.inl (oK.trans q1)
              · refine Or.inr (Or.inl ?_)
                rw [oK] at q ⊢
                have : ¬ rkN (opK K) = l + 1 := fun w => z68 (by rw [q4, w]; rfl)
                omega
            · exact Or.inr (Or.inr q)
          refine pw_iconst (n := 1) (v := 1) (by decide) (by decide +kernel) ?_
          exact pq_zret rfl (by decide) (by decide +kernel) ⟨I', true, rfl, rfl, p7, fun _ => ⟨E', W', mn', cn', G', E1, p1, p2, hS, p4, p5, p6⟩, fun q => by cases q⟩
        · have hop : 3 ≤ opK K ∧ opK K ≤ 14 ∧ rkN (opK K) = l + 1 ∧ nI K = nI (cdO (opK K)) := by
            have z := z68
            rcases hlv with ⟨q1, q2⟩ | ⟨q1, q2, q3, q4, q5, q6⟩
            · have qq : ¬ nI l < 0 := nI_pos (by omega)
              rw [← z, q2] at qq; exact absurd (by decide) qq
            · rw [q4, nI_eq (by have := rkN_6 (opK K); omega) (by omega)] at z
              exact ⟨q1, q2, by omega, q5⟩
          have h41 : ¬ (G' 134 8 = 4 ∧ G' 134 9 = 41) := fun w => by
            have := K29.mp w
            subst this
            exact absurd hop.1 (by decide)
          have h59 : ¬ ((G' 134 8 = 4 ∧ G' 134 9 = 59) ∧ br = 0) := fun w => by
            have := K27.mp w.1
            subst this
            exact absurd hop.1 (by decide)
          have hsg := lp_sign hp hw (fun w => by omega) (by rw [oK]; omega) (by rw [oK]; exact hop.2.2.1) h41
          refine pw_aload_n (k4 := 0) rfl (by decide +kernel) ?_
          refine pq_getP (c := 4) (k := 4) (ks_sc hA) (by decide) (by decide) (kp_sc_reader hA) lf_Sc_12 (by decide +kernel) ?_
          refine pq_getI (c := 3) (k := 0) (ks_re hA) (by decide) (by decide) lf_Sc_45 (by decide +kernel) ?_
          refine pn_val (nI (K)) hK ?_
          refine pq_istore (i := 5) (Nat.le_of_ble_eq_true rfl) rfl (by decide +kernel) ?_
          refine pw_aload_n (k4 := 0) rfl (by decide +kernel) ?_
          refine pq_callV (ν := m_Sc_takeKnot) (d' := 3) (av := []) (c := 4) (by decide +kernel) lm_Sc_206 ok_Sc_takeKnot (show _ = some 0 by decide +kernel) (ks_sc hA) rfl (by decide) (by omega) (Nat.le_of_ble_eq_true rfl) (ct_Sc_takeKnot hA hrb (J := G') p4.1 ht hst p4.2.2.1 p4.2.2.2.2.2.2) ?_
          rintro _ _ ⟨I81, b81, rfl, rfl, hT81, hN81⟩
          refine pw_if_eq (off := 14) (tgt := 98) (by decide +kernel) (by decide +kernel) (fun z84 => ?_) (fun z84 => ?_)
          · obtain ⟨e1, e2⟩ := hN81 (bI_0 z84)
            rw [if_pos e1] at hsg
            refine pw_iconst (n := 0) (v := 0) (by decide) (by decide +kernel) ?_
            exact pq_zret rfl (by decide) (by decide +kernel) (by rw [e2]; exact lvQ_r (f := 2) ht (p1.fl (st_signF h59 hsg (by decide))) p4.1 p7)
          · obtain ⟨e1, e2, e3⟩ := hT81 (bI_1 z84)
            rw [if_neg (by omega), oK] at hsg
            obtain ⟨iA, iB, iC⟩ := lv_knot (w := b0 + E.length) ht p4 e1 e2 e3 (Nat.le_trans (by decide) hop.1)
            have fA : lvF t (b0 + E.length) I I81 := p7.tr iB (Nat.le_refl _)
            have f57 : I81 57 = I 57 := iC.trans p6
            refine pw_aload_n (k4 := 0) rfl (by decide +kernel) ?_
            refine pw_iload_n (k4 := 1) rfl (by decide +kernel) ?_
            refine pw_iconst (n := 1) (v := 1) (by decide) (by decide +kernel) ?_
            refine pn_iadd l 1 rfl rfl (by decide +kernel) ?_
            refine pw_iload_n (k4 := 2) rfl (by decide +kernel) ?_
            refine pq_callV (ν := m_Sc_readLevel) (d' := (14 * e + 4 + dl2)) (av := [_, _]) (c := 4) (by decide +kernel) lm_Sc_187 ok_Sc_readLevel (show _ = some 2 by decide +kernel) (ks_sc hA) rfl (by decide) (by omega) (Nat.le_of_ble_eq_true rfl) (ihn hl6' hl2 E1 (opK K :: W) (decide (l + 1 < 3)) (cn' + 1) br (yTok G') I81 (by omega) iA (show rkN (opK K) ≤ l + 1 by omega) (fun w => decide_eq_true (by omega)) (fun w q => absurd (of_decide_eq_true q.2) (by omega))) ?_
            rintro _ _ ⟨I92, b92, rfl, rfl, hF92, hT92, hN92⟩
            refine pw_if_ne (off := 5) (tgt := 100) (by decide +kernel) (by decide +kernel) (fun z95 => ?_) (fun z95 => ?_)
            · obtain ⟨E2', W2', mn2, cn2, G2, E2, m1, m2, m3, m4, m5, m6⟩ := hT92 (bI_1 z95)
              refine pw_aload_n (k4 := 0) rfl (by decide +kernel) ?_
              refine pq_getP (c := 4) (k := 5) (ks_sc hA) (by decide) (by decide) hst lf_Sc_18 (by decide +kernel) ?_
              refine pq_getP (c := 7) (k := 18) (ks_t hA ht) (by decide) (by decide) (kp_t_laws hA ht) lf_Sc_174 (by decide +kernel) ?_
              refine pw_iload (i := 5) rfl (by decide +kernel) ?_
              refine pw_iconst (n := 0) (v := 0) (by decide) (by decide +kernel) ?_
              refine pq_callV (ν := m_La_put) (d' := 0) (av := [_, _]) (c := 2) (by decide +kernel) lm_Sc_209 ok_La_put (show _ = some 2 by decide +kernel) (ks_t_laws hA ht) rfl (by decide) (by omega) (Nat.le_of_ble_eq_true rfl) (ct_La_put hA ht (w := b0 + E2.length) m4.2.2.2.1 (by have := m4.2.2.2.2.2.1; have := m4.2.2.2.2.2.2; omega) _ _) ?_
              rintro _ _ ⟨rfl, rfl⟩
              obtain ⟨r1, r2, r3⟩ := lvI_put (v := 0) (c := nI K) ht m4 (by omega) hop.2.1 hop.2.2.2
              have hcn : i + 1 ≤ cn2 := by
                have a1 := p4.2.2.2.2.2.1
                have a2 := m4.2.2.2.2.2.1
                have a3 : opW (opK K :: W) = 1 + opW W := opW_c (by omega) W
                omega
              refine pn_iinc (i := 4) (n := 1) 1 i rfl rfl (by decide) rfl (by decide +kernel) ?_
              refine pw_goto (off := -65) (tgt := 51) (by decide +kernel) (by decide +kernel) ?_
              refine ih (c - 1) (by omega) (i + 1) E2' W2' mn2 cn2 G2 ((opK K, 0) :: E2) _ _ (Or.inr ⟨_, rfl⟩) (by omega) ⟨(p1.tr (st_sign h59 hsg)).tr m1, bindA_op1 m2 (by omega) (by omega) (by omega), m3, r1, by show _ ≤ E2.length + 1; omega, by rw [r3, m6]; exact f57, (fA.tr hF92 (by omega)).tr r2 (by omega), hcn, fun _ w => absurd w (by omega), fun w _ => by subst w; rw [m2]; exact hop.2.2.1⟩
            · have hb := bI_0 (by simpa using z95)
              refine pw_iconst (n := 0) (v := 0) (by decide) (by decide +kernel) ?_
              exact pq_zret rfl (by decide) (by decide +kernel) ⟨_, false, rfl, rfl, fA.tr hF92 (by omega), fun q => (by cases q), fun _ => by
            obtain ⟨f, G2, g1, g2, g3⟩ := hN92 hb
            exact ⟨f, G2, (p1.tr (st_sign h59 hsg)).fl g1, g2, g3⟩⟩
  refine pw_iload_n (k4 := 1) rfl (by decide +kernel) ?_
  refine pw_bipush (n := 6) (v := 6) (by decide) (by decide +kernel) ?_
  refine pn_icmp_lt (off := 9) (tgt := 12) l 6 rfl rfl (by omega) (by omega) (by decide +kernel) (by decide +kernel) (fun z3 => ?_) (fun z3 => ?_)
  · refine pw_iload_n (k4 := 1) rfl (by decide +kernel) ?_
    refine pw_iconst (n := 2) (v := 2) (by decide) (by decide +kernel) ?_
    refine pn_icmp_ne (off := 9) (tgt := 23) l 2 rfl rfl (by omega) (by omega) (by decide +kernel) (by decide +kernel) (fun z14 => ?_) (fun z14 => ?_)
    · have hl6' : l < 6 := by omega
      have hl2 : ¬ l = 2 := by omega
      refine pw_aload_n (k4 := 0) rfl (by decide +kernel) ?_
      refine pw_iload_n (k4 := 1) rfl (by decide +kernel) ?_
      refine pw_iconst (n := 1) (v := 1) (by decide) (by decide +kernel) ?_
      refine pn_iadd l 1 rfl rfl (by decide +kernel) ?_
      refine pw_iload_n (k4 := 2) rfl (by decide +kernel) ?_
      have hd1 := hin hl6' hl2
      refine pq_callV (ν := m_Sc_readLevel) (d' := (14 * e + 4 + dl2)) (av := [_, _]) (c := 4) (by decide +kernel) lm_Sc_187 ok_Sc_readLevel (show _ = some 2 by decide +kernel) (ks_sc hA) rfl (by decide) (by omega) (Nat.le_of_ble_eq_true rfl) (ihn hl6' hl2 E W mn cn br G I hbe h (by omega) (fun w => hm1 (by omega)) (fun w => hm2 (by omega))) ?_
      rintro _ _ ⟨I28, b28, rfl, rfl, hF28, hT28, hN28⟩
      refine pw_if_ne (off := 5) (tgt := 36) (by decide +kernel) (by decide +kernel) (fun z31 => ?_) (fun z31 => ?_)
      · obtain ⟨E', W', mn', cn', G', E1, m1, m2, m3, m4, m5, m6⟩ := hT28 (bI_1 z31)
        refine pw_iload_n (k4 := 1) rfl (by decide +kernel) ?_
        refine pw_iconst (n := 3) (v := 3) (by decide) (by decide +kernel) ?_
        refine pn_icmp_ne (off := 7) (tgt := 45) l 3 rfl rfl (by omega) (by omega) (by decide +kernel) (by decide +kernel) (fun z38 => ?_) (fun z38 => ?_)
        · refine pw_bipush (n := 65) (v := 65) (by decide) (by decide +kernel) ?_
          refine pq_istore_n (k4 := 3) (Nat.le_of_ble_eq_true rfl) rfl (by decide +kernel) ?_
          refine pw_iconst (n := 0) (v := 0) (by decide) (by decide +kernel) ?_
          refine pq_istore (i := 4) (Nat.le_of_ble_eq_true rfl) rfl (by decide +kernel) ?_
          exact hL hl6' hl2 65 (by omega) (by omega) 65 0 E' W' mn' cn' G' E1 _ _ (Or.inl rfl) (by omega) ⟨m1, bindA_dn m2 (by omega) (by omega), m3, m4, m5, m6, hF28, Nat.zero_le _, fun w _ => by subst w; exact m2, fun _ w => absurd w (by decide)⟩
        · refine pw_iconst (n := 1) (v := 1) (by decide) (by decide +kernel) ?_
          refine pw_goto (off := 5) (tgt := 47) (by decide +kernel) (by decide +kernel) ?_
          refine pq_istore_n (k4 := 3) (Nat.le_of_ble_eq_true rfl) rfl (by decide +kernel) ?_
          refine pw_iconst (n := 0) (v := 0) (by decide) (by decide +kernel) ?_
          refine pq_istore (i := 4) (Nat.le_of_ble_eq_true rfl) rfl (by decide +kernel) ?_
          exact hL hl6' hl2 1 (by omega) (by omega) 1 0 E' W' mn' cn' G' E1 _ _ (Or.inl rfl) (by omega) ⟨m1, bindA_dn m2 (by omega) (by omega), m3, m4, m5, m6, hF28, Nat.zero_le _, fun w _ => by subst w; exact m2, fun _ w => absurd w (by decide)⟩
      · have hb := bI_0 (by simpa using z31)
        refine pw_iconst (n := 0) (v := 0) (by decide) (by decide +kernel) ?_
        exact pq_zret rfl (by decide) (by decide +kernel) ⟨_, false, rfl, rfl, hF28, fun q => (by cases q), fun _ => hN28 hb⟩
    · have hl : l = 2 := by omega
      subst hl
      refine pw_aload_n (k4 := 0) rfl (by decide +kernel) ?_
      refine pw_iload_n (k4 := 2) rfl (by decide +kernel) ?_
      have hd1 := hno rfl
      obtain rfl := hm1 (by decide)
      refine pq_callV (ν := m_Sc_readNots) (d' := (14 * e + 4 + 5)) (av := [_]) (c := 4) (by decide +kernel) lm_Sc_200 ok_Sc_readNots (show _ = some 1 by decide +kernel) (ks_sc hA) rfl (by decide) (by omega) (Nat.le_of_ble_eq_true rfl) (ct_Sc_readNots hA hrb ht hst hbe h hw (ih3 rfl)) ?_
      rintro _ _ ⟨I19, b19, rfl, rfl, x1, x2, x3⟩
      exact pq_zret rfl (bI_z _) (by decide +kernel) ⟨I19, b19, rfl, rfl, x1, x2, x3⟩
  · have hl : l = 6 := by omega
    subst hl
    refine pw_aload_n (k4 := 0) rfl (by decide +kernel) ?_
    refine pw_iload_n (k4 := 2) rfl (by decide +kernel) ?_
    have hd1 := hop rfl
    refine pq_callV (ν := m_Sc_readOperand) (d' := (14 * e + 4)) (av := [_]) (c := 4) (by decide +kernel) lm_Sc_197 ok_Sc_readOperand (show _ = some 1 by decide +kernel) (ks_sc hA) rfl (by decide) (by omega) (Nat.le_of_ble_eq_true rfl) (ct_Sc_readOperand hA hrb ht hst hbe h (hm2 (by decide)) ih8) ?_
    rintro _ _ ⟨I8, b8, rfl, rfl, x1, x2, x3⟩
    exact pq_zret rfl (bI_z _) (by decide +kernel) ⟨I8, b8, rfl, rfl, x1, x2, x3⟩

/-- every level, whatever brackets may still be opened -/
theorem lvl_all {sh : List pSh} {L : Nat → Nat → Int64} {P : Nat → Nat → Option Nat} (hA : kA sh P) (hrb : P 58 3 = some 2) {n t b0 : Nat} (ht : t = 3 ∨ t = 30) (hst : P 57 5 = some t) : ∀ e, lvH sh L P n t b0 0 e 8 := by
  refine pDown (fun e => lvH sh L P n t b0 0 e 8) ?_
  intro e ih
  have ih8 : ∀ e1, e = e1 + 1 → lvH sh L P n t b0 0 e1 8 := ih
  have l6 : lvH sh L P n t b0 6 e 1 := ct_Sc_readLevel hA hrb ht hst (dl2 := 0) (by decide) (fun _ => by decide) (fun w => by omega) (fun w => by omega) (fun w => by omega) (fun w => by omega) ih8
  have l5 : lvH sh L P n t b0 5 e 2 := ct_Sc_readLevel hA hrb ht hst (dl2 := 1) (by decide) (fun w => by omega) (fun w => by omega) (fun _ _ => by decide) (fun _ _ => l6) (fun w => by omega) ih8
  have l4 : lvH sh L P n t b0 4 e 3 := ct_Sc_readLevel hA hrb ht hst (dl2 := 2) (by decide) (fun w => by omega) (fun w => by omega) (fun _ _ => by decide) (fun _ _ => l5) (fun w => by omega) ih8
  have l3 : lvH sh L P n t b0 3 e 4 := ct_Sc_readLevel hA hrb ht hst (dl2 := 3) (by decide) (fun w => by omega) (fun w => by omega) (fun _ _ => by decide) (fun _ _ => l4) (fun w => by omega) ih8
  have l2 : lvH sh L P n t b0 2 e 6 := ct_Sc_readLevel hA hrb ht hst (dl2 := 0) (by decide) (fun w => by omega) (fun _ => by decide) (fun _ w => absurd rfl w) (fun _ w => absurd rfl w) (fun _ => l3) ih8
  have l1 : lvH sh L P n t b0 1 e 7 := ct_Sc_readLevel hA hrb ht hst (dl2 := 6) (by decide) (fun w => by omega) (fun w => by omega) (fun _ _ => by decide) (fun _ _ => l2) (fun w => by omega) ih8
  exact ct_Sc_readLevel hA hrb ht hst (dl2 := 7) (by decide) (fun w => by omega) (fun w => by omega) (fun _ _ => by decide) (fun _ _ => l1) (fun w => by omega) ih8
