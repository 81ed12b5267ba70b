/-! ===== the class: nots of laws beside the machine ===== -/
/-- j nots that wait, j nots that are written -/
def nW : Nat → List Nat → List Nat
  | 0, W => W
  | j + 1, W => 2 :: nW j W
def nE : Nat → List (Nat × Nat) → List (Nat × Nat)
  | 0, E => E
  | j + 1, E => (2, 0) :: nE j E
theorem nE_c (E : List (Nat × Nat)) : ∀ j, nE j ((2, 0) :: E) = (2, 0) :: nE j E
  | 0 => rfl
  | j + 1 => by show (2, 0) :: nE j ((2, 0) :: E) = _; rw [nE_c E j]; rfl
theorem nE_l (E : List (Nat × Nat)) : ∀ j, (nE j E).length = E.length + j
  | 0 => rfl
  | j + 1 => by show (nE j E).length + 1 = _; rw [nE_l E j]; omega
theorem bindA_n {W : List Nat} (hw : rkN (W.headD 0) ≤ 2) : ∀ (j : Nat) (E : List (Nat × Nat)), bindA 3 (nW j W) E = (W, nE j E)
  | 0, E => bindA_hd (show rkN (W.headD 0) < 3 by omega)
  | j + 1, E => by
    show (if 3 ≤ rkN 2 then bindA 3 (nW j W) ((2, 0) :: E) else _) = _
    rw [if_pos (by decide), bindA_n hw j, nE_c]; rfl
theorem nW_hd {W : List Nat} (hw : rkN (W.headD 0) ≤ 2) : ∀ j, rkN ((nW j W).headD 0) ≤ 3
  | 0 => Nat.le_succ_of_le hw
  | j + 1 => by show rkN 2 ≤ 3; decide
theorem rk_not3 (G : Nat → Nat → Int32) : ¬ rkN (opA G) = 3 := by
  rcases opA_3 G with h | h
  · rw [h]; decide
  · unfold rkN
    repeat' split
    all_goals omega
theorem stS_2 {E : List (Nat × Nat)} {W : List Nat} {G : Nat → Nat → Int32} (h : stS 3 E W G) : stS 2 E W G := by
  have := rk_not3 G
  rcases h with h | h | h
  · exact Or.inl h
  · exact Or.inr (Or.inl (by omega))
  · exact Or.inr (Or.inr h)
theorem nots_put {sh : List pSh} {L : Nat → Nat → Int64} {P : Nat → Nat → Option Nat} (hA : kA sh P) {n t b0 : Nat} (ht : t = 3 ∨ t = 30) (hst : P 57 5 = some t) {br j D cn : Nat} {G : Nat → Nat → Int32} {E1 : List (Nat × Nat)} {W : List Nat} {Q : Option Value → pM → Prop} (hj : j ≤ 64) : ∀ (c i : Nat) (I : Nat → Nat → Int32), i + c = j → lvI I G n t b0 (nE i E1) (nW c W) cn → (∀ I', lvI I' G n t b0 (nE j E1) W cn → lvF t (b0 + (nE i E1).length) I I' → I' 57 = I 57 → Q (some (.int 1)) (I', L, P)) → pWn m_Sc_readNots (D + 1) sh Q 48 [some (.ref 57), some (.int (nI br)), some (.int (nI j)), some (.int (nI i))] [] (I, L, P) := by
  refine pDown (fun c => ∀ (i : Nat) (I : Nat → Nat → Int32), i + c = j → lvI I G n t b0 (nE i E1) (nW c W) cn → (∀ I', lvI I' G n t b0 (nE j E1) W cn → lvF t (b0 + (nE i E1).length) I I' → I' 57 = I 57 → Q (some (.int 1)) (I', L, P)) → pWn m_Sc_readNots (D + 1) sh Q 48 [some (.ref 57), some (.int (nI br)), some (.int (nI j)), some (.int (nI i))] [] (I, L, P)) ?_
  intro c ih i I hic h hq
  refine pw_iload_n (k4 := 3) rfl (by decide +kernel) ?_
  refine pw_iload_n (k4 := 2) rfl (by decide +kernel) ?_
  refine pn_icmp_ge (off := 22) (tgt := 72) i j rfl rfl (by omega) (by omega) (by decide +kernel) (by decide +kernel) (fun z50 => ?_) (fun z50 => ?_)
  · have hc0 : c = 0 := by omega
    subst hc0
    have e : i = j := by omega
    subst e
    refine pw_iconst (n := 1) (v := 1) (by decide) (by decide +kernel) ?_
    exact pq_zret rfl (by decide) (by decide +kernel) (hq _ h (lvF.rf t _ _) rfl)
  · obtain ⟨c, rfl⟩ : ∃ c2, c = c2 + 1 := ⟨c - 1, by omega⟩
    refine pw_aload_n (k4 := 0) rfl (by decide +kernel) ?_
    refine pq_getP (c := 4) (k := 5) (ks_sc hA) (by decide) (by decide) hst lf_Sc_18 (by decide +kernel) ?_
    refine pq_getP (c := 7) (k := 18) (ks_t hA ht) (by decide) (by decide) (kp_t_laws hA ht) lf_Sc_174 (by decide +kernel) ?_
    refine pw_bipush (n := 18) (v := 18) (by decide) (by decide +kernel) ?_
    refine pw_iconst (n := 0) (v := 0) (by decide) (by decide +kernel) ?_
    refine pq_callV (ν := m_La_put) (d' := 0) (av := [_, _]) (c := 2) (by decide +kernel) lm_Sc_209 ok_La_put (show _ = some 2 by decide +kernel) (ks_t_laws hA ht) rfl (by decide) (by omega) (Nat.le_of_ble_eq_true rfl) (ct_La_put hA ht (w := b0 + (nE i E1).length) h.2.2.2.1 (by have := h.2.2.2.2.2.1; have := h.2.2.2.2.2.2; omega) _ _) ?_
    rintro _ _ ⟨rfl, rfl⟩
    obtain ⟨q1, q2, q3⟩ := lvI_put (v := 0) (c := 18) ht h (by decide) (by decide) rfl
    refine pn_iinc (i := 3) (n := 1) 1 i rfl rfl (by decide) rfl (by decide +kernel) ?_
    refine pw_goto (off := -21) (tgt := 48) (by decide +kernel) (by decide +kernel) ?_
    exact ih c rfl (i + 1) _ (by omega) q1 (fun I2 a1 a2 a3 => hq I2 a1 (q2.tr a2 (by rw [nE_l, nE_l]; omega)) (a3.trans q3))

set_option maxHeartbeats 8000000 in
theorem ct_Sc_readNots {sh : List pSh} {I : Nat → Nat → Int32} {L : Nat → Nat → Int64} {P : Nat → Nat → Option Nat} (hA : kA sh P) (hrb : P 58 3 = some 2) {n t b0 : Nat} (ht : t = 3 ∨ t = 30) (hst : P 57 5 = some t) {E : List (Nat × Nat)} {W : List Nat} {cn br e : Nat} {G : Nat → Nat → Int32} (hbe : br + e = 8) (h : lvI I G n t b0 E W cn) (hw : rkN (W.headD 0) ≤ 2) (ih3 : lvH sh L P n t b0 3 e 4) : pCn m_Sc_readNots (14 * e + 4 + 5) [.ref 57, .int (nI br)] sh (I, L, P) (lvQ 2 E W true br cn G I L P n t b0) := by
  refine pCn_of (by decide +kernel) (Nat.le_of_ble_eq_true rfl) ?_
  have hL := pDown (fun c => ∀ (j : Nat) (Ij Gj : Nat → Nat → Int32), cn + j + c = 64 → mRn (E, W, true, true, br, cn, G) (E, nW j W, true, true, br, cn + j, Gj) → lvI Ij Gj n t b0 E (nW j W) (cn + j) → lvF t (b0 + E.length) I Ij → Ij 57 = I 57 → pWn m_Sc_readNots (14 * e + 4 + 5) sh (lvQ 2 E W true br cn G I L P n t b0) 2 [some (.ref 57), some (.int (nI br)), some (.int (nI j)), none] [] (Ij, L, P)) (by
    intro c0 ih0 j Ij Gj hj i1 i2 i3 i4
    have ih : ∀ c, c0 = c + 1 → ∀ (j : Nat) (Ij Gj : Nat → Nat → Int32), cn + j + c = 64 → mRn (E, W, true, true, br, cn, G) (E, nW j W, true, true, br, cn + j, Gj) → lvI Ij Gj n t b0 E (nW j W) (cn + j) → lvF t (b0 + E.length) I Ij → Ij 57 = I 57 → pWn m_Sc_readNots (14 * e + 4 + 5) sh (lvQ 2 E W true br cn G I L P n t b0) 2 [some (.ref 57), some (.int (nI br)), some (.int (nI j)), none] [] (Ij, L, P) := ih0
    obtain ⟨c, hc⟩ : ∃ c, c = c0 - 1 := ⟨_, rfl⟩
    obtain ⟨K, hK41, hK, -, K28, -, -, K18, -, -⟩ := rdR_K i2.1
    refine pw_iload_n (k4 := 2) rfl (by decide +kernel) ?_
    refine pw_bipush (n := 64) (v := 64) (by decide) (by decide +kernel) ?_
    refine pn_icmp_gt (off := 30) (tgt := 35) j 64 rfl rfl (by omega) (by omega) (by decide +kernel) (by decide +kernel) (fun z5 => ?_) (fun z5 => ?_)
    · exfalso; omega
    · refine pw_aload_n (k4 := 0) rfl (by decide +kernel) ?_
      refine pq_getP (c := 4) (k := 4) (ks_sc hA) (by decide) (by decide) (kp_sc_reader hA) lf_Sc_12 (by decide +kernel) ?_
      refine pq_getI (c := 3) (k := 0) (ks_re hA) (by decide) (by decide) lf_Sc_45 (by decide +kernel) ?_
      refine pn_val (nI (K)) hK ?_
      refine pw_bipush (n := 18) (v := 18) (by decide) (by decide +kernel) ?_
      refine pn_icmp_ne (off := 18) (tgt := 35) K 18 rfl rfl (by omega) (by omega) (by decide +kernel) (by decide +kernel) (fun z17 => ?_) (fun z17 => ?_)
      · have k18 : ¬ (Gj 134 8 = 1 ∧ Gj 134 9 = 18) := fun w => by have := K18.mp w; omega
        refine pw_aload_n (k4 := 0) rfl (by decide +kernel) ?_
        refine pw_iconst (n := 3) (v := 3) (by decide) (by decide +kernel) ?_
        refine pw_iload_n (k4 := 1) rfl (by decide +kernel) ?_
        refine pq_callV (ν := m_Sc_readLevel) (d' := (14 * e + 4 + 4)) (av := [_, _]) (c := 4) (by decide +kernel) lm_Sc_187 ok_Sc_readLevel (show _ = some 2 by decide +kernel) (ks_sc hA) rfl (by decide) (by omega) (Nat.le_of_ble_eq_true rfl) (ih3 E (nW j W) true (cn + j) br Gj Ij (by omega) i2 (nW_hd hw j) (fun w => absurd w (by decide)) (fun _ w => k18 w.1)) ?_
        rintro _ _ ⟨I38, b38, rfl, rfl, hF38, hT38, hN38⟩
        refine pw_if_ne (off := 5) (tgt := 46) (by decide +kernel) (by decide +kernel) (fun z41 => ?_) (fun z41 => ?_)
        · obtain ⟨E', W', mn', cn', G', E1, m1, m2, m3, m4, m5, m6⟩ := hT38 (bI_1 z41)
          refine pw_iconst (n := 0) (v := 0) (by decide) (by decide +kernel) ?_
          refine pq_istore_n (k4 := 3) (Nat.le_of_ble_eq_true rfl) rfl (by decide +kernel) ?_
          refine nots_put hA ht hst (j := j) (D := 14 * e + 8) (cn := cn') (G := G') (E1 := E1) (W := W) (by omega) j 0 _ (by omega) m4 ?_
          intro I' a1 a2 a3
          exact ⟨I', true, rfl, rfl, (i3.tr hF38 (Nat.le_refl _)).tr a2 (by show _ ≤ b0 + E1.length; omega), fun _ => ⟨E', W', mn', cn', G', nE j E1, i1.tr m1, by rw [← bindA_up (show 3 ≤ 4 by decide), m2]; exact bindA_n hw j E1, stS_2 m3, a1, by rw [nE_l]; omega, by rw [a3, m6]; exact i4⟩, fun q => by cases q⟩
        · have hb := bI_0 (by simpa using z41)
          refine pw_iconst (n := 0) (v := 0) (by decide) (by decide +kernel) ?_
          exact pq_zret rfl (by decide) (by decide +kernel) ⟨_, false, rfl, rfl, i3.tr hF38 (Nat.le_refl _), fun q => (by cases q), fun _ => by
            obtain ⟨f, G', g1, g2, g3⟩ := hN38 hb
            exact ⟨f, G', i1.fl g1, g2, g3⟩⟩
      · have k18 := K18.mpr (by omega)
        have k28 : ¬ (Gj 134 8 = 4 ∧ Gj 134 9 = 40) := fun w => by have := K28.mp w; omega
        refine pw_aload_n (k4 := 0) rfl (by decide +kernel) ?_
        refine pq_callV (ν := m_Sc_takeKnot) (d' := 3) (av := []) (c := 4) (by decide +kernel) lm_Sc_206 ok_Sc_takeKnot (show _ = some 0 by decide +kernel) (ks_sc hA) rfl (by decide) (by omega) (Nat.le_of_ble_eq_true rfl) (ct_Sc_takeKnot hA hrb (J := Gj) i2.1 ht hst i2.2.2.1 i2.2.2.2.2.2.2) ?_
        rintro _ _ ⟨I21, b21, rfl, rfl, hT21, hN21⟩
        refine pw_if_ne (off := 5) (tgt := 29) (by decide +kernel) (by decide +kernel) (fun z24 => ?_) (fun z24 => ?_)
        · obtain ⟨e1, e2, e3⟩ := hT21 (bI_1 z24)
          have hl : leafA E (nW j W) true true br (cn + j) Gj = (0, E, nW (j + 1) W, true, true, br, cn + (j + 1), yTok Gj) := by unfold leafA; rw [if_neg k28, if_pos ⟨k18, rfl⟩, if_neg (by omega)]; rfl
          refine pn_iinc (i := 2) (n := 1) 1 j rfl rfl (by decide) rfl (by decide +kernel) ?_
          refine pw_goto (off := -30) (tgt := 2) (by decide +kernel) (by decide +kernel) ?_
          refine ih c (by omega) (j + 1) I21 (yTok Gj) (by omega) (i1.tr (st_leaf hl)) ⟨e2, by rw [e3 57 (by decide), sI_ne (by omega)]; exact i2.2.1, by rw [e3 _ (by omega), sI_rs]; rfl, by rw [e3 _ (by omega), sI_rd (by decide)]; exact i2.2.2.2.1, cdL_cg i2.2.2.2.2.1 (fun i _ => by rw [e3 (t + 20) (by omega), e3 (t + 21) (by omega), sI_ne (by omega), sI_ne (by omega)]; exact ⟨rfl, rfl⟩), ?_, by omega⟩ (i3.tr (w1 := b0 + E.length) ⟨fun a a1 a2 a3 a4 a5 => by rw [e3 a a2, sI_ne a3], fun i _ => by rw [e3 (t + 20) (by omega), e3 (t + 21) (by omega), sI_ne (by omega), sI_ne (by omega)]; exact ⟨rfl, rfl⟩, gwN_e (by rw [e3 (t + 19) (by omega), sI_rd (by decide)])⟩ (Nat.le_refl _)) (by rw [e3 57 (by decide), sI_ne (by omega)]; exact i4)
          have := i2.2.2.2.2.2.1
          show _ + ((if 2 ≤ 2 then 1 else 0) + opW (nW j W)) = _
          rw [if_pos (by decide)]
          omega
        · obtain ⟨e1, e2⟩ := hN21 (bI_0 (by simpa using z24))
          have hl : leafA E (nW j W) true true br (cn + j) Gj = (2, E, nW j W, true, true, br, cn + j, Gj) := by unfold leafA; rw [if_neg k28, if_pos ⟨k18, rfl⟩, if_pos e1]
          refine pw_iconst (n := 0) (v := 0) (by decide) (by decide +kernel) ?_
          exact pq_zret rfl (by decide) (by decide +kernel) (by rw [e2]; exact lvQ_r (f := 2) ht (i1.fl (st_leafF hl (by decide))) i2.1 i3)
)
  refine pw_iconst (n := 0) (v := 0) (by decide) (by decide +kernel) ?_
  refine pq_istore_n (k4 := 2) (Nat.le_of_ble_eq_true rfl) rfl (by decide +kernel) ?_
  exact hL (64 - cn) 0 I G (by have := h.2.2.2.2.2.2; omega) (mRn.rf _) h (lvF.rf t _ I) rfl

