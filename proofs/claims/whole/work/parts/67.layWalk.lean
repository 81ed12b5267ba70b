/-! ===== the reference: layWalk, walk ===== -/
def rWk9 (I : Nat → Nat → Int32) (P : Nat → Nat → Option Nat) (p n : Nat) : Option Value → pM → Prop := fun r M => r = none ∧ ∃ ev ws wd L', M = (yWm I ev ws wd, L', P) ∧ ∃ cs, cs < 2 ^ n ∧ ws = yWS I p n cs ∧ wd = nI (wkS cs n n) ∧ ∀ cd, cd < 2 ^ n → yWS I p n cs ≤ yWS I p n cd ∧ (cd < cs → yWS I p n cs < yWS I p n cd)
theorem yBe_w (I : Nat → Nat → Int32) (ev ws wd : Int32) (j p n : Nat) (so : Int32) : yBe (yWm I ev ws wd) j p n so = yBe I j p n so := by
  have h : ∀ k, yUB (yWm I ev ws wd) j p so k = yUB I j p so k := fun k => by
    induction k with
    | zero => rfl
    | succ k ih =>
      unfold yUB
      rw [ih]
      rfl
  unfold yBe
  rw [h]
  rfl

set_option maxHeartbeats 4000000 in
theorem ct_Mo_layWalk {sh : List pSh} {I : Nat → Nat → Int32} {L : Nat → Nat → Int64} {P : Nat → Nat → Option Nat} (hA : kA sh P) (hwf : wfL I) {p n np ns : Nat} (hnp : np ≤ 5) (hns : ns ≤ 16) (hi : mI I 0 np ns) (hp : p < np) (hn8 : n ≤ 8) : pCn m_Mo_layWalk 6 [.ref 134, .int (nI p), .int (nI n)] sh (I, L, P) (rWk9 I P p n) := by
  refine pCn_of (by decide +kernel) (Nat.le_of_ble_eq_true rfl) ?_
  have h256 : 2 ^ n ≤ 2 ^ 8 := Nat.pow_le_pow_right (by decide) hn8
  have h1n : 1 ≤ 2 ^ n := Nat.one_le_two_pow
  have hfl : 0 ≤ I 164 p → ∃ j, j < 16 ∧ I 164 p = nI j := fun w => by
    have hf := (hi.2 p hp).1
    rw [show 5 * 0 + p = p by omega] at hf
    exact ft_j hf hns (Int32.not_lt.mpr w)
  have hfr : 0 ≤ I 165 p → ∃ j, j < 16 ∧ I 165 p = nI j := fun w => by
    have hf := (hi.2 p hp).2
    rw [show 5 * 0 + p = p by omega] at hf
    exact ft_j hf hns (Int32.not_lt.mpr w)
  have hL := pUpTo (2 ^ n) (fun x => ∀ (has ev ws wd : Int32) (L0 : Nat → Nat → Int64), wbf (yWS I p n) (fun cd => wkS cd n n) x has ws wd → pWn m_Mo_layWalk 6 sh (rWk9 I P p n) 5 [some (.ref 134), some (.int (nI p)), some (.int (nI n)), some (.int has), some (.int (nI x)), none, none, none, none] [] (yWm I ev ws wd, L0, P)) (by
    intro x hx ihO has ev ws wd L0 hbf
    have h93 : x < 2 ^ n → pWn m_Mo_layWalk 6 sh (rWk9 I P p n) 93 [some (.ref 134), some (.int (nI p)), some (.int (nI n)), some (.int has), some (.int (nI x)), some (.int (nI (wkS x n n))), some (.int (wkF (I 140 p) x n n)), some (.int (nI n)), none] [] (yWm I ev ws wd, L0, P) := by
      intro hxl
      refine pw_iload (i := 6) rfl (by decide +kernel) ?_
      refine pq_istore (i := 7) (Nat.le_of_ble_eq_true rfl) rfl (by decide +kernel) ?_
      refine pw_aload_n (k4 := 0) rfl (by decide +kernel) ?_
      refine pq_getP (c := 11) (k := 57) (ks_m hA) (by decide) (by decide) (kp_m_leftOn hA) lf_Mo_103 (by decide +kernel) ?_
      refine pw_iload_n (k4 := 1) rfl (by decide +kernel) ?_
      refine pq_iald p rfl (by omega) (by decide) (ks_m_leftOn hA) (by decide +kernel) ?_
      refine pw_if_lt (off := 36) (tgt := 139) (by decide +kernel) (by decide +kernel) (fun z103 => ?_) (fun z103 => ?_)
      · refine pw_aload_n (k4 := 0) rfl (by decide +kernel) ?_
        refine pq_getP (c := 11) (k := 58) (ks_m hA) (by decide) (by decide) (kp_m_rightOn hA) lf_Mo_106 (by decide +kernel) ?_
        refine pw_iload_n (k4 := 1) rfl (by decide +kernel) ?_
        refine pq_iald p rfl (by omega) (by decide) (ks_m_rightOn hA) (by decide +kernel) ?_
        refine pw_if_lt (off := 36) (tgt := 181) (by decide +kernel) (by decide +kernel) (fun z145 => ?_) (fun z145 => ?_)
        · refine pw_iload_n (k4 := 3) rfl (by decide +kernel) ?_
          refine pw_if_eq (off := 15) (tgt := 197) (by decide +kernel) (by decide +kernel) (fun z182 => ?_) (fun z182 => ?_)
          · refine pw_iconst (n := 1) (v := 1) (by decide) (by decide +kernel) ?_
            refine pq_istore_n (k4 := 3) (Nat.le_of_ble_eq_true rfl) rfl (by decide +kernel) ?_
            refine pw_aload_n (k4 := 0) rfl (by decide +kernel) ?_
            refine pw_iload (i := 7) rfl (by decide +kernel) ?_
            refine pq_putI (c := 11) (k := 78) (ks_m hA) (by decide) (by decide) lf_Mo_508 (Or.inl rfl) (by decide +kernel) ?_
            refine pw_aload_n (k4 := 0) rfl (by decide +kernel) ?_
            refine pw_iload (i := 5) rfl (by decide +kernel) ?_
            refine pq_putI (c := 11) (k := 79) (ks_m hA) (by decide) (by decide) lf_Mo_511 (Or.inl rfl) (by decide +kernel) ?_
            refine pn_iinc (i := 4) (n := 1) 1 x rfl rfl (by decide) rfl (by decide +kernel) ?_
            refine pw_goto (off := -209) (tgt := 5) (by decide +kernel) (by decide +kernel) ?_
            rw [yWm_w]
            refine pw_forget [5, 6, 7] (ihO (by omega) 1 ev _ _ L0 ?_)
            rw [← (show yWS I p n x = wkF (I 140 p) x n n from by unfold yWS yFo; rw [if_pos (show I 165 p < 0 from z145), if_pos (show I 164 p < 0 from z103)])]
            exact wbf_new hbf (Or.inl z182)
          · refine pw_iload (i := 7) rfl (by decide +kernel) ?_
            refine pw_aload_n (k4 := 0) rfl (by decide +kernel) ?_
            refine pq_getI (c := 11) (k := 78) (ks_m hA) (by decide) (by decide) lf_Mo_508 (by decide +kernel) ?_
            refine pw_icmp_lt (off := 6) (tgt := 197) (by decide +kernel) (by decide +kernel) (fun z191 => ?_) (fun z191 => ?_)
            · refine pw_iconst (n := 1) (v := 1) (by decide) (by decide +kernel) ?_
              refine pq_istore_n (k4 := 3) (Nat.le_of_ble_eq_true rfl) rfl (by decide +kernel) ?_
              refine pw_aload_n (k4 := 0) rfl (by decide +kernel) ?_
              refine pw_iload (i := 7) rfl (by decide +kernel) ?_
              refine pq_putI (c := 11) (k := 78) (ks_m hA) (by decide) (by decide) lf_Mo_508 (Or.inl rfl) (by decide +kernel) ?_
              refine pw_aload_n (k4 := 0) rfl (by decide +kernel) ?_
              refine pw_iload (i := 5) rfl (by decide +kernel) ?_
              refine pq_putI (c := 11) (k := 79) (ks_m hA) (by decide) (by decide) lf_Mo_511 (Or.inl rfl) (by decide +kernel) ?_
              refine pn_iinc (i := 4) (n := 1) 1 x rfl rfl (by decide) rfl (by decide +kernel) ?_
              refine pw_goto (off := -209) (tgt := 5) (by decide +kernel) (by decide +kernel) ?_
              rw [yWm_w]
              refine pw_forget [5, 6, 7] (ihO (by omega) 1 ev _ _ L0 ?_)
              have z191 : _ < ws := z191
              rw [← (show yWS I p n x = wkF (I 140 p) x n n from by unfold yWS yFo; rw [if_pos (show I 165 p < 0 from z145), if_pos (show I 164 p < 0 from z103)])] at z191 ⊢
              exact wbf_new hbf (Or.inr z191)
            · refine pw_goto (off := 17) (tgt := 211) (by decide +kernel) (by decide +kernel) ?_
              refine pn_iinc (i := 4) (n := 1) 1 x rfl rfl (by decide) rfl (by decide +kernel) ?_
              refine pw_goto (off := -209) (tgt := 5) (by decide +kernel) (by decide +kernel) ?_
              refine pw_forget [5, 6, 7] (ihO (by omega) has ev ws wd L0 ?_)
              have z191 : ¬ _ < ws := z191
              rw [← (show yWS I p n x = wkF (I 140 p) x n n from by unfold yWS yFo; rw [if_pos (show I 165 p < 0 from z145), if_pos (show I 164 p < 0 from z103)])] at z191
              exact wbf_old hbf z182 (Int32.not_lt.mp z191)
        · obtain ⟨jr, hjr, hjre⟩ := hfr (Int32.not_lt.mp (show ¬ I 165 p < 0 from z145))
          refine pw_iload (i := 7) rfl (by decide +kernel) ?_
          refine pw_aload_n (k4 := 0) rfl (by decide +kernel) ?_
          refine pw_aload_n (k4 := 0) rfl (by decide +kernel) ?_
          refine pq_getP (c := 11) (k := 58) (ks_m hA) (by decide) (by decide) (kp_m_rightOn hA) lf_Mo_106 (by decide +kernel) ?_
          refine pw_iload_n (k4 := 1) rfl (by decide +kernel) ?_
          refine pq_iald p rfl (by omega) (by decide) (ks_m_rightOn hA) (by decide +kernel) ?_
          refine pn_val (nI (jr)) hjre ?_
          refine pw_iload_n (k4 := 1) rfl (by decide +kernel) ?_
          refine pw_iload_n (k4 := 2) rfl (by decide +kernel) ?_
          refine pw_iconst (n := 0) (v := 0) (by decide) (by decide +kernel) ?_
          refine pq_callV (ν := m_Mo_worthBehind) (d' := 5) (av := [_, _, _, _]) (c := 11) (by decide +kernel) lm_Mo_505 ok_Mo_worthBehind (show _ = some 4 by decide +kernel) (ks_m hA) rfl (by decide) (by omega) (Nat.le_of_ble_eq_true rfl) (ct_Mo_worthBehind hA (by exact hwf) (j := jr) (p := p) (n := n) (by omega) (by omega) (by omega) _) ?_
          rintro _ _ ⟨rfl, ev3, L3, rfl, hL3⟩
          rw [yWm_e, yBe_w]
          refine pw_aload_n (k4 := 0) rfl (by decide +kernel) ?_
          refine pw_aload_n (k4 := 0) rfl (by decide +kernel) ?_
          refine pq_getP (c := 11) (k := 58) (ks_m hA) (by decide) (by decide) (kp_m_rightOn hA) lf_Mo_106 (by decide +kernel) ?_
          refine pw_iload_n (k4 := 1) rfl (by decide +kernel) ?_
          refine pq_iald p rfl (by omega) (by decide) (ks_m_rightOn hA) (by decide +kernel) ?_
          refine pn_val (nI (jr)) hjre ?_
          refine pw_iload_n (k4 := 1) rfl (by decide +kernel) ?_
          refine pw_iload_n (k4 := 2) rfl (by decide +kernel) ?_
          refine pw_iload (i := 5) rfl (by decide +kernel) ?_
          refine pq_callV (ν := m_Mo_worthBehind) (d' := 5) (av := [_, _, _, _]) (c := 11) (by decide +kernel) lm_Mo_505 ok_Mo_worthBehind (show _ = some 4 by decide +kernel) (ks_m hA) rfl (by decide) (by omega) (Nat.le_of_ble_eq_true rfl) (ct_Mo_worthBehind hA (by exact hwf) (j := jr) (p := p) (n := n) (by omega) (by omega) (by omega) _) ?_
          rintro _ _ ⟨rfl, ev4, L4, rfl, hL4⟩
          rw [yWm_e, yBe_w]
          refine pw_isub (by decide +kernel) ?_
          refine pw_iadd (by decide +kernel) ?_
          refine pq_istore (i := 7) (Nat.le_of_ble_eq_true rfl) rfl (by decide +kernel) ?_
          refine pw_iload_n (k4 := 3) rfl (by decide +kernel) ?_
          refine pw_if_eq (off := 15) (tgt := 197) (by decide +kernel) (by decide +kernel) (fun z182 => ?_) (fun z182 => ?_)
          · refine pw_iconst (n := 1) (v := 1) (by decide) (by decide +kernel) ?_
            refine pq_istore_n (k4 := 3) (Nat.le_of_ble_eq_true rfl) rfl (by decide +kernel) ?_
            refine pw_aload_n (k4 := 0) rfl (by decide +kernel) ?_
            refine pw_iload (i := 7) rfl (by decide +kernel) ?_
            refine pq_putI (c := 11) (k := 78) (ks_m hA) (by decide) (by decide) lf_Mo_508 (Or.inl rfl) (by decide +kernel) ?_
            refine pw_aload_n (k4 := 0) rfl (by decide +kernel) ?_
            refine pw_iload (i := 5) rfl (by decide +kernel) ?_
            refine pq_putI (c := 11) (k := 79) (ks_m hA) (by decide) (by decide) lf_Mo_511 (Or.inl rfl) (by decide +kernel) ?_
            refine pn_iinc (i := 4) (n := 1) 1 x rfl rfl (by decide) rfl (by decide +kernel) ?_
            refine pw_goto (off := -209) (tgt := 5) (by decide +kernel) (by decide +kernel) ?_
            rw [yWm_w]
            refine pw_forget [5, 6, 7] (ihO (by omega) 1 ev4 _ _ L4 ?_)
            rw [← (show yWS I p n x = wkF (I 140 p) x n n + (yBe I jr p n 0 - yBe I jr p n (nI (wkS x n n))) from by unfold yWS yFo; rw [if_neg (show ¬ I 165 p < 0 from z145), if_pos (show I 164 p < 0 from z103), hjre, ixn_nI (by omega)])]
            exact wbf_new hbf (Or.inl z182)
          · refine pw_iload (i := 7) rfl (by decide +kernel) ?_
            refine pw_aload_n (k4 := 0) rfl (by decide +kernel) ?_
            refine pq_getI (c := 11) (k := 78) (ks_m hA) (by decide) (by decide) lf_Mo_508 (by decide +kernel) ?_
            refine pw_icmp_lt (off := 6) (tgt := 197) (by decide +kernel) (by decide +kernel) (fun z191 => ?_) (fun z191 => ?_)
            · refine pw_iconst (n := 1) (v := 1) (by decide) (by decide +kernel) ?_
              refine pq_istore_n (k4 := 3) (Nat.le_of_ble_eq_true rfl) rfl (by decide +kernel) ?_
              refine pw_aload_n (k4 := 0) rfl (by decide +kernel) ?_
              refine pw_iload (i := 7) rfl (by decide +kernel) ?_
              refine pq_putI (c := 11) (k := 78) (ks_m hA) (by decide) (by decide) lf_Mo_508 (Or.inl rfl) (by decide +kernel) ?_
              refine pw_aload_n (k4 := 0) rfl (by decide +kernel) ?_
              refine pw_iload (i := 5) rfl (by decide +kernel) ?_
              refine pq_putI (c := 11) (k := 79) (ks_m hA) (by decide) (by decide) lf_Mo_511 (Or.inl rfl) (by decide +kernel) ?_
              refine pn_iinc (i := 4) (n := 1) 1 x rfl rfl (by decide) rfl (by decide +kernel) ?_
              refine pw_goto (off := -209) (tgt := 5) (by decide +kernel) (by decide +kernel) ?_
              rw [yWm_w]
              refine pw_forget [5, 6, 7] (ihO (by omega) 1 ev4 _ _ L4 ?_)
              have z191 : _ < ws := z191
              rw [← (show yWS I p n x = wkF (I 140 p) x n n + (yBe I jr p n 0 - yBe I jr p n (nI (wkS x n n))) from by unfold yWS yFo; rw [if_neg (show ¬ I 165 p < 0 from z145), if_pos (show I 164 p < 0 from z103), hjre, ixn_nI (by omega)])] at z191 ⊢
              exact wbf_new hbf (Or.inr z191)
            · refine pw_goto (off := 17) (tgt := 211) (by decide +kernel) (by decide +kernel) ?_
              refine pn_iinc (i := 4) (n := 1) 1 x rfl rfl (by decide) rfl (by decide +kernel) ?_
              refine pw_goto (off := -209) (tgt := 5) (by decide +kernel) (by decide +kernel) ?_
              refine pw_forget [5, 6, 7] (ihO (by omega) has ev4 ws wd L4 ?_)
              have z191 : ¬ _ < ws := z191
              rw [← (show yWS I p n x = wkF (I 140 p) x n n + (yBe I jr p n 0 - yBe I jr p n (nI (wkS x n n))) from by unfold yWS yFo; rw [if_neg (show ¬ I 165 p < 0 from z145), if_pos (show I 164 p < 0 from z103), hjre, ixn_nI (by omega)])] at z191
              exact wbf_old hbf z182 (Int32.not_lt.mp z191)
      · obtain ⟨jl, hjl, hjle⟩ := hfl (Int32.not_lt.mp (show ¬ I 164 p < 0 from z103))
        refine pw_iload (i := 7) rfl (by decide +kernel) ?_
        refine pw_aload_n (k4 := 0) rfl (by decide +kernel) ?_
        refine pw_aload_n (k4 := 0) rfl (by decide +kernel) ?_
        refine pq_getP (c := 11) (k := 57) (ks_m hA) (by decide) (by decide) (kp_m_leftOn hA) lf_Mo_103 (by decide +kernel) ?_
        refine pw_iload_n (k4 := 1) rfl (by decide +kernel) ?_
        refine pq_iald p rfl (by omega) (by decide) (ks_m_leftOn hA) (by decide +kernel) ?_
        refine pn_val (nI (jl)) hjle ?_
        refine pw_iload_n (k4 := 1) rfl (by decide +kernel) ?_
        refine pw_iload_n (k4 := 2) rfl (by decide +kernel) ?_
        refine pw_iconst (n := 0) (v := 0) (by decide) (by decide +kernel) ?_
        refine pq_callV (ν := m_Mo_worthBehind) (d' := 5) (av := [_, _, _, _]) (c := 11) (by decide +kernel) lm_Mo_505 ok_Mo_worthBehind (show _ = some 4 by decide +kernel) (ks_m hA) rfl (by decide) (by omega) (Nat.le_of_ble_eq_true rfl) (ct_Mo_worthBehind hA (by exact hwf) (j := jl) (p := p) (n := n) (by omega) (by omega) (by omega) _) ?_
        rintro _ _ ⟨rfl, ev1, L1, rfl, hL1⟩
        rw [yWm_e, yBe_w]
        refine pw_aload_n (k4 := 0) rfl (by decide +kernel) ?_
        refine pw_aload_n (k4 := 0) rfl (by decide +kernel) ?_
        refine pq_getP (c := 11) (k := 57) (ks_m hA) (by decide) (by decide) (kp_m_leftOn hA) lf_Mo_103 (by decide +kernel) ?_
        refine pw_iload_n (k4 := 1) rfl (by decide +kernel) ?_
        refine pq_iald p rfl (by omega) (by decide) (ks_m_leftOn hA) (by decide +kernel) ?_
        refine pn_val (nI (jl)) hjle ?_
        refine pw_iload_n (k4 := 1) rfl (by decide +kernel) ?_
        refine pw_iload_n (k4 := 2) rfl (by decide +kernel) ?_
        refine pw_iload (i := 5) rfl (by decide +kernel) ?_
        refine pq_callV (ν := m_Mo_worthBehind) (d' := 5) (av := [_, _, _, _]) (c := 11) (by decide +kernel) lm_Mo_505 ok_Mo_worthBehind (show _ = some 4 by decide +kernel) (ks_m hA) rfl (by decide) (by omega) (Nat.le_of_ble_eq_true rfl) (ct_Mo_worthBehind hA (by exact hwf) (j := jl) (p := p) (n := n) (by omega) (by omega) (by omega) _) ?_
        rintro _ _ ⟨rfl, ev2, L2, rfl, hL2⟩
        rw [yWm_e, yBe_w]
        refine pw_isub (by decide +kernel) ?_
        refine pw_iadd (by decide +kernel) ?_
        refine pq_istore (i := 7) (Nat.le_of_ble_eq_true rfl) rfl (by decide +kernel) ?_
        refine pw_aload_n (k4 := 0) rfl (by decide +kernel) ?_
        refine pq_getP (c := 11) (k := 58) (ks_m hA) (by decide) (by decide) (kp_m_rightOn hA) lf_Mo_106 (by decide +kernel) ?_
        refine pw_iload_n (k4 := 1) rfl (by decide +kernel) ?_
        refine pq_iald p rfl (by omega) (by decide) (ks_m_rightOn hA) (by decide +kernel) ?_
        refine pw_if_lt (off := 36) (tgt := 181) (by decide +kernel) (by decide +kernel) (fun z145 => ?_) (fun z145 => ?_)
        · refine pw_iload_n (k4 := 3) rfl (by decide +kernel) ?_
          refine pw_if_eq (off := 15) (tgt := 197) (by decide +kernel) (by decide +kernel) (fun z182 => ?_) (fun z182 => ?_)
          · refine pw_iconst (n := 1) (v := 1) (by decide) (by decide +kernel) ?_
            refine pq_istore_n (k4 := 3) (Nat.le_of_ble_eq_true rfl) rfl (by decide +kernel) ?_
            refine pw_aload_n (k4 := 0) rfl (by decide +kernel) ?_
            refine pw_iload (i := 7) rfl (by decide +kernel) ?_
            refine pq_putI (c := 11) (k := 78) (ks_m hA) (by decide) (by decide) lf_Mo_508 (Or.inl rfl) (by decide +kernel) ?_
            refine pw_aload_n (k4 := 0) rfl (by decide +kernel) ?_
            refine pw_iload (i := 5) rfl (by decide +kernel) ?_
            refine pq_putI (c := 11) (k := 79) (ks_m hA) (by decide) (by decide) lf_Mo_511 (Or.inl rfl) (by decide +kernel) ?_
            refine pn_iinc (i := 4) (n := 1) 1 x rfl rfl (by decide) rfl (by decide +kernel) ?_
            refine pw_goto (off := -209) (tgt := 5) (by decide +kernel) (by decide +kernel) ?_
            rw [yWm_w]
            refine pw_forget [5, 6, 7] (ihO (by omega) 1 ev2 _ _ L2 ?_)
            rw [← (show yWS I p n x = wkF (I 140 p) x n n + (yBe I jl p n 0 - yBe I jl p n (nI (wkS x n n))) from by unfold yWS yFo; rw [if_pos (show I 165 p < 0 from z145), if_neg (show ¬ I 164 p < 0 from z103), hjle, ixn_nI (by omega)])]
            exact wbf_new hbf (Or.inl z182)
          · refine pw_iload (i := 7) rfl (by decide +kernel) ?_
            refine pw_aload_n (k4 := 0) rfl (by decide +kernel) ?_
            refine pq_getI (c := 11) (k := 78) (ks_m hA) (by decide) (by decide) lf_Mo_508 (by decide +kernel) ?_
            refine pw_icmp_lt (off := 6) (tgt := 197) (by decide +kernel) (by decide +kernel) (fun z191 => ?_) (fun z191 => ?_)
            · refine pw_iconst (n := 1) (v := 1) (by decide) (by decide +kernel) ?_
              refine pq_istore_n (k4 := 3) (Nat.le_of_ble_eq_true rfl) rfl (by decide +kernel) ?_
              refine pw_aload_n (k4 := 0) rfl (by decide +kernel) ?_
              refine pw_iload (i := 7) rfl (by decide +kernel) ?_
              refine pq_putI (c := 11) (k := 78) (ks_m hA) (by decide) (by decide) lf_Mo_508 (Or.inl rfl) (by decide +kernel) ?_
              refine pw_aload_n (k4 := 0) rfl (by decide +kernel) ?_
              refine pw_iload (i := 5) rfl (by decide +kernel) ?_
              refine pq_putI (c := 11) (k := 79) (ks_m hA) (by decide) (by decide) lf_Mo_511 (Or.inl rfl) (by decide +kernel) ?_
              refine pn_iinc (i := 4) (n := 1) 1 x rfl rfl (by decide) rfl (by decide +kernel) ?_
              refine pw_goto (off := -209) (tgt := 5) (by decide +kernel) (by decide +kernel) ?_
              rw [yWm_w]
              refine pw_forget [5, 6, 7] (ihO (by omega) 1 ev2 _ _ L2 ?_)
              have z191 : _ < ws := z191
              rw [← (show yWS I p n x = wkF (I 140 p) x n n + (yBe I jl p n 0 - yBe I jl p n (nI (wkS x n n))) from by unfold yWS yFo; rw [if_pos (show I 165 p < 0 from z145), if_neg (show ¬ I 164 p < 0 from z103), hjle, ixn_nI (by omega)])] at z191 ⊢
              exact wbf_new hbf (Or.inr z191)
            · refine pw_goto (off := 17) (tgt := 211) (by decide +kernel) (by decide +kernel) ?_
              refine pn_iinc (i := 4) (n := 1) 1 x rfl rfl (by decide) rfl (by decide +kernel) ?_
              refine pw_goto (off := -209) (tgt := 5) (by decide +kernel) (by decide +kernel) ?_
              refine pw_forget [5, 6, 7] (ihO (by omega) has ev2 ws wd L2 ?_)
              have z191 : ¬ _ < ws := z191
              rw [← (show yWS I p n x = wkF (I 140 p) x n n + (yBe I jl p n 0 - yBe I jl p n (nI (wkS x n n))) from by unfold yWS yFo; rw [if_pos (show I 165 p < 0 from z145), if_neg (show ¬ I 164 p < 0 from z103), hjle, ixn_nI (by omega)])] at z191
              exact wbf_old hbf z182 (Int32.not_lt.mp z191)
        · obtain ⟨jr, hjr, hjre⟩ := hfr (Int32.not_lt.mp (show ¬ I 165 p < 0 from z145))
          refine pw_iload (i := 7) rfl (by decide +kernel) ?_
          refine pw_aload_n (k4 := 0) rfl (by decide +kernel) ?_
          refine pw_aload_n (k4 := 0) rfl (by decide +kernel) ?_
          refine pq_getP (c := 11) (k := 58) (ks_m hA) (by decide) (by decide) (kp_m_rightOn hA) lf_Mo_106 (by decide +kernel) ?_
          refine pw_iload_n (k4 := 1) rfl (by decide +kernel) ?_
          refine pq_iald p rfl (by omega) (by decide) (ks_m_rightOn hA) (by decide +kernel) ?_
          refine pn_val (nI (jr)) hjre ?_
          refine pw_iload_n (k4 := 1) rfl (by decide +kernel) ?_
          refine pw_iload_n (k4 := 2) rfl (by decide +kernel) ?_
          refine pw_iconst (n := 0) (v := 0) (by decide) (by decide +kernel) ?_
          refine pq_callV (ν := m_Mo_worthBehind) (d' := 5) (av := [_, _, _, _]) (c := 11) (by decide +kernel) lm_Mo_505 ok_Mo_worthBehind (show _ = some 4 by decide +kernel) (ks_m hA) rfl (by decide) (by omega) (Nat.le_of_ble_eq_true rfl) (ct_Mo_worthBehind hA (by exact hwf) (j := jr) (p := p) (n := n) (by omega) (by omega) (by omega) _) ?_
          rintro _ _ ⟨rfl, ev3, L3, rfl, hL3⟩
          rw [yWm_e, yBe_w]
          refine pw_aload_n (k4 := 0) rfl (by decide +kernel) ?_
          refine pw_aload_n (k4 := 0) rfl (by decide +kernel) ?_
          refine pq_getP (c := 11) (k := 58) (ks_m hA) (by decide) (by decide) (kp_m_rightOn hA) lf_Mo_106 (by decide +kernel) ?_
          refine pw_iload_n (k4 := 1) rfl (by decide +kernel) ?_
          refine pq_iald p rfl (by omega) (by decide) (ks_m_rightOn hA) (by decide +kernel) ?_
          refine pn_val (nI (jr)) hjre ?_
          refine pw_iload_n (k4 := 1) rfl (by decide +kernel) ?_
          refine pw_iload_n (k4 := 2) rfl (by decide +kernel) ?_
          refine pw_iload (i := 5) rfl (by decide +kernel) ?_
          refine pq_callV (ν := m_Mo_worthBehind) (d' := 5) (av := [_, _, _, _]) (c := 11) (by decide +kernel) lm_Mo_505 ok_Mo_worthBehind (show _ = some 4 by decide +kernel) (ks_m hA) rfl (by decide) (by omega) (Nat.le_of_ble_eq_true rfl) (ct_Mo_worthBehind hA (by exact hwf) (j := jr) (p := p) (n := n) (by omega) (by omega) (by omega) _) ?_
          rintro _ _ ⟨rfl, ev4, L4, rfl, hL4⟩
          rw [yWm_e, yBe_w]
          refine pw_isub (by decide +kernel) ?_
          refine pw_iadd (by decide +kernel) ?_
          refine pq_istore (i := 7) (Nat.le_of_ble_eq_true rfl) rfl (by decide +kernel) ?_
          refine pw_iload_n (k4 := 3) rfl (by decide +kernel) ?_
          refine pw_if_eq (off := 15) (tgt := 197) (by decide +kernel) (by decide +kernel) (fun z182 => ?_) (fun z182 => ?_)
          · refine pw_iconst (n := 1) (v := 1) (by decide) (by decide +kernel) ?_
            refine pq_istore_n (k4 := 3) (Nat.le_of_ble_eq_true rfl) rfl (by decide +kernel) ?_
            refine pw_aload_n (k4 := 0) rfl (by decide +kernel) ?_
            refine pw_iload (i := 7) rfl (by decide +kernel) ?_
            refine pq_putI (c := 11) (k := 78) (ks_m hA) (by decide) (by decide) lf_Mo_508 (Or.inl rfl) (by decide +kernel) ?_
            refine pw_aload_n (k4 := 0) rfl (by decide +kernel) ?_
            refine pw_iload (i := 5) rfl (by decide +kernel) ?_
            refine pq_putI (c := 11) (k := 79) (ks_m hA) (by decide) (by decide) lf_Mo_511 (Or.inl rfl) (by decide +kernel) ?_
            refine pn_iinc (i := 4) (n := 1) 1 x rfl rfl (by decide) rfl (by decide +kernel) ?_
            refine pw_goto (off := -209) (tgt := 5) (by decide +kernel) (by decide +kernel) ?_
            rw [yWm_w]
            refine pw_forget [5, 6, 7] (ihO (by omega) 1 ev4 _ _ L4 ?_)
            rw [← (show yWS I p n x = wkF (I 140 p) x n n + (yBe I jl p n 0 - yBe I jl p n (nI (wkS x n n))) + (yBe I jr p n 0 - yBe I jr p n (nI (wkS x n n))) from by unfold yWS yFo; rw [if_neg (show ¬ I 165 p < 0 from z145), if_neg (show ¬ I 164 p < 0 from z103), hjle, hjre, ixn_nI (by omega), ixn_nI (by omega)])]
            exact wbf_new hbf (Or.inl z182)
          · refine pw_iload (i := 7) rfl (by decide +kernel) ?_
            refine pw_aload_n (k4 := 0) rfl (by decide +kernel) ?_
            refine pq_getI (c := 11) (k := 78) (ks_m hA) (by decide) (by decide) lf_Mo_508 (by decide +kernel) ?_
            refine pw_icmp_lt (off := 6) (tgt := 197) (by decide +kernel) (by decide +kernel) (fun z191 => ?_) (fun z191 => ?_)
            · refine pw_iconst (n := 1) (v := 1) (by decide) (by decide +kernel) ?_
              refine pq_istore_n (k4 := 3) (Nat.le_of_ble_eq_true rfl) rfl (by decide +kernel) ?_
              refine pw_aload_n (k4 := 0) rfl (by decide +kernel) ?_
              refine pw_iload (i := 7) rfl (by decide +kernel) ?_
              refine pq_putI (c := 11) (k := 78) (ks_m hA) (by decide) (by decide) lf_Mo_508 (Or.inl rfl) (by decide +kernel) ?_
              refine pw_aload_n (k4 := 0) rfl (by decide +kernel) ?_
              refine pw_iload (i := 5) rfl (by decide +kernel) ?_
              refine pq_putI (c := 11) (k := 79) (ks_m hA) (by decide) (by decide) lf_Mo_511 (Or.inl rfl) (by decide +kernel) ?_
              refine pn_iinc (i := 4) (n := 1) 1 x rfl rfl (by decide) rfl (by decide +kernel) ?_
              refine pw_goto (off := -209) (tgt := 5) (by decide +kernel) (by decide +kernel) ?_
              rw [yWm_w]
              refine pw_forget [5, 6, 7] (ihO (by omega) 1 ev4 _ _ L4 ?_)
              have z191 : _ < ws := z191
              rw [← (show yWS I p n x = wkF (I 140 p) x n n + (yBe I jl p n 0 - yBe I jl p n (nI (wkS x n n))) + (yBe I jr p n 0 - yBe I jr p n (nI (wkS x n n))) from by unfold yWS yFo; rw [if_neg (show ¬ I 165 p < 0 from z145), if_neg (show ¬ I 164 p < 0 from z103), hjle, hjre, ixn_nI (by omega), ixn_nI (by omega)])] at z191 ⊢
              exact wbf_new hbf (Or.inr z191)
            · refine pw_goto (off := 17) (tgt := 211) (by decide +kernel) (by decide +kernel) ?_
              refine pn_iinc (i := 4) (n := 1) 1 x rfl rfl (by decide) rfl (by decide +kernel) ?_
              refine pw_goto (off := -209) (tgt := 5) (by decide +kernel) (by decide +kernel) ?_
              refine pw_forget [5, 6, 7] (ihO (by omega) has ev4 ws wd L4 ?_)
              have z191 : ¬ _ < ws := z191
              rw [← (show yWS I p n x = wkF (I 140 p) x n n + (yBe I jl p n 0 - yBe I jl p n (nI (wkS x n n))) + (yBe I jr p n 0 - yBe I jr p n (nI (wkS x n n))) from by unfold yWS yFo; rw [if_neg (show ¬ I 165 p < 0 from z145), if_neg (show ¬ I 164 p < 0 from z103), hjle, hjre, ixn_nI (by omega), ixn_nI (by omega)])] at z191
              exact wbf_old hbf z182 (Int32.not_lt.mp z191)
    have h22 : x < 2 ^ n → ∀ k, k ≤ n → pWn m_Mo_layWalk 6 sh (rWk9 I P p n) 22 [some (.ref 134), some (.int (nI p)), some (.int (nI n)), some (.int has), some (.int (nI x)), some (.int (nI (wkS x n k))), some (.int (wkF (I 140 p) x n k)), some (.int (nI k)), none] [] (yWm I ev ws wd, L0, P) := fun hxl => pUpTo n _ (by
      intro k hk ih
      have h93 := h93 hxl
      refine pw_iload (i := 7) rfl (by decide +kernel) ?_
      refine pw_iload_n (k4 := 2) rfl (by decide +kernel) ?_
      refine pn_icmp_ge (off := 68) (tgt := 93) k n rfl rfl (by omega) (by omega) (by decide +kernel) (by decide +kernel) (fun z25 => ?_) (fun z25 => ?_)
      · have hkn : k = n := by omega
        rw [hkn]
        exact pw_forget [8] h93
      · have hx31 : x < 2 ^ 31 := by omega
        refine pw_iload (i := 4) rfl (by decide +kernel) ?_
        refine pw_iload_n (k4 := 2) rfl (by decide +kernel) ?_
        refine pw_iconst (n := 1) (v := 1) (by decide) (by decide +kernel) ?_
        refine pn_isub n 1 rfl rfl (by omega) (by decide +kernel) ?_
        refine pw_iload (i := 7) rfl (by decide +kernel) ?_
        refine pn_isub (n - 1) k rfl rfl (by omega) (by decide +kernel) ?_
        refine pq_callS (ν := m_Mo_isOf) (d' := 0) (av := [_, _]) (by decide +kernel) lm_Mo_457 ok_Mo_isOf (show _ = some 2 by decide +kernel) (by omega) (Nat.le_of_ble_eq_true rfl) (ct_Mo_isOf _ _) ?_
        rintro _ _ ⟨rfl, rfl⟩
        refine pn_ifB_ne (off := 7) (tgt := 46) (by decide +kernel) (by decide +kernel) (fun z39 => ?_) (fun z39 => ?_)
        · have hbt := (nbit_1 hx31 (show n - 1 - k < 31 by omega)).mp z39
          refine pw_iconst (n := 0) (v := 0) (by decide) (by decide +kernel) ?_
          refine pq_istore (i := 8) (Nat.le_of_ble_eq_true rfl) rfl (by decide +kernel) ?_
          refine pw_iload (i := 5) rfl (by decide +kernel) ?_
          refine pw_iload (i := 8) rfl (by decide +kernel) ?_
          refine pn_if_eq (off := 10) (tgt := 63) 0 rfl (by omega) (by decide +kernel) (by decide +kernel) (fun z53 => ?_) (fun z53 => ?_)
          · refine pw_iconst (n := 0) (v := 0) (by decide) (by decide +kernel) ?_
            refine pw_ior (by decide +kernel) ?_
            refine pq_istore (i := 5) (Nat.le_of_ble_eq_true rfl) rfl (by decide +kernel) ?_
            refine pw_iload (i := 6) rfl (by decide +kernel) ?_
            refine pw_iload (i := 8) rfl (by decide +kernel) ?_
            refine pn_if_eq (off := 7) (tgt := 78) 0 rfl (by omega) (by decide +kernel) (by decide +kernel) (fun z71 => ?_) (fun z71 => ?_)
            · refine pw_aload_n (k4 := 0) rfl (by decide +kernel) ?_
              refine pq_getP (c := 11) (k := 26) (ks_m hA) (by decide) (by decide) (kp_m_fareOf hA) lf_Mo_29 (by decide +kernel) ?_
              refine pw_iload_n (k4 := 1) rfl (by decide +kernel) ?_
              refine pq_iald p rfl (by omega) (by decide) (ks_m_fareOf hA) (by decide +kernel) ?_
              refine pw_iadd (by decide +kernel) ?_
              refine pq_istore (i := 6) (Nat.le_of_ble_eq_true rfl) rfl (by decide +kernel) ?_
              refine pn_iinc (i := 7) (n := 1) 1 k rfl rfl (by decide) rfl (by decide +kernel) ?_
              refine pw_goto (off := -68) (tgt := 22) (by decide +kernel) (by decide +kernel) ?_
              have w := ih (by omega)
              rw [show wkS x n (k + 1) = _ from if_pos hbt, show wkF (I 140 p) x n (k + 1) = _ from if_pos hbt] at w
              rw [show nI (wkS x n k) ||| 0 = nI (wkS x n k) from by rw [show (0 : Int32) = nI 0 from rfl, fa_or, Nat.or_zero]]
              exact pw_forget [8] w
            · exact absurd z71 (by decide)
          · exact absurd z53 (by decide)
        · have hbt : ¬ x.testBit (n - 1 - k) = true := fun w => z39 ((nbit_1 hx31 (show n - 1 - k < 31 by omega)).mpr w)
          refine pw_iconst (n := 1) (v := 1) (by decide) (by decide +kernel) ?_
          refine pw_goto (off := 4) (tgt := 47) (by decide +kernel) (by decide +kernel) ?_
          refine pq_istore (i := 8) (Nat.le_of_ble_eq_true rfl) rfl (by decide +kernel) ?_
          refine pw_iload (i := 5) rfl (by decide +kernel) ?_
          refine pw_iload (i := 8) rfl (by decide +kernel) ?_
          refine pn_if_eq (off := 10) (tgt := 63) 1 rfl (by omega) (by decide +kernel) (by decide +kernel) (fun z53 => ?_) (fun z53 => ?_)
          · exact absurd z53 (by decide)
          · refine pw_iconst (n := 1) (v := 1) (by decide) (by decide +kernel) ?_
            refine pw_iload (i := 7) rfl (by decide +kernel) ?_
            refine pw_ishl (by decide +kernel) ?_
            refine pw_goto (off := 4) (tgt := 64) (by decide +kernel) (by decide +kernel) ?_
            refine pw_ior (by decide +kernel) ?_
            refine pq_istore (i := 5) (Nat.le_of_ble_eq_true rfl) rfl (by decide +kernel) ?_
            refine pw_iload (i := 6) rfl (by decide +kernel) ?_
            refine pw_iload (i := 8) rfl (by decide +kernel) ?_
            refine pn_if_eq (off := 7) (tgt := 78) 1 rfl (by omega) (by decide +kernel) (by decide +kernel) (fun z71 => ?_) (fun z71 => ?_)
            · exact absurd z71 (by decide)
            · refine pw_iconst (n := 0) (v := 0) (by decide) (by decide +kernel) ?_
              refine pw_goto (off := 9) (tgt := 84) (by decide +kernel) (by decide +kernel) ?_
              refine pw_iadd (by decide +kernel) ?_
              refine pq_istore (i := 6) (Nat.le_of_ble_eq_true rfl) rfl (by decide +kernel) ?_
              refine pn_iinc (i := 7) (n := 1) 1 k rfl rfl (by decide) rfl (by decide +kernel) ?_
              refine pw_goto (off := -68) (tgt := 22) (by decide +kernel) (by decide +kernel) ?_
              have w := ih (by omega)
              rw [show wkS x n (k + 1) = _ from if_neg hbt, show wkF (I 140 p) x n (k + 1) = _ from if_neg hbt] at w
              rw [nI_pow (by omega), fa_or, show wkF (I 140 p) x n k + 0 = wkF (I 140 p) x n k from Int32.add_zero _]
              exact pw_forget [8] w
)
    refine pw_iload (i := 4) rfl (by decide +kernel) ?_
    refine pw_iconst (n := 1) (v := 1) (by decide) (by decide +kernel) ?_
    refine pw_iload_n (k4 := 2) rfl (by decide +kernel) ?_
    refine pw_ishl (by decide +kernel) ?_
    refine pn_val (nI (2 ^ n)) (nI_pow (by omega)) ?_
    refine pn_icmp_ge (off := 207) (tgt := 217) x (2 ^ n) rfl rfl (by omega) (by omega) (by decide +kernel) (by decide +kernel) (fun z10 => ?_) (fun z10 => ?_)
    · have hx2 : x = 2 ^ n := by omega
      exact pq_vret rfl (by decide +kernel) ⟨rfl, ev, ws, wd, L0, rfl, by rcases hbf with ⟨_, h0⟩ | ⟨_, hh⟩; omega; rw [← hx2]; exact hh⟩
    · have hxl : x < 2 ^ n := by omega
      refine pw_iconst (n := 0) (v := 0) (by decide) (by decide +kernel) ?_
      refine pq_istore (i := 5) (Nat.le_of_ble_eq_true rfl) rfl (by decide +kernel) ?_
      refine pw_iconst (n := 0) (v := 0) (by decide) (by decide +kernel) ?_
      refine pq_istore (i := 6) (Nat.le_of_ble_eq_true rfl) rfl (by decide +kernel) ?_
      refine pw_iconst (n := 0) (v := 0) (by decide) (by decide +kernel) ?_
      refine pq_istore (i := 7) (Nat.le_of_ble_eq_true rfl) rfl (by decide +kernel) ?_
      exact h22 hxl 0 (Nat.zero_le _)
)
  refine pw_iconst (n := 0) (v := 0) (by decide) (by decide +kernel) ?_
  refine pq_istore_n (k4 := 3) (Nat.le_of_ble_eq_true rfl) rfl (by decide +kernel) ?_
  refine pw_iconst (n := 0) (v := 0) (by decide) (by decide +kernel) ?_
  refine pq_istore (i := 4) (Nat.le_of_ble_eq_true rfl) rfl (by decide +kernel) ?_
  have w := hL 0 (Nat.zero_le _) 0 (I 134 54) (I 134 78) (I 134 79) L (Or.inl ⟨rfl, rfl⟩)
  rw [show yWm I (I 134 54) (I 134 78) (I 134 79) = I from by unfold yWm; rw [sI_same, sI_same, sI_same]] at w
  exact w
