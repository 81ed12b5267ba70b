/-! ===== the reference: the most that lefts from one on make with some rights ===== -/
def rMb (I : Nat → Nat → Int32) (L : Nat → Nat → Int64) (P : Nat → Nat → Option Nat) (g : Nat → Nat → Nat) (lc rc fr S : Nat) : Option Value → pM → Prop := fun r M => ∃ bv F, bv ≤ 20000 ∧ r = some (.int (nI bv)) ∧ M = (aU I 176 F, L, P) ∧ isMx (fun a b => fr ≤ a ∧ a < lc ∧ b < rc ∧ S.testBit b = true) g bv
abbrev okM1 (rc fr S i : Nat) : Nat → Nat → Prop := fun a b => fr ≤ a ∧ a < i ∧ b < rc ∧ S.testBit b = true
abbrev okM0 (lc fr S i : Nat) : Nat → Nat → Prop := fun a b => a < i ∧ S.testBit a = true ∧ fr ≤ b ∧ b < lc
theorem rwF_1 {rc fr S i : Nat} (hi : fr ≤ i) (hr : rc ≤ 8) : rwF (okM1 rc fr S i) (okM1 rc fr S (i + 1)) (fun k => S.testBit k = true) i rc :=
  ⟨fun a b h => ⟨⟨h.1, by have := h.2.1; omega, h.2.2⟩, by have := h.2.1; omega⟩, fun a b h hn => ⟨h.1, by have := h.2.1; omega, h.2.2⟩, fun k hk hc => ⟨hi, by omega, hk, hc⟩, fun k h => h.2.2, hr, fun a b h => by have := h.2.2.1; omega⟩
theorem rwF_0 {lc fr S i : Nat} (hi : S.testBit i = true) (hr : lc ≤ 8) : rwF (okM0 lc fr S i) (okM0 lc fr S (i + 1)) (fun k => fr ≤ k) i lc :=
  ⟨fun a b h => ⟨⟨by have := h.1; omega, h.2⟩, by have := h.1; omega⟩, fun a b h hn => ⟨by have := h.1; omega, h.2⟩, fun k hk hc => ⟨by omega, hi, hc, hk⟩, fun k h => ⟨h.2.2.2, h.2.2.1⟩, hr, fun a b h => by have := h.2.2.2; omega⟩
theorem fil_m1 (g : Nat → Int32) (k : Nat) : upd (fil (fun _ => -1) g k) k (-1) = fil (fun _ => -1) g (k + 1) := by
  funext i
  unfold upd fil
  by_cases h : i = k
  · rw [if_pos h, if_pos (by omega)]
  · rw [if_neg h]
    by_cases h2 : i < k
    · rw [if_pos h2, if_pos (by omega)]
    · rw [if_neg h2, if_neg (by omega)]

set_option maxHeartbeats 4000000 in
theorem ct_Mo_mostBy {sh : List pSh} {I : Nat → Nat → Int32} {L : Nat → Nat → Int64} {P : Nat → Nat → Option Nat} (hA : kA sh P) {lc rc : Nat} (hlc : I 134 70 = nI lc) (hrc : I 134 71 = nI rc) (h16 : lc + rc ≤ 16) {g : Nat → Nat → Nat} (hg9 : ∀ a b, g a b ≤ 999) (hg : ∀ a b, a < lc → b < rc → I 175 (16 * a + b) = nI (g a b)) {fr S : Nat} (hfr : fr ≤ lc) (hS : S < 2 ^ 16) : pCn m_Mo_mostBy 1 [.ref 134, .int (nI fr), .int (nI S)] sh (I, L, P) (rMb I L P g lc rc fr S) := by
  refine pCn_of (by decide +kernel) (Nat.le_of_ble_eq_true rfl) ?_
  have hM1 : rc < 9 → ∀ i, i ≤ lc → fr ≤ i → ∀ (F0 : Nat → Int32) (bv : Nat), rwI (okM1 rc fr S i) g (999 * i) F0 bv → pWn m_Mo_mostBy 1 sh (rMb I L P g lc rc fr S) 58 [some (.ref 134), some (.int (nI fr)), some (.int (nI S)), some (.int 1), some (.int (nI bv)), some (.int (nI i)), none, none, none] [] (aU I 176 F0, L, P) := fun hr9 => pUpTo lc _ (by
    intro i hil ihi0 hfi F0 bv hR
    have hbv := hR.2.2.1
    have ihi : ∀ (F : Nat → Int32) (bv : Nat), i < lc → rwI (okM1 rc fr S (i + 1)) g (999 * (i + 1)) F bv → pWn m_Mo_mostBy 1 sh (rMb I L P g lc rc fr S) 58 [some (.ref 134), some (.int (nI fr)), some (.int (nI S)), some (.int 1), some (.int (nI bv)), some (.int (nI (i + 1))), none, none, none] [] (aU I 176 F, L, P) := fun F bv h hr => ihi0 h (by omega) F bv hr
    have h99 : i < lc → rwF (okM1 rc fr S i) (okM1 rc fr S (i + 1)) (fun k => S.testBit k = true) i rc → ∀ x (F : Nat → Int32) (bv : Nat), x ≤ 256 → psI (okM1 rc fr S (i + 1)) g (fun k => S.testBit k = true) i rc (999 * i) F0 F bv x 0 → pWn m_Mo_mostBy 1 sh (rMb I L P g lc rc fr S) 99 [some (.ref 134), some (.int (nI fr)), some (.int (nI S)), some (.int 1), some (.int (nI bv)), some (.int (nI i)), some (.int (nI x + (-1))), none, none] [] (aU I 176 F, L, P) := fun hir hRF => pDown _ (by
      intro x ihx F bv hx hp
      have h107 : ∀ s, s < 256 → (∀ (F : Nat → Int32) (bv : Nat), s ≤ 256 → psI (okM1 rc fr S (i + 1)) g (fun k => S.testBit k = true) i rc (999 * i) F0 F bv s 0 → pWn m_Mo_mostBy 1 sh (rMb I L P g lc rc fr S) 99 [some (.ref 134), some (.int (nI fr)), some (.int (nI S)), some (.int 1), some (.int (nI bv)), some (.int (nI i)), some (.int (nI s + (-1))), none, none] [] (aU I 176 F, L, P)) → ∀ k, k ≤ rc → ∀ (F : Nat → Int32) (bv : Nat), psI (okM1 rc fr S (i + 1)) g (fun k => S.testBit k = true) i rc (999 * i) F0 F bv (s + 1) k → pWn m_Mo_mostBy 1 sh (rMb I L P g lc rc fr S) 107 [some (.ref 134), some (.int (nI fr)), some (.int (nI S)), some (.int 1), some (.int (nI bv)), some (.int (nI i)), some (.int (nI s)), some (.int (nI k)), none] [] (aU I 176 F, L, P) := fun s hs ihs => pUpTo rc _ (by
        intro k hk ihk F bv hp
        have hb2 := hp.2.2.2.2.1
        have hsk : k < rc → s ||| 2 ^ k < 256 := fun hkc => Nat.or_lt_two_pow (n := 8) hs (Nat.pow_lt_pow_right (by decide) (by omega))
        refine pw_iload (i := 7) rfl (by decide +kernel) ?_
        refine pw_iload_n (k4 := 3) rfl (by decide +kernel) ?_
        refine pn_if_eq (off := 10) (tgt := 120) 1 rfl (by omega) (by decide +kernel) (by decide +kernel) (fun z110 => ?_) (fun z110 => ?_)
        · exact absurd z110 (by decide)
        · refine pw_aload_n (k4 := 0) rfl (by decide +kernel) ?_
          refine pq_getI (c := 11) (k := 71) (ks_m hA) (by decide) (by decide) lf_Mo_490 (by decide +kernel) ?_
          refine pn_val (nI (rc)) (by exact hrc) ?_
          refine pw_goto (off := 7) (tgt := 124) (by decide +kernel) (by decide +kernel) ?_
          refine pn_icmp_ge (off := 147) (tgt := 271) k rc rfl rfl (by omega) (by omega) (by decide +kernel) (by decide +kernel) (fun z124 => ?_) (fun z124 => ?_)
          · refine pq_iinc (i := 6) (n := -1) (-1) rfl (by decide) rfl (by decide +kernel) ?_
            refine pw_goto (off := -175) (tgt := 99) (by decide +kernel) (by decide +kernel) ?_
            exact pw_forget [7, 8] (ihs F bv (by omega) (psI_next (by omega) hp (Or.inl (by omega))))
          · refine pw_aload_n (k4 := 0) rfl (by decide +kernel) ?_
            refine pq_getP (c := 11) (k := 75) (ks_m hA) (by decide) (by decide) (kp_m_sumOf hA) lf_Mo_139 (by decide +kernel) ?_
            refine pw_iload (i := 6) rfl (by decide +kernel) ?_
            refine pq_iald s rfl (by omega) (by decide) (ks_m_sumOf hA) (by decide +kernel) ?_
            refine pw_if_lt (off := 137) (tgt := 271) (by decide +kernel) (by decide +kernel) (fun z134 => ?_) (fun z134 => ?_)
            · refine pq_iinc (i := 6) (n := -1) (-1) rfl (by decide) rfl (by decide +kernel) ?_
              refine pw_goto (off := -175) (tgt := 99) (by decide +kernel) (by decide +kernel) ?_
              exact pw_forget [7, 8] (ihs F bv (by omega) (psI_next (by omega) hp (Or.inr z134)))
            · obtain ⟨v, hv, hFv, hF0v⟩ := psI_v hR.1 hp (by omega) z134
              have hgk : g i k ≤ 999 := hg9 _ _
              refine pw_iload (i := 6) rfl (by decide +kernel) ?_
              refine pw_iload (i := 7) rfl (by decide +kernel) ?_
              refine pq_callS (ν := m_Mo_isOf) (d' := 0) (av := [_, _]) (by decide +kernel) lm_Mo_457 ok_Mo_isOf (show _ = some 2 by decide +kernel) (by omega) (Nat.le_of_ble_eq_true rfl) (ct_Mo_isOf _ _) ?_
              rintro _ _ ⟨rfl, rfl⟩
              refine pn_ifB_ne (off := 121) (tgt := 265) (by decide +kernel) (by decide +kernel) (fun z144 => ?_) (fun z144 => ?_)
              · have hsb : s.testBit k = true := (nbit_1 (by omega) (by omega)).mp z144
                refine pn_iinc (i := 7) (n := 1) 1 k rfl rfl (by decide) rfl (by decide +kernel) ?_
                refine pw_goto (off := -161) (tgt := 107) (by decide +kernel) (by decide +kernel) ?_
                exact pw_forget [8] (ihk (by omega) F bv (psI_skip hp (Or.inl hsb)))
              · have hsb : s.testBit k = false := by cases e : s.testBit k; rfl; exact absurd ((nbit_1 (by omega) (by omega)).mpr e) z144
                refine pw_iload_n (k4 := 3) rfl (by decide +kernel) ?_
                refine pn_if_eq (off := 15) (tgt := 163) 1 rfl (by omega) (by decide +kernel) (by decide +kernel) (fun z148 => ?_) (fun z148 => ?_)
                · exact absurd z148 (by decide)
                · refine pw_iload_n (k4 := 2) rfl (by decide +kernel) ?_
                  refine pw_iload (i := 7) rfl (by decide +kernel) ?_
                  refine pq_callS (ν := m_Mo_isOf) (d' := 0) (av := [_, _]) (by decide +kernel) lm_Mo_457 ok_Mo_isOf (show _ = some 2 by decide +kernel) (by omega) (Nat.le_of_ble_eq_true rfl) (ct_Mo_isOf _ _) ?_
                  rintro _ _ ⟨rfl, rfl⟩
                  refine pn_ifB_ne (off := 15) (tgt := 172) (by decide +kernel) (by decide +kernel) (fun z157 => ?_) (fun z157 => ?_)
                  · have hco : S.testBit k = true := (nbit_1 (by omega) (by omega)).mp z157
                    refine pw_aload_n (k4 := 0) rfl (by decide +kernel) ?_
                    refine pq_getP (c := 11) (k := 75) (ks_m hA) (by decide) (by decide) (kp_m_sumOf hA) lf_Mo_139 (by decide +kernel) ?_
                    refine pw_iload (i := 6) rfl (by decide +kernel) ?_
                    refine pq_iald s rfl (by omega) (by decide) (ks_m_sumOf hA) (by decide +kernel) ?_
                    refine pn_val (nI (v)) (by exact hFv) ?_
                    refine pw_iload_n (k4 := 3) rfl (by decide +kernel) ?_
                    refine pn_if_eq (off := 19) (tgt := 199) 1 rfl (by omega) (by decide +kernel) (by decide +kernel) (fun z180 => ?_) (fun z180 => ?_)
                    · exact absurd z180 (by decide)
                    · refine pw_aload_n (k4 := 0) rfl (by decide +kernel) ?_
                      refine pq_getP (c := 11) (k := 74) (ks_m hA) (by decide) (by decide) (kp_m_gain hA) lf_Mo_136 (by decide +kernel) ?_
                      refine pw_bipush (n := 16) (v := 16) (by decide) (by decide +kernel) ?_
                      refine pw_iload (i := 5) rfl (by decide +kernel) ?_
                      refine pn_imul 16 i rfl rfl (by decide +kernel) ?_
                      refine pw_iload (i := 7) rfl (by decide +kernel) ?_
                      refine pn_iadd (16 * i) k rfl rfl (by decide +kernel) ?_
                      refine pq_iald ((16 * i) + k) rfl (by omega) (by decide) (ks_m_gain hA) (by decide +kernel) ?_
                      refine pn_val (nI (g i k)) (by exact hg i k (by omega) (by omega)) ?_
                      refine pw_goto (off := 16) (tgt := 212) (by decide +kernel) (by decide +kernel) ?_
                      refine pn_iadd v (g i k) rfl rfl (by decide +kernel) ?_
                      refine pq_istore (i := 8) (Nat.le_of_ble_eq_true rfl) rfl (by decide +kernel) ?_
                      refine pw_iload (i := 8) rfl (by decide +kernel) ?_
                      refine pw_aload_n (k4 := 0) rfl (by decide +kernel) ?_
                      refine pq_getP (c := 11) (k := 75) (ks_m hA) (by decide) (by decide) (kp_m_sumOf hA) lf_Mo_139 (by decide +kernel) ?_
                      refine pw_iload (i := 6) rfl (by decide +kernel) ?_
                      refine pw_iconst (n := 1) (v := 1) (by decide) (by decide +kernel) ?_
                      refine pw_iload (i := 7) rfl (by decide +kernel) ?_
                      refine pw_ishl (by decide +kernel) ?_
                      refine pn_val (nI (2 ^ k)) (nI_pow (by omega)) ?_
                      refine pw_ior (by decide +kernel) ?_
                      refine pn_val (nI (s ||| 2 ^ k)) (fa_or _ _) ?_
                      refine pq_iald (s ||| 2 ^ k) rfl (hsk (by omega)) (by decide) (ks_m_sumOf hA) (by decide +kernel) ?_
                      refine pw_icmp_gt (off := 6) (tgt := 235) (by decide +kernel) (by decide +kernel) (fun z229 => ?_) (fun z229 => ?_)
                      · refine pw_aload_n (k4 := 0) rfl (by decide +kernel) ?_
                        refine pq_getP (c := 11) (k := 75) (ks_m hA) (by decide) (by decide) (kp_m_sumOf hA) lf_Mo_139 (by decide +kernel) ?_
                        refine pw_iload (i := 6) rfl (by decide +kernel) ?_
                        refine pw_iconst (n := 1) (v := 1) (by decide) (by decide +kernel) ?_
                        refine pw_iload (i := 7) rfl (by decide +kernel) ?_
                        refine pw_ishl (by decide +kernel) ?_
                        refine pn_val (nI (2 ^ k)) (nI_pow (by omega)) ?_
                        refine pw_ior (by decide +kernel) ?_
                        refine pn_val (nI (s ||| 2 ^ k)) (fa_or _ _) ?_
                        refine pw_iload (i := 8) rfl (by decide +kernel) ?_
                        refine pq_iast (s ||| 2 ^ k) rfl (hsk (by omega)) (by decide) (ks_m_sumOf hA) (by decide +kernel) ?_
                        refine pw_iload (i := 8) rfl (by decide +kernel) ?_
                        refine pw_iload (i := 4) rfl (by decide +kernel) ?_
                        refine pn_icmp_le (off := 8) (tgt := 261) (v + (g i k)) bv rfl rfl (by omega) (by omega) (by decide +kernel) (by decide +kernel) (fun z253 => ?_) (fun z253 => ?_)
                        · refine pw_iload (i := 4) rfl (by decide +kernel) ?_
                          refine pq_istore (i := 4) (Nat.le_of_ble_eq_true rfl) rfl (by decide +kernel) ?_
                          refine pn_iinc (i := 7) (n := 1) 1 k rfl rfl (by decide) rfl (by decide +kernel) ?_
                          refine pw_goto (off := -161) (tgt := 107) (by decide +kernel) (by decide +kernel) ?_
                          rw [sI_aU2]
                          exact pw_forget [8] (ihk (by omega) _ bv (psI_new (by omega) hRF hR.1 hp (by omega) hco hsb (by omega) hv (hg9 _ _) hF0v z229 (by omega) (by omega) (Or.inl rfl)))
                        · refine pw_iload (i := 8) rfl (by decide +kernel) ?_
                          refine pw_goto (off := 5) (tgt := 263) (by decide +kernel) (by decide +kernel) ?_
                          refine pq_istore (i := 4) (Nat.le_of_ble_eq_true rfl) rfl (by decide +kernel) ?_
                          refine pn_iinc (i := 7) (n := 1) 1 k rfl rfl (by decide) rfl (by decide +kernel) ?_
                          refine pw_goto (off := -161) (tgt := 107) (by decide +kernel) (by decide +kernel) ?_
                          rw [sI_aU2]
                          exact pw_forget [8] (ihk (by omega) _ (v + g i k) (psI_new (by omega) hRF hR.1 hp (by omega) hco hsb (by omega) hv (hg9 _ _) hF0v z229 (by omega) (by omega) (Or.inr rfl)))
                      · refine pw_goto (off := 33) (tgt := 265) (by decide +kernel) (by decide +kernel) ?_
                        refine pn_iinc (i := 7) (n := 1) 1 k rfl rfl (by decide) rfl (by decide +kernel) ?_
                        refine pw_goto (off := -161) (tgt := 107) (by decide +kernel) (by decide +kernel) ?_
                        exact pw_forget [8] (ihk (by omega) F bv (psI_keep (by omega) hp (by omega) (by omega) hv (hg9 _ _) hF0v z229))
                  · have hco : ¬ S.testBit k = true := fun w => z157 ((nbit_1 (by omega) (by omega)).mpr w)
                    refine pw_goto (off := 105) (tgt := 265) (by decide +kernel) (by decide +kernel) ?_
                    refine pn_iinc (i := 7) (n := 1) 1 k rfl rfl (by decide) rfl (by decide +kernel) ?_
                    refine pw_goto (off := -161) (tgt := 107) (by decide +kernel) (by decide +kernel) ?_
                    exact pw_forget [8] (ihk (by omega) F bv (psI_skip hp (Or.inr hco))))
      refine pw_iload (i := 6) rfl (by decide +kernel) ?_
      refine pw_if_lt (off := 176) (tgt := 277) (by decide +kernel) (by decide +kernel) (fun z101 => ?_) (fun z101 => ?_)
      · have e0 : x = 0 := by rcases x with _ | x; rfl; exact absurd z101 (by rw [n_m1]; exact nI_pos (by omega))
        subst e0
        refine pn_iinc (i := 5) (n := 1) 1 i rfl rfl (by decide) rfl (by decide +kernel) ?_
        refine pw_goto (off := -222) (tgt := 58) (by decide +kernel) (by decide +kernel) ?_
        have w := psI_end (by omega) hRF hR hp
        exact pw_forget [6, 7, 8] (ihi F bv (by omega) (rwI_up (by omega) (by omega) w))
      · obtain ⟨s, rfl⟩ : ∃ j, x = j + 1 := ⟨x - 1, by rcases x with _ | x; exact absurd n_neg z101; rfl⟩
        rw [n_m1]
        replace ihx := ihx s rfl
        refine pw_iconst (n := 0) (v := 0) (by decide) (by decide +kernel) ?_
        refine pq_istore (i := 7) (Nat.le_of_ble_eq_true rfl) rfl (by decide +kernel) ?_
        exact h107 s (by omega) ihx 0 (Nat.zero_le _) F bv hp)
    refine pw_iload (i := 5) rfl (by decide +kernel) ?_
    refine pw_iload_n (k4 := 3) rfl (by decide +kernel) ?_
    refine pn_if_eq (off := 10) (tgt := 71) 1 rfl (by omega) (by decide +kernel) (by decide +kernel) (fun z61 => ?_) (fun z61 => ?_)
    · exact absurd z61 (by decide)
    · refine pw_aload_n (k4 := 0) rfl (by decide +kernel) ?_
      refine pq_getI (c := 11) (k := 70) (ks_m hA) (by decide) (by decide) lf_Mo_493 (by decide +kernel) ?_
      refine pn_val (nI (lc)) (by exact hlc) ?_
      refine pw_goto (off := 7) (tgt := 75) (by decide +kernel) (by decide +kernel) ?_
      refine pn_icmp_ge (off := 208) (tgt := 283) i lc rfl rfl (by omega) (by omega) (by decide +kernel) (by decide +kernel) (fun z75 => ?_) (fun z75 => ?_)
      · refine pw_iload (i := 4) rfl (by decide +kernel) ?_
        exact pq_iret rfl (by decide +kernel) ⟨bv, F0, by have := hR.2.2.1; omega, rfl, rfl, isMx_cg (rwI_mx (fun a b h => by have := h.2.2.1; omega) hR) (fun a b => by rw [show i = lc by omega]) (fun _ _ _ => rfl)⟩
      · refine pw_iload_n (k4 := 3) rfl (by decide +kernel) ?_
        refine pn_if_ne (off := 15) (tgt := 94) 1 rfl (by omega) (by decide +kernel) (by decide +kernel) (fun z79 => ?_) (fun z79 => ?_)
        · refine pw_sipush (n := 255) (v := 255) (by decide) (by decide +kernel) ?_
          refine pq_istore (i := 6) (Nat.le_of_ble_eq_true rfl) rfl (by decide +kernel) ?_
          have hRF := rwF_1 (rc := rc) (fr := fr) (S := S) (i := i) hfi (by omega)
          exact h99 (by omega) hRF 256 F0 bv (Nat.le_refl _) (psI_begin (by omega) hRF hR)
        · exact absurd (by decide) z79)
  have hM0 : 9 ≤ rc → ∀ i, i ≤ rc → ∀ (F0 : Nat → Int32) (bv : Nat), rwI (okM0 lc fr S i) (fun a b => g b a) (999 * i) F0 bv → pWn m_Mo_mostBy 1 sh (rMb I L P g lc rc fr S) 58 [some (.ref 134), some (.int (nI fr)), some (.int (nI S)), some (.int 0), some (.int (nI bv)), some (.int (nI i)), none, none, none] [] (aU I 176 F0, L, P) := fun hr9 => pUpTo rc _ (by
    intro i hil ihi0 F0 bv hR
    have hbv := hR.2.2.1
    have ihi : ∀ (F : Nat → Int32) (bv : Nat), i < rc → rwI (okM0 lc fr S (i + 1)) (fun a b => g b a) (999 * (i + 1)) F bv → pWn m_Mo_mostBy 1 sh (rMb I L P g lc rc fr S) 58 [some (.ref 134), some (.int (nI fr)), some (.int (nI S)), some (.int 0), some (.int (nI bv)), some (.int (nI (i + 1))), none, none, none] [] (aU I 176 F, L, P) := fun F bv h hr => ihi0 h F bv hr
    have h99 : i < rc → rwF (okM0 lc fr S i) (okM0 lc fr S (i + 1)) (fun k => fr ≤ k) i lc → ∀ x (F : Nat → Int32) (bv : Nat), x ≤ 256 → psI (okM0 lc fr S (i + 1)) (fun a b => g b a) (fun k => fr ≤ k) i lc (999 * i) F0 F bv x 0 → pWn m_Mo_mostBy 1 sh (rMb I L P g lc rc fr S) 99 [some (.ref 134), some (.int (nI fr)), some (.int (nI S)), some (.int 0), some (.int (nI bv)), some (.int (nI i)), some (.int (nI x + (-1))), none, none] [] (aU I 176 F, L, P) := fun hir hRF => pDown _ (by
      intro x ihx F bv hx hp
      have h107 : ∀ s, s < 256 → (∀ (F : Nat → Int32) (bv : Nat), s ≤ 256 → psI (okM0 lc fr S (i + 1)) (fun a b => g b a) (fun k => fr ≤ k) i lc (999 * i) F0 F bv s 0 → pWn m_Mo_mostBy 1 sh (rMb I L P g lc rc fr S) 99 [some (.ref 134), some (.int (nI fr)), some (.int (nI S)), some (.int 0), some (.int (nI bv)), some (.int (nI i)), some (.int (nI s + (-1))), none, none] [] (aU I 176 F, L, P)) → ∀ k, k ≤ lc → ∀ (F : Nat → Int32) (bv : Nat), psI (okM0 lc fr S (i + 1)) (fun a b => g b a) (fun k => fr ≤ k) i lc (999 * i) F0 F bv (s + 1) k → pWn m_Mo_mostBy 1 sh (rMb I L P g lc rc fr S) 107 [some (.ref 134), some (.int (nI fr)), some (.int (nI S)), some (.int 0), some (.int (nI bv)), some (.int (nI i)), some (.int (nI s)), some (.int (nI k)), none] [] (aU I 176 F, L, P) := fun s hs ihs => pUpTo lc _ (by
        intro k hk ihk F bv hp
        have hb2 := hp.2.2.2.2.1
        have hsk : k < lc → s ||| 2 ^ k < 256 := fun hkc => Nat.or_lt_two_pow (n := 8) hs (Nat.pow_lt_pow_right (by decide) (by omega))
        refine pw_iload (i := 7) rfl (by decide +kernel) ?_
        refine pw_iload_n (k4 := 3) rfl (by decide +kernel) ?_
        refine pn_if_eq (off := 10) (tgt := 120) 0 rfl (by omega) (by decide +kernel) (by decide +kernel) (fun z110 => ?_) (fun z110 => ?_)
        · refine pw_aload_n (k4 := 0) rfl (by decide +kernel) ?_
          refine pq_getI (c := 11) (k := 70) (ks_m hA) (by decide) (by decide) lf_Mo_493 (by decide +kernel) ?_
          refine pn_val (nI (lc)) (by exact hlc) ?_
          refine pn_icmp_ge (off := 147) (tgt := 271) k lc rfl rfl (by omega) (by omega) (by decide +kernel) (by decide +kernel) (fun z124 => ?_) (fun z124 => ?_)
          · refine pq_iinc (i := 6) (n := -1) (-1) rfl (by decide) rfl (by decide +kernel) ?_
            refine pw_goto (off := -175) (tgt := 99) (by decide +kernel) (by decide +kernel) ?_
            exact pw_forget [7, 8] (ihs F bv (by omega) (psI_next (by omega) hp (Or.inl (by omega))))
          · refine pw_aload_n (k4 := 0) rfl (by decide +kernel) ?_
            refine pq_getP (c := 11) (k := 75) (ks_m hA) (by decide) (by decide) (kp_m_sumOf hA) lf_Mo_139 (by decide +kernel) ?_
            refine pw_iload (i := 6) rfl (by decide +kernel) ?_
            refine pq_iald s rfl (by omega) (by decide) (ks_m_sumOf hA) (by decide +kernel) ?_
            refine pw_if_lt (off := 137) (tgt := 271) (by decide +kernel) (by decide +kernel) (fun z134 => ?_) (fun z134 => ?_)
            · refine pq_iinc (i := 6) (n := -1) (-1) rfl (by decide) rfl (by decide +kernel) ?_
              refine pw_goto (off := -175) (tgt := 99) (by decide +kernel) (by decide +kernel) ?_
              exact pw_forget [7, 8] (ihs F bv (by omega) (psI_next (by omega) hp (Or.inr z134)))
            · obtain ⟨v, hv, hFv, hF0v⟩ := psI_v hR.1 hp (by omega) z134
              have hgk : g k i ≤ 999 := hg9 _ _
              refine pw_iload (i := 6) rfl (by decide +kernel) ?_
              refine pw_iload (i := 7) rfl (by decide +kernel) ?_
              refine pq_callS (ν := m_Mo_isOf) (d' := 0) (av := [_, _]) (by decide +kernel) lm_Mo_457 ok_Mo_isOf (show _ = some 2 by decide +kernel) (by omega) (Nat.le_of_ble_eq_true rfl) (ct_Mo_isOf _ _) ?_
              rintro _ _ ⟨rfl, rfl⟩
              refine pn_ifB_ne (off := 121) (tgt := 265) (by decide +kernel) (by decide +kernel) (fun z144 => ?_) (fun z144 => ?_)
              · have hsb : s.testBit k = true := (nbit_1 (by omega) (by omega)).mp z144
                refine pn_iinc (i := 7) (n := 1) 1 k rfl rfl (by decide) rfl (by decide +kernel) ?_
                refine pw_goto (off := -161) (tgt := 107) (by decide +kernel) (by decide +kernel) ?_
                exact pw_forget [8] (ihk (by omega) F bv (psI_skip hp (Or.inl hsb)))
              · have hsb : s.testBit k = false := by cases e : s.testBit k; rfl; exact absurd ((nbit_1 (by omega) (by omega)).mpr e) z144
                refine pw_iload_n (k4 := 3) rfl (by decide +kernel) ?_
                refine pn_if_eq (off := 15) (tgt := 163) 0 rfl (by omega) (by decide +kernel) (by decide +kernel) (fun z148 => ?_) (fun z148 => ?_)
                · refine pw_iload (i := 7) rfl (by decide +kernel) ?_
                  refine pw_iload_n (k4 := 1) rfl (by decide +kernel) ?_
                  refine pn_icmp_ge (off := 6) (tgt := 172) k fr rfl rfl (by omega) (by omega) (by decide +kernel) (by decide +kernel) (fun z166 => ?_) (fun z166 => ?_)
                  · have hco : fr ≤ k := z166
                    refine pw_aload_n (k4 := 0) rfl (by decide +kernel) ?_
                    refine pq_getP (c := 11) (k := 75) (ks_m hA) (by decide) (by decide) (kp_m_sumOf hA) lf_Mo_139 (by decide +kernel) ?_
                    refine pw_iload (i := 6) rfl (by decide +kernel) ?_
                    refine pq_iald s rfl (by omega) (by decide) (ks_m_sumOf hA) (by decide +kernel) ?_
                    refine pn_val (nI (v)) (by exact hFv) ?_
                    refine pw_iload_n (k4 := 3) rfl (by decide +kernel) ?_
                    refine pn_if_eq (off := 19) (tgt := 199) 0 rfl (by omega) (by decide +kernel) (by decide +kernel) (fun z180 => ?_) (fun z180 => ?_)
                    · refine pw_aload_n (k4 := 0) rfl (by decide +kernel) ?_
                      refine pq_getP (c := 11) (k := 74) (ks_m hA) (by decide) (by decide) (kp_m_gain hA) lf_Mo_136 (by decide +kernel) ?_
                      refine pw_bipush (n := 16) (v := 16) (by decide) (by decide +kernel) ?_
                      refine pw_iload (i := 7) rfl (by decide +kernel) ?_
                      refine pn_imul 16 k rfl rfl (by decide +kernel) ?_
                      refine pw_iload (i := 5) rfl (by decide +kernel) ?_
                      refine pn_iadd (16 * k) i rfl rfl (by decide +kernel) ?_
                      refine pq_iald ((16 * k) + i) rfl (by omega) (by decide) (ks_m_gain hA) (by decide +kernel) ?_
                      refine pn_val (nI (g k i)) (by exact hg k i (by omega) (by omega)) ?_
                      refine pn_iadd v (g k i) rfl rfl (by decide +kernel) ?_
                      refine pq_istore (i := 8) (Nat.le_of_ble_eq_true rfl) rfl (by decide +kernel) ?_
                      refine pw_iload (i := 8) rfl (by decide +kernel) ?_
                      refine pw_aload_n (k4 := 0) rfl (by decide +kernel) ?_
                      refine pq_getP (c := 11) (k := 75) (ks_m hA) (by decide) (by decide) (kp_m_sumOf hA) lf_Mo_139 (by decide +kernel) ?_
                      refine pw_iload (i := 6) rfl (by decide +kernel) ?_
                      refine pw_iconst (n := 1) (v := 1) (by decide) (by decide +kernel) ?_
                      refine pw_iload (i := 7) rfl (by decide +kernel) ?_
                      refine pw_ishl (by decide +kernel) ?_
                      refine pn_val (nI (2 ^ k)) (nI_pow (by omega)) ?_
                      refine pw_ior (by decide +kernel) ?_
                      refine pn_val (nI (s ||| 2 ^ k)) (fa_or _ _) ?_
                      refine pq_iald (s ||| 2 ^ k) rfl (hsk (by omega)) (by decide) (ks_m_sumOf hA) (by decide +kernel) ?_
                      refine pw_icmp_gt (off := 6) (tgt := 235) (by decide +kernel) (by decide +kernel) (fun z229 => ?_) (fun z229 => ?_)
                      · refine pw_aload_n (k4 := 0) rfl (by decide +kernel) ?_
                        refine pq_getP (c := 11) (k := 75) (ks_m hA) (by decide) (by decide) (kp_m_sumOf hA) lf_Mo_139 (by decide +kernel) ?_
                        refine pw_iload (i := 6) rfl (by decide +kernel) ?_
                        refine pw_iconst (n := 1) (v := 1) (by decide) (by decide +kernel) ?_
                        refine pw_iload (i := 7) rfl (by decide +kernel) ?_
                        refine pw_ishl (by decide +kernel) ?_
                        refine pn_val (nI (2 ^ k)) (nI_pow (by omega)) ?_
                        refine pw_ior (by decide +kernel) ?_
                        refine pn_val (nI (s ||| 2 ^ k)) (fa_or _ _) ?_
                        refine pw_iload (i := 8) rfl (by decide +kernel) ?_
                        refine pq_iast (s ||| 2 ^ k) rfl (hsk (by omega)) (by decide) (ks_m_sumOf hA) (by decide +kernel) ?_
                        refine pw_iload (i := 8) rfl (by decide +kernel) ?_
                        refine pw_iload (i := 4) rfl (by decide +kernel) ?_
                        refine pn_icmp_le (off := 8) (tgt := 261) (v + (g k i)) bv rfl rfl (by omega) (by omega) (by decide +kernel) (by decide +kernel) (fun z253 => ?_) (fun z253 => ?_)
                        · refine pw_iload (i := 4) rfl (by decide +kernel) ?_
                          refine pq_istore (i := 4) (Nat.le_of_ble_eq_true rfl) rfl (by decide +kernel) ?_
                          refine pn_iinc (i := 7) (n := 1) 1 k rfl rfl (by decide) rfl (by decide +kernel) ?_
                          refine pw_goto (off := -161) (tgt := 107) (by decide +kernel) (by decide +kernel) ?_
                          rw [sI_aU2]
                          exact pw_forget [8] (ihk (by omega) _ bv (psI_new (by omega) hRF hR.1 hp (by omega) hco hsb (by omega) hv (hg9 _ _) hF0v z229 (by omega) (by omega) (Or.inl rfl)))
                        · refine pw_iload (i := 8) rfl (by decide +kernel) ?_
                          refine pw_goto (off := 5) (tgt := 263) (by decide +kernel) (by decide +kernel) ?_
                          refine pq_istore (i := 4) (Nat.le_of_ble_eq_true rfl) rfl (by decide +kernel) ?_
                          refine pn_iinc (i := 7) (n := 1) 1 k rfl rfl (by decide) rfl (by decide +kernel) ?_
                          refine pw_goto (off := -161) (tgt := 107) (by decide +kernel) (by decide +kernel) ?_
                          rw [sI_aU2]
                          exact pw_forget [8] (ihk (by omega) _ (v + g k i) (psI_new (by omega) hRF hR.1 hp (by omega) hco hsb (by omega) hv (hg9 _ _) hF0v z229 (by omega) (by omega) (Or.inr rfl)))
                      · refine pw_goto (off := 33) (tgt := 265) (by decide +kernel) (by decide +kernel) ?_
                        refine pn_iinc (i := 7) (n := 1) 1 k rfl rfl (by decide) rfl (by decide +kernel) ?_
                        refine pw_goto (off := -161) (tgt := 107) (by decide +kernel) (by decide +kernel) ?_
                        exact pw_forget [8] (ihk (by omega) F bv (psI_keep (by omega) hp (by omega) (by omega) hv (hg9 _ _) hF0v z229))
                    · exact absurd rfl z180
                  · have hco : ¬ fr ≤ k := z166
                    refine pw_goto (off := 96) (tgt := 265) (by decide +kernel) (by decide +kernel) ?_
                    refine pn_iinc (i := 7) (n := 1) 1 k rfl rfl (by decide) rfl (by decide +kernel) ?_
                    refine pw_goto (off := -161) (tgt := 107) (by decide +kernel) (by decide +kernel) ?_
                    exact pw_forget [8] (ihk (by omega) F bv (psI_skip hp (Or.inr hco)))
                · exact absurd rfl z148
        · exact absurd rfl z110)
      refine pw_iload (i := 6) rfl (by decide +kernel) ?_
      refine pw_if_lt (off := 176) (tgt := 277) (by decide +kernel) (by decide +kernel) (fun z101 => ?_) (fun z101 => ?_)
      · have e0 : x = 0 := by rcases x with _ | x; rfl; exact absurd z101 (by rw [n_m1]; exact nI_pos (by omega))
        subst e0
        refine pn_iinc (i := 5) (n := 1) 1 i rfl rfl (by decide) rfl (by decide +kernel) ?_
        refine pw_goto (off := -222) (tgt := 58) (by decide +kernel) (by decide +kernel) ?_
        have w := psI_end (by omega) hRF hR hp
        exact pw_forget [6, 7, 8] (ihi F bv (by omega) (rwI_up (by omega) (by omega) w))
      · obtain ⟨s, rfl⟩ : ∃ j, x = j + 1 := ⟨x - 1, by rcases x with _ | x; exact absurd n_neg z101; rfl⟩
        rw [n_m1]
        replace ihx := ihx s rfl
        refine pw_iconst (n := 0) (v := 0) (by decide) (by decide +kernel) ?_
        refine pq_istore (i := 7) (Nat.le_of_ble_eq_true rfl) rfl (by decide +kernel) ?_
        exact h107 s (by omega) ihx 0 (Nat.zero_le _) F bv hp)
    refine pw_iload (i := 5) rfl (by decide +kernel) ?_
    refine pw_iload_n (k4 := 3) rfl (by decide +kernel) ?_
    refine pn_if_eq (off := 10) (tgt := 71) 0 rfl (by omega) (by decide +kernel) (by decide +kernel) (fun z61 => ?_) (fun z61 => ?_)
    · refine pw_aload_n (k4 := 0) rfl (by decide +kernel) ?_
      refine pq_getI (c := 11) (k := 71) (ks_m hA) (by decide) (by decide) lf_Mo_490 (by decide +kernel) ?_
      refine pn_val (nI (rc)) (by exact hrc) ?_
      refine pn_icmp_ge (off := 208) (tgt := 283) i rc rfl rfl (by omega) (by omega) (by decide +kernel) (by decide +kernel) (fun z75 => ?_) (fun z75 => ?_)
      · refine pw_iload (i := 4) rfl (by decide +kernel) ?_
        exact pq_iret rfl (by decide +kernel) ⟨bv, F0, by have := hR.2.2.1; omega, rfl, rfl, isMx_cg (isMx_sw (rwI_mx (fun a b h => by have := h.2.2.2; omega) hR)) (fun a b => by rw [show i = rc by omega]; exact ⟨fun q => ⟨q.2.2.1, q.2.2.2, q.1, q.2.1⟩, fun q => ⟨q.2.2.1, q.2.2.2, q.1, q.2.1⟩⟩) (fun _ _ _ => rfl)⟩
      · refine pw_iload_n (k4 := 3) rfl (by decide +kernel) ?_
        refine pn_if_ne (off := 15) (tgt := 94) 0 rfl (by omega) (by decide +kernel) (by decide +kernel) (fun z79 => ?_) (fun z79 => ?_)
        · exact absurd rfl z79
        · refine pw_iload_n (k4 := 2) rfl (by decide +kernel) ?_
          refine pw_iload (i := 5) rfl (by decide +kernel) ?_
          refine pq_callS (ν := m_Mo_isOf) (d' := 0) (av := [_, _]) (by decide +kernel) lm_Mo_457 ok_Mo_isOf (show _ = some 2 by decide +kernel) (by omega) (Nat.le_of_ble_eq_true rfl) (ct_Mo_isOf _ _) ?_
          rintro _ _ ⟨rfl, rfl⟩
          refine pn_ifB_ne (off := 6) (tgt := 94) (by decide +kernel) (by decide +kernel) (fun z88 => ?_) (fun z88 => ?_)
          · have hbi : S.testBit i = true := (nbit_1 (by omega) (by omega)).mp z88
            refine pw_sipush (n := 255) (v := 255) (by decide) (by decide +kernel) ?_
            refine pq_istore (i := 6) (Nat.le_of_ble_eq_true rfl) rfl (by decide +kernel) ?_
            have hRF := rwF_0 (lc := lc) (fr := fr) (S := S) (i := i) hbi (by omega)
            exact h99 (by omega) hRF 256 F0 bv (Nat.le_refl _) (psI_begin (by omega) hRF hR)
          · have hbi : ¬ S.testBit i = true := fun w => z88 ((nbit_1 (by omega) (by omega)).mpr w)
            refine pw_goto (off := 186) (tgt := 277) (by decide +kernel) (by decide +kernel) ?_
            refine pn_iinc (i := 5) (n := 1) 1 i rfl rfl (by decide) rfl (by decide +kernel) ?_
            refine pw_goto (off := -222) (tgt := 58) (by decide +kernel) (by decide +kernel) ?_
            exact ihi F0 bv (by omega) (rwI_up (by omega) (by omega) (rwI_cg (fun a b => ⟨fun q => ⟨by omega, q.2⟩, fun q => ⟨by by_cases e : a = i; subst e; exact absurd q.2.1 hbi; have := q.1; omega, q.2⟩⟩) hR))
    · exact absurd rfl z61)
  have hI := pUpTo 256 (fun k => pWn m_Mo_mostBy 1 sh (rMb I L P g lc rc fr S) 2 [some (.ref 134), some (.int (nI fr)), some (.int (nI S)), some (.int (nI k)), none, none, none, none, none] [] (aU I 176 (fil (fun _ => -1) (I 176) k), L, P)) (by
    intro k hk ih
    refine pw_iload_n (k4 := 3) rfl (by decide +kernel) ?_
    refine pw_sipush (n := 256) (v := 256) (by decide) (by decide +kernel) ?_
    refine pn_icmp_ge (off := 16) (tgt := 22) k 256 rfl rfl (by omega) (by omega) (by decide +kernel) (by decide +kernel) (fun z6 => ?_) (fun z6 => ?_)
    · refine pw_aload_n (k4 := 0) rfl (by decide +kernel) ?_
      refine pq_getP (c := 11) (k := 75) (ks_m hA) (by decide) (by decide) (kp_m_sumOf hA) lf_Mo_139 (by decide +kernel) ?_
      refine pw_iconst (n := 0) (v := 0) (by decide) (by decide +kernel) ?_
      refine pw_iconst (n := 0) (v := 0) (by decide) (by decide +kernel) ?_
      refine pq_iast 0 rfl (by omega) (by decide) (ks_m_sumOf hA) (by decide +kernel) ?_
      refine pw_aload_n (k4 := 0) rfl (by decide +kernel) ?_
      refine pq_getI (c := 11) (k := 71) (ks_m hA) (by decide) (by decide) lf_Mo_490 (by decide +kernel) ?_
      refine pn_val (nI (rc)) (by exact hrc) ?_
      refine pw_bipush (n := 9) (v := 9) (by decide) (by decide +kernel) ?_
      refine pn_icmp_ge (off := 7) (tgt := 42) rc 9 rfl rfl (by omega) (by omega) (by decide +kernel) (by decide +kernel) (fun z35 => ?_) (fun z35 => ?_)
      · refine pw_iconst (n := 0) (v := 0) (by decide) (by decide +kernel) ?_
        refine pq_istore_n (k4 := 3) (Nat.le_of_ble_eq_true rfl) rfl (by decide +kernel) ?_
        refine pw_iconst (n := 0) (v := 0) (by decide) (by decide +kernel) ?_
        refine pq_istore (i := 4) (Nat.le_of_ble_eq_true rfl) rfl (by decide +kernel) ?_
        refine pw_iload_n (k4 := 3) rfl (by decide +kernel) ?_
        refine pn_if_eq (off := 7) (tgt := 55) 0 rfl (by omega) (by decide +kernel) (by decide +kernel) (fun z48 => ?_) (fun z48 => ?_)
        · refine pw_iconst (n := 0) (v := 0) (by decide) (by decide +kernel) ?_
          refine pq_istore (i := 5) (Nat.le_of_ble_eq_true rfl) rfl (by decide +kernel) ?_
          rw [sI_aU2]
          refine pw_forget [6, 7, 8] (hM0 (by omega) 0 (Nat.zero_le _) _ 0 (rwI_0 (fun a b h => absurd h.1 (Nat.not_lt_zero _)) upd_eq (fun T h1 h2 => ?_)))
          rw [upd_ne (by omega)]
          exact if_pos (by omega)
        · exact absurd rfl z48
      · refine pw_iconst (n := 1) (v := 1) (by decide) (by decide +kernel) ?_
        refine pw_goto (off := 4) (tgt := 43) (by decide +kernel) (by decide +kernel) ?_
        refine pq_istore_n (k4 := 3) (Nat.le_of_ble_eq_true rfl) rfl (by decide +kernel) ?_
        refine pw_iconst (n := 0) (v := 0) (by decide) (by decide +kernel) ?_
        refine pq_istore (i := 4) (Nat.le_of_ble_eq_true rfl) rfl (by decide +kernel) ?_
        refine pw_iload_n (k4 := 3) rfl (by decide +kernel) ?_
        refine pn_if_eq (off := 7) (tgt := 55) 1 rfl (by omega) (by decide +kernel) (by decide +kernel) (fun z48 => ?_) (fun z48 => ?_)
        · exact absurd z48 (by decide)
        · refine pw_iload_n (k4 := 1) rfl (by decide +kernel) ?_
          refine pw_goto (off := 4) (tgt := 56) (by decide +kernel) (by decide +kernel) ?_
          refine pq_istore (i := 5) (Nat.le_of_ble_eq_true rfl) rfl (by decide +kernel) ?_
          rw [sI_aU2]
          refine pw_forget [6, 7, 8] (hM1 (by omega) fr hfr (Nat.le_refl _) _ 0 (rwI_up (Nat.zero_le _) (by omega) (rwI_0 (fun a b h => by have := h.1; have := h.2.1; omega) upd_eq (fun T h1 h2 => ?_))))
          rw [upd_ne (by omega)]
          exact if_pos (by omega)
    · refine pw_aload_n (k4 := 0) rfl (by decide +kernel) ?_
      refine pq_getP (c := 11) (k := 75) (ks_m hA) (by decide) (by decide) (kp_m_sumOf hA) lf_Mo_139 (by decide +kernel) ?_
      refine pw_iload_n (k4 := 3) rfl (by decide +kernel) ?_
      refine pw_iconst (n := -1) (v := -1) (by decide) (by decide +kernel) ?_
      refine pq_iast k rfl (by omega) (by decide) (ks_m_sumOf hA) (by decide +kernel) ?_
      refine pn_iinc (i := 3) (n := 1) 1 k rfl rfl (by decide) rfl (by decide +kernel) ?_
      refine pw_goto (off := -17) (tgt := 2) (by decide +kernel) (by decide +kernel) ?_
      rw [sI_aU2, fil_m1]
      exact ih (by omega)
)
  refine pw_iconst (n := 0) (v := 0) (by decide) (by decide +kernel) ?_
  refine pq_istore_n (k4 := 3) (Nat.le_of_ble_eq_true rfl) rfl (by decide +kernel) ?_
  have w := hI 0 (Nat.zero_le _)
  rw [show fil (fun _ => -1) (I 176) 0 = I 176 from rfl, aU_self] at w
  exact w
