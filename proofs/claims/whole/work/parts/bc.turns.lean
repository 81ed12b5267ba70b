/-! ===== class and reference: pay, days, tracks, images ===== -/
section
variable {I : Nat → Nat → Int32} {L : Nat → Nat → Int64} {P : Nat → Nat → Option Nat} {sh : List pSh} {t t1 np ns nd nx sz : Nat}
theorem tw_pay (h : iq t t1 np ns nd nx sz sh I P) (p to q : Int32) : two m_Ls_pay m_Mo_pay 5 8 [.int p, .int to, .int q] sh (I, L, P) := by
  obtain ⟨n1, n2, n3, n4, n5, -⟩ := h.1.2.2.2.2.2.1
  have hc := ct_Ls_pay h.2.1 (L := L) (Or.inl rfl) h.tt h.2.2.2.2.2.1 h.2.2.2.1 (kp_x_world h.2.1) h.tO h.l n1 n2 n3 n4 p to q
  by_cases c : xHasP I t p ∧ xHasP I t to ∧ p ≠ to ∧ xPrice q
  · refine pCn_im (pI_p c hc) ?_
    rintro r M ⟨rfl, f, L1, rfl⟩
    by_cases hv : xFor I t 62 ns p (ixn q) = -2
    · rw [if_pos hv]
      have fr : ∀ a, scrA.contains a = false ∨ 134 ≤ a → aU I 61 f a = I a := fun a ha => aU_ne (scr_lt ha).2.2.1
      have g := h.g (fun a ha => fr a (Or.inr ha))
      have hp := (g.1.1.1.hasP p).mp c.1
      have hto := (g.1.1.1.hasP to).mp c.2.1
      obtain ⟨e1, e2⟩ := pay_y g p to q f hp hto
      refine ⟨_, rfl, pCn_im (pI_p ⟨hp, hto, c.2.2.1, c.2.2.2⟩ (ct_Mo_pay h.2.1 g.1.1.1.2.1 g.1.1.2.1 g.1.1.2.2.1 g.1.1.2.2.2 g.1.2.2.1 (u := sz) (by rw [fr 134 (Or.inr (by decide))]; exact n5) n4 p to q)) ?_⟩
      rintro r2 M2 ⟨w1, w2⟩
      by_cases k : selB (yWt (aU I 61 f) 0 ns p) (ixn q) < 0
      · obtain ⟨rfl, I2, L2, rfl, hr⟩ := w1 k
        exact ⟨by rw [hv], (iq_rep h fr hr).v⟩
      · exact absurd hv (e2 k).2.1
    · rw [if_neg hv]
      have fr : ∀ a, a < 61 ∨ 134 ≤ a → xHand (xNote (aU I 61 f) 62 nx sz) t 62 (xFor I t 62 ns p (ixn q)) to ns a = I a := fun a ha => by rw [xHand_ne (by omega) (by omega), xNote_fr n2 (by omega), aU_ne (by omega)]
      have g := h.g (fun a ha => fr a (Or.inr ha))
      have hp := (g.1.1.1.hasP p).mp c.1
      have hto := (g.1.1.1.hasP to).mp c.2.1
      obtain ⟨e1, e2⟩ := pay_y g p to q f hp hto
      refine ⟨_, rfl, pCn_im (pI_p ⟨hp, hto, c.2.2.1, c.2.2.2⟩ (ct_Mo_pay h.2.1 g.1.1.1.2.1 g.1.1.2.1 g.1.1.2.2.1 g.1.1.2.2.2 g.1.2.2.1 (u := sz) (by rw [fr 134 (Or.inr (by decide))]; exact n5) n4 p to q)) ?_⟩
      rintro r2 M2 ⟨w1, w2⟩
      generalize hZ : xHand (xNote (aU I 61 f) 62 nx sz) t 62 (xFor I t 62 ns p (ixn q)) to ns = Z at *
      by_cases k : selB (yWt Z 0 ns p) (ixn q) < 0
      · exact absurd (e1 k) hv
      · obtain ⟨rfl, I2, L2, rfl, hr⟩ := w2 k
        obtain ⟨e3, e4, e5⟩ := e2 k
        refine ⟨by rw [e3], (iq_keep h e5 (fun a a1 _ _ => ?_) hr (fun a ha => ?_) ?_).v⟩
        · rw [yHand_fr (by omega) (by omega) (by omega), yRem_fr (by omega) (by omega)]
        · have := svA_lt ha
          have := ha
          unfold svA at this
          rw [yHand_fr (by omega) (by omega) (by omega), yRem_fr (by omega) (by omega)]
          exact fr a (by omega)
        · rw [yHand_fr (by omega) (by omega) (by omega), yRem_fr (by omega) (by omega), fr 1 (by decide)]
  · refine tw_A h (cI (pI_n c hc)) (fun I1 L1 hf g => pI_n (fun w => c ⟨(g.1.1.1.hasP p).mpr w.1, (g.1.1.1.hasP to).mpr w.2.1, w.2.2.1, w.2.2.2⟩) (ct_Mo_pay h.2.1 g.1.1.1.2.1 g.1.1.2.1 g.1.1.2.2.1 g.1.1.2.2.2 g.1.2.2.1 (u := sz) (by rw [hf 134 (by decide)]; exact n5) n4 p to q))
theorem tw_days (h : iq t t1 np ns nd nx sz sh I P) (q : Int32) : two m_Ls_days m_Mo_days 6 9 [.int q] sh (I, L, P) := by
  have hc := ct_Ls_days h.2.1 (L := L) (Or.inl rfl) h.tt h.2.2.2.2.2.1 h.2.2.2.1 (kp_x_world h.2.1) h.tO h.l (gR_d h.1) q
  by_cases c : 0 ≤ q ∧ q ≤ 50 ∧ I 62 1 + q ≤ 999
  · refine pCn_im (pI_p c hc) ?_
    rintro r M ⟨rfl, I1, L1, rfl, ho⟩
    have fr : ∀ a, a < 61 ∨ 134 ≤ a → I1 a = I a := fun a ha => by
      rw [ho a (by omega)]
      by_cases k : ixn q = 0
      · rw [if_pos k]
      · rw [if_neg k, sI_ne (by omega), sI_ne (by omega), xDays_ne (by omega)]
    have g := h.g (fun a ha => fr a (Or.inr ha))
    obtain ⟨e1, e2⟩ := days_y g q
    have c' := e1.mp c
    obtain ⟨e3, e4⟩ := e2 c'
    refine ⟨_, rfl, pCn_im (pI_p c' (ct_Mo_days h.2.1 g.1.1.1.2.1 g.1.1.2.1 g.1.1.2.2.1 g.1.1.2.2.2 g.1.2.2.1 q)) ?_⟩
    rintro r2 M2 ⟨rfl, I2, L2, rfl, hr⟩
    refine ⟨by rw [e3], ?_⟩
    rcases e4 with ⟨k, e5⟩ | ⟨k, e5⟩
    · rw [if_pos k] at ho hr
      refine (iq_rep h (fun a ha => ho a (scr_lt ha).2.2.1) hr).v
    · rw [if_neg k] at ho hr
      refine (iq_keep h e5 (fun a a1 _ a3 => ?_) hr (fun a ha => ?_) ?_).v
      · rw [sI_ne (by omega), yDays_fr (by omega)]
        exact ho a ((sc_iff a).mp a3).2.2.1
      · have := svA_lt ha
        have := ha
        unfold svA at this
        rw [sI_ne (by omega), yDays_fr (by omega)]
        exact fr a (by omega)
      · rw [sI_ne (by omega), yDays_fr (by omega), fr 1 (by decide)]
  · refine tw_A h (cI (pI_n c hc)) (fun I1 L1 hf g => pI_n (fun w => c ((days_y g q).1.mpr w)) (ct_Mo_days h.2.1 g.1.1.1.2.1 g.1.1.2.1 g.1.1.2.2.1 g.1.1.2.2.2 g.1.2.2.1 q))
theorem nI_lt24 {a : Nat} (h : a ≤ 24) {b : Nat} (hb : b < 1000) : nI b < nI a ↔ b < a := by
  rw [Int32.lt_iff_toInt_lt, nI_toInt (by omega), nI_toInt (by omega)]
  omega
theorem tw_known (h : iq t t1 np ns nd nx sz sh I P) (a : Int32) : two m_Ls_known m_Mo_known 0 1 [.int a] sh (I, L, P) := by
  obtain ⟨tk, k1, k2, k3, -⟩ := h.1.2.2.2.2.2.2.1.2.1
  have hc := ct_Ls_known h.2.1 (I := I) (L := L) a
  by_cases c : -1 ≤ a ∧ a ≤ I 123 0
  · refine pCn_im (pI_p c hc) ?_
    rintro r M ⟨rfl, rfl⟩
    have fr : ∀ q, q ≠ 123 → sI I 123 1 a q = I q := fun q hq => sI_ne hq
    have g := h.g (fun q hq => fr q (by omega))
    have y4 : sI I 123 1 a 134 80 = nI tk := by rw [fr 134 (by decide)]; exact k3
    have c' : -1 ≤ a ∧ a ≤ nI tk := by rw [← k2]; exact c
    refine ⟨_, rfl, pCn_im (pI_p c' (ct_Mo_known h.2.1 y4 k1 a)) ?_⟩
    rintro r2 M2 ⟨rfl, L2, rfl⟩
    refine ⟨rfl, (iq_keep h (known_y g (by rw [y4]; exact c')) (fun q q1 _ _ => ?_) (rep_rf _) (fun q hq => ?_) ?_).v⟩
    · rw [sI_ne (by omega), sI_ne (by omega)]
    · have := svA_lt hq
      rw [sI_ne (by omega), sI_ne (by omega), fr q (by omega)]
    · rw [sI_ne (by omega), sI_ne (by omega), fr 1 (by omega)]
  · refine tw_A h (cI (pI_n c hc)) (fun I1 L1 hf g => pI_n (fun w => c (by rw [k2]; exact w)) (ct_Mo_known h.2.1 (tk := tk) (by rw [hf 134 (by decide)]; exact k3) k1 a))
theorem tw_track (h : iq t t1 np ns nd nx sz sh I P) (a b : Int32) : two m_Ls_track m_Mo_track 1 1 [.int a, .int b] sh (I, L, P) := by
  obtain ⟨tk, k1, k2, k3, -⟩ := h.1.2.2.2.2.2.2.1.2.1
  have hc := ct_Ls_track h.2.1 (L := L) k2 k1 a b
  by_cases c : 0 ≤ a ∧ a ≤ 1 ∧ 1 ≤ b ∧ b ≤ 20
  · refine pCn_im (pI_p c hc) ?_
    intro r M w
    unfold rAdd at w
    by_cases z : tk = 24
    · rw [if_pos z] at w
      obtain ⟨rfl, rfl⟩ := w
      refine ⟨_, rfl, pCn_im (pI_n (fun w => by omega) (ct_Mo_track h.2.1 k3 k1 a b)) ?_⟩
      rintro r2 M2 ⟨rfl, I2, L2, rfl, hr⟩
      exact ⟨rfl, (iq_rep h (fun _ _ => rfl) hr).v⟩
    · rw [if_neg z] at w
      obtain ⟨rfl, rfl⟩ := w
      have fr : ∀ q, q < 123 ∨ 125 < q → sI (sI (sI I 124 tk a) 125 tk b) 123 0 (nI (tk + 1)) q = I q := fun q hq => by rw [sI_ne (by omega), sI_ne (by omega), sI_ne (by omega)]
      have g := h.g (fun q hq => fr q (by omega))
      have y4 : sI (sI (sI I 124 tk a) 125 tk b) 123 0 (nI (tk + 1)) 134 80 = nI tk := by rw [fr 134 (by decide)]; exact k3
      refine ⟨_, rfl, pCn_im (pI_p ⟨by omega, ⟨c.1, c.2.1⟩, c.2.2⟩ (ct_Mo_track h.2.1 y4 k1 a b)) ?_⟩
      rintro r2 M2 ⟨rfl, L2, rfl⟩
      obtain ⟨a1, a2⟩ := nI_ix (q := a) (m := 1) (by decide) c.1 c.2.1
      obtain ⟨b1, b2⟩ := nI_ix (q := b) (m := 20) (by decide) (Int32.le_trans (by decide) c.2.2.1) c.2.2.2
      have b3 : 1 ≤ ixn b := by
        have := Int32.le_iff_toInt_le.mp c.2.2.1
        rw [b1, nI_toInt (by omega)] at this
        have z : (1 : Int32).toInt = 1 := rfl
        omega
      refine ⟨rfl, (iq_keep h (tk_add g y4 (by omega) (Or.inr ⟨rfl, ixn a, ixn b, a2, b3, b2, a1, b1⟩)) (fun q q1 _ _ => ?_) (rep_rf _) (fun q hq => ?_) ?_).v⟩
      · unfold yTrk; rw [sI_ne (by omega), sI_ne (by omega), sI_ne (by omega), sI_ne (by omega)]
      · have := svA_lt hq
        unfold yTrk; rw [sI_ne (by omega), sI_ne (by omega), sI_ne (by omega), sI_ne (by omega), fr q (by omega)]
      · unfold yTrk; rw [sI_ne (by omega), sI_ne (by omega), sI_ne (by omega), sI_ne (by omega), fr 1 (by omega)]
  · refine tw_A h (cI (pI_n c hc)) (fun I1 L1 hf g => pI_n (fun w => c ⟨w.2.1.1, w.2.1.2, w.2.2⟩) (ct_Mo_track h.2.1 (tk := tk) (by rw [hf 134 (by decide)]; exact k3) k1 a b))
theorem tw_strike (h : iq t t1 np ns nd nx sz sh I P) (a : Int32) : two m_Ls_strike m_Mo_strike 1 1 [.int a] sh (I, L, P) := by
  obtain ⟨tk, k1, k2, k3, -⟩ := h.1.2.2.2.2.2.2.1.2.1
  have hc := ct_Ls_strike h.2.1 (L := L) k2 k1 a
  by_cases c : 0 ≤ a ∧ a < I 123 0
  · refine pCn_im (pI_p c hc) ?_
    intro r M w
    unfold rAdd at w
    by_cases z : tk = 24
    · rw [if_pos z] at w
      obtain ⟨rfl, rfl⟩ := w
      refine ⟨_, rfl, pCn_im (pI_n (fun w => by omega) (ct_Mo_strike h.2.1 k3 k1 a)) ?_⟩
      rintro r2 M2 ⟨rfl, I2, L2, rfl, hr⟩
      exact ⟨rfl, (iq_rep h (fun _ _ => rfl) hr).v⟩
    · rw [if_neg z] at w
      obtain ⟨rfl, rfl⟩ := w
      have fr : ∀ q, q < 123 ∨ 125 < q → sI (sI (sI I 124 tk 2) 125 tk a) 123 0 (nI (tk + 1)) q = I q := fun q hq => by rw [sI_ne (by omega), sI_ne (by omega), sI_ne (by omega)]
      have g := h.g (fun q hq => fr q (by omega))
      have y4 : sI (sI (sI I 124 tk 2) 125 tk a) 123 0 (nI (tk + 1)) 134 80 = nI tk := by rw [fr 134 (by decide)]; exact k3
      have ca : a < nI tk := by rw [← k2]; exact c.2
      refine ⟨_, rfl, pCn_im (pI_p ⟨by omega, c.1, ca⟩ (ct_Mo_strike h.2.1 y4 k1 a)) ?_⟩
      rintro r2 M2 ⟨rfl, L2, rfl⟩
      obtain ⟨a1, a2⟩ := nI_ix (q := a) (m := tk) (by omega) c.1 (Int32.le_of_lt ca)
      rw [a1] at ca
      have a3 := (nI_lt24 k1 (by omega)).mp ca
      refine ⟨rfl, (iq_keep h (tk_add g y4 (by omega) (Or.inl ⟨rfl, rfl, ixn a, a3, a1⟩)) (fun q q1 _ _ => ?_) (rep_rf _) (fun q hq => ?_) ?_).v⟩
      · unfold yTrk; rw [sI_ne (by omega), sI_ne (by omega), sI_ne (by omega), sI_ne (by omega)]
      · have := svA_lt hq
        unfold yTrk; rw [sI_ne (by omega), sI_ne (by omega), sI_ne (by omega), sI_ne (by omega), fr q (by omega)]
      · unfold yTrk; rw [sI_ne (by omega), sI_ne (by omega), sI_ne (by omega), sI_ne (by omega), fr 1 (by omega)]
  · refine tw_A h (cI (pI_n c hc)) (fun I1 L1 hf g => pI_n (fun w => c ⟨w.2.1, by rw [k2]; exact w.2.2⟩) (ct_Mo_strike h.2.1 (tk := tk) (by rw [hf 134 (by decide)]; exact k3) k1 a))
end
