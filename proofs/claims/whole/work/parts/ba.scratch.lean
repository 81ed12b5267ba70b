/-! ===== class and reference: calls that ask and leave scratch ===== -/
section
variable {I : Nat → Nat → Int32} {L : Nat → Nat → Int64} {P : Nat → Nat → Option Nat} {sh : List pSh} {t t1 np ns nd nx sz : Nat}
theorem nI_ix {q : Int32} {m : Nat} (hm : m < 1000000) (h0 : 0 ≤ q) (h1 : q ≤ nI m) : q = nI (ixn q) ∧ ixn q ≤ m := by
  have a0 := Int32.le_iff_toInt_le.mp h0
  have a1 := Int32.le_iff_toInt_le.mp h1
  rw [nI_toInt (by omega)] at a1
  have z : (0 : Int32).toInt = 0 := rfl
  rw [z] at a0
  have e : ixn q = q.toInt.toNat := rfl
  have hk : ixn q ≤ m := by omega
  refine ⟨?_, hk⟩
  apply Int32.toInt_inj.mp
  rw [nI_toInt (by omega)]
  omega
theorem tw_pairs (h : iq t t1 np ns nd nx sz sh I P) : two m_Ls_pairs m_Mo_pairs 6 6 [] sh (I, L, P) := by
  obtain ⟨small, large, hsl⟩ : ∃ small large, ((lsL I 62 ns).length ≤ (lsR I 62 ns).length ∧ small = (lsL I 62 ns).length ∧ large = (lsR I 62 ns).length) ∨ (¬ (lsL I 62 ns).length ≤ (lsR I 62 ns).length ∧ small = (lsR I 62 ns).length ∧ large = (lsL I 62 ns).length) := by
    by_cases c : (lsL I 62 ns).length ≤ (lsR I 62 ns).length
    · exact ⟨_, _, Or.inl ⟨c, rfl, rfl⟩⟩
    · exact ⟨_, _, Or.inr ⟨c, rfl, rfl⟩⟩
  have hc := ct_Ls_pairs h.2.1 (L := L) (Or.inl rfl) h.tt h.2.2.2.2.2.1 h.2.2.2.1 (kp_x_world h.2.1) h.tO h.l rfl rfl rfl hsl
  refine pCn_im hc ?_
  rintro r M ⟨rfl, I1, L1, rfl, ho⟩
  have hf : ∀ a, scrA.contains a = false ∨ 134 ≤ a → I1 a = I a := fun a ha => ho a (by have := (scr_lt ha).2.2.2.1; omega)
  have g := h.g (I1 := I1) (fun a ha => hf a (Or.inr ha))
  refine ⟨_, rfl, pCn_im (ct_Mo_pairs h.2.1 g.1.1.1.2.1 g.1.1.2.1) ?_⟩
  rintro r2 M2 ⟨rfl, I2, L2, rfl, hr⟩
  exact ⟨by rw [pairs_y g.1 rfl rfl rfl hsl], (iq_rep h hf hr).v⟩
theorem tw_partner (h : iq t t1 np ns nd nx sz sh I P) (s : Int32) : two m_Ls_partner m_Mo_partner 6 6 [.int s] sh (I, L, P) := by
  obtain ⟨small, large, hsl⟩ : ∃ small large, ((lsL I 62 ns).length ≤ (lsR I 62 ns).length ∧ small = (lsL I 62 ns).length ∧ large = (lsR I 62 ns).length) ∨ (¬ (lsL I 62 ns).length ≤ (lsR I 62 ns).length ∧ small = (lsR I 62 ns).length ∧ large = (lsL I 62 ns).length) := by
    by_cases c : (lsL I 62 ns).length ≤ (lsR I 62 ns).length
    · exact ⟨_, _, Or.inl ⟨c, rfl, rfl⟩⟩
    · exact ⟨_, _, Or.inr ⟨c, rfl, rfl⟩⟩
  have hc := ct_Ls_partner h.2.1 (L := L) (Or.inl rfl) h.tt h.2.2.2.2.2.1 h.2.2.2.1 (kp_x_world h.2.1) h.tO h.l rfl rfl rfl hsl s
  by_cases c : xThere I t 62 s
  · refine pCn_im (pI_p c hc) ?_
    rintro r M ⟨f, I1, L1, rfl, rfl, ho, hf2⟩
    have hf : ∀ a, scrA.contains a = false ∨ 134 ≤ a → I1 a = I a := fun a ha => ho a (by have := (scr_lt ha).2.2.2.1; omega)
    have g := h.g (I1 := I1) (fun a ha => hf a (Or.inr ha))
    have c' := (g.1.there s).mp c
    refine ⟨_, rfl, pCn_im (pI_p c' (ct_Mo_partner h.2.1 g.1.1.1.2.1 g.1.1.2.1 s)) ?_⟩
    rintro r2 M2 ⟨f', I2, L2, rfl, rfl, hr, hf3⟩
    exact ⟨by rw [partner_y g.1 rfl rfl rfl hsl hf2 hf3 (g.1.1.1.S c'.1).1], (iq_rep h hf hr).v⟩
  · refine tw_A h (cI (pI_n c hc)) (fun I1 L1 hf g => pI_n (fun w => c ((g.1.there s).mpr w)) (ct_Mo_partner h.2.1 g.1.1.1.2.1 g.1.1.2.1 s))
theorem tw_mint (h : iq t t1 np ns nd nx sz sh I P) (n q : Int32) : two m_Ls_mint m_Mo_mint 4 4 [.int n, .int q] sh (I, L, P) := by
  have hc := ct_Ls_mint h.2.1 (L := L) (Or.inl rfl) h.tt h.2.2.2.2.2.1 h.2.2.2.1 (kp_x_world h.2.1) h.l n q
  by_cases c : 1 ≤ n ∧ n ≤ 40 ∧ 1 ≤ q ∧ q ≤ 5
  · refine pCn_im (pI_p c hc) ?_
    rintro r M ⟨⟨f, L1, rfl⟩, hv⟩
    have hf : ∀ a, scrA.contains a = false ∨ 134 ≤ a → aU I 133 f a = I a := fun a ha => aU_ne (scr_lt ha).2.2.2.2.2
    have g := h.g (I1 := aU I 133 f) (fun a ha => hf a (Or.inr ha))
    obtain ⟨e1, e2⟩ := nI_ix (q := n) (m := 40) (by decide) (Int32.le_trans (by decide) c.1) c.2.1
    have e3 : 1 ≤ ixn n := by
      have := Int32.le_iff_toInt_le.mp c.1
      rw [e1, nI_toInt (by omega)] at this
      have z : (1 : Int32).toInt = 1 := rfl
      omega
    have hm := pI_p ⟨⟨c.1, c.2.1⟩, c.2.2⟩ (ct_Mo_mint h.2.1 (L := L1) g.1.1.2.1 n q)
    obtain ⟨rx, rfl, hx⟩ : ∃ rx, r = some (Value.int rx) ∧ ((∃ b, rx = nI b ∧ 1 ≤ b ∧ b < 1024 ∧ miT I t 62 n (ixn q) b ∧ (∀ b', 1 ≤ b' → nI b' ≤ xSz (coinF I t 62) n 10 → miT I t 62 n (ixn q) b' → b' < 1024 → ¬ (1 ≤ xBc (nI b') ∧ xBc (nI b') < xBc (nI b)) ∧ (xBc (nI b') = xBc (nI b) → b ≤ b'))) ∨ (rx = -2 ∧ ∀ b', 1 ≤ b' → nI b' ≤ xSz (coinF I t 62) n 10 → miT I t 62 n (ixn q) b' → b' < 1024 → ¬ (1 ≤ xBc (nI b') ∧ xBc (nI b') ≤ xBc (xSz (coinF I t 62) n 10)))) := by
      rcases hv with ⟨b, rfl, z⟩ | ⟨rfl, z⟩
      · exact ⟨_, rfl, Or.inl ⟨b, rfl, z⟩⟩
      · exact ⟨_, rfl, Or.inr ⟨rfl, z⟩⟩
    refine ⟨_, rfl, pCn_im hm ?_⟩
    rintro r2 M2 ⟨v, rfl, hv2, I2, L2, rfl, hr⟩
    refine ⟨?_, (iq_rep h hf hr).v⟩
    rw [mint_y (rx := rx) g.1 e3 e2 hv2 (by rw [← e1]; exact hx)]
  · refine tw_A h (cI (pI_n c hc)) (fun I1 L1 hf g => pI_n (fun w => c ⟨w.1.1, w.1.2, w.2.1, w.2.2⟩) (ct_Mo_mint h.2.1 g.1.1.2.1 n q))
theorem tw_walk (h : iq t t1 np ns nd nx sz sh I P) (p n q : Int32) : two m_Ls_walk m_Mo_walk 15 7 [.int p, .int n, .int q] sh (I, L, P) := by
  have hc := ct_Ls_walk h.2.1 (L := L) (Or.inl rfl) h.tt h.2.2.2.2.2.1 h.2.2.2.1 (kp_x_world h.2.1) (kp_st_world h.2.1) h.tO h.l p n q
  by_cases c : xHasP I t p ∧ 1 ≤ n ∧ n ≤ 8 ∧ 0 ≤ q ∧ q ≤ 1
  · refine pCn_im (pI_p c hc) ?_
    rintro r M ⟨rfl, L1, rfl⟩
    have hf : ∀ a, scrA.contains a = false ∨ 134 ≤ a → aU I 132 (xPlan I t 62 (ixn p) (ixn n)) a = I a := fun a ha => aU_ne (scr_lt ha).2.2.2.2.1
    have g := h.g (I1 := aU I 132 (xPlan I t 62 (ixn p) (ixn n))) (fun a ha => hf a (Or.inr ha))
    obtain ⟨e1, e2⟩ := nI_ix (q := n) (m := 8) (by decide) (Int32.le_trans (by decide) c.2.1) c.2.2.1
    have hp := (g.1.1.1.hasP p).mp c.1
    refine ⟨_, rfl, pCn_im (pI_p ⟨hp, ⟨c.2.1, c.2.2.1⟩, c.2.2.2⟩ (ct_Mo_walk h.2.1 g.1.1.1.2.1 g.1.1.2.1 g.1.2.2.1 p n q)) ?_⟩
    rintro r2 M2 ⟨cs, hcs, rfl, hmin, I2, L2, rfl, hr⟩
    refine ⟨?_, (iq_rep h hf hr).v⟩
    obtain ⟨w1, w2⟩ := walk_y g.1 e2 (g.1.1.1.P hp).1 hcs hmin
    rw [w1, w2]
  · refine tw_A h (cI (pI_n c hc)) (fun I1 L1 hf g => pI_n (fun w => c ⟨(g.1.1.1.hasP p).mpr w.1, w.2.1.1, w.2.1.2, w.2.2⟩) (ct_Mo_walk h.2.1 g.1.1.1.2.1 g.1.1.2.1 g.1.2.2.1 p n q))
theorem tw_ring (h : iq t t1 np ns nd nx sz sh I P) : two m_Ls_ring m_Mo_ring 8 3 [] sh (I, L, P) := by
  have ht := h.tt
  refine pCn_im (ct_Ls_ring h.2.1 h.tt h.2.2.2.1) ?_
  rintro r M ⟨rfl, rfl⟩
  have hf : ∀ a, scrA.contains a = false ∨ 134 ≤ a → aU I (t + 18) (xRl (I (t + 16)) (I (t + 17)) 5 (I (t + 18))).2 a = I a := fun a ha => aU_ne (by have := scr_lt ha; omega)
  have g := h.g (I1 := aU I (t + 18) (xRl (I (t + 16)) (I (t + 17)) 5 (I (t + 18))).2) (fun a ha => hf a (Or.inr ha))
  obtain ⟨nr, h8, h15, hRT⟩ := RT_of g.2.2.2.2.2.2.1.2.2.2.1
  refine ⟨_, rfl, pCn_im (ct_Mo_ring h.2.1 h15 h8) ?_⟩
  rintro r2 M2 ⟨f, v, I2, L2, rfl, hv, rfl, hr⟩
  exact ⟨by rw [(ring_y h8 hRT (f0 := I (t + 18)) hv).1], (iq_rep h hf hr).v⟩
theorem tw_good (h : iq t t1 np ns nd nx sz sh I P) (k : Int32) : two m_Ls_good m_Mo_good 8 3 [.int k] sh (I, L, P) := by
  have ht := h.tt
  have hc := ct_Ls_good h.2.1 (I := I) (L := L) h.tt h.2.2.2.1 k
  by_cases c : 0 ≤ k
  · refine pCn_im (pI_p c hc) ?_
    rintro r M ⟨rfl, rfl⟩
    have hf : ∀ a, scrA.contains a = false ∨ 134 ≤ a → aU I (t + 18) (xRl (I (t + 16)) (I (t + 17)) 5 (I (t + 18))).2 a = I a := fun a ha => aU_ne (by have := scr_lt ha; omega)
    have g := h.g (I1 := aU I (t + 18) (xRl (I (t + 16)) (I (t + 17)) 5 (I (t + 18))).2) (fun a ha => hf a (Or.inr ha))
    obtain ⟨nr, h8, h15, hRT⟩ := RT_of g.2.2.2.2.2.2.1.2.2.2.1
    refine ⟨_, rfl, pCn_im (pI_p c (ct_Mo_good h.2.1 h15 h8 k)) ?_⟩
    rintro r2 M2 ⟨f, v, I2, L2, rfl, hv, rfl, hr⟩
    exact ⟨by rw [(ring_y h8 hRT (f0 := I (t + 18)) hv).2 k c], (iq_rep h hf hr).v⟩
  · refine tw_A h (cI (pI_n c hc)) (fun I1 L1 hf g => ?_)
    obtain ⟨nr, h8, h15, hRT⟩ := RT_of g.2.2.2.2.2.2.1.2.2.2.1
    exact pI_n c (ct_Mo_good h.2.1 h15 h8 k)
end
