/-! ===== the reference: a text that has been read ===== -/
theorem lnR_dr {I J : Nat → Nat → Int32} {pr sr dr rr kr : Nat} (hc : lnC I pr sr dr rr kr) (w : drA I pr sr dr rr kr) (h : lnR I pr sr dr rr kr true J) : ∃ pr' sr' dr' rr' kr', lnC J pr' sr' dr' rr' kr' ∧ drA J pr' sr' dr' rr' kr' := by
  obtain ⟨hp, ⟨h17, hp5⟩, ⟨h18, hs16⟩, ⟨h19, hd8⟩, ⟨h20, hr8⟩, h21, h49, h64⟩ := hc
  unfold lnR at h
  by_cases hk : I 134 8 = 1
  · rw [if_neg (fun w => w hk)] at h
    by_cases h6 : 6 < I 134 9
    · rw [if_pos h6] at h; cases h
    rw [if_neg h6] at h
    have fin : ∀ {q : Bool × (Nat → Nat → Int32)}, (true, J) = yEnd q → (q.1 = true → ∃ pr' sr' dr' rr' kr', lnC q.2 pr' sr' dr' rr' kr' ∧ drA q.2 pr' sr' dr' rr' kr') → ∃ pr' sr' dr' rr' kr', lnC J pr' sr' dr' rr' kr' ∧ drA J pr' sr' dr' rr' kr' := fun {q} he hq => by
      obtain ⟨q1, q2, _, _⟩ := yEnd_ok he
      obtain ⟨a, b, c, d, e, r3, r4⟩ := hq q1
      rw [q2]
      exact ⟨a, b, c, d, e, lnC_tok r3, drA_cg (fun a h1 h2 => (prF_tok _).1 a (by omega)) r4⟩
    by_cases c0 : I 134 9 = 0
    · rw [if_pos c0] at h
      refine fin h (fun hq => ?_)
      have hy : yPL pr I = (true, (yPL pr I).2) := by rw [← hq]
      obtain ⟨a1, a2, a3, a4, a5, _⟩ := yPL_ok hy hp
      exact ⟨pr + 1, sr, dr, rr, kr, ⟨a2, ⟨a5, by omega⟩, ⟨(a3.2 18 (by decide)).trans h18, hs16⟩, ⟨(a3.2 19 (by decide)).trans h19, hd8⟩, ⟨(a3.2 20 (by decide)).trans h20, hr8⟩, (a3.2 21 (by decide)).trans h21, (a3.2 49 (by decide)).trans h49, h64⟩, drA_PL w hy hp⟩
    rw [if_neg c0] at h
    by_cases c1 : I 134 9 = 1
    · rw [if_pos c1] at h
      refine fin h (fun hq => ?_)
      have hy : ySL pr sr I = (true, (ySL pr sr I).2) := by rw [← hq]
      obtain ⟨a1, a2, a3, a4, a5, _⟩ := ySL_ok hy hp
      exact ⟨pr, sr + 1, dr, rr, kr, ⟨a2, ⟨(a3.2 17 (by decide)).trans h17, hp5⟩, ⟨a5, by omega⟩, ⟨(a3.2 19 (by decide)).trans h19, hd8⟩, ⟨(a3.2 20 (by decide)).trans h20, hr8⟩, (a3.2 21 (by decide)).trans h21, (a3.2 49 (by decide)).trans h49, h64⟩, drA_SL w hy hp⟩
    rw [if_neg c1] at h
    by_cases c2 : I 134 9 = 2
    · rw [if_pos c2] at h
      refine fin h (fun hq => ?_)
      have hy : yDL pr dr I = (true, (yDL pr dr I).2) := by rw [← hq]
      obtain ⟨a1, a2, a3, a4, a5, _⟩ := yDL_ok hy hp
      exact ⟨pr, sr, dr + 1, rr, kr, ⟨a2, ⟨(a3.2 17 (by decide)).trans h17, hp5⟩, ⟨(a3.2 18 (by decide)).trans h18, hs16⟩, ⟨a5, by omega⟩, ⟨(a3.2 20 (by decide)).trans h20, hr8⟩, (a3.2 21 (by decide)).trans h21, (a3.2 49 (by decide)).trans h49, h64⟩, drA_DL w hy hp⟩
    rw [if_neg c2] at h
    by_cases c3 : I 134 9 = 3
    · rw [if_pos c3] at h
      refine fin h (fun hq => ?_)
      have hy : yCL pr I = (true, (yCL pr I).2) := by rw [← hq]
      obtain ⟨a2, a3, a4, _⟩ := yCL_ok hp5 hy hp
      exact ⟨pr, sr, dr, rr, kr, ⟨a2, ⟨(a3.2 17 (by decide)).trans h17, hp5⟩, ⟨(a3.2 18 (by decide)).trans h18, hs16⟩, ⟨(a3.2 19 (by decide)).trans h19, hd8⟩, ⟨(a3.2 20 (by decide)).trans h20, hr8⟩, (a3.2 21 (by decide)).trans h21, (a3.2 49 (by decide)).trans h49, h64⟩, drA_CL w hp5 hy hp⟩
    rw [if_neg c3] at h
    by_cases c4 : I 134 9 = 4
    · rw [if_pos c4] at h
      refine fin h (fun hq => ?_)
      have hy : yRL rr I = (true, (yRL rr I).2) := by rw [← hq]
      obtain ⟨a1, a2, a3, a4, a5, _⟩ := yRL_ok hy hp
      exact ⟨pr, sr, dr, rr + 1, kr, ⟨a2, ⟨(a3.2 17 (by decide)).trans h17, hp5⟩, ⟨(a3.2 18 (by decide)).trans h18, hs16⟩, ⟨(a3.2 19 (by decide)).trans h19, hd8⟩, ⟨a5, by omega⟩, (a3.2 21 (by decide)).trans h21, (a3.2 49 (by decide)).trans h49, h64⟩, drA_RL w hy hp⟩
    rw [if_neg c4] at h
    by_cases c5 : I 134 9 = 5
    · rw [if_pos c5] at h
      by_cases hs : I 134 22 = 0
      · rw [if_pos hs] at h
        refine fin h (fun hq => ?_)
        have ps := prI_set hp (k := 22) (by decide) (by decide) 1
        obtain ⟨a1, a2, a3, _, _⟩ := num_ok (J := (yNum (yTok (sI I 134 22 1)) 0 99999).2) (by rw [← hq]) (prI_tok ps)
        have ft := prF_tok (sI I 134 22 1)
        have e : ∀ k, k ∉ [4, 5, 7, 8, 9, 10, 11, 22] → (yNum (yTok (sI I 134 22 1)) 0 99999).2 134 k = I 134 k := fun k hk => by
          rw [a2.2 k (fun w => hk (by revert w; simp; omega)), ft.2 k (fun w => hk (by revert w; simp; omega)), sI_rd (fun w => hk (by rw [w]; decide))]
        exact ⟨pr, sr, dr, rr, kr, ⟨a1, ⟨(e 17 (by decide)).trans h17, hp5⟩, ⟨(e 18 (by decide)).trans h18, hs16⟩, ⟨(e 19 (by decide)).trans h19, hd8⟩, ⟨(e 20 (by decide)).trans h20, hr8⟩, (e 21 (by decide)).trans h21, (e 49 (by decide)).trans h49, h64⟩, drA_cg (fun a h1 h2 => (a2.1 a (by omega)).trans ((ft.1 a (by omega)).trans (sI_ne (by omega)))) w⟩
      · rw [if_neg hs] at h; cases h
    rw [if_neg c5] at h
    unfold lnL at h
    dsimp only at h
    have p1 := prI_tok hp
    by_cases k1 : yTok I 134 8 = 1
    · rw [if_neg (fun w => w k1)] at h
      by_cases k2 : yTok I 134 9 < 13
      · rw [if_pos k2] at h; cases h
      rw [if_neg k2] at h
      by_cases k3 : 15 < yTok I 134 9
      · rw [if_pos k3] at h; cases h
      rw [if_neg k3] at h
      obtain ⟨kk, hkk⟩ : ∃ kk, kk = 3 + ixn (yTok I 134 9) - 13 := ⟨_, rfl⟩
      rw [← hkk] at h
      by_cases k4 : yTok I 152 kk = 0
      · rw [if_neg (fun w => w k4)] at h
        obtain ⟨f, E, W, wn, mn, br, cn, G, J4, hX, ⟨w1, w2, w3, w4⟩, h⟩ := h
        refine fin h (fun hq => ?_)
        have hf : f = 0 := of_decide_eq_true hq
        subst hf
        obtain ⟨⟨x, hS⟩, q2, q3, q4, q5, q6, _, _⟩ := w3 rfl
        have e : ∀ k, k ∉ [4, 5, 7, 8, 9, 10, 11, 21, 46, 47, 48, 49, 50, 51] → J4 134 k = I 134 k := fun k hk => by
          rw [w2.2.1 k hk, sI_ne (by decide), (prF_tok _).2 k (fun w => hk (by revert w; simp; omega)), sI_ne (by decide), (prF_tok I).2 k (fun w => hk (by revert w; simp; omega))]
        have eA : ∀ a, 138 ≤ a → a ≤ 151 → sI J4 154 kk (J4 134 21) a = I a := fun a h1 h2 => by
          rw [sI_ne (by omega), w2.1 a (by simp; omega), sI_ne (by omega), (prF_tok _).1 a (by omega), sI_ne (by omega), (prF_tok I).1 a (by omega)]
        have e152 : sI J4 154 kk (J4 134 21) 152 = upd (I 152) kk 1 := by
          rw [sI_ne (by decide), w2.1 152 (by decide), sI_ne (by decide), (prF_tok _).1 152 (by decide), sI_eq, (prF_tok I).1 152 (by decide)]
        have e153 : sI J4 154 kk (J4 134 21) 153 = upd (I 153) kk (nI kr) := by
          rw [sI_ne (by decide), w2.1 153 (by decide), sI_eq, (prF_tok _).1 153 (by decide), sI_ne (by decide), (prF_tok I).1 153 (by decide)]
        have e154 : sI J4 154 kk (J4 134 21) 154 = upd (I 154) kk (J4 134 21) := by
          rw [sI_eq, w2.1 154 (by decide), sI_ne (by decide), (prF_tok _).1 154 (by decide), sI_ne (by decide), (prF_tok I).1 154 (by decide)]
        have eK : ∀ j, j < 64 + kr → J4 155 j = I 155 j ∧ J4 156 j = I 156 j ∧ J4 157 j = I 157 j := fun j hj => by
          obtain ⟨v1, v2, v3⟩ := w2.2.2 j hj
          rw [v1, v2, v3, sI_ne (by decide), sI_ne (by decide), sI_ne (by decide), (prF_tok _).1 155 (by decide), (prF_tok _).1 156 (by decide), (prF_tok _).1 157 (by decide), sI_ne (by decide), sI_ne (by decide), sI_ne (by decide), (prF_tok I).1 155 (by decide), (prF_tok I).1 156 (by decide), (prF_tok I).1 157 (by decide)]
          exact ⟨rfl, rfl, rfl⟩
        refine ⟨pr, sr, dr, rr, kr + E.length, ⟨prI_st w1 (by decide) _, ⟨(e 17 (by decide)).trans h17, hp5⟩, ⟨(e 18 (by decide)).trans h18, hs16⟩, ⟨(e 19 (by decide)).trans h19, hd8⟩, ⟨(e 20 (by decide)).trans h20, hr8⟩, hS.2.1, (by show J4 134 49 = _; rw [q4, q2]), by omega⟩, drP_cg (fun a h1 h2 => eA a h1 (by omega)) w.1, drC_cg (eA 141 (by decide) (by decide)) (Nat.le_refl _) w.2.1, drS_cg (fun a h1 h2 => eA a (by omega) (by omega)) (Nat.le_refl _) w.2.2.1, drD_cg (fun a h1 h2 => eA a (by omega) (by omega)) (Nat.le_refl _) w.2.2.2.1, drR_cg (eA 151 (by decide) (by decide)) w.2.2.2.2.1, ?_⟩
        intro r hr hne
        show ∃ (b : Nat) (E' : List (Nat × Nat)) (x : Nat), sI J4 154 kk (J4 134 21) 153 (3 + r) = nI b ∧ sI J4 154 kk (J4 134 21) 154 (3 + r) = nI (b + E'.length) ∧ b + E'.length ≤ kr + E.length ∧ shE (fun j => J4 155 (64 + j)) (fun j => J4 156 (64 + j)) (fun j => J4 157 (64 + j)) b E' [x]
        rw [e153, e154]
        by_cases er : 3 + r = kk
        · rw [er, upd_eq, upd_eq]
          exact ⟨kr, E, x, rfl, hS.2.1, Nat.le_refl _, hS.1⟩
        · rw [upd_ne er, upd_ne er]
          have hne2 : ¬ I 152 (3 + r) = 0 := fun w0 => hne (by show sI J4 154 kk (J4 134 21) 152 (3 + r) = 0; rw [e152, upd_ne er]; exact w0)
          obtain ⟨b, E0, x0, b1, b2, b3, b4⟩ := w.2.2.2.2.2 r hr hne2
          exact ⟨b, E0, x0, b1, b2, by omega, shE_cg (fun j hj => eK (64 + j) (by omega)) b4⟩
      · rw [if_pos k4] at h; cases h
    · rw [if_pos k1] at h; cases h
  · rw [if_pos hk] at h; cases h
theorem lnC_uq {I : Nat → Nat → Int32} {a b c d e a' b' c' d' e' : Nat} (h : lnC I a b c d e) (w : lnC I a' b' c' d' e') : a = a' ∧ b = b' ∧ c = c' ∧ d = d' ∧ e = e' := by
  obtain ⟨_, ⟨h1, k1⟩, ⟨h2, k2⟩, ⟨h3, k3⟩, ⟨h4, k4⟩, h5, _, k5⟩ := h
  obtain ⟨_, ⟨w1, v1⟩, ⟨w2, v2⟩, ⟨w3, v3⟩, ⟨w4, v4⟩, w5, _, v5⟩ := w
  have inj : ∀ x y : Nat, x ≤ 64 → y ≤ 64 → nI x = nI y → x = y := fun x y hx hy hxy => by
    have := congrArg ixn hxy
    rwa [ixn_nI (by omega), ixn_nI (by omega)] at this
  exact ⟨inj _ _ (by omega) (by omega) (h1.symm.trans w1), inj _ _ (by omega) (by omega) (h2.symm.trans w2), inj _ _ (by omega) (by omega) (h3.symm.trans w3), inj _ _ (by omega) (by omega) (h4.symm.trans w4), inj _ _ k5 v5 (h5.symm.trans w5)⟩
theorem txS_dr : ∀ {j : Nat} {I J : Nat → Nat → Int32}, txS j I J → (∃ pr' sr' dr' rr' kr', lnC I pr' sr' dr' rr' kr' ∧ drA I pr' sr' dr' rr' kr') → ∃ pr' sr' dr' rr' kr', lnC J pr' sr' dr' rr' kr' ∧ drA J pr' sr' dr' rr' kr'
  | 0, I, J, h, w => by
    have e : J = I := h
    rw [e]; exact w
  | j + 1, I, J, h, w => by
    obtain ⟨K, pr, sr, dr, rr, kr, h1, h2, _, h3⟩ := h
    obtain ⟨a, b, c, d, e, k1, k2⟩ := txS_dr h1 w
    obtain ⟨rfl, rfl, rfl, rfl, rfl⟩ := lnC_uq h2 k1
    exact lnR_dr h2 k2 h3
theorem yT0_dr (I : Nat → Nat → Int32) (q : Int32) : drA (yT0 I q) 0 0 0 0 0 := by
  have e : ∀ a, a ≠ 134 → yT0 I q a = yPlain (sI (sI (sI (sI (sI (sI I 134 2 0) 134 6 q) 134 1 0) 134 4 0) 134 5 (-1)) 134 7 0) a := fun a ha => (prF_tok _).1 a ha
  refine ⟨fun p hp => absurd hp (Nat.not_lt_zero _), fun p hp => Or.inl ?_, fun p hp => absurd hp (Nat.not_lt_zero _), fun p hp => absurd hp (Nat.not_lt_zero _), fun p hp => absurd hp (Nat.not_lt_zero _), fun r hr hne => absurd ?_ hne⟩
  · rw [e 141 (by decide)]
    exact if_pos ⟨by omega, by omega⟩
  · rw [e 152 (by decide)]
    exact if_pos ⟨by omega, by omega⟩
