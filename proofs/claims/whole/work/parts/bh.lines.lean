/-! ===== two readings of one line, of one text ===== -/
section
variable {C A A' B B' : Nat → Nat → Int32} {x : Int32} {b b' : Bool}
theorem om_rd {M : Nat → Nat → Int32} {a k : Nat} (h : jk a k = false) (h2 : ¬ (a = 134 ∧ k = 11)) : om C x M a k = M a k := by
  unfold om
  by_cases e : a = 134
  · subst e
    rw [sI_at, if_neg (fun w => h2 ⟨rfl, w⟩), jf_rd h]
  · rw [sI_ne e, jf_rd h]
theorem aE_om (M : Nat → Nat → Int32) : aE M (om C x M) := fun _ _ h h2 => om_rd h h2
theorem aE_tok (h : aE A B) : aE (yTok A) (yTok B) := by
  rw [om_of h, om_tok]
  exact aE_om _
theorem aE_st {a k : Nat} {y : Int32} (h : aE A B) : aE (sI A a k y) (sI B a k y) := fun c j h1 h2 => by
  by_cases e : c = a
  · subst e
    rw [sI_at, sI_at]
    by_cases ej : j = k
    · rw [if_pos ej, if_pos ej]
    · rw [if_neg ej, if_neg ej]; exact h c j h1 h2
  · rw [sI_ne e, sI_ne e]; exact h c j h1 h2
theorem jk_in {a k : Nat} (h : jk a k = false) : (a = 134 ∧ k ∉ [1, 21, 46, 47, 48, 49, 50, 51]) ∨ a ∉ [134, 155, 156, 157, 158, 159] := by
  unfold jk at h
  simp only [Bool.or_eq_false_iff, Bool.and_eq_false_iff, decide_eq_false_iff_not, beq_eq_false_iff_ne] at h
  simp only [List.mem_cons, List.not_mem_nil, or_false]
  omega
theorem yEnd_t {q : Nat → Nat → Int32} (h8 : q 134 8 = 4) (h9 : q 134 9 = 59) : yEnd (true, q) = (true, yTok q) := by
  unfold yEnd
  rw [if_pos rfl, if_pos ⟨h8, h9⟩]
theorem yEnd_f {q : Nat → Nat → Int32} : yEnd (false, q) = (false, q) := if_neg (by intro h; cases h)
set_option maxHeartbeats 1000000 in
theorem al_L {kr : Nat} (hk : A 134 21 = nI kr) (h64 : kr ≤ 64) (hA : lnL A kr b A') (hB : lnL (om C x A) kr b' B') : outE b b' A A' (om C x A) B' := by
  have hI1 : ∀ a, a ≠ 134 → yTok A a = A a := (prF_tok A).1
  unfold lnL at hA hB
  dsimp only at hA hB
  rw [om_tok] at hB
  generalize yTok A = I1 at hA hB hI1
  by_cases c1 : I1 134 8 = 1
  · have c1' : om C x I1 134 8 = 1 := c1
    rw [if_neg (fun w => w c1)] at hA
    rw [if_neg (fun w => w c1')] at hB
    by_cases c2 : I1 134 9 < 13
    · have c2' : om C x I1 134 9 < 13 := c2
      rw [if_pos c2] at hA
      rw [if_pos c2'] at hB
      exact al_f hA hB
    have c2' : ¬ om C x I1 134 9 < 13 := c2
    rw [if_neg c2] at hA
    rw [if_neg c2'] at hB
    by_cases c3 : 15 < I1 134 9
    · have c3' : 15 < om C x I1 134 9 := c3
      rw [if_pos c3] at hA
      rw [if_pos c3'] at hB
      exact al_f hA hB
    have c3' : ¬ 15 < om C x I1 134 9 := c3
    rw [if_neg c3] at hA
    rw [if_neg c3'] at hB
    have e9 : om C x I1 134 9 = I1 134 9 := rfl
    rw [e9] at hB
    generalize 3 + ixn (I1 134 9) - 13 = kk at hA hB
    by_cases c4 : I1 152 kk = 0
    · have c4' : om C x I1 152 kk = 0 := by rw [om_rd rfl (by omega)]; exact c4
      rw [if_neg (fun w => w c4)] at hA
      rw [if_neg (fun w => w c4')] at hB
      have e3 : sI (yTok (sI (om C x I1) 152 kk 1)) 153 kk (nI kr) = om C x (sI (yTok (sI I1 152 kk 1)) 153 kk (nI kr)) := by rw [om_st rfl (by omega), om_tok, om_st rfl (by omega)]
      rw [e3] at hB
      have hI3 : ∀ a, a ≠ 134 → a ≠ 152 → a ≠ 153 → sI (yTok (sI I1 152 kk 1)) 153 kk (nI kr) a = A a := fun a h1 h2 h3 => by rw [sI_ne h3, (prF_tok _).1 a h1, sI_ne h2, hI1 a h1]
      generalize sI (yTok (sI I1 152 kk 1)) 153 kk (nI kr) = I3 at hA hB hI3
      obtain ⟨f, E, W, wn, mn, br, cn, G, J4, hX, ⟨w1, w2, w3, w4⟩, hA⟩ := hA
      obtain ⟨f', E', W', wn', mn', br', cn', G', K4, hX', ⟨v1, v2, v3, v4⟩, hB⟩ := hB
      rw [sum_al (ω := om C x) (fun _ => rfl) (fun _ => rfl) (fun _ => om_tok), hX] at hX'
      simp only [p8, Prod.mk.injEq] at hX'
      obtain ⟨rfl, rfl, rfl, rfl, rfl, rfl, rfl, rfl⟩ := hX'
      by_cases hf : f = 0
      · subst hf
        obtain ⟨⟨y, hS⟩, q2, q3, q4, q5, q6, q7, q8⟩ := w3 rfl
        obtain ⟨⟨y', hS'⟩, r2, r3, r4, r5, r6, r7, r8⟩ := v3 rfl
        have tA := q5.2.2
        have tB := r5.2.2
        have a4 : aE J4 K4 := fun a k h1 h2 => by
          rcases jk_in h1 with ⟨rfl, hk⟩ | ha
          · by_cases h410 : 4 ≤ k ∧ k ≤ 10
            · rw [tA k h410.1 h410.2, tB k h410.1 h410.2, om_rd h1 h2]
            · have hn : k ∉ [4, 5, 7, 8, 9, 10, 11, 21, 46, 47, 48, 49, 50, 51] := fun w => by
                simp only [List.mem_cons, List.not_mem_nil, or_false] at w hk
                have : k ≠ 11 := fun z => h2 ⟨rfl, z⟩
                omega
              rw [w2.2.1 k hn, v2.2.1 k hn, om_rd h1 h2]
          · rw [w2.1 a ha, v2.1 a ha, om_rd h1 h2]
        have e21 : K4 134 21 = J4 134 21 := by rw [hS.2.1, hS'.2.1]
        have st8 : ∀ {Q : Nat → Nat → Int32} {z : Int32} {k : Nat}, sI Q 154 kk z 134 k = Q 134 k := fun {Q z k} => by rw [sI_ne (by decide)]
        rw [show decide ((0 : Nat) = 0) = true from rfl, yEnd_t (by rw [st8, tA 8 (by decide) (by decide)]; exact q7) (by rw [st8, tA 9 (by decide) (by decide)]; exact q8)] at hA
        rw [show decide ((0 : Nat) = 0) = true from rfl, yEnd_t (by rw [st8, tB 8 (by decide) (by decide)]; exact r7) (by rw [st8, tB 9 (by decide) (by decide)]; exact r8)] at hB
        cases hA
        cases hB
        rw [e21]
        have a5 : aE (yTok (sI J4 154 kk (J4 134 21))) (yTok (sI K4 154 kk (J4 134 21))) := aE_tok (aE_st a4)
        refine ⟨rfl, a5 134 4 rfl (by decide), a5 134 5 rfl (by decide), fun _ => ⟨a5, fun hl => ?_⟩⟩
        have p21 : ∀ {Q : Nat → Nat → Int32} {z : Int32}, yTok (sI Q 154 kk z) 134 21 = Q 134 21 := fun {Q z} => by rw [(prF_tok _).2 21 (by decide), sI_ne (by decide)]
        have p5 : ∀ {Q : Nat → Nat → Int32} {z : Int32} {a : Nat}, a = 155 ∨ a = 156 → yTok (sI Q 154 kk z) a = Q a := fun {Q z a} ha => by rw [(prF_tok _).1 a (by omega), sI_ne (by omega)]
        refine ⟨by rw [p21, p21, e21], fun i hi => ?_⟩
        rw [p21, hS.2.1, ixn_nI (by omega)] at hi
        rw [p5 (Or.inl rfl), p5 (Or.inr rfl), p5 (Or.inl rfl), p5 (Or.inr rfl)]
        by_cases hik : i < kr
        · obtain ⟨z1, z2, -⟩ := w2.2.2 (64 + i) (by omega)
          obtain ⟨z3, z4, -⟩ := v2.2.2 (64 + i) (by omega)
          obtain ⟨z5, z6⟩ := hl.2 i (by rw [hk, ixn_nI (by omega)]; exact hik)
          have j5 : ∀ i, jk 155 i = true := fun i => rfl
          have j6 : ∀ i, jk 156 i = true := fun i => rfl
          rw [om_jk (j5 _) (by omega)] at z5 z3
          rw [om_jk (j6 _) (by omega)] at z6 z4
          rw [hI3 155 (by decide) (by decide) (by decide)] at z1
          rw [hI3 156 (by decide) (by decide) (by decide)] at z2
          rw [z1, z2, z3, z4]
          exact ⟨z5, z6⟩
        · exact sh_al hS.1 hS'.1 i (by omega) hi
      · obtain ⟨z1, z2⟩ := w4 hf
        obtain ⟨z3, z4⟩ := v4 hf
        rw [show decide (f = 0) = false from decide_eq_false hf, yEnd_f] at hA hB
        cases hA
        cases hB
        refine ⟨rfl, ?_, ?_, fun w => by cases w⟩
        · rw [sI_ne (by decide), sI_ne (by decide), z1, z3]
        · rw [sI_ne (by decide), sI_ne (by decide), z2, z4]
          rfl
    · have c4' : ¬ om C x I1 152 kk = 0 := by rw [om_rd rfl (by omega)]; exact c4
      rw [if_pos c4] at hA
      rw [if_pos c4'] at hB
      exact al_f hA hB
  · have c1' : ¬ om C x I1 134 8 = 1 := c1
    rw [if_pos c1] at hA
    rw [if_pos c1'] at hB
    exact al_f hA hB
set_option maxHeartbeats 1000000 in
theorem al_R {pr sr dr rr kr : Nat} (hk : A 134 21 = nI kr) (h64 : kr ≤ 64) (hA : lnR A pr sr dr rr kr b A') (hB : lnR (om C x A) pr sr dr rr kr b' B') : outE b b' A A' (om C x A) B' := by
  unfold lnR at hA hB
  have e8 : om C x A 134 8 = A 134 8 := rfl
  have e9 : om C x A 134 9 = A 134 9 := rfl
  have e22 : om C x A 134 22 = A 134 22 := rfl
  rw [e8, e9, e22] at hB
  by_cases c1 : A 134 8 = 1
  · rw [if_neg (fun w => w c1)] at hA hB
    by_cases c2 : 6 < A 134 9
    · rw [if_pos c2] at hA hB; exact al_f hA hB
    rw [if_neg c2] at hA hB
    by_cases c3 : A 134 9 = 0
    · rw [if_pos c3] at hA hB; exact al_F (F := yPL pr) (fun _ _ => h_PL) (fun _ _ => k1_PL) hA hB
    rw [if_neg c3] at hA hB
    by_cases c4 : A 134 9 = 1
    · rw [if_pos c4] at hA hB; exact al_F (F := ySL pr sr) (fun _ _ => h_SL) (fun _ _ => k1_SL) hA hB
    rw [if_neg c4] at hA hB
    by_cases c5 : A 134 9 = 2
    · rw [if_pos c5] at hA hB; exact al_F (F := yDL pr dr) (fun _ _ => h_DL) (fun _ _ => k1_DL) hA hB
    rw [if_neg c5] at hA hB
    by_cases c6 : A 134 9 = 3
    · rw [if_pos c6] at hA hB; exact al_F (F := yCL pr) (fun _ _ => h_CL) (fun _ _ => k1_CL) hA hB
    rw [if_neg c6] at hA hB
    by_cases c7 : A 134 9 = 4
    · rw [if_pos c7] at hA hB; exact al_F (F := yRL rr) (fun _ _ => h_RL) (fun _ _ => k1_RL) hA hB
    rw [if_neg c7] at hA hB
    by_cases c8 : A 134 9 = 5
    · rw [if_pos c8] at hA hB
      by_cases c9 : A 134 22 = 0
      · rw [if_pos c9] at hA hB
        exact al_F (F := fun I => yNum (yTok (sI I 134 22 1)) 0 99999) (fun _ _ => h_num (h_tok (h_st rfl rfl rfl))) (fun M x => by
          show k1 (yNum (yTok (sI (sI M 134 11 x) 134 22 1)) 0 99999) (yNum (yTok (sI M 134 22 1)) 0 99999)
          rw [u_st (by decide), u_tok]
          exact k1_num) hA hB
      · rw [if_neg c9] at hA hB; exact al_f hA hB
    rw [if_neg c8] at hA hB
    exact al_L hk h64 hA hB
  · rw [if_pos c1] at hA hB; exact al_f hA hB
theorem ln_uq {a1 a2 a3 a4 a5 b1 b2 b3 b4 b5 : Nat} (h : aL2 A B) (hA : lnC A a1 a2 a3 a4 a5) (hB : lnC B b1 b2 b3 b4 b5) : b1 = a1 ∧ b2 = a2 ∧ b3 = a3 ∧ b4 = a4 ∧ b5 = a5 := by
  obtain ⟨-, ⟨x1, y1⟩, ⟨x2, y2⟩, ⟨x3, y3⟩, ⟨x4, y4⟩, x5, -, y5⟩ := hA
  obtain ⟨-, ⟨z1, w1⟩, ⟨z2, w2⟩, ⟨z3, w3⟩, ⟨z4, w4⟩, z5, -, w5⟩ := hB
  have inj : ∀ p q : Nat, p ≤ 64 → q ≤ 64 → nI p = nI q → p = q := fun p q hp hq e => by
    have := congrArg Int32.toInt e
    rw [nI_toInt (by omega), nI_toInt (by omega)] at this
    omega
  have f1 := h.1 134 17 rfl (by decide)
  have f2 := h.1 134 18 rfl (by decide)
  have f3 := h.1 134 19 rfl (by decide)
  have f4 := h.1 134 20 rfl (by decide)
  have f5 := h.2.1
  rw [x1, z1] at f1
  rw [x2, z2] at f2
  rw [x3, z3] at f3
  rw [x4, z4] at f4
  rw [x5, z5] at f5
  exact ⟨inj _ _ (by omega) (by omega) f1, inj _ _ (by omega) (by omega) f2, inj _ _ (by omega) (by omega) f3, inj _ _ (by omega) (by omega) f4, inj _ _ (by omega) (by omega) f5⟩
theorem al_ln {a1 a2 a3 a4 a5 b1 b2 b3 b4 b5 : Nat} (h : aL2 A B) (cA : lnC A a1 a2 a3 a4 a5) (cB : lnC B b1 b2 b3 b4 b5) (hA : lnR A a1 a2 a3 a4 a5 b A') (hB : lnR B b1 b2 b3 b4 b5 b' B') : b' = b ∧ B' 134 4 = A' 134 4 ∧ B' 134 5 = A' 134 5 ∧ (b = true → aL2 A' B') := by
  obtain ⟨rfl, rfl, rfl, rfl, rfl⟩ := ln_uq h cA cB
  have hl := h.2
  rw [om_of h.1] at hB hl
  obtain ⟨r1, r2, r3, r4⟩ := al_R cA.2.2.2.2.2.1 cA.2.2.2.2.2.2.2 hA hB
  exact ⟨r1, r2, r3, fun w => ⟨(r4 w).1, (r4 w).2 hl⟩⟩
/-- two readings of a text end alike -/
theorem al_tx : ∀ {m m' : Nat} {A B Je Ke Jf Kf : Nat → Nat → Int32} {b b' : Bool}, aL2 A B → txC m A Je → txE b Je Jf → txC m' B Ke → txE b' Ke Kf → m' = m ∧ b' = b ∧ Kf 134 4 = Jf 134 4 ∧ Kf 134 5 = Jf 134 5 ∧ (b = true → aL2 Jf Kf)
  | 0, m', A, B, Je, Ke, Jf, Kf, b, b', h, hA, eA, hB, eB => by
    have e8 := h.1 134 8 rfl (by decide)
    have eJ : Je = A := hA
    subst eJ
    rcases eA with ⟨rfl, z, rfl⟩ | ⟨rfl, a1, a2, a3, a4, a5, cA, z, lA⟩
    · cases m' with
      | zero =>
        have eK : Ke = B := hB
        subst eK
        rcases eB with ⟨rfl, w, rfl⟩ | ⟨rfl, _, _, _, _, _, _, w, _⟩
        · exact ⟨rfl, rfl, h.1 134 4 rfl (by decide), h.1 134 5 rfl (by decide), fun _ => h⟩
        · rw [e8] at w; exact absurd z w
      | succ m' =>
        obtain ⟨K, b1, b2, b3, b4, b5, _, w, _⟩ := hB
        rw [e8] at w; exact absurd z w
    · cases m' with
      | zero =>
        have eK : Ke = B := hB
        subst eK
        rcases eB with ⟨rfl, w, rfl⟩ | ⟨rfl, b1, b2, b3, b4, b5, cB, w, lB⟩
        · rw [e8] at w; exact absurd w z
        · obtain ⟨r1, r2, r3, r4⟩ := al_ln h cA cB lA lB
          exact ⟨rfl, rfl, r2, r3, fun w => by cases w⟩
      | succ m' =>
        obtain ⟨K, b1, b2, b3, b4, b5, cB, w, lB, _⟩ := hB
        have := (al_ln h cA cB lA lB).1
        cases this
  | m + 1, m', A, B, Je, Ke, Jf, Kf, b, b', h, hA, eA, hB, eB => by
    have e8 := h.1 134 8 rfl (by decide)
    obtain ⟨K, a1, a2, a3, a4, a5, cA, z, lA, hA⟩ := hA
    cases m' with
    | zero =>
      have eK : Ke = B := hB
      subst eK
      rcases eB with ⟨rfl, w, rfl⟩ | ⟨rfl, b1, b2, b3, b4, b5, cB, w, lB⟩
      · rw [e8] at w; exact absurd w z
      · have := (al_ln h cA cB lA lB).1
        cases this
    | succ m' =>
      obtain ⟨K', b1, b2, b3, b4, b5, cB, w, lB, hB⟩ := hB
      obtain ⟨r1, r2, r3, r4⟩ := al_ln h cA cB lA lB
      obtain ⟨s1, s2, s3, s4, s5⟩ := al_tx (r4 rfl) hA eA hB eB
      exact ⟨by omega, s2, s3, s4, s5⟩
end
