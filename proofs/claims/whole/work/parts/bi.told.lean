/-! ===== class and reference: a text ===== -/
def og (C M : Nat → Nat → Int32) : Nat → Nat → Int32 := fun a => if a < 134 then C a else M a
section
variable {C M M' A A' B : Nat → Nat → Int32} {b : Bool}
theorem og_hi {a : Nat} (h : 134 ≤ a) : og C M a = M a := if_neg (by omega)
theorem g_st {a k : Nat} {x x' : Int32} (ha : 134 ≤ a) (hM : M' = og C M) (hx : x' = x) : sI M' a k x' = og C (sI M a k x) := by
  subst hM hx
  funext c
  by_cases e : c = a
  · subst e
    rw [sI_eq, og_hi ha, og_hi ha, sI_eq]
  · rw [sI_ne e]
    unfold og
    rw [sI_ne e]
theorem g_aU {a : Nat} {f f' : Nat → Int32} (ha : 134 ≤ a) (hM : M' = og C M) (hf : f' = f) : aU M' a f' = og C (aU M a f) := by
  subst hM hf
  funext c
  by_cases e : c = a
  · subst e
    rw [aU_eq, og_hi ha, aU_eq]
  · rw [aU_ne e]
    unfold og
    rw [aU_ne e]
theorem g_tok (hM : M' = og C M) : yTok M' = og C (yTok M) := by
  subst hM
  have e : ∀ n k w p : Int32, tkQ (og C M) n k w p = og C (tkQ M n k w p) := fun n k w p => g_st (by decide) (g_st (by decide) (g_st (by decide) (g_st (by decide) rfl rfl) rfl) rfl) rfl
  exact e _ _ _ _
theorem g_T0 {q : Int32} : yT0 (og C M) q = og C (yT0 M q) := by
  unfold yT0
  refine g_tok ?_
  have e : sI (sI (sI (sI (sI (sI (og C M) 134 2 0) 134 6 q) 134 1 0) 134 4 0) 134 5 (-1)) 134 7 0 = og C (sI (sI (sI (sI (sI (sI M 134 2 0) 134 6 q) 134 1 0) 134 4 0) 134 5 (-1)) 134 7 0) := g_st (by decide) (g_st (by decide) (g_st (by decide) (g_st (by decide) (g_st (by decide) (g_st (by decide) rfl rfl) rfl) rfl) rfl) rfl) rfl
  rw [e]
  generalize sI (sI (sI (sI (sI (sI M 134 2 0) 134 6 q) 134 1 0) 134 4 0) 134 5 (-1)) 134 7 0 = K
  unfold yPlain yPl7
  exact g_aU (by decide) (g_aU (by decide) (g_st (by decide) (g_st (by decide) (g_st (by decide) (g_st (by decide) (g_st (by decide) (g_st (by decide) (g_st (by decide) rfl rfl) rfl) rfl) rfl) rfl) rfl) rfl) rfl) rfl
theorem og_of (h : ∀ a, 134 ≤ a → B a = A a) : B = og B A := by
  funext a
  unfold og
  by_cases e : a < 134
  · rw [if_pos e]
  · rw [if_neg e]; exact h a (by omega)
theorem aL2_T0 {q : Int32} (h : ∀ a, 134 ≤ a → B a = A a) : aL2 (yT0 A q) (yT0 B q) := by
  have e : ∀ a, 134 ≤ a → yT0 B q a = yT0 A q a := fun a ha => by
    rw [og_of h, g_T0, og_hi ha]
  refine ⟨fun a k h1 _ => ?_, by rw [e 134 (by decide)], fun i _ => ⟨by rw [e 155 (by decide)], fun _ => by rw [e 156 (by decide)]⟩⟩
  have ha : 134 ≤ a := by
    unfold jk at h1
    simp only [Bool.or_eq_false_iff, decide_eq_false_iff_not] at h1
    omega
  rw [e a ha]
theorem jk_mid {a k : Nat} (h1 : 135 ≤ a) (h2 : a ≤ 154) : jk a k = false := by
  unfold jk
  simp only [Bool.or_eq_false_iff, Bool.and_eq_false_iff, decide_eq_false_iff_not, beq_eq_false_iff_ne]
  omega
theorem txD_al {X : Nat → Nat → Int32} {t pr sr dr rr kr : Nat} (h : aL2 A B) (hk : A 134 21 = nI kr) (hd : txD X A t pr sr dr rr kr) : txD X B t pr sr dr rr kr := by
  have eB : ∀ a, 135 ≤ a → a ≤ 154 → B a = A a := fun a h1 h2 => funext fun k => h.1 a k (jk_mid h1 h2) (by omega)
  obtain ⟨d1, d2, d3, d4, d5, d6, d7, d8⟩ := hd
  refine ⟨by rw [h.1 134 22 rfl (by decide)]; exact d1, d2, ?_, ?_, ?_, ?_, ?_, d8.1, d8.2.1, d8.2.2.1, fun r hr => ?_⟩
  · unfold dPe at *
    rw [eB 137 (by decide) (by decide), eB 138 (by decide) (by decide), eB 139 (by decide) (by decide), eB 140 (by decide) (by decide)]
    exact d3
  · unfold dSh at *
    rw [eB 142 (by decide) (by decide), eB 143 (by decide) (by decide), eB 144 (by decide) (by decide), eB 145 (by decide) (by decide), eB 146 (by decide) (by decide)]
    exact d4
  · unfold dDb at *
    rw [eB 147 (by decide) (by decide), eB 148 (by decide) (by decide), eB 149 (by decide) (by decide), eB 150 (by decide) (by decide)]
    exact d5
  · unfold dC at *
    rw [eB 141 (by decide) (by decide)]
    exact d6
  · unfold dRt at *
    rw [eB 151 (by decide) (by decide)]
    exact d7
  · rw [eB 152 (by decide) (by decide), eB 153 (by decide) (by decide), eB 154 (by decide) (by decide)]
    rcases d8.2.2.2 r hr with w | ⟨q1, q2, bb, ee, w1, w2, w3, w4, w5, w6, w7⟩
    · exact Or.inl w
    · refine Or.inr ⟨q1, q2, bb, ee, w1, w2, w3, w4, w5, w6, fun i i1 i2 => ?_⟩
      have k64 := d8.2.2.1
      obtain ⟨z1, z2⟩ := h.2.2 i (by rw [hk, ixn_nI (by omega)]; omega)
      rw [z1]
      rcases w7 i i1 i2 with ⟨u1, u2, u3⟩ | ⟨u1, u2, u3⟩ | u
      · rw [z2 (Or.inl u1)]; exact Or.inl ⟨u1, u2, u3⟩
      · rw [z2 (Or.inr u1)]; exact Or.inr (Or.inl ⟨u1, u2, u3⟩)
      · exact Or.inr (Or.inr u)
theorem yEnd_1 {q : Bool × (Nat → Nat → Int32)} (h : (b, A') = yEnd q) : A' 134 1 = q.2 134 1 := by
  unfold yEnd at h
  by_cases c : q.1 = true
  · rw [if_pos c] at h
    by_cases d : q.2 134 8 = 4 ∧ q.2 134 9 = 59
    · rw [if_pos d] at h; cases h; rfl
    · rw [if_neg d] at h; cases h; rfl
  · rw [if_neg c] at h
    exact congrArg (fun z : Bool × (Nat → Nat → Int32) => z.2 134 1) h
theorem kF_1 {F : (Nat → Nat → Int32) → Bool × (Nat → Nat → Int32)} (hF : ∀ C M, F (jf C M) = pj C (F M)) (hA : (b, A') = yEnd (F A)) : A' 134 1 = A 134 1 := by
  have e : F A = pj A (F A) := by
    have := hF A A
    rw [jf_self] at this
    exact this
  rw [yEnd_1 hA, e]
  show jf A (F A).2 134 1 = A 134 1
  exact jf_jk rfl
theorem kf_1 {K : Nat → Nat → Int32} {q : Int32} (hK : K 134 1 = A 134 1) (hA : (b, A') = (false, yWr K q)) : A' 134 1 = A 134 1 := by
  cases hA
  exact hK
theorem lnR_1 {pr sr dr rr kr : Nat} (hA : lnR A pr sr dr rr kr b A') : A' 134 1 = A 134 1 := by
  unfold lnR at hA
  by_cases c1 : A 134 8 = 1
  · rw [if_neg (fun w => w c1)] at hA
    by_cases c2 : 6 < A 134 9
    · rw [if_pos c2] at hA; exact kf_1 rfl hA
    rw [if_neg c2] at hA
    by_cases c3 : A 134 9 = 0
    · rw [if_pos c3] at hA; exact kF_1 (F := yPL pr) (fun _ _ => h_PL) hA
    rw [if_neg c3] at hA
    by_cases c4 : A 134 9 = 1
    · rw [if_pos c4] at hA; exact kF_1 (F := ySL pr sr) (fun _ _ => h_SL) hA
    rw [if_neg c4] at hA
    by_cases c5 : A 134 9 = 2
    · rw [if_pos c5] at hA; exact kF_1 (F := yDL pr dr) (fun _ _ => h_DL) hA
    rw [if_neg c5] at hA
    by_cases c6 : A 134 9 = 3
    · rw [if_pos c6] at hA; exact kF_1 (F := yCL pr) (fun _ _ => h_CL) hA
    rw [if_neg c6] at hA
    by_cases c7 : A 134 9 = 4
    · rw [if_pos c7] at hA; exact kF_1 (F := yRL rr) (fun _ _ => h_RL) hA
    rw [if_neg c7] at hA
    by_cases c8 : A 134 9 = 5
    · rw [if_pos c8] at hA
      by_cases c9 : A 134 22 = 0
      · rw [if_pos c9] at hA
        exact kF_1 (F := fun I => yNum (yTok (sI I 134 22 1)) 0 99999) (fun _ _ => h_num (h_tok (h_st rfl rfl rfl))) hA
      · rw [if_neg c9] at hA; exact kf_1 rfl hA
    rw [if_neg c8] at hA
    unfold lnL at hA
    dsimp only at hA
    have e1 : yTok A 134 1 = A 134 1 := rfl
    generalize yTok A = I1 at hA e1
    by_cases d1 : I1 134 8 = 1
    · rw [if_neg (fun w => w d1)] at hA
      by_cases d2 : I1 134 9 < 13
      · rw [if_pos d2] at hA; exact kf_1 e1 hA
      rw [if_neg d2] at hA
      by_cases d3 : 15 < I1 134 9
      · rw [if_pos d3] at hA; exact kf_1 e1 hA
      rw [if_neg d3] at hA
      generalize 3 + ixn (I1 134 9) - 13 = kk at hA
      by_cases d4 : I1 152 kk = 0
      · rw [if_neg (fun w => w d4)] at hA
        obtain ⟨f, E, W, wn, mn, br, cn, G, J4, hX, ⟨w1, w2, w3, w4⟩, hA⟩ := hA
        rw [yEnd_1 hA]
        show sI J4 154 kk (J4 134 21) 134 1 = _
        rw [sI_ne (by decide), w2.2.1 1 (by decide), sI_ne (by decide), (prF_tok _).2 1 (by decide), sI_ne (by decide)]
        exact e1
      · rw [if_pos d4] at hA; exact kf_1 e1 hA
    · rw [if_pos d1] at hA; exact kf_1 e1 hA
  · rw [if_pos c1] at hA; exact kf_1 rfl hA
theorem txC_1 : ∀ {m : Nat} {A J : Nat → Nat → Int32}, txC m A J → J 134 1 = A 134 1
  | 0, A, J, h => by rw [show J = A from h]
  | m + 1, A, J, h => by
    obtain ⟨K, _, _, _, _, _, _, _, l, h⟩ := h
    rw [txC_1 h, lnR_1 l]
end
