/-! ===== class and reference: back, tracks, halves ===== -/
section
variable {X Y : Nat → Nat → Int32} {t np ns nd nx sz : Nat}
theorem back_y (h : gR X Y t np ns nd nx sz) : (X 1 10 = 0 ↔ Y 134 88 = 0) ∧ (¬ Y 134 88 = 0 → X 68 1 = Y 134 92 ∧ gR (sI (sI (xCopy X 62 68) 80 0 0) 80 1 0) (yBack Y) t np ns nd 0 0) := by
  have ht := h.2.2.2.2.2.2.2
  have hns := h.1.lns
  have hnp := h.1.lnp
  have hnd := h.1.lnd
  have him := h.2.2.2.2.2.2.1.1
  refine ⟨?_, fun hz => ?_⟩
  · rcases him with ⟨q1, q2⟩ | ⟨q1, q2, -⟩
    · exact ⟨fun _ => q2, fun _ => q1⟩
    · rw [q1, q2]
  rcases him with ⟨q1, q2⟩ | ⟨q1, q2, i1, i2, i3, i4, i5, i6, i7, i8, i9⟩
  · exact absurd q2 hz
  refine ⟨i4, ?_⟩
  have xc : ∀ a, a ≠ 80 → sI (sI (xCopy X 62 68) 80 0 0) 80 1 0 a = xCopy X 62 68 a := fun a q => by rw [sI_ne q, sI_ne q]
  have xo : ∀ a, a ≠ 80 → (a < 62 ∨ 68 ≤ a) → sI (sI (xCopy X 62 68) 80 0 0) 80 1 0 a = X a := fun a q1 q2 => by rw [xc a q1, xCopy_ne (by omega)]
  obtain ⟨c1, c2, c3, c4, c5⟩ := xCopy_1 (X := X) (w := 62) (v := 68)
  have y34 : ∀ k, yBack Y 134 k = if k = 86 then 0 else if k = 2 then 0 else Y 134 k := by
    intro k
    unfold yBack yTk
    rw [sI_at, sI_ne (by decide), aU_ne (by decide), aU_ne (by decide), aU_ne (by decide), aU_ne (by decide), aU_ne (by decide), sI_at]
  have z4 : ∀ k, k ≠ 86 → k ≠ 2 → yBack Y 134 k = Y 134 k := fun k q1 q2 => by rw [y34, if_neg q1, if_neg q2]
  have yo : ∀ a, a ≠ 134 → (a < 162 ∨ 167 < a) → yBack Y a = Y a := fun a q1 q2 => by
    unfold yBack yTk
    rw [sI_ne q1, sI_ne (by omega), aU_ne (by omega), aU_ne (by omega), aU_ne (by omega), aU_ne (by omega), aU_ne (by omega), sI_ne q1]
  have y162 : ∀ s, s < 16 → yBack Y 162 s = Y 183 s := fun s hs => if_pos hs
  have y163 : ∀ s, s < 16 → yBack Y 163 s = Y 182 s := fun s hs => by
    show (if s < 16 then Y 182 (0 + s) else _) = _
    rw [if_pos hs, Nat.zero_add]
  have y164 : ∀ s, s < 5 → yBack Y 164 s = Y 182 (16 + s) := fun s hs => by
    show (if s < 5 then Y 182 (0 + 16 + s) else _) = _
    rw [if_pos hs, Nat.zero_add]
  have y165 : ∀ s, s < 5 → yBack Y 165 s = Y 182 (21 + s) := fun s hs => by
    show (if s < 5 then Y 182 (0 + 21 + s) else _) = _
    rw [if_pos hs, Nat.zero_add]
  have y166 : ∀ s, s < 8 → yBack Y 166 s = Y 184 s := fun s hs => if_pos hs
  have y167 : yBack Y 167 0 = Y 134 92 := rfl
  refine ⟨⟨sT_cg h.1.1 (fun a q1 q2 _ => xo a (by omega) (by omega)) ⟨fun a q1 q2 => yo a (by omega) (by omega), z4 12 (by decide) (by decide), z4 13 (by decide) (by decide), z4 14 (by decide) (by decide)⟩, ⟨fun s hs => ?_, fun p hp => ?_, fun d hd => ?_, ?_, ?_, ?_⟩, mI_mE.mpr (mE_cg i7.1 (fun s hs => y162 s (by omega)) (fun s hs => y163 s (by omega)) (fun p hp => y164 p (by omega)) (fun p hp => y165 p (by omega))), by rw [z4 64 (by decide) (by decide)]; exact h.1.2.2.2.1, fun s hs hn => ?_⟩, ?_, by rw [z4 62 (by decide) (by decide), z4 63 (by decide) (by decide)]; exact h.2.2.1, fun d hd hn => ?_, by rw [y167]; exact i9, ⟨by rw [sI_rs]; rfl, by decide, by rw [sI_rd (by decide), sI_rs]; rfl, by decide, by rw [y34]; rfl, fun k hk => absurd hk (Nat.not_lt_zero _)⟩, oR_cg h.2.2.2.2.2.2.1 ht (fun a q => xo a (by omega) (by omega)) (fun a q => yo a (by omega) (by omega)) (fun k hk => z4 k ?_ ?_), ht⟩
  · rw [xc (62 + 1) (by decide), xc (62 + 2) (by decide), xc (62 + 3) (by decide), c1, c2, c3, fil_lt (by omega), fil_lt (by omega), fil_lt (by omega), Nat.mul_zero, Nat.zero_add, y162 s (by omega), y163 s (by omega)]
    refine ⟨?_, (i1 s hs).2, i2.1 s hs⟩
    unfold ySide
    rw [z4 64 (by decide) (by decide), yo 142 (by decide) (by decide), if_pos h.1.2.2.2.1]
    exact (i1 s hs).1
  · rw [xc (62 + 4) (by decide), c4, fil_lt (by omega), fil_lt (by omega), Nat.mul_zero, Nat.zero_add, y164 p (by omega), y165 p (by omega)]
    exact i2.2 p hp
  · rw [xc (62 + 5) (by decide), c5, fil_lt (by omega), Nat.mul_zero, Nat.zero_add, y166 d (by omega)]
    exact i3 d hd
  · rw [xc 62 (by decide), xCopy_0, y167]
    exact i4
  · rw [xc 62 (by decide), xCopy_0, z4 62 (by decide) (by decide), h.2.2.1.1]
    show X 68 2 = 0 ↔ _
    rw [i5]
    decide
  · rw [xc 62 (by decide), xCopy_0, z4 63 (by decide) (by decide), h.2.2.1.2]
    show X 68 3 = 0 ↔ _
    rw [i6]
    decide
  · rw [Nat.mul_zero, Nat.zero_add] at hn ⊢
    rw [y163 s (by omega)] at hn
    rw [y162 s (by omega)]
    exact i7.2 s hs hn
  · rw [xc 62 (by decide), xCopy_0, xCopy_0]
    exact ⟨i5, i6⟩
  · rw [yo 150 (by decide) (by decide), y167] at hn
    rw [Nat.mul_zero, Nat.zero_add, y166 d (by omega)]
    exact i8 d hd hn
  · simp only [o134, List.mem_cons, List.not_mem_nil, or_false] at hk
    omega
  · simp only [o134, List.mem_cons, List.not_mem_nil, or_false] at hk
    omega
/-- other parts change, the shoes don't -/
theorem gR_or {X' Y' : Nat → Nat → Int32} (h : gR X Y t np ns nd nx sz) (hX : ∀ a, (2 < a ∧ a < 123) → X' a = X a) (hY : ∀ a, 134 < a → a ≠ 135 → a ≠ 178 → Y' a = Y a) (h4 : ∀ k, k ≠ 1 → k ≠ 2 → k ≠ 4 → k ≠ 5 → k ≠ 80 → k ≠ 81 → Y' 134 k = Y 134 k) (ho : oR X' Y' t np ns nd) : gR X' Y' t np ns nd nx sz := by
  obtain ⟨h1, h2, h3, h5, h6, h7, h8, ht⟩ := h
  have z : ∀ k, (k ≠ 1 ∧ k ≠ 2 ∧ k ≠ 4 ∧ k ≠ 5 ∧ k ≠ 80 ∧ k ≠ 81) → Y' 134 k = Y 134 k := fun k q => h4 k q.1 q.2.1 q.2.2.1 q.2.2.2.1 q.2.2.2.2.1 q.2.2.2.2.2
  refine ⟨⟨?_, wR_cg h1.2.1 (fun a q1 q2 => hX a (by omega)) (fun a q1 q2 => hY a (by omega) (by omega) (by omega)) (hY 142 (by omega) (by omega) (by omega)) (z 62 (by omega)) (z 63 (by omega)) (z 64 (by omega)), mI_cgY h1.2.2.1 (fun a q1 q2 => hY a (by omega) (by omega) (by omega)), by rw [z 64 (by omega)]; exact h1.2.2.2.1, uM_cgY h1.2.2.2.2 (fun a q1 q2 => hY a (by omega) (by omega) (by omega))⟩, by rw [hX 62 (by omega)]; exact h2, by rw [z 62 (by omega), z 63 (by omega)]; exact h3, ?_, by rw [hY 167 (by omega) (by omega) (by omega)]; exact h6, hsN_cg h7 (fun a q1 q2 => hX a (by omega)) (fun s _ => by rw [hY 162 (by omega) (by omega) (by omega)]) (hY 181 (by omega) (by omega) (by omega)) (z 86 (by omega)) h1.lns h1.lnp, ho, ht⟩
  · have e : ∀ a, 136 ≤ a → a < 158 → Y' a = Y a := fun a q1 q2 => hY a (by omega) (by omega) (by omega)
    have g := sT_cg (X' := X') (Y' := aU Y' 135 (Y 135)) h1.1 (fun a q1 q2 _ => hX a (by omega)) ⟨fun a q1 q2 => by
      by_cases q : a = 135
      · subst q; exact aU_eq _ _ _
      · rw [aU_ne q]; exact e a (by omega) q2, by rw [aU_ne (by decide)]; exact z 12 (by omega), by rw [aU_ne (by decide)]; exact z 13 (by omega), by rw [aU_ne (by decide)]; exact z 14 (by omega)⟩
    exact g
  · unfold dvM
    rw [hY 150 (by omega) (by omega) (by omega), hY 166 (by omega) (by omega) (by omega), hY 167 (by omega) (by omega) (by omega)]
    exact h5
theorem tk_add (h : gR X Y t np ns nd nx sz) {tk : Nat} (hk : Y 134 80 = nI tk) (h24 : tk < 24) {a b c : Int32} (hv : (a = 2 ∧ c = -1 ∧ ∃ j, j < tk ∧ b = nI j) ∨ (a = c ∧ ∃ x z, x ≤ 1 ∧ 1 ≤ z ∧ z ≤ 20 ∧ c = nI x ∧ b = nI z)) : gR (sI (sI (sI X 124 tk a) 125 tk b) 123 0 (nI (tk + 1))) (yTrk (sI Y 134 2 0) tk c b) t np ns nd nx sz := by
  have ht := h.2.2.2.2.2.2.2
  have xo : ∀ i, (i < 123 ∨ 125 < i) → sI (sI (sI X 124 tk a) 125 tk b) 123 0 (nI (tk + 1)) i = X i := fun i q => by rw [sI_ne (by omega), sI_ne (by omega), sI_ne (by omega)]
  have yo : ∀ i, i ≠ 134 → i ≠ 178 → yTrk (sI Y 134 2 0) tk c b i = Y i := fun i q1 q2 => by
    unfold yTrk
    rw [sI_ne q1, sI_ne q2, sI_ne q2, sI_ne q1]
  have y34 : ∀ k, yTrk (sI Y 134 2 0) tk c b 134 k = if k = 80 then nI (tk + 1) else if k = 2 then 0 else Y 134 k := fun k => by
    unfold yTrk
    rw [sI_at, sI_ne (by decide), sI_ne (by decide), sI_at]
  have z4 : ∀ k, k ≠ 80 → k ≠ 2 → yTrk (sI Y 134 2 0) tk c b 134 k = Y 134 k := fun k q1 q2 => by rw [y34, if_neg q1, if_neg q2]
  have y78 : ∀ i, yTrk (sI Y 134 2 0) tk c b 178 i = if i = 2 * tk + 1 then b else if i = 2 * tk then c else Y 178 i := fun i => by
    unfold yTrk
    rw [sI_ne (by decide), sI_at, sI_at, sI_ne (by decide)]
  have x24 : ∀ i, sI (sI (sI X 124 tk a) 125 tk b) 123 0 (nI (tk + 1)) 124 i = if i = tk then a else X 124 i := fun i => by rw [sI_ne (by decide), sI_ne (by decide), sI_at]
  have x25 : ∀ i, sI (sI (sI X 124 tk a) 125 tk b) 123 0 (nI (tk + 1)) 125 i = if i = tk then b else X 125 i := fun i => by rw [sI_ne (by decide), sI_at, sI_ne (by decide)]
  have x23 : ∀ i, sI (sI (sI X 124 tk a) 125 tk b) 123 0 (nI (tk + 1)) 123 i = if i = 0 then nI (tk + 1) else X 123 i := fun i => by rw [sI_at, sI_ne (by decide), sI_ne (by decide)]
  obtain ⟨b1, ⟨tk', q1, q2, q3, q4, q5, q6, q7⟩, b3, b4, b5, b6, b7, b8⟩ := h.2.2.2.2.2.2.1
  have etk : tk' = tk := (nI_eq (by omega) (by omega)).mp (q3.symm.trans hk)
  subst etk
  refine gR_or h (fun i q => xo i (by omega)) (fun i q1 _ q3 => yo i (by omega) q3) (fun k _ q2 _ _ q5 _ => z4 k q5 q2) ⟨?_, ⟨tk' + 1, by omega, by rw [x23]; rfl, by rw [y34]; rfl, fun n hn => ?_, by rw [x23, z4 81 (by decide) (by decide)]; exact q5, ?_, fun k hk2 => ?_⟩, ?_, ?_, ?_, by rw [xo 1 (by omega), z4 4 (by decide) (by decide)]; exact b6, by rw [xo 1 (by omega), z4 5 (by decide) (by decide)]; exact b7, by rw [xo (t + 19) (by omega), z4 16 (by decide) (by decide)]; exact b8⟩
  · unfold imR at *
    rw [xo 1 (by omega), xo 69 (by omega), xo 70 (by omega), xo 71 (by omega), xo 72 (by omega), xo 73 (by omega), xo 68 (by omega), z4 88 (by decide) (by decide), z4 92 (by decide) (by decide), yo 142 (by omega) (by omega), yo 182 (by omega) (by omega), yo 183 (by omega) (by omega), yo 184 (by omega) (by omega), yo 150 (by omega) (by omega)]
    exact b1
  · rw [y78, y78]
    by_cases e : n = tk'
    · subst e
      rw [if_neg (by omega), if_pos rfl, if_pos rfl]
      rcases hv with ⟨-, v2, v3⟩ | ⟨-, x, z, v1, v2, v3, v4, v5⟩
      · exact Or.inl ⟨v2, v3⟩
      · exact Or.inr ⟨x, z, v1, v2, v3, v4, v5⟩
    · rw [if_neg (by omega), if_neg (by omega), if_neg (by omega), if_neg (by omega)]
      exact q4 n (by omega)
  · rw [z4 81 (by decide) (by decide)]
    exact ⟨q6.1, Int32.le_trans q6.2 ((cLe rfl rfl (by omega) (by omega)).mpr (by omega))⟩
  · rw [y78, y78, x24, x25]
    by_cases e : k = tk'
    · subst e
      rw [if_neg (by omega), if_pos rfl, if_pos rfl, if_pos rfl, if_pos rfl]
      rcases hv with ⟨v1, v2, v3⟩ | ⟨v0, x, z, v1, v2, v3, v4, v5⟩
      · exact ⟨fun _ => v1, fun q => absurd v2 q, rfl⟩
      · exact ⟨fun q => absurd (v4.symm.trans q) (nI_neg1 (by omega)), fun _ => v0, rfl⟩
    · have f1 : ¬ 2 * k = 2 * tk' + 1 := by omega
      have f2 : ¬ 2 * k = 2 * tk' := by omega
      have f3 : ¬ 2 * k + 1 = 2 * tk' + 1 := by omega
      have f4 : ¬ 2 * k + 1 = 2 * tk' := by omega
      simp only [if_neg e, if_neg f1, if_neg f2, if_neg f3, if_neg f4]
      exact q7 k (by omega)
  · unfold clR clM at *
    rw [xo (t + 5) (by omega), yo 141 (by omega) (by omega)]
    exact b3
  · unfold rtR at *
    rw [xo (t + 15) (by omega), xo (t + 16) (by omega), xo (t + 17) (by omega), z4 15 (by decide) (by decide), yo 151 (by omega) (by omega)]
    exact b4
  · unfold tpR at *
    rw [xo 1 (by omega), xo 2 (by omega), z4 1 (by decide) (by decide), yo 135 (by omega) (by omega)]
    exact b5
theorem known_y (h : gR X Y t np ns nd nx sz) {a : Int32} (ha : -1 ≤ a ∧ a ≤ Y 134 80) : gR (sI X 123 1 a) (sI (sI Y 134 2 0) 134 81 a) t np ns nd nx sz := by
  have ht := h.2.2.2.2.2.2.2
  have xo : ∀ i, i ≠ 123 → sI X 123 1 a i = X i := fun i q => sI_ne q
  have yo : ∀ i, i ≠ 134 → sI (sI Y 134 2 0) 134 81 a i = Y i := fun i q => by rw [sI_ne q, sI_ne q]
  have y34 : ∀ k, sI (sI Y 134 2 0) 134 81 a 134 k = if k = 81 then a else if k = 2 then 0 else Y 134 k := fun k => by rw [sI_at, sI_at]
  have z4 : ∀ k, k ≠ 81 → k ≠ 2 → sI (sI Y 134 2 0) 134 81 a 134 k = Y 134 k := fun k q1 q2 => by rw [y34, if_neg q1, if_neg q2]
  obtain ⟨b1, ⟨tk, q1, q2, q3, q4, q5, q6, q7⟩, b3, b4, b5, b6, b7, b8⟩ := h.2.2.2.2.2.2.1
  refine gR_or h (fun i q => xo i (by omega)) (fun i q1 _ q3 => yo i (by omega)) (fun k _ q2 _ _ _ q6 => z4 k q6 q2) ⟨?_, ⟨tk, q1, by rw [sI_rd (by decide)]; exact q2, by rw [z4 80 (by decide) (by decide)]; exact q3, ?_, by rw [sI_rs, y34]; rfl, by rw [y34, if_pos rfl, ← q3]; exact ha, ?_⟩, ?_, ?_, ?_, by rw [xo 1 (by omega), z4 4 (by decide) (by decide)]; exact b6, by rw [xo 1 (by omega), z4 5 (by decide) (by decide)]; exact b7, by rw [xo (t + 19) (by omega), z4 16 (by decide) (by decide)]; exact b8⟩
  · unfold imR at *
    rw [xo 1 (by omega), xo 69 (by omega), xo 70 (by omega), xo 71 (by omega), xo 72 (by omega), xo 73 (by omega), xo 68 (by omega), z4 88 (by decide) (by decide), z4 92 (by decide) (by decide), yo 142 (by omega), yo 182 (by omega), yo 183 (by omega), yo 184 (by omega), yo 150 (by omega)]
    exact b1
  · unfold tkM at *
    rw [yo 178 (by decide)]
    exact q4
  · rw [yo 178 (by decide), xo 124 (by decide), xo 125 (by decide)]
    exact q7
  · unfold clR clM at *
    rw [xo (t + 5) (by omega), yo 141 (by omega)]
    exact b3
  · unfold rtR at *
    rw [xo (t + 15) (by omega), xo (t + 16) (by omega), xo (t + 17) (by omega), z4 15 (by decide) (by decide), yo 151 (by omega)]
    exact b4
  · unfold tpR at *
    rw [xo 1 (by omega), xo 2 (by omega), z4 1 (by decide) (by decide), yo 135 (by omega)]
    exact b5
end
