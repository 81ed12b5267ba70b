/-! ===== class and reference: what is tried, years by chance ===== -/
section
variable {X Y Y' : Nat → Nat → Int32} {t np ns nd nx sz : Nat}
theorem gR_sm0 (h : gR X Y t np ns nd nx sz) (hs : sm0 Y' Y) : gR X Y' t np ns nd nx sz := by
  obtain ⟨h1, h2, h3, h4, h5, h6, h7, ht⟩ := h
  have hns := h1.lns
  have hnp := h1.lnp
  have hnd := h1.lnd
  have e4 : Y' 134 = Y 134 := hs.1 134 (by decide)
  obtain ⟨w1, w2, w3, w4, w5⟩ := h1.2.1
  refine ⟨⟨sT_cg h1.1 (fun _ _ _ _ => rfl) (txY_of hs.T), ⟨fun s hs' => ?_, fun p hp => ?_, fun d hd => ?_, ?_, ?_⟩, mI_sm0 hs hnp hns h1.2.2.1, by rw [e4]; exact h1.2.2.2.1, fun s hs' hn => ?_⟩, h2, by rw [e4]; exact h3, fun d hd hn => ?_, by rw [hs.2.2.2.2.2.2]; exact h5, hsN_cg h6 (fun _ _ _ => rfl) (fun s hs' => hs.2.1 s (by omega)) (hs.1 181 (by decide)) (by rw [e4]) hns hnp, oR_cg h7 ht (fun _ _ => rfl) (fun a q => hs.1 a (by omega)) (fun k _ => by rw [e4]), ht⟩
  · unfold ySide
    rw [e4, hs.1 142 (by decide), hs.2.1 _ (by omega), hs.2.2.1 _ (by omega)]
    exact w1 s hs'
  · rw [hs.2.2.2.1 _ (by omega), hs.2.2.2.2.1 _ (by omega)]
    exact w2 p hp
  · rw [hs.2.2.2.2.2.1 _ (by omega)]
    exact w3 d hd
  · rw [hs.2.2.2.2.2.2]
    exact w4
  · rw [e4]
    exact w5
  · rw [hs.2.2.1 _ (by omega)] at hn
    rw [hs.2.1 _ (by omega)]
    exact h1.2.2.2.2 s hs' hn
  · rw [hs.1 150 (by decide), hs.2.2.2.2.2.2] at hn
    rw [hs.2.2.2.2.2.1 _ (by omega)]
    exact h4 d hd hn
theorem lay_at {n k i : Nat} {f : Nat → Int32} (h : i < k) : layK n f k (n + i) = f i := by
  unfold layK
  rw [if_pos ⟨by omega, by omega⟩, show n + i - n = i by omega]
/-- the trial begins as the world stands -/
theorem lay_y (h : gR X Y t np ns nd nx sz) : wR (xCopy X 74 62) (yLay Y) 74 1 np ns nd ∧ sT (xCopy X 74 62) (yLay Y) t np ns nd ∧ mI (yLay Y) 1 np ns ∧ dvM (yLay Y) 1 nd ∧ yLay Y 167 1 = Y 167 0 := by
  have ht := h.2.2.2.2.2.2.2
  have hns := h.1.lns
  have hnp := h.1.lnp
  have hnd := h.1.lnd
  obtain ⟨c1, c2, c3, c4, c5⟩ := xCopy_1 (X := X) (w := 74) (v := 62)
  have y162 : ∀ s, s < 16 → yLay Y 162 (16 * 1 + s) = Y 162 s := fun s hs => lay_at (n := 16) (f := Y 162) hs
  have y163 : ∀ s, s < 16 → yLay Y 163 (16 * 1 + s) = Y 163 s := fun s hs => lay_at (n := 16) (f := Y 163) hs
  have y164 : ∀ s, s < 5 → yLay Y 164 (5 * 1 + s) = Y 164 s := fun s hs => lay_at (n := 5) (f := Y 164) hs
  have y165 : ∀ s, s < 5 → yLay Y 165 (5 * 1 + s) = Y 165 s := fun s hs => lay_at (n := 5) (f := Y 165) hs
  have y166 : ∀ s, s < 8 → yLay Y 166 (8 * 1 + s) = Y 166 s := fun s hs => lay_at (n := 8) (f := Y 166) hs
  have y167 : yLay Y 167 1 = Y 167 0 := rfl
  refine ⟨⟨fun s hs => ?_, fun p hp => ?_, fun d hd => ?_, ?_, ?_, ?_⟩, sT_cg h.1.1 (fun a q1 q2 _ => xCopy_ne (by omega)) (txY_of (sm0_lay Y).T), mI_lay hnp hns h.1.2.2.1, fun d hd hn => ?_, y167⟩
  · rw [c1, c2, c3, fil_lt (by omega), fil_lt (by omega), fil_lt (by omega), y162 s (by omega), y163 s (by omega)]
    exact ⟨(h.1.2.1.1 s hs).1, h.1.w2 hs, h.1.w3 hs⟩
  · rw [c4, fil_lt (by omega), fil_lt (by omega), y164 p (by omega), y165 p (by omega)]
    exact ⟨h.1.f0 hp, h.1.f1 hp⟩
  · rw [c5, fil_lt (by omega), y166 d (by omega)]
    exact h.1.w5 hd
  · rw [xCopy_0, y167]
    exact h.1.2.1.2.2.2.1
  · rw [xCopy_0]
    exact h.1.2.1.2.2.2.2.1
  · rw [xCopy_0]
    exact h.1.2.1.2.2.2.2.2
  · rw [y166 d (by omega)]
    have := h.2.2.2.1 d hd
    rw [Nat.mul_zero, Nat.zero_add] at this
    exact this hn
theorem sumT_y {w b : Nat} (hT : tR X Y t np ns nd) (hW : wR X Y w b np ns nd) (hwf : wfL Y) (hi : mI Y b np ns) : ∀ n, n ≤ ns → sumW (xWorthNow X t w) (fun _ => true) n = yAll Y b n
  | 0, _ => rfl
  | n + 1, hn => by
    unfold sumW yAll
    rw [if_pos rfl, sumT_y hT hW hwf hi n (by omega), worthNow_y hT hW hwf hi (by omega)]
theorem sumO_y {w b : Nat} (hT : tR X Y t np ns nd) (hW : wR X Y w b np ns nd) (hwf : wfL Y) (hi : mI Y b np ns) (p : Int32) : ∀ n, n ≤ ns → sumW (xWorthNow X t w) (fun k => decide (X (w + 3) k = p)) n = yOf Y b p 0 n
  | 0, _ => rfl
  | n + 1, hn => by
    have ih := sumO_y hT hW hwf hi p n (by omega)
    have e3 := (hW.1 n (by omega)).2.2
    unfold sumW
    by_cases z : Y 163 (16 * b + n) = p
    · rw [yOf_y z, if_pos (by rw [e3]; exact decide_eq_true z), ih, worthNow_y hT hW hwf hi (by omega)]
      rfl
    · rw [yOf_n z, if_neg (by rw [e3]; simpa using z), ih]
theorem can_y (h : gR X Y t np ns nd nx sz) (a i n : Int32) : (xCanTry X t a i ∧ 0 ≤ n ∧ n ≤ 50 ∧ X 62 1 + n ≤ 999) ↔ ((0 ≤ a ∧ a ≤ 4) ∧ (0 ≤ n ∧ n ≤ 50) ∧ Y 167 0 + n ≤ 999 ∧ yCan Y a i) := by
  have e1 : X 62 1 = Y 167 0 := h.1.2.1.2.2.2.1
  rw [e1, in04]
  have key : xCanTry X t a i ↔ (a = 0 ∨ a = 1 ∨ a = 2 ∨ a = 3 ∨ a = 4) ∧ yCan Y a i := by
    unfold xCanTry yCan
    by_cases z2 : a = 2
    · subst z2
      rw [if_pos rfl, if_pos rfl, h.1.1.1.hasP]
      exact ⟨fun q => ⟨by decide, q⟩, fun q => q.2⟩
    · by_cases z3 : a = 3
      · subst z3
        rw [if_neg (by decide), if_pos rfl, if_neg (by decide), if_pos rfl, h.1.1.1.hasS]
        exact ⟨fun q => ⟨by decide, q⟩, fun q => q.2⟩
      · rw [if_neg z2, if_neg z3, if_neg z2, if_neg z3]
        constructor
        · rintro ⟨q1, q2⟩
          exact ⟨by rcases q2 with q | q | q; exact Or.inl q; exact Or.inr (Or.inl q); exact Or.inr (Or.inr (Or.inr (Or.inr q))), q1⟩
        · rintro ⟨q1, q2⟩
          refine ⟨q2, ?_⟩
          rcases q1 with q | q | q | q | q
          · exact Or.inl q
          · exact Or.inr (Or.inl q)
          · exact absurd q z2
          · exact absurd q z3
          · exact Or.inr (Or.inr q)
  rw [key]
  constructor
  · rintro ⟨⟨q1, q2⟩, q3, q4, q5⟩
    exact ⟨q1, ⟨q3, q4⟩, q5, q2⟩
  · rintro ⟨q1, ⟨q3, q4⟩, q5, q2⟩
    exact ⟨⟨q1, q2⟩, q3, q4, q5⟩
theorem xTry_ne {a i : Int32} {c : Nat} (hc : c < 74 ∨ 80 ≤ c) : xTry X t 62 74 ns a i c = X c := by
  unfold xTry
  split
  · rw [sI_ne (by omega), xCopy_ne (by omega)]
  · split
    · rw [sI_ne (by omega), xCopy_ne (by omega)]
    · split
      · rw [sI_ne (by omega), sI_ne (by omega), xCopy_ne (by omega)]
      · split
        · rw [xMove_ne (by omega) (by omega), xCopy_ne (by omega)]
        · rw [aU_ne (by omega), xCopy_ne (by omega)]
theorem try_y (h : gR X Y t np ns nd nx sz) {a i : Int32} (ha : 0 ≤ a ∧ a ≤ 4) (hc : yCan Y a i) : wR (xTry X t 62 74 ns a i) (yTry Y np a i) 74 1 np ns nd ∧ mI (yTry Y np a i) 1 np ns := by
  have ht := h.2.2.2.2.2.2.2
  have hns := h.1.lns
  have hnp := h.1.lnp
  obtain ⟨⟨w1, w2, w3, w4, w5, w6⟩, l2, l3, l4, l5⟩ := lay_y h
  have f62 : (yLay Y) 134 62 = 0 := by rw [(sm0_lay Y).1 134 (by decide)]; exact h.2.2.1.1
  have f63 : (yLay Y) 134 63 = 0 := by rw [(sm0_lay Y).1 134 (by decide)]; exact h.2.2.1.2
  have f64 : (yLay Y) 134 64 = 0 := by rw [(sm0_lay Y).1 134 (by decide)]; exact h.1.2.2.2.1
  have x2 : ¬ xCopy X 74 62 74 2 = 0 := fun q => (w5.mp q) f62
  have x3 : ¬ xCopy X 74 62 74 3 = 0 := fun q => (w6.mp q) f63
  have yo : ∀ c, c ≠ 134 → yFl (yLay Y) a c = yLay Y c := fun c q => by
    unfold yFl
    rw [sI_ne q, sI_ne q, sI_ne q]
  have g62 : yFl (yLay Y) a 134 62 = B (a = 0) := by
    unfold yFl
    rw [sI_rd (by decide), sI_rd (by decide), sI_rs]
  have g63 : yFl (yLay Y) a 134 63 = B (a = 1) := by
    unfold yFl
    rw [sI_rd (by decide), sI_rs]
  have g64 : yFl (yLay Y) a 134 64 = B (a = 4) := by
    unfold yFl
    rw [sI_rs]
  have b1 : ∀ {c : Prop} [Decidable c], (B c = 0 ↔ ¬ c) := by
    intro c _
    unfold B
    split
    · rename_i q; exact ⟨fun k => absurd k (by decide), fun k => absurd q k⟩
    · rename_i q; exact ⟨fun _ => q, fun _ => rfl⟩
  have sd : ∀ s, ¬ a = 4 → ySide (yFl (yLay Y) a) s = ySide (yLay Y) s := by
    intro s q
    unfold ySide
    rw [g64, if_pos (b1.mpr q), f64, if_pos rfl, yo 142 (by decide)]
  have mfl : mI (yFl (yLay Y) a) 1 np ns := mI_fl l3
  rcases in04.mp ha with rfl | rfl | rfl | rfl | rfl
  · refine ⟨⟨fun s hs => ?_, fun p hp => ?_, fun d hd => ?_, ?_, ?_, ?_⟩, mfl⟩
    · show sI (xCopy X 74 62) 74 2 0 (74 + 1) s = ySide (yFl (yLay Y) 0) s ∧ sI (xCopy X 74 62) 74 2 0 (74 + 2) s = yFl (yLay Y) 0 162 _ ∧ sI (xCopy X 74 62) 74 2 0 (74 + 3) s = yFl (yLay Y) 0 163 _
      rw [sI_ne (by decide), sI_ne (by decide), sI_ne (by decide), sd s (by decide), yo 162 (by decide), yo 163 (by decide)]
      exact w1 s hs
    · show sI (xCopy X 74 62) 74 2 0 (74 + 4) _ = yFl (yLay Y) 0 164 _ ∧ sI (xCopy X 74 62) 74 2 0 (74 + 4) _ = yFl (yLay Y) 0 165 _
      rw [sI_ne (by decide), yo 164 (by decide), yo 165 (by decide)]
      exact w2 p hp
    · show sI (xCopy X 74 62) 74 2 0 (74 + 5) _ = yFl (yLay Y) 0 166 _
      rw [sI_ne (by decide), yo 166 (by decide)]
      exact w3 d hd
    · show sI (xCopy X 74 62) 74 2 0 74 1 = yFl (yLay Y) 0 167 1
      rw [sI_rd (by decide), yo 167 (by decide)]
      exact w4
    · show sI (xCopy X 74 62) 74 2 0 74 2 = 0 ↔ ¬ yFl (yLay Y) 0 134 62 = 0
      rw [sI_rs, g62]
      decide
    · show sI (xCopy X 74 62) 74 2 0 74 3 = 0 ↔ ¬ yFl (yLay Y) 0 134 63 = 0
      rw [sI_rd (by decide), g63]
      exact ⟨fun q => absurd q x3, fun q => absurd (by decide) q⟩
  · refine ⟨⟨fun s hs => ?_, fun p hp => ?_, fun d hd => ?_, ?_, ?_, ?_⟩, mfl⟩
    · show sI (xCopy X 74 62) 74 3 0 (74 + 1) s = ySide (yFl (yLay Y) 1) s ∧ sI (xCopy X 74 62) 74 3 0 (74 + 2) s = yFl (yLay Y) 1 162 _ ∧ sI (xCopy X 74 62) 74 3 0 (74 + 3) s = yFl (yLay Y) 1 163 _
      rw [sI_ne (by decide), sI_ne (by decide), sI_ne (by decide), sd s (by decide), yo 162 (by decide), yo 163 (by decide)]
      exact w1 s hs
    · show sI (xCopy X 74 62) 74 3 0 (74 + 4) _ = yFl (yLay Y) 1 164 _ ∧ sI (xCopy X 74 62) 74 3 0 (74 + 4) _ = yFl (yLay Y) 1 165 _
      rw [sI_ne (by decide), yo 164 (by decide), yo 165 (by decide)]
      exact w2 p hp
    · show sI (xCopy X 74 62) 74 3 0 (74 + 5) _ = yFl (yLay Y) 1 166 _
      rw [sI_ne (by decide), yo 166 (by decide)]
      exact w3 d hd
    · show sI (xCopy X 74 62) 74 3 0 74 1 = yFl (yLay Y) 1 167 1
      rw [sI_rd (by decide), yo 167 (by decide)]
      exact w4
    · show sI (xCopy X 74 62) 74 3 0 74 2 = 0 ↔ ¬ yFl (yLay Y) 1 134 62 = 0
      rw [sI_rd (by decide), g62]
      exact ⟨fun q => absurd q x2, fun q => absurd (by decide) q⟩
    · show sI (xCopy X 74 62) 74 3 0 74 3 = 0 ↔ ¬ yFl (yLay Y) 1 134 63 = 0
      rw [sI_rs, g63]
      decide
  · have hP : yHasP Y i := hc
    obtain ⟨ip, ei⟩ := h.1.1.1.P hP
    refine ⟨⟨fun s hs => ?_, fun p hp => ?_, fun d hd => ?_, ?_, ?_, ?_⟩, mI_und mfl⟩
    · show sI (sI (xCopy X 74 62) (74 + 4) (2 * ixn i) (-1)) (74 + 4) (2 * ixn i + 1) (-1) (74 + 1) s = ySide (yFl (yLay Y) 2) s ∧ sI (sI (xCopy X 74 62) (74 + 4) (2 * ixn i) (-1)) (74 + 4) (2 * ixn i + 1) (-1) (74 + 2) s = yFl (yLay Y) 2 162 _ ∧ sI (sI (xCopy X 74 62) (74 + 4) (2 * ixn i) (-1)) (74 + 4) (2 * ixn i + 1) (-1) (74 + 3) s = yFl (yLay Y) 2 163 _
      rw [sI_ne (by decide), sI_ne (by decide), sI_ne (by decide), sI_ne (by decide), sI_ne (by decide), sI_ne (by decide), sd s (by decide), yo 162 (by decide), yo 163 (by decide)]
      exact w1 s hs
    · show sI (sI (xCopy X 74 62) (74 + 4) (2 * ixn i) (-1)) (74 + 4) (2 * ixn i + 1) (-1) (74 + 4) (2 * p) = sI (sI (yFl (yLay Y) 2) 164 (5 + ixn i) (-1)) 165 (5 + ixn i) (-1) 164 _ ∧ sI (sI (xCopy X 74 62) (74 + 4) (2 * ixn i) (-1)) (74 + 4) (2 * ixn i + 1) (-1) (74 + 4) (2 * p + 1) = sI (sI (yFl (yLay Y) 2) 164 (5 + ixn i) (-1)) 165 (5 + ixn i) (-1) 165 _
      rw [sI_ne (show 164 ≠ 165 by decide), sI_at, sI_at, sI_at, sI_at, sI_at, sI_at, sI_ne (show 165 ≠ 164 by decide), yo 164 (by decide), yo 165 (by decide)]
      have := w2 p hp
      constructor
      · rw [if_neg (show ¬ 2 * p = 2 * ixn i + 1 by omega)]
        by_cases q : p = ixn i
        · rw [if_pos (by omega), if_pos (by omega)]
        · rw [if_neg (by omega), if_neg (by omega)]; exact this.1
      · by_cases q : p = ixn i
        · rw [if_pos (by omega), if_pos (by omega)]
        · rw [if_neg (by omega), if_neg (by omega), if_neg (by omega)]; exact this.2
    · show sI (sI (xCopy X 74 62) (74 + 4) (2 * ixn i) (-1)) (74 + 4) (2 * ixn i + 1) (-1) (74 + 5) _ = yFl (yLay Y) 2 166 _
      rw [sI_ne (by decide), sI_ne (by decide), yo 166 (by decide)]
      exact w3 d hd
    · show sI (sI (xCopy X 74 62) (74 + 4) (2 * ixn i) (-1)) (74 + 4) (2 * ixn i + 1) (-1) 74 1 = yFl (yLay Y) 2 167 1
      rw [sI_ne (by decide), sI_ne (by decide), yo 167 (by decide)]
      exact w4
    · show sI (sI (xCopy X 74 62) (74 + 4) (2 * ixn i) (-1)) (74 + 4) (2 * ixn i + 1) (-1) 74 2 = 0 ↔ ¬ yFl (yLay Y) 2 134 62 = 0
      rw [sI_ne (by decide), sI_ne (by decide), g62]
      exact ⟨fun q => absurd q x2, fun q => absurd (by decide) q⟩
    · show sI (sI (xCopy X 74 62) (74 + 4) (2 * ixn i) (-1)) (74 + 4) (2 * ixn i + 1) (-1) 74 3 = 0 ↔ ¬ yFl (yLay Y) 2 134 63 = 0
      rw [sI_ne (by decide), sI_ne (by decide), g63]
      exact ⟨fun q => absurd q x3, fun q => absurd (by decide) q⟩
  · have hS : yHasS Y i := hc
    obtain ⟨ip, ei⟩ := h.1.1.1.S hS
    have wf : wR (xCopy X 74 62) (yFl (yLay Y) 3) 74 1 np ns nd := by
      refine ⟨fun s hs => ?_, fun p hp => ?_, fun d hd => ?_, ?_, ?_, ?_⟩
      · rw [sd s (by decide), yo 162 (by decide), yo 163 (by decide)]; exact w1 s hs
      · rw [yo 164 (by decide), yo 165 (by decide)]; exact w2 p hp
      · rw [yo 166 (by decide)]; exact w3 d hd
      · rw [yo 167 (by decide)]; exact w4
      · rw [g62]; exact ⟨fun q => absurd q x2, fun q => absurd (by decide) q⟩
      · rw [g63]; exact ⟨fun q => absurd q x3, fun q => absurd (by decide) q⟩
    have tf : tR (xCopy X 74 62) (yFl (yLay Y) 3) t np ns nd := tR_cg l2.1 (fun _ _ _ _ => rfl) ⟨fun c q1 q2 => yo c (by omega), rfl, rfl, rfl⟩
    exact ⟨wR_goes tf wf (ftO_of mfl ip hns) ip, mI_goes mfl ip hns (Or.inl rfl)⟩
  · refine ⟨⟨fun s hs => ?_, fun p hp => ?_, fun d hd => ?_, ?_, ?_, ?_⟩, mfl⟩
    · show aU (xCopy X 74 62) (74 + 1) (xLeft (xCopy X 74 62 (74 + 1)) ns) (74 + 1) s = ySide (yFl (yLay Y) 4) s ∧ aU (xCopy X 74 62) (74 + 1) (xLeft (xCopy X 74 62 (74 + 1)) ns) (74 + 2) s = yFl (yLay Y) 4 162 _ ∧ aU (xCopy X 74 62) (74 + 1) (xLeft (xCopy X 74 62 (74 + 1)) ns) (74 + 3) s = yFl (yLay Y) 4 163 _
      rw [aU_eq, aU_ne (by decide), aU_ne (by decide), yo 162 (by decide), yo 163 (by decide)]
      refine ⟨?_, (w1 s hs).2.1, (w1 s hs).2.2⟩
      unfold ySide xLeft
      rw [g64, if_pos hs, if_neg (by decide)]
    · show aU (xCopy X 74 62) (74 + 1) (xLeft (xCopy X 74 62 (74 + 1)) ns) (74 + 4) _ = yFl (yLay Y) 4 164 _ ∧ aU (xCopy X 74 62) (74 + 1) (xLeft (xCopy X 74 62 (74 + 1)) ns) (74 + 4) _ = yFl (yLay Y) 4 165 _
      rw [aU_ne (by decide), yo 164 (by decide), yo 165 (by decide)]
      exact w2 p hp
    · show aU (xCopy X 74 62) (74 + 1) (xLeft (xCopy X 74 62 (74 + 1)) ns) (74 + 5) _ = yFl (yLay Y) 4 166 _
      rw [aU_ne (by decide), yo 166 (by decide)]
      exact w3 d hd
    · show aU (xCopy X 74 62) (74 + 1) (xLeft (xCopy X 74 62 (74 + 1)) ns) 74 1 = yFl (yLay Y) 4 167 1
      rw [aU_ne (by decide), yo 167 (by decide)]
      exact w4
    · show aU (xCopy X 74 62) (74 + 1) (xLeft (xCopy X 74 62 (74 + 1)) ns) 74 2 = 0 ↔ ¬ yFl (yLay Y) 4 134 62 = 0
      rw [aU_ne (by decide), g62]
      exact ⟨fun q => absurd q x2, fun q => absurd (by decide) q⟩
    · show aU (xCopy X 74 62) (74 + 1) (xLeft (xCopy X 74 62 (74 + 1)) ns) 74 3 = 0 ↔ ¬ yFl (yLay Y) 4 134 63 = 0
      rw [aU_ne (by decide), g63]
      exact ⟨fun q => absurd q x3, fun q => absurd (by decide) q⟩
/-- tried(a, i, n) -/
theorem tried_y (h : gR X Y t np ns nd nx sz) {a i n : Int32} (ha : 0 ≤ a ∧ a ≤ 4) (hn : 0 ≤ n ∧ n ≤ 50) (hd : Y 167 0 + n ≤ 999) (hc : yCan Y a i) :
    sumW (xWorthNow (xDays (xTry X t 62 74 ns a i) t 74 np ns nd (ixn n)) t 74) (fun _ => true) ns = yAll (yDays (yTry Y np a i) 1 np ns nd (ixn n)) 1 ns ∧
    gR (xDays (xTry X t 62 74 ns a i) t 74 np ns nd (ixn n)) (yTrd (yDays (yTry Y np a i) 1 np ns nd (ixn n))) t np ns nd nx sz := by
  have ht := h.2.2.2.2.2.2.2
  have hns := h.1.lns
  have hnp := h.1.lnp
  obtain ⟨r1, r2⟩ := try_y h ha hc
  obtain ⟨-, l2, l3, l4, l5⟩ := lay_y h
  have yo : ∀ c, c ≠ 134 → yFl (yLay Y) a c = yLay Y c := fun c q => by
    unfold yFl
    rw [sI_ne q, sI_ne q, sI_ne q]
  have st := sm0_try Y np a i
  have sT1 : sT (xTry X t 62 74 ns a i) (yTry Y np a i) t np ns nd := sT_cg h.1.1 (fun c q1 q2 _ => xTry_ne (by omega)) ⟨fun c q1 q2 => by rw [st.1 c (by omega), yo c (by omega), (sm0_lay Y).1 c (by omega)], by rw [st.1 134 (by decide)]; show yLay Y 134 12 = _; rw [(sm0_lay Y).1 134 (by decide)], by rw [st.1 134 (by decide)]; show yLay Y 134 13 = _; rw [(sm0_lay Y).1 134 (by decide)], by rw [st.1 134 (by decide)]; show yLay Y 134 14 = _; rw [(sm0_lay Y).1 134 (by decide)]⟩
  have y166 : yTry Y np a i 166 = yLay Y 166 ∧ yTry Y np a i 167 = yLay Y 167 := by
    unfold yTry
    split
    · exact ⟨rfl, rfl⟩
    · split
      · exact ⟨(yGoes_fr (by decide) (by decide) (by decide)).trans (yo 166 (by decide)), (yGoes_fr (by decide) (by decide) (by decide)).trans (yo 167 (by decide))⟩
      · exact ⟨yo 166 (by decide), yo 167 (by decide)⟩
  have dv : dvM (yTry Y np a i) 1 nd := by
    unfold dvM at *
    rw [y166.1, y166.2, st.1 150 (by decide), yo 150 (by decide)]
    exact l4
  obtain ⟨dd, hdd, ed⟩ := h.2.2.2.2.1
  obtain ⟨m, hm, em⟩ := nI_of (Int32.not_lt.mpr hn.1)
  have m50 : m ≤ 50 := (cLe em (show (50 : Int32) = nI 50 from rfl) hm (by decide)).mp hn.2
  have en : ixn n = m := by rw [em, ixn_nI (by omega)]
  have edd : yTry Y np a i 167 1 = nI dd := by rw [y166.2, l5, ed]
  rw [en]
  obtain ⟨d1, d2, -, -⟩ := wR_days sT1 (show t + 26 < 74 by omega) r1 r2 dv edd m (by omega)
  have mi := mI_days (nd := nd) r2 sT1.2.2.1 sT1.2.2.2 hnp hns m
  refine ⟨sumT_y d2.1 d1 d2.2.1 mi ns (Nat.le_refl _), ?_⟩
  have sm : sm0 (yTrd (yDays (yTry Y np a i) 1 np ns nd m)) Y := by
    have s1 := (sm0_days (yTry Y np a i) np ns nd m).tr st
    have s2 := sm0_lay Y
    refine ⟨fun c q => ?_, fun k hk => ?_, fun k hk => ?_, fun k hk => ?_, fun k hk => ?_, fun k hk => ?_, ?_⟩
    · by_cases e : c = 134
      · subst e
        funext k
        unfold yTrd
        rw [sI_at, sI_at, sI_at, s1.1 134 (by decide)]
        unfold yFl
        rw [sI_at, sI_at, sI_at, s2.1 134 (by decide)]
        by_cases e4 : k = 64
        · subst e4; exact h.1.2.2.2.1.symm
        · rw [if_neg e4, if_neg e4]
          by_cases e3 : k = 63
          · subst e3; exact h.2.2.1.2.symm
          · rw [if_neg e3, if_neg e3]
            by_cases e2 : k = 62
            · subst e2; exact h.2.2.1.1.symm
            · rw [if_neg e2, if_neg e2]
      · unfold yTrd
        rw [sI_ne e, sI_ne e, sI_ne e, s1.1 c q, yo c e, s2.1 c q]
    · show yDays (yTry Y np a i) 1 np ns nd m 162 k = _
      rw [s1.2.1 k hk, yo 162 (by decide), s2.2.1 k hk]
    · show yDays (yTry Y np a i) 1 np ns nd m 163 k = _
      rw [s1.2.2.1 k hk, yo 163 (by decide), s2.2.2.1 k hk]
    · show yDays (yTry Y np a i) 1 np ns nd m 164 k = _
      rw [s1.2.2.2.1 k hk, yo 164 (by decide), s2.2.2.2.1 k hk]
    · show yDays (yTry Y np a i) 1 np ns nd m 165 k = _
      rw [s1.2.2.2.2.1 k hk, yo 165 (by decide), s2.2.2.2.2.1 k hk]
    · show yDays (yTry Y np a i) 1 np ns nd m 166 k = _
      rw [s1.2.2.2.2.2.1 k hk, yo 166 (by decide), s2.2.2.2.2.2.1 k hk]
    · show yDays (yTry Y np a i) 1 np ns nd m 167 0 = _
      rw [s1.2.2.2.2.2.2, yo 167 (by decide), s2.2.2.2.2.2.2]
  exact gR_cg (gR_sm0 h sm) (fun c q1 q2 _ => by rw [xDays_fr (by omega), xTry_ne (by omega)]) ⟨fun _ _ _ => rfl, fun _ _ => rfl⟩
theorem xMove_grave {v j : Nat} (h : X (v + 3) j = -2) : xMove X t v j (-2) = X := by
  unfold xMove
  rw [h, xOff_no _ (fun q => absurd q.1 (by decide)), aU_self]
  conv => lhs; rw [← h]
  exact sI_same _ _ _
theorem wR_mud1 {v b f p : Nat} {x : Int32} (hT : tR X Y t np ns nd) (htw : t + 26 < v) (hW : wR X Y v b np ns nd) (hi : mI Y b np ns) (hx : X (v + 4) f = x) (hf : ftOK Y b ns p x) : wR (xUseS X t v (X (v + 4) f) 5) (yWears Y b np x 5) v b np ns nd := by
  have hns := hT.2.1.2.2.2.1
  rw [hx]
  unfold xUseS
  rcases hf with z | ⟨j, hj, z, ho, -⟩
  · rw [z, if_neg (fun q => absurd q.1 (by decide))]
    unfold yWears
    rw [if_pos (by decide)]
    exact hW
  · rw [z, if_pos ((hT.hasS _).mpr (hT.ofS hj)), ixn_nI (by omega)]
    exact wR_use hT htw hW (ftO_of hi hj hns) hj
theorem wR_mud {v : Nat} (hS : sT X Y t np ns nd) (htw : t + 26 < v) (hW : wR X Y v 1 np ns nd) (hi : mI Y 1 np ns) : ∀ n, n ≤ np → wR (xMud X t v (2 * n)) (yMd Y np n) v 1 np ns nd
  | 0, _ => hW
  | n + 1, hn => by
    have hns := hS.1.2.1.2.2.2.1
    have hnp := hS.1.2.1.2.1
    have ih := wR_mud hS htw hW hi n (by omega)
    have m1 := mI_md hi hnp hns n (by omega)
    have s1 : sT (xMud X t v (2 * n)) (yMd Y np n) t np ns nd := sT_cg hS (fun a h1 h2 _ => xMud_ne (by omega) (by omega) (by omega) _) (txY_of fun a ha => yMd_fr (Or.inl ha) n)
    have f1 := (m1.2 n (by omega)).1
    have e1 := (ih.2.1 n (by omega)).1
    have r1 := wR_mud1 s1.1 htw ih m1 e1 f1
    have m2 := mI_mud m1 hnp hns f1
    have s2 : sT (xUseS (xMud X t v (2 * n)) t v (xMud X t v (2 * n) (v + 4) (2 * n)) 5) (yWears (yMd Y np n) 1 np (yMd Y np n 164 (5 * 1 + n)) 5) t np ns nd := sT_cg s1 (fun a h1 h2 _ => xUseS_ne (by omega) (by omega) (by omega)) (txY_of fun a ha => yWears_fr (Or.inl ha))
    have f2 := (m2.2 n (by omega)).2
    have e2 := (r1.2.1 n (by omega)).2
    exact wR_mud1 s2.1 htw r1 m2 e2 f2
theorem luck_y {v : Nat} (hS : sT X Y t np ns nd) (htw : t + 26 < v) (hW : wR X Y v 1 np ns nd) (hi : mI Y 1 np ns) (x : Int32) : wR (xLuck X t v np x).1 (yLkM Y np ns x) v 1 np ns nd ∧ (xLuck X t v np x).2 = yLkN ns x ∧ sT (xLuck X t v np x).1 (yLkM Y np ns x) t np ns nd := by
  have hns := hS.1.2.1.2.2.2.1
  have s1 : (∀ a, t ≤ a → a ≤ t + 26 → a ≠ t + 18 → (xLuck X t v np x).1 a = X a) := fun a h1 h2 _ => xLuck_ne (by omega)
  have hsT : sT (xLuck X t v np x).1 (yLkM Y np ns x) t np ns nd := sT_cg hS s1 (txY_of fun a ha => yLkM_fr (Or.inl ha))
  have e6 : (¬ X t 6 ≤ 0) ↔ 0 < ns := by
    rw [hS.1.1.2.2.1, Int32.not_le]
    exact (cLt n0 rfl (by decide) (by omega))
  refine ⟨?_, ?_, hsT⟩
  · unfold xLuck yLkM
    by_cases z0 : iRem (xNext x / 65536) 3 = 0
    · rw [if_pos z0, if_pos z0]
      exact wR_mud hS htw hW hi np (Nat.le_refl _)
    · rw [if_neg z0, if_neg z0]
      by_cases z1 : iRem (xNext x / 65536) 3 = 1 ∧ 0 < ns
      · rw [if_pos z1, if_pos ⟨z1.1, e6.mpr z1.2⟩, hS.1.1.2.2.1]
        obtain ⟨j, hj, ej⟩ := luck_in (x := xNext x) (y := nI ns) rfl hns (Int32.not_le.mpr ((cLt n0 rfl (by decide) (by omega)).mpr z1.2))
        rw [ej, ixn_nI (by omega)]
        show wR (xMove X t v j (-2)) _ v 1 np ns nd
        by_cases z : Y 163 (16 + j) = -2
        · rw [if_pos z, xMove_grave (by rw [(hW.1 j hj).2.2]; exact z)]
          exact hW
        · rw [if_neg z]
          exact wR_goes hS.1 hW (ftO_of hi hj hns) hj
      · rw [if_neg z1, if_neg (fun q => z1 ⟨q.1, e6.mp q.2⟩)]
        exact hW
  · unfold xLuck yLkN
    by_cases z0 : iRem (xNext x / 65536) 3 = 0
    · rw [if_pos z0, if_neg (fun q => by rw [z0] at q; exact absurd q.1 (by decide))]
    · rw [if_neg z0]
      by_cases z1 : iRem (xNext x / 65536) 3 = 1 ∧ 0 < ns
      · rw [if_pos z1, if_pos ⟨z1.1, e6.mpr z1.2⟩]
      · rw [if_neg z1, if_neg (fun q => z1 ⟨q.1, e6.mp q.2⟩)]
theorem pair_1 {α β : Type} (a : α) (b : β) : (a, b).1 = a := rfl
theorem pair_2 {α β : Type} (a : α) (b : β) : (a, b).2 = b := rfl
theorem xYear_s0 {v n : Nat} {x : Int32} : xYear X t v np ns nd x (n + 1) = (xDay (xLuck (xYear X t v np ns nd x n).1 t v np (xYear X t v np ns nd x n).2).1 t v np ns nd, (xLuck (xYear X t v np ns nd x n).1 t v np (xYear X t v np ns nd x n).2).2) := by
  rw [xYear]
theorem xYear_s1 {v n : Nat} {x : Int32} : (xYear X t v np ns nd x (n + 1)).1 = xDay (xLuck (xYear X t v np ns nd x n).1 t v np (xYear X t v np ns nd x n).2).1 t v np ns nd := (congrArg Prod.fst xYear_s0).trans (pair_1 _ _)
theorem xYear_s2 {v n : Nat} {x : Int32} : (xYear X t v np ns nd x (n + 1)).2 = (xLuck (xYear X t v np ns nd x n).1 t v np (xYear X t v np ns nd x n).2).2 := (congrArg Prod.snd xYear_s0).trans (pair_2 _ _)
theorem yYrM_s {n : Nat} {x : Int32} : yYrM Y np ns nd x (n + 1) = yDay (yLkM (yYrM Y np ns nd x n) np ns (yYrN ns x n)) 1 np ns nd := rfl
theorem yYrN_s {n : Nat} {x : Int32} : yYrN ns x (n + 1) = yLkN ns (yYrN ns x n) := rfl
theorem year_y {v dd : Nat} (hS : sT X Y t np ns nd) (htw : t + 26 < v) (hW : wR X Y v 1 np ns nd) (hi : mI Y 1 np ns) (hv : dvM Y 1 nd) (hd : Y 167 1 = nI dd) (x : Int32) : ∀ n, dd + n ≤ 1999 → wR (xYear X t v np ns nd x n).1 (yYrM Y np ns nd x n) v 1 np ns nd ∧ (xYear X t v np ns nd x n).2 = yYrN ns x n ∧ sT (xYear X t v np ns nd x n).1 (yYrM Y np ns nd x n) t np ns nd ∧ dvM (yYrM Y np ns nd x n) 1 nd ∧ yYrM Y np ns nd x n 167 1 = nI (dd + n)
  | 0, _ => ⟨hW, rfl, hS, hv, hd⟩
  | n + 1, hn => by
    have hns := hS.1.2.1.2.2.2.1
    have hnp := hS.1.2.1.2.1
    obtain ⟨r1, r2, r3, r4, r5⟩ := year_y hS htw hW hi hv hd x n (by omega)
    have m1 := mI_yr (x := x) hi hS.2.2.1 hS.2.2.2 hnp hns n
    obtain ⟨l1, l2, l3⟩ := luck_y r3 htw r1 m1 (yYrN ns x n)
    have m2 := mI_lk (x := yYrN ns x n) m1 hnp hns
    have d1 : dvM (yLkM (yYrM Y np ns nd x n) np ns (yYrN ns x n)) 1 nd := by
      unfold dvM at *
      rw [yLkM_fr (Or.inl (by decide)), yLkM_fr (Or.inr (by decide)), yLkM_fr (Or.inr (by decide))]
      exact r4
    have d2 : yLkM (yYrM Y np ns nd x n) np ns (yYrN ns x n) 167 1 = nI (dd + n) := by rw [yLkM_fr (Or.inr (by decide))]; exact r5
    have w1 := wR_aDay l3 htw l1 m2 d1
    obtain ⟨d3, d4⟩ := dvM_day (np := np) (ns := ns) d1 d2 (by omega)
    rw [xYear_s1, xYear_s2, yYrM_s, yYrN_s, r2, show dd + (n + 1) = dd + n + 1 by omega]
    exact ⟨w1, l2, sT_cg l3 (fun a h1 h2 _ => xDay_ne (by omega)) (txY_of fun a ha => yDay_fr (Or.inl ha)), d3, d4⟩
theorem xCha_s0 {n y : Nat} {x p bound : Int32} : xCha X t 62 74 np ns nd n x p bound (y + 1) = ((xYear (xCopy (xCha X t 62 74 np ns nd n x p bound y).1 74 62) t 74 np ns nd (xCha X t 62 74 np ns nd n x p bound y).2.1 n).1, (xYear (xCopy (xCha X t 62 74 np ns nd n x p bound y).1 74 62) t 74 np ns nd (xCha X t 62 74 np ns nd n x p bound y).2.1 n).2, if sumW (xWorthNow (xYear (xCopy (xCha X t 62 74 np ns nd n x p bound y).1 74 62) t 74 np ns nd (xCha X t 62 74 np ns nd n x p bound y).2.1 n).1 t 74) (fun j => decide ((xYear (xCopy (xCha X t 62 74 np ns nd n x p bound y).1 74 62) t 74 np ns nd (xCha X t 62 74 np ns nd n x p bound y).2.1 n).1 (74 + 3) j = p)) ns < bound then (xCha X t 62 74 np ns nd n x p bound y).2.2 else (xCha X t 62 74 np ns nd n x p bound y).2.2 + 1) := by
  rw [xCha]
theorem chance_y (h : gR X Y t np ns nd nx sz) {n dd : Nat} (ed : Y 167 0 = nI dd) (hn : dd + n ≤ 999) (x p bound : Int32) : ∀ y, gR (xCha X t 62 74 np ns nd n x p bound y).1 (yChM Y np ns nd n x y) t np ns nd nx sz ∧ (xCha X t 62 74 np ns nd n x p bound y).2.1 = yChN ns n x y ∧ (xCha X t 62 74 np ns nd n x p bound y).2.2 = yChC Y np ns nd n x p bound y
  | 0 => ⟨h, rfl, rfl⟩
  | y + 1 => by
    have ht := h.2.2.2.2.2.2.2
    have hns := h.1.lns
    have hnp := h.1.lnp
    obtain ⟨g, e1, e2⟩ := chance_y h ed hn x p bound y
    obtain ⟨l1, l2, l3, l4, l5⟩ := lay_y g
    have ed' : yLay (yChM Y np ns nd n x y) 167 1 = nI dd := by rw [l5, (sm0_ch Y np ns nd n x y).2.2.2.2.2.2, ed]
    obtain ⟨r1, r2, r3, -, -⟩ := year_y l2 (show t + 26 < 74 by omega) l1 l3 l4 ed' (yChN ns n x y) n (by omega)
    have m1 := mI_yr (x := yChN ns n x y) l3 l2.2.2.1 l2.2.2.2 hnp hns n
    have sm : sm0 (yChM Y np ns nd n x (y + 1)) (yChM Y np ns nd n x y) := (sm0_yr _ np ns nd _ n).tr (sm0_lay _)
    rw [xCha_s0, pair_1, pair_2, pair_1, pair_2, e1, e2]
    refine ⟨gR_cg (gR_sm0 g sm) (fun c q1 q2 _ => by rw [xYear_ne (by omega), xCopy_ne (by omega)]) ⟨fun _ _ _ => rfl, fun _ _ => rfl⟩, r2, ?_⟩
    rw [sumO_y r3.1 r1 r3.2.1 m1 p ns (Nat.le_refl _)]
    show (if yOf (yChM Y np ns nd n x (y + 1)) 1 p 0 ns < bound then _ else _) = yChC Y np ns nd n x p bound y + (if yOf (yChM Y np ns nd n x (y + 1)) 1 p 0 ns < bound then 0 else 1)
    split
    · rw [Int32.add_zero]
    · rfl
end
