/-! ===== class and reference: undo, images, tracks ===== -/
section
variable {X Y : Nat → Nat → Int32} {t np ns nd nx sz : Nat}
theorem undo_y (h : gR X Y t np ns nd nx sz) (hz : ¬ sz = 0) : gR (xRec X 62 ((nx + 19) % 20) sz) (yTk (sI (sI Y 134 2 0) 134 86 (nI (sz - 1))) 181 (26 * (sz - 1))) t np ns nd ((nx + 19) % 20) (sz - 1) := by
  have ht := h.2.2.2.2.2.2.2
  have hns := h.1.lns
  have hnp := h.1.lnp
  obtain ⟨a1, a2, a3, a4, a5, a6⟩ := h.2.2.2.2.2.1
  have hm : (nx + 20 - sz + (sz - 1)) % 20 = (nx + 19) % 20 := by omega
  obtain ⟨s1, s2⟩ := a6 (sz - 1) (by omega)
  rw [hm] at s1
  have x80 : ∀ i, xRec X 62 ((nx + 19) % 20) sz 80 i = if i = 0 then nI (sz - 1) else if i = 1 then nI ((nx + 19) % 20) else X 80 i := by
    intro i
    unfold xRec
    rw [aU_ne (by decide), aU_ne (by decide), sI_at, sI_at]
  have x65 : xRec X 62 ((nx + 19) % 20) sz 65 = fil (X (82 + (nx + 19) % 20)) (X 65) 16 := by
    unfold xRec
    rw [aU_ne (by decide)]
    exact aU_eq _ _ _
  have x66 : xRec X 62 ((nx + 19) % 20) sz 66 = fil (X (103 + (nx + 19) % 20)) (X 66) 10 := by
    unfold xRec
    exact aU_eq _ _ _
  have xo : ∀ a, a ≠ 80 → a ≠ 65 → a ≠ 66 → xRec X 62 ((nx + 19) % 20) sz a = X a := by
    intro a q1 q2 q3
    unfold xRec
    rw [aU_ne (by omega), aU_ne (by omega), sI_ne q1, sI_ne q1]
  have y3 : ∀ i, yTk (sI (sI Y 134 2 0) 134 86 (nI (sz - 1))) 181 (26 * (sz - 1)) 163 i = if i < 16 then en Y (sz - 1) i else Y 163 i := fun i => rfl
  have y4 : ∀ i, yTk (sI (sI Y 134 2 0) 134 86 (nI (sz - 1))) 181 (26 * (sz - 1)) 164 i = if i < 5 then en Y (sz - 1) (16 + i) else Y 164 i := fun i => by
    show (if i < 5 then Y 181 (26 * (sz - 1) + 16 + i) else _) = _
    unfold en
    rw [Nat.add_assoc]
    rfl
  have y5 : ∀ i, yTk (sI (sI Y 134 2 0) 134 86 (nI (sz - 1))) 181 (26 * (sz - 1)) 165 i = if i < 5 then en Y (sz - 1) (21 + i) else Y 165 i := fun i => by
    show (if i < 5 then Y 181 (26 * (sz - 1) + 21 + i) else _) = _
    unfold en
    rw [Nat.add_assoc]
    rfl
  have yo : ∀ a, a ≠ 134 → a ≠ 163 → a ≠ 164 → a ≠ 165 → yTk (sI (sI Y 134 2 0) 134 86 (nI (sz - 1))) 181 (26 * (sz - 1)) a = Y a := by
    intro a q1 q2 q3 q4
    unfold yTk
    rw [aU_ne q4, aU_ne q3, aU_ne q2, sI_ne q1, sI_ne q1]
  have y34 : ∀ k, yTk (sI (sI Y 134 2 0) 134 86 (nI (sz - 1))) 181 (26 * (sz - 1)) 134 k = if k = 86 then nI (sz - 1) else if k = 2 then 0 else Y 134 k := by
    intro k
    unfold yTk
    rw [aU_ne (by decide), aU_ne (by decide), aU_ne (by decide), sI_at, sI_at]
  have z4 : ∀ k, k ≠ 86 → k ≠ 2 → yTk (sI (sI Y 134 2 0) 134 86 (nI (sz - 1))) 181 (26 * (sz - 1)) 134 k = Y 134 k := fun k q1 q2 => by rw [y34, if_neg q1, if_neg q2]
  obtain ⟨w1, w2, w3, w4, w5⟩ := h.1.2.1
  refine ⟨⟨sT_cg h.1.1 (fun a q1 q2 _ => xo a (by omega) (by omega) (by omega)) ⟨fun a q1 q2 => yo a (by omega) (by omega) (by omega) (by omega), z4 12 (by decide) (by decide), z4 13 (by decide) (by decide), z4 14 (by decide) (by decide)⟩, ⟨fun s hs => ?_, fun p hp => ?_, fun d hd => ?_, ?_, ?_⟩, mI_mE.mpr (mE_cg s2.1 (fun s hs => by rw [yo 162 (by decide) (by decide) (by decide) (by decide)]) (fun s hs => by rw [y3, if_pos (by omega)]) (fun p hp => by rw [y4, if_pos (by omega)]) (fun p hp => by rw [y5, if_pos (by omega)])), by rw [z4 64 (by decide) (by decide)]; exact h.1.2.2.2.1, fun s hs hn => ?_⟩, by rw [xo 62 (by decide) (by decide) (by decide)]; exact h.2.1, by rw [z4 62 (by decide) (by decide), z4 63 (by decide) (by decide)]; exact h.2.2.1, ?_, by rw [yo 167 (by decide) (by decide) (by decide) (by decide)]; exact h.2.2.2.2.1, ⟨by rw [x80]; rfl, Nat.mod_lt _ (by decide), by rw [x80]; rfl, by omega, by rw [y34]; rfl, fun k hk => ?_⟩, oR_cg h.2.2.2.2.2.2.1 ht (fun a q => xo a (by omega) (by omega) (by omega)) (fun a q => yo a (by omega) (by omega) (by omega) (by omega)) (fun k hk => z4 k ?_ ?_), ht⟩
  · rw [xo (62 + 1) (by decide) (by decide) (by decide), xo (62 + 2) (by decide) (by decide) (by decide), yo 162 (by decide) (by decide) (by decide) (by decide)]
    refine ⟨?_, (w1 s hs).2.1, ?_⟩
    · unfold ySide
      rw [z4 64 (by decide) (by decide), yo 142 (by decide) (by decide) (by decide) (by decide)]
      exact (w1 s hs).1
    · show xRec X 62 ((nx + 19) % 20) sz 65 s = _
      rw [x65, fil_lt (by omega), y3, if_pos (by omega), Nat.mul_zero, Nat.zero_add]
      exact s1.1 s hs
  · show xRec X 62 ((nx + 19) % 20) sz 66 (2 * p) = _ ∧ xRec X 62 ((nx + 19) % 20) sz 66 (2 * p + 1) = _
    rw [x66, fil_lt (by omega), fil_lt (by omega), y4, y5, if_pos (by omega), if_pos (by omega), Nat.mul_zero, Nat.zero_add]
    exact s1.2 p hp
  · rw [xo (62 + 5) (by decide) (by decide) (by decide), yo 166 (by decide) (by decide) (by decide) (by decide)]
    exact w3 d hd
  · rw [xo 62 (by decide) (by decide) (by decide), yo 167 (by decide) (by decide) (by decide) (by decide)]
    exact w4
  · rw [xo 62 (by decide) (by decide) (by decide), z4 62 (by decide) (by decide), z4 63 (by decide) (by decide)]
    exact w5
  · rw [y3, if_pos (by omega), Nat.mul_zero, Nat.zero_add] at hn
    rw [yo 162 (by decide) (by decide) (by decide) (by decide), Nat.mul_zero, Nat.zero_add]
    exact s2.2 s hs hn
  · unfold dvM
    rw [yo 150 (by decide) (by decide) (by decide) (by decide), yo 166 (by decide) (by decide) (by decide) (by decide), yo 167 (by decide) (by decide) (by decide) (by decide)]
    exact h.2.2.2.1
  · have er : ((nx + 19) % 20 + 20 - (sz - 1) + k) % 20 = (nx + 20 - sz + k) % 20 := by omega
    have hr : (nx + 20 - sz + k) % 20 < 20 := Nat.mod_lt _ (by decide)
    rw [er, xo _ (by omega) (by omega) (by omega), xo _ (by omega) (by omega) (by omega)]
    have e : en (yTk (sI (sI Y 134 2 0) 134 86 (nI (sz - 1))) 181 (26 * (sz - 1))) k = en Y k := by
      unfold en
      rw [yo 181 (by decide) (by decide) (by decide) (by decide)]
    rw [e, yo 162 (by decide) (by decide) (by decide) (by decide)]
    exact a6 k (by omega)
  · simp only [o134, List.mem_cons, List.not_mem_nil, or_false] at hk
    omega
  · simp only [o134, List.mem_cons, List.not_mem_nil, or_false] at hk
    omega
theorem xCopy_0 {w v : Nat} (i : Nat) : xCopy X w v w i = if i = 3 then X v 3 else if i = 2 then X v 2 else if i = 1 then X v 1 else X w i := by
  unfold xCopy
  rw [aU_ne (by omega), aU_ne (by omega), aU_ne (by omega), aU_ne (by omega), aU_ne (by omega), sI_at, sI_at, sI_at]
theorem xCopy_1 {w v : Nat} : xCopy X w v (w + 1) = fil (X (v + 1)) (X (w + 1)) 16 ∧ xCopy X w v (w + 2) = fil (X (v + 2)) (X (w + 2)) 16 ∧ xCopy X w v (w + 3) = fil (X (v + 3)) (X (w + 3)) 16 ∧ xCopy X w v (w + 4) = fil (X (v + 4)) (X (w + 4)) 10 ∧ xCopy X w v (w + 5) = fil (X (v + 5)) (X (w + 5)) 8 := by
  unfold xCopy
  refine ⟨?_, ?_, ?_, ?_, ?_⟩
  · rw [aU_ne (by omega), aU_ne (by omega), aU_ne (by omega), aU_ne (by omega), aU_eq]
  · rw [aU_ne (by omega), aU_ne (by omega), aU_ne (by omega), aU_eq]
  · rw [aU_ne (by omega), aU_ne (by omega), aU_eq]
  · rw [aU_ne (by omega), aU_eq]
  · rw [aU_eq]
theorem keep_y (h : gR X Y t np ns nd nx sz) : gR (sI (xCopy X 68 62) 1 10 1) (yKeep Y) t np ns nd nx sz := by
  have ht := h.2.2.2.2.2.2.2
  have hns := h.1.lns
  have hnp := h.1.lnp
  have hnd := h.1.lnd
  have xo : ∀ a, a ≠ 1 → (a < 68 ∨ 74 ≤ a) → sI (xCopy X 68 62) 1 10 1 a = X a := fun a q1 q2 => by rw [sI_ne q1, xCopy_ne (by omega)]
  have x1 : ∀ i, i ≠ 10 → sI (xCopy X 68 62) 1 10 1 1 i = X 1 i := fun i q => by rw [sI_at, if_neg q, xCopy_ne (by omega)]
  have y34 : ∀ k, yKeep Y 134 k = if k = 92 then Y 167 0 else if k = 88 then 1 else if k = 2 then 0 else Y 134 k := by
    intro k
    unfold yKeep
    rw [sI_at, aU_ne (by decide), aU_ne (by decide), aU_ne (by decide), sI_at, sI_at]
  have z4 : ∀ k, k ≠ 92 → k ≠ 88 → k ≠ 2 → yKeep Y 134 k = Y 134 k := fun k q1 q2 q3 => by rw [y34, if_neg q1, if_neg q2, if_neg q3]
  have yo : ∀ a, a ≠ 134 → a ≠ 182 → a ≠ 183 → a ≠ 184 → yKeep Y a = Y a := fun a q1 q2 q3 q4 => by
    unfold yKeep
    rw [sI_ne q1, aU_ne q4, aU_ne q3, aU_ne q2, sI_ne q1, sI_ne q1]
  have y182 : ∀ x, x < 26 → yKeep Y 182 x = if x < 16 then Y 163 x else if x < 21 then Y 164 (x - 16) else Y 165 (x - 21) := by
    intro x hx
    show yPut (Y 182) (Y 163) (Y 164) (Y 165) 0 16 5 x = _
    unfold yPut
    by_cases h1 : x < 16
    · rw [if_pos h1, if_pos (by omega), Nat.sub_zero]
    · rw [if_neg h1, if_neg (by omega)]
      by_cases h2 : x < 21
      · rw [if_pos h2, if_pos (by omega)]
      · rw [if_neg h2, if_neg (by omega), if_pos (by omega)]
  have y183 : ∀ s, s < 16 → yKeep Y 183 s = Y 162 s := fun s hs => if_pos hs
  have y184 : ∀ s, s < 8 → yKeep Y 184 s = Y 166 s := fun s hs => if_pos hs
  obtain ⟨c1, c2, c3, c4, c5⟩ := xCopy_1 (X := X) (w := 68) (v := 62)
  have xc : ∀ a, 68 ≤ a → sI (xCopy X 68 62) 1 10 1 a = xCopy X 68 62 a := fun a q => sI_ne (by omega)
  obtain ⟨b1, b2, b3, b4, b5, b6, b7, b8⟩ := h.2.2.2.2.2.2.1
  refine ⟨⟨sT_cg h.1.1 (fun a q1 q2 _ => xo a (by omega) (by omega)) ⟨fun a q1 q2 => yo a (by omega) (by omega) (by omega) (by omega), z4 12 (by decide) (by decide) (by decide), z4 13 (by decide) (by decide) (by decide), z4 14 (by decide) (by decide) (by decide)⟩, wR_cg h.1.2.1 (fun a q1 q2 => xo a (by omega) (by omega)) (fun a q1 q2 => yo a (by omega) (by omega) (by omega) (by omega)) (yo 142 (by decide) (by decide) (by decide) (by decide)) (z4 62 (by decide) (by decide) (by decide)) (z4 63 (by decide) (by decide) (by decide)) (z4 64 (by decide) (by decide) (by decide)), mI_cgY h.1.2.2.1 (fun a q1 q2 => yo a (by omega) (by omega) (by omega) (by omega)), by rw [z4 64 (by decide) (by decide) (by decide)]; exact h.1.2.2.2.1, uM_cgY h.1.2.2.2.2 (fun a q1 q2 => yo a (by omega) (by omega) (by omega) (by omega))⟩, by rw [xo 62 (by decide) (by decide)]; exact h.2.1, by rw [z4 62 (by decide) (by decide) (by decide), z4 63 (by decide) (by decide) (by decide)]; exact h.2.2.1, ?_, by rw [yo 167 (by decide) (by decide) (by decide) (by decide)]; exact h.2.2.2.2.1, hsN_cg h.2.2.2.2.2.1 (fun a q1 q2 => xo a (by omega) (by omega)) (fun s _ => by rw [yo 162 (by decide) (by decide) (by decide) (by decide)]) (yo 181 (by decide) (by decide) (by decide) (by decide)) (z4 86 (by decide) (by decide) (by decide)) hns hnp, ⟨Or.inr ⟨?_, ?_, fun s hs => ?_, ⟨fun s hs => ?_, fun p hp => ?_⟩, fun d hd => ?_, ?_, ?_, ?_, ⟨?_, fun s hs hn => ?_⟩, fun d hd hn => ?_, ?_⟩, ?_, ?_, ?_, ?_, ?_, ?_, ?_⟩, ht⟩
  · unfold dvM
    rw [yo 150 (by decide) (by decide) (by decide) (by decide), yo 166 (by decide) (by decide) (by decide) (by decide), yo 167 (by decide) (by decide) (by decide) (by decide)]
    exact h.2.2.2.1
  · rw [sI_rs]
  · rw [y34]; rfl
  · rw [xc 69 (by decide), xc 70 (by decide), yo 142 (by decide) (by decide) (by decide) (by decide), y183 s (by omega)]
    exact ⟨by rw [show (69 : Nat) = 68 + 1 from rfl, c1, fil_lt (by omega)]; exact h.1.w1 hs, by rw [show (70 : Nat) = 68 + 2 from rfl, c2, fil_lt (by omega)]; exact h.1.w2 hs⟩
  · rw [xc 71 (by decide), show (71 : Nat) = 68 + 3 from rfl, c3, fil_lt (by omega), y182 s (by omega), if_pos (by omega)]
    exact h.1.w3 hs
  · rw [xc 72 (by decide), show (72 : Nat) = 68 + 4 from rfl, c4, fil_lt (by omega), fil_lt (by omega), y182 _ (by omega), y182 _ (by omega), if_neg (by omega), if_pos (by omega), if_neg (by omega), if_neg (by omega), show 16 + p - 16 = p by omega, show 21 + p - 21 = p by omega]
    exact ⟨h.1.f0 hp, h.1.f1 hp⟩
  · rw [xc 73 (by decide), show (73 : Nat) = 68 + 5 from rfl, c5, fil_lt (by omega), y184 d (by omega)]
    exact h.1.w5 hd
  · rw [xc 68 (by decide), xCopy_0, y34]
    exact h.1.2.1.2.2.2.1
  · rw [xc 68 (by decide), xCopy_0]
    exact h.2.1.1
  · rw [xc 68 (by decide), xCopy_0]
    exact h.2.1.2
  · refine mE_cg (mI_mE.mp h.1.2.2.1) (fun s hs => y183 s (by omega)) (fun s hs => ?_) (fun p hp => ?_) (fun p hp => ?_)
    · rw [y182 s (by omega), if_pos (by omega)]
    · rw [y182 _ (by omega), if_neg (by omega), if_pos (by omega), show 16 + p - 16 = p by omega]
    · rw [y182 _ (by omega), if_neg (by omega), if_neg (by omega), show 21 + p - 21 = p by omega]
  · rw [y182 s (by omega), if_pos (by omega)] at hn
    rw [y183 s (by omega)]
    have := h.1.2.2.2.2 s hs
    rw [Nat.mul_zero, Nat.zero_add] at this
    exact this hn
  · rw [y184 d (by omega)]
    have := h.2.2.2.1 d hd
    rw [Nat.mul_zero, Nat.zero_add] at this
    refine this ?_
    rw [yo 150 (by decide) (by decide) (by decide) (by decide), y34, if_pos rfl] at hn
    exact hn
  · obtain ⟨dd, q1, q2⟩ := h.2.2.2.2.1
    exact ⟨dd, q1, by rw [y34]; exact q2⟩
  · unfold tkR tkM at *
    rw [xo 123 (by decide) (by decide), xo 124 (by decide) (by decide), xo 125 (by decide) (by decide), z4 80 (by decide) (by decide) (by decide), z4 81 (by decide) (by decide) (by decide), yo 178 (by decide) (by decide) (by decide) (by decide)]
    exact b2
  · unfold clR clM at *
    rw [xo (t + 5) (by omega) (by omega), yo 141 (by decide) (by decide) (by decide) (by decide)]
    exact b3
  · unfold rtR at *
    rw [xo (t + 15) (by omega) (by omega), xo (t + 16) (by omega) (by omega), xo (t + 17) (by omega) (by omega), z4 15 (by decide) (by decide) (by decide), yo 151 (by decide) (by decide) (by decide) (by decide)]
    exact b4
  · unfold tpR at *
    rw [x1 1 (by decide), xo 2 (by decide) (by decide), z4 1 (by decide) (by decide) (by decide), yo 135 (by decide) (by decide) (by decide) (by decide)]
    exact b5
  · rw [x1 5 (by decide), z4 4 (by decide) (by decide) (by decide)]; exact b6
  · rw [x1 6 (by decide), z4 5 (by decide) (by decide) (by decide)]; exact b7
  · rw [xo (t + 19) (by omega) (by omega), z4 16 (by decide) (by decide) (by decide)]; exact b8
end
