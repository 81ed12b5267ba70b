/-! ===== class and reference: the tape is fed ===== -/
theorem i8_sg : ∀ n, n < 256 → (Int8.ofNat n).toInt32 = sgB n ∧ (Int8.ofNat n).toInt32.toInt8 = Int8.ofNat n := by decide +kernel
theorem i8_of (z : Int32) : z.toInt8 = Int8.ofNat (z.toBitVec.toNat % 256) := by
  apply Int8.toBitVec_inj.mp
  show z.toBitVec.signExtend 8 = BitVec.ofNat 8 _
  rw [BitVec.signExtend_eq_setWidth_of_le _ (by decide)]
  apply BitVec.eq_of_toNat_eq
  rw [BitVec.toNat_setWidth, BitVec.toNat_ofNat]
  omega
theorem and255 (z : Int32) : z &&& 255 = nI (z.toBitVec.toNat % 256) := by
  apply Int32.toBitVec_inj.mp
  apply BitVec.eq_of_toNat_eq
  rw [Int32.toBitVec_and, BitVec.toNat_and]
  show z.toBitVec.toNat &&& 255 = z.toBitVec.toNat % 256 % 2 ^ 32
  rw [show (255 : Nat) = 2 ^ 8 - 1 from rfl, Nat.and_two_pow_sub_one_eq_mod]
  omega
theorem byte_y (z : Int32) : ∃ n, n ≤ 255 ∧ z &&& 255 = nI n ∧ z.toInt8.toInt32.toInt8.toInt32 = sgB n := by
  have l : z.toBitVec.toNat % 256 < 256 := Nat.mod_lt _ (by decide)
  obtain ⟨a, b⟩ := i8_sg _ l
  exact ⟨_, by omega, and255 z, by rw [i8_of z, b, a]⟩
section
variable {X Y : Nat → Nat → Int32} {t np ns nd nx sz : Nat}
theorem putB_2 {I : Nat → Nat → Int32} {tp : Nat} {x : Int32} : ∀ k j, putB I tp x k 2 j = if tp ≤ j ∧ j < tp + k then byteOf x (j - tp) else I 2 j
  | 0, j => by rw [if_neg (by omega)]; rfl
  | k + 1, j => by
    have ih := putB_2 (I := I) (tp := tp) (x := x) k j
    show sI (sI (putB I tp x k) 2 (tp + k) (byteOf x k)) 1 1 _ 2 j = _
    rw [sI_ne (by decide), sI_at]
    by_cases e : j = tp + k
    · rw [if_pos e, if_pos (by omega), show j - tp = k by omega]
    · rw [if_neg e, ih]
      by_cases q : tp ≤ j ∧ j < tp + k
      · rw [if_pos q, if_pos (by omega)]
      · rw [if_neg q, if_neg (by omega)]
theorem putB_ne {I : Nat → Nat → Int32} {tp a : Nat} {x : Int32} (h1 : a ≠ 1) (h2 : a ≠ 2) : ∀ k, putB I tp x k a = I a
  | 0 => rfl
  | k + 1 => by
    show sI (sI (putB I tp x k) 2 (tp + k) (byteOf x k)) 1 1 _ a = _
    rw [sI_ne h1, sI_ne h2, putB_ne h1 h2 k]
theorem putB_1 {I : Nat → Nat → Int32} {tp i : Nat} {x : Int32} (h : i ≠ 1) : ∀ k, putB I tp x k 1 i = I 1 i
  | 0 => rfl
  | k + 1 => by
    show sI (sI (putB I tp x k) 2 (tp + k) (byteOf x k)) 1 1 _ 1 i = _
    rw [sI_at, if_neg h, sI_ne (by decide), putB_1 h k]
theorem fdF_at {f w : Nat → Int32} {tp : Nat} : ∀ k j, fdF f tp w k j = if tp ≤ j ∧ j < tp + k then (w (j - tp) >>> (nI (24 - 8 * ((j - tp) % 4)) &&& 31)) &&& 255 else f j
  | 0, j => by rw [if_neg (by omega)]; rfl
  | k + 1, j => by
    have ih := fdF_at (f := f) (w := w) (tp := tp) k j
    unfold fdF
    by_cases e : j = tp + k
    · subst e
      rw [upd_eq, if_pos (by omega), show tp + k - tp = k by omega]
    · rw [upd_ne e, ih]
      by_cases q : tp ≤ j ∧ j < tp + k
      · rw [if_pos q, if_pos (by omega)]
      · rw [if_neg q, if_neg (by omega)]
theorem feed_2 {I : Nat → Nat → Int32} {tp : Nat} {a b c d e : Int32} (j : Nat) : feedI I tp a b c d e 2 j = if tp ≤ j ∧ j < tp + 20 then byteOf (wk5 a b c d e (j - tp)) ((j - tp) % 4) else I 2 j := by
  unfold feedI wk5
  rw [putB_2, putB_2, putB_2, putB_2, putB_2]
  by_cases q : tp ≤ j ∧ j < tp + 20
  · rw [if_pos q]
    by_cases h5 : 16 ≤ j - tp
    · rw [if_pos (by omega), if_neg (by omega), if_neg (by omega), if_neg (by omega), if_neg (by omega), show j - (tp + 16) = (j - tp) % 4 by omega]
    · rw [if_neg (show ¬ (tp + 16 ≤ j ∧ j < tp + 16 + 4) by omega)]
      by_cases h4 : 12 ≤ j - tp
      · rw [if_pos (show tp + 12 ≤ j ∧ j < tp + 12 + 4 by omega), if_neg (by omega), if_neg (by omega), if_neg (by omega), if_pos (by omega), show j - (tp + 12) = (j - tp) % 4 by omega]
      · rw [if_neg (show ¬ (tp + 12 ≤ j ∧ j < tp + 12 + 4) by omega)]
        by_cases h3 : 8 ≤ j - tp
        · rw [if_pos (show tp + 8 ≤ j ∧ j < tp + 8 + 4 by omega), if_neg (by omega), if_neg (by omega), if_pos (by omega), show j - (tp + 8) = (j - tp) % 4 by omega]
        · rw [if_neg (show ¬ (tp + 8 ≤ j ∧ j < tp + 8 + 4) by omega)]
          by_cases h2 : 4 ≤ j - tp
          · rw [if_pos (show tp + 4 ≤ j ∧ j < tp + 4 + 4 by omega), if_neg (by omega), if_pos (by omega), show j - (tp + 4) = (j - tp) % 4 by omega]
          · rw [if_neg (show ¬ (tp + 4 ≤ j ∧ j < tp + 4 + 4) by omega), if_pos (show tp ≤ j ∧ j < tp + 4 by omega), if_pos (by omega), show (j - tp) % 4 = j - tp by omega]
  · rw [if_neg q, if_neg (by omega), if_neg (by omega), if_neg (by omega), if_neg (by omega), if_neg (by omega)]
theorem feed_ne {I : Nat → Nat → Int32} {tp i : Nat} {a b c d e : Int32} (h1 : i ≠ 1) (h2 : i ≠ 2) : feedI I tp a b c d e i = I i := by
  unfold feedI
  rw [putB_ne h1 h2, putB_ne h1 h2, putB_ne h1 h2, putB_ne h1 h2, putB_ne h1 h2]
theorem feed_1 {I : Nat → Nat → Int32} {tp i : Nat} {a b c d e : Int32} (h : i ≠ 1) : feedI I tp a b c d e 1 i = I 1 i := by
  unfold feedI
  rw [putB_1 h, putB_1 h, putB_1 h, putB_1 h, putB_1 h]
theorem shv_eq : ∀ k, k < 4 → shv k &&& 31 = nI (24 - 8 * k) &&& 31 := by decide +kernel
theorem feed_y (h : gR X Y t np ns nd nx sz) {tp : Nat} (h1 : Y 134 1 = nI tp) (h7 : tp + 20 ≤ 700) (a b c d e : Int32) : gR (feedI X tp a b c d e) (sI (aU (sI Y 134 2 0) 135 (fdF (Y 135) tp (wk5 a b c d e) 20)) 134 1 (nI (tp + 20))) t np ns nd nx sz := by
  have ht := h.2.2.2.2.2.2.2
  have yo : ∀ i, i ≠ 134 → i ≠ 135 → sI (aU (sI Y 134 2 0) 135 (fdF (Y 135) tp (wk5 a b c d e) 20)) 134 1 (nI (tp + 20)) i = Y i := fun i q1 q2 => by rw [sI_ne q1, aU_ne q2, sI_ne q1]
  have y34 : ∀ k, sI (aU (sI Y 134 2 0) 135 (fdF (Y 135) tp (wk5 a b c d e) 20)) 134 1 (nI (tp + 20)) 134 k = if k = 1 then nI (tp + 20) else if k = 2 then 0 else Y 134 k := fun k => by rw [sI_at, aU_ne (by decide), sI_at]
  have z4 : ∀ k, k ≠ 1 → k ≠ 2 → sI (aU (sI Y 134 2 0) 135 (fdF (Y 135) tp (wk5 a b c d e) 20)) 134 1 (nI (tp + 20)) 134 k = Y 134 k := fun k q1 q2 => by rw [y34, if_neg q1, if_neg q2]
  have y35 : sI (aU (sI Y 134 2 0) 135 (fdF (Y 135) tp (wk5 a b c d e) 20)) 134 1 (nI (tp + 20)) 135 = fdF (Y 135) tp (wk5 a b c d e) 20 := by rw [sI_ne (by decide), aU_eq]
  obtain ⟨b1, b2, b3, b4, ⟨tp', p1, p2, p3, p4⟩, b6, b7, b8⟩ := h.2.2.2.2.2.2.1
  have etp : tp' = tp := (nI_eq (by omega) (by omega)).mp (p3.symm.trans h1)
  subst etp
  refine gR_or h (fun i q => feed_ne (by omega) (by omega)) (fun i q1 q2 _ => yo i (by omega) q2) (fun k q1 q2 _ _ _ _ => z4 k q1 q2) ⟨?_, ?_, ?_, ?_, ⟨tp' + 20, h7, ?_, by rw [y34]; rfl, fun k hk => ?_⟩, by rw [feed_1 (by decide), z4 4 (by decide) (by decide)]; exact b6, by rw [feed_1 (by decide), z4 5 (by decide) (by decide)]; exact b7, by rw [feed_ne (by omega) (by omega), z4 16 (by decide) (by decide)]; exact b8⟩
  · unfold imR at *
    rw [feed_1 (by decide), feed_ne (i := 69) (by decide) (by decide), feed_ne (i := 70) (by decide) (by decide), feed_ne (i := 71) (by decide) (by decide), feed_ne (i := 72) (by decide) (by decide), feed_ne (i := 73) (by decide) (by decide), feed_ne (i := 68) (by decide) (by decide), z4 88 (by decide) (by decide), z4 92 (by decide) (by decide), yo 142 (by decide) (by decide), yo 182 (by decide) (by decide), yo 183 (by decide) (by decide), yo 184 (by decide) (by decide), yo 150 (by decide) (by decide)]
    exact b1
  · unfold tkR tkM at *
    rw [feed_ne (i := 123) (by decide) (by decide), feed_ne (i := 124) (by decide) (by decide), feed_ne (i := 125) (by decide) (by decide), z4 80 (by decide) (by decide), z4 81 (by decide) (by decide), yo 178 (by decide) (by decide)]
    exact b2
  · unfold clR clM at *
    rw [feed_ne (by omega) (by omega), yo 141 (by decide) (by decide)]
    exact b3
  · unfold rtR at *
    rw [feed_ne (i := t + 15) (by omega) (by omega), feed_ne (i := t + 16) (by omega) (by omega), feed_ne (i := t + 17) (by omega) (by omega), z4 15 (by decide) (by decide), yo 151 (by decide) (by decide)]
    exact b4
  · unfold feedI
    rw [putB_n (by rw [putB_n (by rw [putB_n (by rw [putB_n (by rw [putB_n p2])])])])]
  · rw [y35, fdF_at, feed_2]
    by_cases q : tp' ≤ k ∧ k < tp' + 20
    · rw [if_pos q, if_pos q]
      obtain ⟨n, n1, n2, n3⟩ := byte_y (wk5 a b c d e (k - tp') >>> (nI (24 - 8 * ((k - tp') % 4)) &&& 31))
      refine ⟨n, n1, n2, fun _ => ?_⟩
      unfold byteOf
      rw [shv_eq _ (Nat.mod_lt _ (by decide))]
      exact n3
    · rw [if_neg q, if_neg q]
      obtain ⟨x, x1, x2, x3⟩ := p4 k hk
      exact ⟨x, x1, x2, fun q2 => x3 (by omega)⟩
end
