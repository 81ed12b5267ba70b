/-! ===== a text that is taken: class and reference agree behind it ===== -/
theorem yK_137 {J : Nat → Nat → Int32} {p : Nat} (h : p < 5) : yKt J 137 p = J 137 (5 + p) := by
  show fil (fun i => J 137 (5 + i)) (J 137) 5 p = _
  exact if_pos h
theorem yK_12 (J : Nat → Nat → Int32) : yKt J 134 12 = J 134 17 ∧ yKt J 134 13 = J 134 18 ∧ yKt J 134 14 = J 134 19 ∧ yKt J 134 15 = J 134 20 ∧ yKt J 134 16 = J 134 21 := ⟨rfl, rfl, rfl, rfl, rfl⟩
theorem yK_62 (J : Nat → Nat → Int32) : yKt J 134 62 = 0 ∧ yKt J 134 63 = 0 ∧ yKt J 134 64 = 0 ∧ yKt J 134 80 = 0 ∧ yKt J 134 81 = -1 ∧ yKt J 134 86 = 0 ∧ yKt J 134 88 = 0 ∧ yKt J 167 0 = 0 := ⟨rfl, rfl, rfl, rfl, rfl, rfl, rfl, rfl⟩
theorem yK_1 (J : Nat → Nat → Int32) : yKt J 134 1 = J 134 1 ∧ yKt J 134 4 = J 134 4 ∧ yKt J 134 5 = J 134 5 ∧ yKt J 135 = J 135 ∧ yKt J 136 = J 136 := ⟨rfl, rfl, rfl, rfl, rfl⟩
theorem yK_166 {J : Nat → Nat → Int32} {d : Nat} (h : d < 8) : yKt J 166 d = 0 := if_pos ⟨Nat.zero_le _, h⟩
/-- the class's memory behind a text that is taken, out of the one behind its reading -/
def kpX (Z : Nat → Nat → Int32) (t : Nat) : Nat → Nat → Int32 := sI (sI (sI (sI (sI (xBegin (sI (sI Z 1 5 (Z 57 1)) 1 6 (Z 57 2)) t 62 8) 123 0 0) 123 1 (-1)) 80 0 0) 80 1 0) 1 10 0
theorem kpX_o {Z : Nat → Nat → Int32} {t a : Nat} (h1 : a ≠ 1) (h2 : a < 62 ∨ 67 < a) (h3 : a ≠ 80) (h4 : a ≠ 123) : kpX Z t a = Z a := by
  unfold kpX xBegin xBg1 xBg0
  rw [sI_ne h1, sI_ne h3, sI_ne h3, sI_ne h4, sI_ne h4, aU_ne (by omega), aU_ne (by omega), aU_ne (by omega), aU_ne (by omega), aU_ne (by omega), sI_ne (by omega), sI_ne h1, sI_ne h1]
theorem kpX_at {Z : Nat → Nat → Int32} {t : Nat} (ht : t = 3 ∨ t = 30) : (∀ s, s < 16 → kpX Z t 63 s = Z (t + 6) s ∧ kpX Z t 64 s = Z (t + 8) s ∧ kpX Z t 65 s = Z (t + 10) s) ∧ (∀ k, k < 10 → kpX Z t 66 k = -1) ∧ (∀ d, d < 8 → kpX Z t 67 d = 0) ∧ kpX Z t 62 1 = 0 ∧ kpX Z t 62 2 = Z 62 2 ∧ kpX Z t 62 3 = Z 62 3 ∧ kpX Z t 80 0 = 0 ∧ kpX Z t 80 1 = 0 ∧ kpX Z t 123 0 = 0 ∧ kpX Z t 123 1 = -1 ∧ kpX Z t 1 10 = 0 ∧ kpX Z t 1 5 = Z 57 1 ∧ kpX Z t 1 6 = Z 57 2 ∧ kpX Z t 1 1 = Z 1 1 := by
  have q : ∀ a, 2 ≤ a → a < 61 → sI (sI Z 1 5 (Z 57 1)) 1 6 (Z 57 2) a = Z a := fun a h1 h2 => by rw [sI_ne (by omega), sI_ne (by omega)]
  refine ⟨fun s hs => ⟨?_, ?_, ?_⟩, fun k hk => ?_, fun d hd => ?_, ?_, ?_, ?_, ?_, ?_, ?_, ?_, ?_, ?_, ?_, ?_⟩
  · have e : kpX Z t 63 s = fil (sI (sI Z 1 5 (Z 57 1)) 1 6 (Z 57 2) (t + 6)) (sI (sI Z 1 5 (Z 57 1)) 1 6 (Z 57 2) 63) 16 s := rfl
    rw [e, fil_at hs, q _ (by omega) (by omega)]
  · have e : kpX Z t 64 s = fil (sI (sI Z 1 5 (Z 57 1)) 1 6 (Z 57 2) (t + 8)) (sI (sI Z 1 5 (Z 57 1)) 1 6 (Z 57 2) 64) 16 s := rfl
    rw [e, fil_at hs, q _ (by omega) (by omega)]
  · have e : kpX Z t 65 s = fil (sI (sI Z 1 5 (Z 57 1)) 1 6 (Z 57 2) (t + 10)) (sI (sI Z 1 5 (Z 57 1)) 1 6 (Z 57 2) 65) 16 s := rfl
    rw [e, fil_at hs, q _ (by omega) (by omega)]
  · exact if_pos hk
  · exact if_pos hd
  all_goals rfl
theorem yK_law {J : Nat → Nat → Int32} {r : Nat} (h : r < 3) : yKt J 152 r = J 152 (3 + r) &&& 1 ∧ yKt J 153 r = J 153 (3 + r) ∧ yKt J 154 r = J 154 (3 + r) := ⟨yKt_152 h, yKt_153 h, yKt_154 h⟩
/-- class and reference behind a text that is taken -/
theorem kept_y {Z J : Nat → Nat → Int32} {t pr sr dr rr kr : Nat} (ht : t = 3 ∨ t = 30) (hc : lnC J pr sr dr rr kr) (hA : drA J pr sr dr rr kr) (hd : txD Z J t pr sr dr rr kr) (h4 : Z 57 1 = 0 ∧ J 134 4 = 0) (h5 : Z 57 2 = -1 ∧ J 134 5 = -1) (h1 : Z 1 1 = 0 ∧ J 134 1 = 0) (hw : Z 62 2 = 1 ∧ Z 62 3 = 1) (htp : ∀ k, k < 700 → ∃ x, x ≤ 255 ∧ J 135 k = nI x) : gR (kpX Z t) (yKt J) t pr sr dr 0 0 := by
  obtain ⟨k1, k2, k3, k4, k5⟩ := yKt_ok hc hA
  obtain ⟨c, hcl⟩ := yKt_cl hc.2.1.2 hA
  obtain ⟨-, d2, d3, d4, d5, d6, d7, d8⟩ := hd
  obtain ⟨x1, x2, x3, x4, x5, x6, x7, x8, x9, x10, x11, x12, x13, x14⟩ := kpX_at (Z := Z) ht
  obtain ⟨y1, y2, y3, y4, y5, y6, y7, y8⟩ := yK_62 J
  have hp5 := hc.2.1.2
  have hs16 := hc.2.2.1.2
  have hd8 := hc.2.2.2.1.2
  have o : ∀ a, t ≤ a → a < t + 27 → kpX Z t a = Z a := fun a _ _ => kpX_o (by omega) (by omega) (by omega) (by omega)
  have hlaw : lawR (kpX Z t) (yKt J) t := fun r hr => by
    obtain ⟨e1, e2, e3⟩ := yK_law (J := J) (lr_3 r hr)
    rw [o _ (by omega) (by omega), e1, e2, e3]
    rcases d8.2.2.2 r hr with ⟨q1, q2⟩ | ⟨q1, q2, b, e, w1, w2, w3, w4, w5, w6, w7⟩
    · rw [q1, q2]
      exact ⟨⟨fun _ => by decide, fun _ => rfl⟩, fun w => absurd (by decide) w⟩
    · rw [q1, q2]
      refine ⟨⟨fun w => absurd w (by decide), fun w => absurd w (by decide)⟩, fun _ => ?_⟩
      have k64 := d8.2.2.1
      rw [o _ (by omega) (by omega), o _ (by omega) (by omega), o _ (by omega) (by omega), o _ (by omega) (by omega), w3, w4, w5, w6]
      refine ⟨rfl, rfl, fun i i1 i2 => ?_⟩
      rw [ixn_nI (by omega)] at i1 i2
      rw [yKt_155 (by omega), yKt_156 (by omega)]
      exact w7 i i1 i2
  have htR : tR (kpX Z t) (yKt J) t pr sr dr := by
    refine ⟨by unfold tOK; rw [o t (by omega) (by omega)]; exact d2, k1, fun p hp => ?_, fun s hs => ?_, fun d hd => ?_, hlaw⟩
    · rw [o _ (by omega) (by omega), o _ (by omega) (by omega), o _ (by omega) (by omega), o _ (by omega) (by omega), yK_137 (by omega), yKt_138 (by omega), yKt_139 (by omega), yKt_140 (by omega)]
      exact d3 p hp
    · obtain ⟨q1, q2, q3, q4, q5⟩ := d4 s hs
      obtain ⟨⟨a, a1, a2⟩, -⟩ := hA.2.2.1 s hs
      rw [o _ (by omega) (by omega), o _ (by omega) (by omega), o _ (by omega) (by omega), yKt_142 (by omega), yKt_143 (by omega), yKt_145 (by omega)]
      exact ⟨q1, q2, q4, a, by omega, a2⟩
    · rw [o _ (by omega) (by omega), o _ (by omega) (by omega), o _ (by omega) (by omega), o _ (by omega) (by omega), yKt_147 (by omega), yKt_148 (by omega), yKt_149 (by omega), yKt_150 (by omega)]
      exact d5 d hd
  have hwR : wR (kpX Z t) (yKt J) 62 0 pr sr dr := by
    refine ⟨fun s hs => ?_, fun p hp => ?_, fun d hd => ?_, by rw [x4, y8], ⟨fun w => ?_, fun w => absurd y1 w⟩, ⟨fun w => ?_, fun w => absurd y2 w⟩⟩
    · obtain ⟨q1, q2, q3⟩ := x1 s (by omega)
      obtain ⟨r1, r2, r3, r4, r5⟩ := d4 s hs
      show kpX Z t 63 s = _ ∧ kpX Z t 64 s = _ ∧ kpX Z t 65 s = _
      rw [q1, q2, q3, show 16 * 0 + s = s by omega, yKt_162 (by omega), yKt_163 (by omega)]
      unfold ySide
      rw [if_pos y3, yKt_142 (by omega)]
      exact ⟨r1, r3, r5⟩
    · show kpX Z t 66 _ = _ ∧ kpX Z t 66 _ = _
      rw [x2 _ (by omega), x2 _ (by omega), show 5 * 0 + p = p by omega, yKt_164 (by omega), yKt_165 (by omega)]
      exact ⟨rfl, rfl⟩
    · show kpX Z t 67 d = _
      rw [x3 d (by omega), show 8 * 0 + d = d by omega, yK_166 (by omega)]
    · rw [x5, hw.1] at w; exact absurd w (by decide)
    · rw [x6, hw.2] at w; exact absurd w (by decide)
  have huM : uM (yKt J) 0 sr := fun s hs _ => by
    obtain ⟨-, -, ⟨q, q1, q2⟩, -⟩ := hA.2.2.1 s hs
    rw [show 16 * 0 + s = s by omega, yKt_162 (by omega)]
    exact ⟨q, by omega, q2⟩
  refine ⟨⟨⟨htR, k5, k2, k3⟩, hwR, k4, y3, huM⟩, ⟨by rw [x5]; exact hw.1, by rw [x6]; exact hw.2⟩, ⟨y1, y2⟩, fun d hd _ => by rw [show 8 * 0 + d = d by omega]; exact yK_166 (by omega), ⟨0, by decide, y8⟩, ⟨x8, by decide, x7, by decide, y6, fun k hk => absurd hk (Nat.not_lt_zero k)⟩, ⟨Or.inl ⟨x11, y7⟩, ⟨0, by decide, x9, y4, fun k hk => absurd hk (Nat.not_lt_zero k), by rw [x10, y5], by rw [y5]; decide, fun k hk => absurd hk (Nat.not_lt_zero k)⟩, ⟨c, hcl, fun p hp => ?_⟩, ?_, ⟨0, by decide, by rw [x14, h1.1]; rfl, by rw [(yK_1 J).1, h1.2]; rfl, fun k hk => ?_⟩, by rw [x12, (yK_1 J).2.1, h4.1, h4.2], by rw [x13, (yK_1 J).2.2.1, h5.1, h5.2], by rw [o _ (by omega) (by omega), (yK_12 J).2.2.2.2, d8.1]; exact hc.2.2.2.2.2.1.symm⟩, ht⟩
  · rw [o _ (by omega) (by omega)]
    have e := hcl.1 p hp
    rw [yKt_141 (by omega)] at e
    rcases d6 p (by omega) with ⟨q1, q2⟩ | ⟨v, v1, v9, q1, q2⟩
    · rcases e with ⟨e1, e2⟩ | ⟨e1, e2⟩
      · rw [q2, e2]; rfl
      · rw [e1] at q1
        have := hcl.2.1 p
        exact absurd q1 (nI_pos (by omega))
    · rcases e with ⟨e1, e2⟩ | ⟨e1, e2⟩
      · rw [q1] at e1; exact absurd e1 (nI_m1 (by omega))
      · have := hcl.2.1 p
        rw [q1] at e1
        rw [q2, e1]
  · obtain ⟨r1, r2, r3, r4, r5⟩ := d7
    refine ⟨rr, r2, by rw [o _ (by omega) (by omega)]; exact r1, (yK_12 J).2.2.2.1.trans hc.2.2.2.2.1.1, fun k hk => ?_, fun a b ha hb hn => ?_, fun k k' hk hk' e1 e2 => ?_⟩
    · obtain ⟨a, b, u, v, p1, p2, p3, p4, p5, p6, p7, q0, q1, q2, q3, q4, q5⟩ := r3 k hk
      rw [o _ (by omega) (by omega), o _ (by omega) (by omega), yKt_151 (by omega), yKt_151 (by omega), yKt_151 (by omega), yKt_151 (by omega)]
      refine ⟨a, b, u, v, p1, p2, p3, p4, p5, p6, p7, q0, ?_, ?_, ?_, ?_, ?_⟩
      · rw [← q1, show 32 + (4 * k + 1) = 32 + 4 * k + 1 by omega]
      · rw [← q2, show 32 + (4 * k + 2) = 32 + 4 * k + 2 by omega]
      · rw [← q3, show 32 + (4 * k + 3) = 32 + 4 * k + 3 by omega]
      · rw [show 6 * a + b = a * 6 + b by omega]; exact q4
      · rw [show 6 * a + b = a * 6 + b by omega]; exact q5
    · rw [o _ (by omega) (by omega), show 6 * a + b = a * 6 + b by omega]
      refine r4 a b ha hb (fun k hk w => hn k hk ?_)
      rw [yKt_151 (by omega), yKt_151 (by omega), show 32 + (4 * k + 2) = 32 + 4 * k + 2 by omega]
      exact w
    · rw [yKt_151 (by omega), yKt_151 (by omega)] at e1 e2
      rw [show 32 + (4 * k + 2) = 32 + 4 * k + 2 by omega, show 32 + (4 * k' + 2) = 32 + 4 * k' + 2 by omega] at e2
      exact r5 k k' hk hk' e1 e2
  · obtain ⟨x, z1, z2⟩ := htp k hk
    exact ⟨x, z1, by rw [(yK_1 J).2.2.2.1]; exact z2, fun w => absurd w (Nat.not_lt_zero k)⟩
