/-! ===== class and reference as they are made ===== -/
section
variable {X : Nat → Nat → Int32}
set_option maxRecDepth 20000 in
theorem wd_b0 : ∀ j, j < 16 → moI X 136 (0 + j) = nI (wdT (0 + j))
  | 0, _ => rfl
  | 1, _ => rfl
  | 2, _ => rfl
  | 3, _ => rfl
  | 4, _ => rfl
  | 5, _ => rfl
  | 6, _ => rfl
  | 7, _ => rfl
  | 8, _ => rfl
  | 9, _ => rfl
  | 10, _ => rfl
  | 11, _ => rfl
  | 12, _ => rfl
  | 13, _ => rfl
  | 14, _ => rfl
  | 15, _ => rfl
  | j + 16, h => absurd h (by omega)
set_option maxRecDepth 20000 in
theorem wd_b1 : ∀ j, j < 16 → moI X 136 (16 + j) = nI (wdT (16 + j))
  | 0, _ => rfl
  | 1, _ => rfl
  | 2, _ => rfl
  | 3, _ => rfl
  | 4, _ => rfl
  | 5, _ => rfl
  | 6, _ => rfl
  | 7, _ => rfl
  | 8, _ => rfl
  | 9, _ => rfl
  | 10, _ => rfl
  | 11, _ => rfl
  | 12, _ => rfl
  | 13, _ => rfl
  | 14, _ => rfl
  | 15, _ => rfl
  | j + 16, h => absurd h (by omega)
set_option maxRecDepth 20000 in
theorem wd_b2 : ∀ j, j < 16 → moI X 136 (32 + j) = nI (wdT (32 + j))
  | 0, _ => rfl
  | 1, _ => rfl
  | 2, _ => rfl
  | 3, _ => rfl
  | 4, _ => rfl
  | 5, _ => rfl
  | 6, _ => rfl
  | 7, _ => rfl
  | 8, _ => rfl
  | 9, _ => rfl
  | 10, _ => rfl
  | 11, _ => rfl
  | 12, _ => rfl
  | 13, _ => rfl
  | 14, _ => rfl
  | 15, _ => rfl
  | j + 16, h => absurd h (by omega)
set_option maxRecDepth 20000 in
theorem wd_b3 : ∀ j, j < 16 → moI X 136 (48 + j) = nI (wdT (48 + j))
  | 0, _ => rfl
  | 1, _ => rfl
  | 2, _ => rfl
  | 3, _ => rfl
  | 4, _ => rfl
  | 5, _ => rfl
  | 6, _ => rfl
  | 7, _ => rfl
  | 8, _ => rfl
  | 9, _ => rfl
  | 10, _ => rfl
  | 11, _ => rfl
  | 12, _ => rfl
  | 13, _ => rfl
  | 14, _ => rfl
  | 15, _ => rfl
  | j + 16, h => absurd h (by omega)
set_option maxRecDepth 20000 in
theorem wd_b4 : ∀ j, j < 16 → moI X 136 (64 + j) = nI (wdT (64 + j))
  | 0, _ => rfl
  | 1, _ => rfl
  | 2, _ => rfl
  | 3, _ => rfl
  | 4, _ => rfl
  | 5, _ => rfl
  | 6, _ => rfl
  | 7, _ => rfl
  | 8, _ => rfl
  | 9, _ => rfl
  | 10, _ => rfl
  | 11, _ => rfl
  | 12, _ => rfl
  | 13, _ => rfl
  | 14, _ => rfl
  | 15, _ => rfl
  | j + 16, h => absurd h (by omega)
set_option maxRecDepth 20000 in
theorem wd_b5 : ∀ j, j < 16 → moI X 136 (80 + j) = nI (wdT (80 + j))
  | 0, _ => rfl
  | 1, _ => rfl
  | 2, _ => rfl
  | 3, _ => rfl
  | 4, _ => rfl
  | 5, _ => rfl
  | 6, _ => rfl
  | 7, _ => rfl
  | 8, _ => rfl
  | 9, _ => rfl
  | 10, _ => rfl
  | 11, _ => rfl
  | 12, _ => rfl
  | 13, _ => rfl
  | 14, _ => rfl
  | 15, _ => rfl
  | j + 16, h => absurd h (by omega)
set_option maxRecDepth 20000 in
theorem wd_b6 : ∀ j, j < 16 → moI X 136 (96 + j) = nI (wdT (96 + j))
  | 0, _ => rfl
  | 1, _ => rfl
  | 2, _ => rfl
  | 3, _ => rfl
  | 4, _ => rfl
  | 5, _ => rfl
  | 6, _ => rfl
  | 7, _ => rfl
  | 8, _ => rfl
  | 9, _ => rfl
  | 10, _ => rfl
  | 11, _ => rfl
  | 12, _ => rfl
  | 13, _ => rfl
  | 14, _ => rfl
  | 15, _ => rfl
  | j + 16, h => absurd h (by omega)
set_option maxRecDepth 20000 in
theorem wd_b7 : ∀ j, j < 15 → moI X 136 (112 + j) = nI (wdT (112 + j))
  | 0, _ => rfl
  | 1, _ => rfl
  | 2, _ => rfl
  | 3, _ => rfl
  | 4, _ => rfl
  | 5, _ => rfl
  | 6, _ => rfl
  | 7, _ => rfl
  | 8, _ => rfl
  | 9, _ => rfl
  | 10, _ => rfl
  | 11, _ => rfl
  | 12, _ => rfl
  | 13, _ => rfl
  | 14, _ => rfl
  | j + 15, h => absurd h (by omega)
theorem wd_mo : ∀ j, j < 127 → moI X 136 j = nI (wdT j) := fun j hj => by
  by_cases h0 : j < 16
  · have := wd_b0 (X := X) (j - 0) (by omega)
    rw [show 0 + (j - 0) = j by omega] at this
    exact this
  by_cases h1 : j < 32
  · have := wd_b1 (X := X) (j - 16) (by omega)
    rw [show 16 + (j - 16) = j by omega] at this
    exact this
  by_cases h2 : j < 48
  · have := wd_b2 (X := X) (j - 32) (by omega)
    rw [show 32 + (j - 32) = j by omega] at this
    exact this
  by_cases h3 : j < 64
  · have := wd_b3 (X := X) (j - 48) (by omega)
    rw [show 48 + (j - 48) = j by omega] at this
    exact this
  by_cases h4 : j < 80
  · have := wd_b4 (X := X) (j - 64) (by omega)
    rw [show 64 + (j - 64) = j by omega] at this
    exact this
  by_cases h5 : j < 96
  · have := wd_b5 (X := X) (j - 80) (by omega)
    rw [show 80 + (j - 80) = j by omega] at this
    exact this
  by_cases h6 : j < 112
  · have := wd_b6 (X := X) (j - 96) (by omega)
    rw [show 96 + (j - 96) = j by omega] at this
    exact this
  by_cases h7 : j < 127
  · have := wd_b7 (X := X) (j - 112) (by omega)
    rw [show 112 + (j - 112) = j by omega] at this
    exact this
  omega
end
theorem re_60 : ∀ w, w < 25 → reW.getD w 0 = nI (rfW (wmN w)) := by decide +kernel
/-- the memory behind the law's first rows: the class, the reference, the row of one long -/
def stI (I : Nat → Nat → Int32) : Nat → Nat → Int32 := zI (yKt (yPlain (moI (zI (iLs1I (zI I 1)) 134)))) 185
def stL (L : Nat → Nat → Int64) : Nat → Nat → Int64 := zL (moL (zL (iLs1L (zL L 1)) 134)) 185
def stP (P : Nat → Nat → Option Nat) : Nat → Nat → Option Nat := zP (moP (zP (iLs1P (zP P 1)) 134)) 185
section
variable {I : Nat → Nat → Int32} {P : Nat → Nat → Option Nat}
theorem st_hi {a : Nat} (h : a ≠ 185) : stI I a = yKt (yPlain (moI (zI (iLs1I (zI I 1)) 134))) a := zI_ne h
set_option maxRecDepth 20000 in
theorem st_cls {X : Nat → Nat → Int32} {a : Nat} (h : a < 134) : yPlain (moI X) a = X a := by
  have e1 : ∀ K : Nat → Nat → Int32, yPlain K a = K a := fun K => by
    unfold yPlain yPl7
    rw [aU_ne (by omega), aU_ne (by omega), sI_ne (by omega), sI_ne (by omega), sI_ne (by omega), sI_ne (by omega), sI_ne (by omega), sI_ne (by omega), sI_ne (by omega)]
  rw [e1]
  unfold moI mk11I mk10I mk9I mk8I mk7I mk6I mk5I mk4I mk3I mk2I mk1I
  simp only [sI_ne (show a ≠ 136 by omega), sI_ne (show a ≠ 134 by omega), zI_ne (show a ≠ 135 by omega), zI_ne (show a ≠ 136 by omega), zI_ne (show a ≠ 137 by omega), zI_ne (show a ≠ 138 by omega), zI_ne (show a ≠ 139 by omega), zI_ne (show a ≠ 140 by omega), zI_ne (show a ≠ 141 by omega), zI_ne (show a ≠ 142 by omega), zI_ne (show a ≠ 143 by omega), zI_ne (show a ≠ 144 by omega), zI_ne (show a ≠ 145 by omega), zI_ne (show a ≠ 146 by omega), zI_ne (show a ≠ 147 by omega), zI_ne (show a ≠ 148 by omega), zI_ne (show a ≠ 149 by omega), zI_ne (show a ≠ 150 by omega), zI_ne (show a ≠ 151 by omega), zI_ne (show a ≠ 152 by omega), zI_ne (show a ≠ 153 by omega), zI_ne (show a ≠ 154 by omega), zI_ne (show a ≠ 155 by omega), zI_ne (show a ≠ 156 by omega), zI_ne (show a ≠ 157 by omega), zI_ne (show a ≠ 158 by omega), zI_ne (show a ≠ 159 by omega), zI_ne (show a ≠ 160 by omega), zI_ne (show a ≠ 161 by omega), zI_ne (show a ≠ 162 by omega), zI_ne (show a ≠ 163 by omega), zI_ne (show a ≠ 164 by omega), zI_ne (show a ≠ 165 by omega), zI_ne (show a ≠ 166 by omega), zI_ne (show a ≠ 167 by omega), zI_ne (show a ≠ 168 by omega), zI_ne (show a ≠ 169 by omega), zI_ne (show a ≠ 170 by omega), zI_ne (show a ≠ 171 by omega), zI_ne (show a ≠ 172 by omega), zI_ne (show a ≠ 173 by omega), zI_ne (show a ≠ 174 by omega), zI_ne (show a ≠ 175 by omega), zI_ne (show a ≠ 176 by omega), zI_ne (show a ≠ 177 by omega), zI_ne (show a ≠ 178 by omega), zI_ne (show a ≠ 179 by omega), zI_ne (show a ≠ 180 by omega), zI_ne (show a ≠ 181 by omega), zI_ne (show a ≠ 182 by omega), zI_ne (show a ≠ 183 by omega), zI_ne (show a ≠ 184 by omega)]
theorem st_lo {a : Nat} (h : a < 134) : stI I a = iLs1I (zI I 1) a := by
  rw [st_hi (by omega), yK_fr (by omega) (by omega), st_cls h, zI_ne (by omega)]
set_option maxRecDepth 20000 in
theorem st_x : (iLs1I (zI I 1) 3 0 = 0 ∧ iLs1I (zI I 1) 3 6 = 0 ∧ iLs1I (zI I 1) 3 12 = 0) ∧ (∀ r, iLs1I (zI I 1) 27 r = 0 ∧ iLs1I (zI I 1) 25 r = 0 ∧ iLs1I (zI I 1) 26 r = 0 ∧ iLs1I (zI I 1) 52 r = 0 ∧ iLs1I (zI I 1) 53 r = 0) ∧ (iLs1I (zI I 1) 62 1 = 0 ∧ iLs1I (zI I 1) 62 2 = 1 ∧ iLs1I (zI I 1) 62 3 = 1) ∧ (iLs1I (zI I 1) 80 1 = 0 ∧ iLs1I (zI I 1) 80 0 = 0) ∧ iLs1I (zI I 1) 1 10 = 0 ∧ (iLs1I (zI I 1) 123 0 = 0 ∧ iLs1I (zI I 1) 123 1 = -1) ∧ iLs1I (zI I 1) 18 0 = 0 ∧ (∀ k, iLs1I (zI I 1) 20 k = 0) ∧ iLs1I (zI I 1) 1 1 = 0 ∧ iLs1I (zI I 1) 1 5 = 0 ∧ iLs1I (zI I 1) 1 6 = -1 ∧ iLs1I (zI I 1) 22 0 = 0 ∧ ∀ w, iLs1I (zI I 1) 60 w = reW.getD w 0 :=
  ⟨⟨rfl, rfl, rfl⟩, fun r => ⟨rfl, rfl, rfl, rfl, rfl⟩, ⟨rfl, rfl, rfl⟩, ⟨rfl, rfl⟩, rfl, ⟨rfl, rfl⟩, rfl, fun k => rfl, rfl, rfl, rfl, rfl, fun w => rfl⟩
set_option maxRecDepth 20000 in
theorem mo_y {Q : Nat → Nat → Int32} : (yPlain (moI (zI Q 134)) 134 17 = 0 ∧ yPlain (moI (zI Q 134)) 134 18 = 0 ∧ yPlain (moI (zI Q 134)) 134 19 = 0 ∧ yPlain (moI (zI Q 134)) 134 20 = 0 ∧ yPlain (moI (zI Q 134)) 134 21 = 0) ∧ (∀ r, r < 3 → yPlain (moI (zI Q 134)) 152 (3 + r) = 0) ∧ (moI (zI Q 134) 134 1 = 0 ∧ moI (zI Q 134) 134 4 = 0 ∧ moI (zI Q 134) 134 5 = -1) ∧ (∀ k, moI (zI Q 134) 135 k = 0) :=
  ⟨⟨rfl, rfl, rfl, rfl, rfl⟩, fun r hr => if_pos ⟨by omega, by omega⟩, ⟨rfl, rfl, rfl⟩, fun k => rfl⟩
theorem yP_o {X : Nat → Nat → Int32} {a : Nat} (h1 : a ≠ 134) (h2 : a ≠ 141) (h3 : a ≠ 152) : yPlain X a = X a := by
  unfold yPlain yPl7
  rw [aU_ne h3, aU_ne h2, sI_ne h1, sI_ne h1, sI_ne h1, sI_ne h1, sI_ne h1, sI_ne h1, sI_ne h1]
theorem yP_4 (X : Nat → Nat → Int32) : yPlain X 134 1 = X 134 1 ∧ yPlain X 134 4 = X 134 4 ∧ yPlain X 134 5 = X 134 5 := ⟨rfl, rfl, rfl⟩
set_option maxHeartbeats 1000000 in
theorem st_g : gR (stI I) (stI I) 3 0 0 0 0 0 := by
  obtain ⟨⟨x1, x2, x3⟩, x4, ⟨x5, x6, x7⟩, ⟨x8, x9⟩, x10, ⟨x11, x12⟩, x13, x14, x15, x16, x17, x18, x19⟩ := st_x (I := I)
  obtain ⟨⟨m1, m2, m3, m4, m5⟩, m6, ⟨m7, m8, m9⟩, m10⟩ := mo_y (Q := iLs1I (zI I 1))
  have lo : ∀ a, a < 134 → stI I a = iLs1I (zI I 1) a := fun a h => st_lo h
  have hi : ∀ a, a ≠ 185 → stI I a = yKt (yPlain (moI (zI (iLs1I (zI I 1)) 134))) a := fun a h => st_hi h
  have k12 := yK_12 (yPlain (moI (zI (iLs1I (zI I 1)) 134)))
  have k62 := yK_62 (yPlain (moI (zI (iLs1I (zI I 1)) 134)))
  have k1 := yK_1 (yPlain (moI (zI (iLs1I (zI I 1)) 134)))
  have y4 := yP_4 (moI (zI (iLs1I (zI I 1)) 134))
  have h4 : ∀ k, stI I 134 k = yKt (yPlain (moI (zI (iLs1I (zI I 1)) 134))) 134 k := fun k => by rw [hi 134 (by decide)]
  have l152 : ∀ r, r < 3 → stI I 152 r = 0 := fun r hr => by rw [hi 152 (by decide), (yK_law hr).1, m6 r hr]; decide
  have v : ∀ {Q : Nat → Prop} (k : Nat), k < 0 → Q k := fun k hk => absurd hk (Nat.not_lt_zero k)
  have hlaw : lawR (stI I) (stI I) 3 := fun r hr => ⟨⟨fun _ => l152 _ (lr_3 r hr), fun _ => by rw [lo _ (by decide)]; exact (x4 r).1⟩, fun w => absurd (l152 _ (lr_3 r hr)) w⟩
  refine ⟨⟨⟨⟨⟨?_, Nat.zero_le _, ?_, Nat.zero_le _, ?_, Nat.zero_le _⟩, ⟨?_, Nat.zero_le _, ?_, Nat.zero_le _, ?_, Nat.zero_le _⟩, fun p hp => absurd hp (Nat.not_lt_zero p), fun p hp => absurd hp (Nat.not_lt_zero p), fun p hp => absurd hp (Nat.not_lt_zero p), hlaw⟩, fun r hr w => absurd (l152 r hr) w, ⟨fun p hp => absurd hp (Nat.not_lt_zero p), fun p hp => absurd hp (Nat.not_lt_zero p)⟩, fun p hp => absurd hp (Nat.not_lt_zero p)⟩, ⟨fun p hp => absurd hp (Nat.not_lt_zero p), fun p hp => absurd hp (Nat.not_lt_zero p), fun p hp => absurd hp (Nat.not_lt_zero p), ?_, ⟨fun w => ?_, fun w => ?_⟩, ⟨fun w => ?_, fun w => ?_⟩⟩, ⟨fun p hp => absurd hp (Nat.not_lt_zero p), fun p hp => absurd hp (Nat.not_lt_zero p)⟩, ?_, fun p hp => absurd hp (Nat.not_lt_zero p)⟩, ⟨?_, ?_⟩, ⟨?_, ?_⟩, fun p hp => absurd hp (Nat.not_lt_zero p), ⟨0, by decide, ?_⟩, ⟨?_, by decide, ?_, by decide, ?_, fun p hp => absurd hp (Nat.not_lt_zero p)⟩, ⟨Or.inl ⟨?_, ?_⟩, ⟨0, by decide, ?_, ?_, fun p hp => absurd hp (Nat.not_lt_zero p), ?_, ?_, fun p hp => absurd hp (Nat.not_lt_zero p)⟩, ⟨fun _ => 0, ⟨fun p hp => absurd hp (Nat.not_lt_zero p), fun _ => Nat.zero_le _, fun _ _ => rfl⟩, fun p hp => absurd hp (Nat.not_lt_zero p)⟩, ⟨0, by decide, ?_, ?_, fun p hp => absurd hp (Nat.not_lt_zero p), fun a b ha hb _ => ?_, fun p _ hp => absurd hp (Nat.not_lt_zero p)⟩, ⟨0, by decide, ?_, ?_, fun k hk => ⟨0, by decide, ?_, fun w => absurd w (Nat.not_lt_zero k)⟩⟩, ?_, ?_, ?_⟩, Or.inl rfl⟩
  · rw [lo 3 (by decide), x1]; rfl
  · rw [lo 3 (by decide), x2]; rfl
  · rw [lo 3 (by decide), x3]; rfl
  · rw [h4, k12.1, m1]; rfl
  · rw [h4, k12.2.1, m2]; rfl
  · rw [h4, k12.2.2.1, m3]; rfl
  · rw [lo 62 (by decide), x5, hi 167 (by decide), k62.2.2.2.2.2.2.2]
  · rw [lo 62 (by decide), x6] at w; exact absurd w (by decide)
  · rw [h4, k62.1] at w; exact absurd rfl w
  · rw [lo 62 (by decide), x7] at w; exact absurd w (by decide)
  · rw [h4, k62.2.1] at w; exact absurd rfl w
  · rw [h4, k62.2.2.1]
  · rw [lo 62 (by decide)]; exact x6
  · rw [lo 62 (by decide)]; exact x7
  · rw [h4]; exact k62.1
  · rw [h4]; exact k62.2.1
  · rw [hi 167 (by decide), k62.2.2.2.2.2.2.2]; rfl
  · rw [lo 80 (by decide), x8]; rfl
  · rw [lo 80 (by decide), x9]; rfl
  · rw [h4, k62.2.2.2.2.2.1]; rfl
  · rw [lo 1 (by decide)]; exact x10
  · rw [h4]; exact k62.2.2.2.2.2.2.1
  · rw [lo 123 (by decide), x11]; rfl
  · rw [h4, k62.2.2.2.1]; rfl
  · rw [lo 123 (by decide), x12, h4, k62.2.2.2.2.1]
  · rw [h4, k62.2.2.2.2.1]; decide
  · rw [lo _ (by decide), x13]; rfl
  · rw [h4, k12.2.2.2.1, m4]; rfl
  · rw [lo _ (by decide)]; exact x14 _
  · rw [lo 1 (by decide), x15]; rfl
  · rw [h4, k1.1, y4.1, m7]; rfl
  · rw [hi 135 (by decide), k1.2.2.2.1, yP_o (by decide) (by decide) (by decide), m10]; rfl
  · rw [lo 1 (by decide), x16, h4, k1.2.1, y4.2.1, m8]
  · rw [lo 1 (by decide), x17, h4, k1.2.2.1, y4.2.2, m9]
  · rw [lo _ (by decide), x18, h4, k12.2.2.2.2, m5]
set_option maxRecDepth 20000 in
theorem st_P12 : stP P 1 2 = some 3 ∧ stP P 1 3 = some 30 ∧ stP P 62 0 = some 3 := ⟨rfl, rfl, rfl⟩
theorem kPs_185 : ∀ q ∈ kPs, q.1 ≠ 185 := by decide +kernel
theorem kPc_134 {Q : Nat → Nat → Option Nat} (h : kPc Q) : kPc (zP Q 134) := fun q hq => by
  have : ∀ z ∈ kPs.take 132, z.1 ≠ 134 := by decide +kernel
  rw [zP_ne (this q hq)]
  exact h q hq
theorem st_kA {x0 : pSh} : kA (kT x0 186) (stP P) := by
  have h := moP_kA (x0 := x0) (n := 186) (P := zP (iLs1P (zP P 1)) 134) (by decide) (kPc_134 ls_kPc)
  exact ⟨h.1, fun q hq => by
    show zP _ 185 q.1 q.2.1 = _
    rw [zP_ne (kPs_185 q hq)]
    exact h.2 q hq⟩
theorem st_iq {x0 : pSh} : iq 3 30 0 0 0 0 0 (kT x0 186) (stI I) (stP P) := by
  obtain ⟨-, x4, -, -, x10, -, -, -, -, -, -, -, x19⟩ := st_x (I := I)
  refine ⟨st_g, st_kA, ⟨fun w hw => ?_, fun j hj => ?_, fun r hr => ⟨0, 0, ?_, ?_, Nat.le_refl _, by decide⟩, fun r hr => ⟨0, 0, ?_, ?_, Nat.le_refl _, by decide⟩⟩, st_P12.1, ⟨st_P12.2.1, Or.inr rfl, by decide⟩, st_P12.2.2, fun w => ?_⟩
  · rw [st_lo (by decide), x19]; exact re_60 w hw
  · rw [st_hi (by decide), yK_fr (by decide) (by decide), yP_o (by decide) (by decide) (by decide)]; exact wd_mo j hj
  · rw [st_lo (by decide)]; exact (x4 r).2.1
  · rw [st_lo (by decide)]; exact (x4 r).2.2.1
  · rw [st_lo (by decide)]; exact (x4 r).2.2.2.1
  · rw [st_lo (by decide)]; exact (x4 r).2.2.2.2
  · rw [st_lo (by decide), x10] at w; exact absurd rfl w
end
