/-! ===== class and reference: the relation, worth, wear, pairs ===== -/
def lr : Nat → Nat
  | 0 => 0
  | 1 => 2
  | _ => 1
/-- the laws of a tale are those of the reference -/
def lawR (X Y : Nat → Nat → Int32) (t : Nat) : Prop := ∀ r, r < 3 → (X (t + 24) r = 0 ↔ Y 152 (lr r) = 0) ∧ (¬ Y 152 (lr r) = 0 → X (t + 22) r = Y 153 (lr r) ∧ X (t + 23) r = Y 154 (lr r) ∧ ∀ i, ixn (Y 153 (lr r)) ≤ i → i < ixn (Y 154 (lr r)) → cdR (X (t + 20) i) (X (t + 21) i) (Y 155 i) (Y 156 i))
/-- a tale of the class (X) tells what the reference (Y) was told -/
def tR (X Y : Nat → Nat → Int32) (t np ns nd : Nat) : Prop :=
  tOK X t np ns nd ∧ mOK Y np ns nd ∧ (∀ p, p < np → X (t + 1) p = Y 137 p ∧ X (t + 2) p = Y 138 p ∧ X (t + 3) p = Y 139 p ∧ X (t + 4) p = Y 140 p) ∧
  (∀ s, s < ns → X (t + 6) s = Y 142 s ∧ X (t + 7) s = Y 143 s ∧ X (t + 9) s = Y 145 s ∧ ∃ d, d < 2 ∧ Y 142 s = nI d) ∧
  (∀ d, d < nd → X (t + 11) d = Y 147 d ∧ X (t + 12) d = Y 148 d ∧ X (t + 13) d = Y 149 d ∧ X (t + 14) d = Y 150 d) ∧ lawR X Y t
/-- a world of the class stands as half b of the reference -/
def wR (X Y : Nat → Nat → Int32) (w b np ns nd : Nat) : Prop :=
  (∀ s, s < ns → X (w + 1) s = ySide Y s ∧ X (w + 2) s = Y 162 (16 * b + s) ∧ X (w + 3) s = Y 163 (16 * b + s)) ∧ (∀ p, p < np → X (w + 4) (2 * p) = Y 164 (5 * b + p) ∧ X (w + 4) (2 * p + 1) = Y 165 (5 * b + p)) ∧
  (∀ d, d < nd → X (w + 5) d = Y 166 (8 * b + d)) ∧ X w 1 = Y 167 b ∧ (X w 2 = 0 ↔ ¬ Y 134 62 = 0) ∧ (X w 3 = 0 ↔ ¬ Y 134 63 = 0)
theorem nm_pm {s u l so st d f : Int64} : ∀ q, q < 7 → xNm s u so st d f l (pmN q) = yNm s u l so st d f q
  | 0, _ => rfl
  | 1, _ => rfl
  | 2, _ => rfl
  | 3, _ => rfl
  | 4, _ => rfl
  | 5, _ => rfl
  | 6, _ => rfl
  | q + 7, h => absurd h (by omega)
theorem nm_bd {s u l so st d f : Int64} (h1 : bd s) (h2 : bd u) (h3 : bd l) (h4 : bd so) (h5 : bd st) (h6 : bd d) (h7 : bd f) : ∀ q, q < 7 → bd (yNm s u l so st d f q)
  | 0, _ => h1
  | 1, _ => h2
  | 2, _ => h3
  | 3, _ => h4
  | 4, _ => h5
  | 5, _ => h6
  | 6, _ => h7
  | q + 7, h => absurd h (by omega)
theorem xWithin_y {v : Int64} {m : Int32} (hm : m = 999 ∨ m = 50) : xWithin v m = yClamp v m := by
  have m0 : 0 ≤ m.toInt64.toInt ∧ m.toInt64.toInt32 = m ∧ ¬ m.toInt64 < 0 := by rcases hm with rfl | rfl <;> decide
  unfold xWithin yClamp lMax lMin
  by_cases z : v < 0
  · have z2 : v < m.toInt64 := by
      rw [Int64.lt_iff_toInt_lt] at z ⊢
      have e : (0 : Int64).toInt = 0 := rfl
      omega
    rw [if_pos z, if_pos z2, if_pos z]
    rfl
  · rw [if_neg z]
    by_cases z2 : v < m.toInt64
    · rw [if_pos z2, if_neg (show ¬ m.toInt64 < v from fun q => Int64.lt_irrefl (Int64.lt_trans z2 q)), if_neg z]
    · rw [if_neg z2, if_neg m0.2.2]
      by_cases z3 : m.toInt64 < v
      · rw [if_pos z3]
        exact m0.2.1
      · rw [if_neg z3]
        have e : v = m.toInt64 := Int64.le_antisymm (Int64.not_lt.mp z3) (Int64.not_lt.mp z2)
        rw [e]
theorem xLaw_y {X Y : Nat → Nat → Int32} {t r : Nat} {nx ny : Nat → Int64} (h : lawR X Y t) (hwf : wfL Y) (hr : r < 3) (hn : ∀ q, q < 7 → nx (pmN q) = ny q ∧ bd (ny q)) : xLaw X t r nx = yLawV Y (lr r) ny ∧ ∀ m z, m = 999 ∨ m = 50 → xFirst (xLaw X t r nx) m z = yBd Y (lr r) ny z m := by
  obtain ⟨h1, h2⟩ := h r hr
  have hl3 : lr r < 3 := by unfold lr; split <;> decide
  by_cases z : Y 152 (lr r) = 0
  · have e : xLaw X t r nx = ERR := by
      unfold xLaw
      rw [if_pos (h1.mpr z)]
    refine ⟨?_, fun m z' _ => ?_⟩
    · rw [e]
      unfold yLawV
      rw [if_pos z]
    · rw [e]
      unfold xFirst yBd
      rw [if_pos rfl, if_pos z]
  · obtain ⟨e1, e2, hc⟩ := h2 z
    obtain ⟨b, e, hb, he, hbe, he64, hk⟩ := hwf (lr r) hl3 z
    have key := xEv_z (c := X (t + 20)) (v := X (t + 21)) (nx := nx) (ny := ny) hn (e - b) b [] [] (fun _ => 0) hk (by
      intro q q1 q2
      refine hc q ?_ ?_
      · rw [hb, ixn_nI (by omega)]; exact q1
      · rw [he, ixn_nI (by omega)]; omega) rfl trivial (by simp) (by simp; omega)
    have ex : xLaw X t r nx = (zLaw Y (lr r) ny).getD ERR := by
      unfold xLaw zLaw
      rw [if_neg (fun q => z (h1.mp q)), e1, e2, hb, he, ixn_nI (by omega), ixn_nI (by omega)]
      exact key.1
    have hbd : ∀ y, zLaw Y (lr r) ny = some y → bd y := by
      intro y hy
      unfold zLaw at hy
      rw [hb, he, ixn_nI (by omega), ixn_nI (by omega)] at hy
      exact key.2 y hy
    refine ⟨?_, fun m z' hm => ?_⟩
    · rw [ex]
      unfold yLawV
      rw [if_neg z]
    · rw [ex]
      unfold xFirst yBd
      rw [if_neg z]
      cases hz : zLaw Y (lr r) ny with
      | none => exact if_pos rfl
      | some y =>
        show (if y = ERR then z' else xWithin y m) = yClamp y m
        rw [if_neg (bd_ne (hbd y hz)), xWithin_y hm]
theorem bd_if {c : Prop} [Decidable c] {x y : Int64} (h1 : bd x) (h2 : bd y) : bd (if c then x else y) := by split <;> assumption
theorem tR.np {X Y : Nat → Nat → Int32} {t np ns nd : Nat} (h : tR X Y t np ns nd) : X t 0 = Y 134 12 := h.1.1.trans h.2.1.1.symm
theorem tR.ns {X Y : Nat → Nat → Int32} {t np ns nd : Nat} (h : tR X Y t np ns nd) : X t 6 = Y 134 13 := h.1.2.2.1.trans h.2.1.2.2.1.symm
theorem tR.nd {X Y : Nat → Nat → Int32} {t np ns nd : Nat} (h : tR X Y t np ns nd) : X t 12 = Y 134 14 := h.1.2.2.2.2.1.trans h.2.1.2.2.2.2.1.symm
theorem tR.hasS {X Y : Nat → Nat → Int32} {t np ns nd : Nat} (h : tR X Y t np ns nd) (s : Int32) : xHasS X t s ↔ yHasS Y s := by unfold xHasS yHasS; rw [h.ns]
theorem tR.hasP {X Y : Nat → Nat → Int32} {t np ns nd : Nat} (h : tR X Y t np ns nd) (s : Int32) : xHasP X t s ↔ yHasP Y s := by unfold xHasP yHasP; rw [h.np]
theorem tR.S {X Y : Nat → Nat → Int32} {t np ns nd : Nat} (h : tR X Y t np ns nd) {s : Int32} (hs : yHasS Y s) : ixn s < ns ∧ s = nI (ixn s) := by
  obtain ⟨j, hj, rfl⟩ := nIn h.2.1.2.2.1 (Nat.lt_of_le_of_lt h.2.1.2.2.2.1 (by decide)) hs
  have : j < 2 ^ 31 := by have := h.2.1.2.2.2.1; omega
  rw [ixn_nI this]
  exact ⟨hj, rfl⟩
theorem tR.P {X Y : Nat → Nat → Int32} {t np ns nd : Nat} (h : tR X Y t np ns nd) {s : Int32} (hs : yHasP Y s) : ixn s < np ∧ s = nI (ixn s) := by
  obtain ⟨j, hj, rfl⟩ := nIn h.2.1.1 (Nat.lt_of_le_of_lt h.2.1.2.1 (by decide)) hs
  have : j < 2 ^ 31 := by have := h.2.1.2.1; omega
  rw [ixn_nI this]
  exact ⟨hj, rfl⟩
theorem tR.ofP {X Y : Nat → Nat → Int32} {t np ns nd p : Nat} (h : tR X Y t np ns nd) (hp : p < np) : yHasP Y (nI p) := by
  have h5 := h.2.1.2.1
  refine ⟨(cLe n0 rfl (by decide) (by omega)).mpr (Nat.zero_le _), ?_⟩
  rw [h.2.1.1]
  exact (cLt rfl rfl (by omega) (by omega)).mpr hp
theorem tR.ofS {X Y : Nat → Nat → Int32} {t np ns nd p : Nat} (h : tR X Y t np ns nd) (hp : p < ns) : yHasS Y (nI p) := by
  have h5 := h.2.1.2.2.2.1
  refine ⟨(cLe n0 rfl (by decide) (by omega)).mpr (Nat.zero_le _), ?_⟩
  rw [h.2.1.2.2.1]
  exact (cLt rfl rfl (by omega) (by omega)).mpr hp
/-- what the class says of an owner's steps and foot -/
theorem own_y {X Y : Nat → Nat → Int32} {t np ns nd : Nat} (h : tR X Y t np ns nd) {q : Int32} (ho : q < 0 ∨ ∃ p, p < np ∧ q = nI p) : (xSteps X t q).toInt64 = (if q < 0 then 0 else (Y 139 (ixn q)).toInt64) ∧ (xFoot X t q).toInt64 = (if q < 0 then 0 else (Y 138 (ixn q)).toInt64) := by
  unfold xSteps xFoot
  rcases ho with z | ⟨p, hp, rfl⟩
  · have hx : ¬ xHasP X t q := fun k => absurd z (Int32.not_lt.mpr k.1)
    rw [if_neg hx, if_neg hx, if_pos z, if_pos z]
    exact ⟨rfl, rfl⟩
  · have hP := h.ofP hp
    have hn : ¬ nI p < 0 := Int32.not_lt.mpr hP.1
    have e : ixn (nI p) = p := ixn_nI (by have := h.2.1.2.1; omega)
    rw [if_pos ((h.hasP _).mpr hP), if_pos ((h.hasP _).mpr hP), if_neg hn, if_neg hn, e, (h.2.2.1 p hp).2.1, (h.2.2.1 p hp).2.2.1]
    exact ⟨rfl, rfl⟩
theorem B_bL (c : Prop) [Decidable c] : (B c).toInt64 = bL c := by
  unfold B bL
  split <;> rfl
theorem own_of {Y : Nat → Nat → Int32} {b np ns j : Nat} (hi : mI Y b np ns) (hj : j < ns) : Y 163 (16 * b + j) < 0 ∨ ∃ p, p < np ∧ Y 163 (16 * b + j) = nI p := by
  rcases (hi.1 j hj).1 with z | z | z
  · rw [z]; exact Or.inl (by decide)
  · rw [z]; exact Or.inl (by decide)
  · exact Or.inr z
/-- a law over one shoe -/
theorem lawS_y {X Y : Nat → Nat → Int32} {t w b np ns nd j r : Nat} (hT : tR X Y t np ns nd) (hW : wR X Y w b np ns nd) (hwf : wfL Y) (hi : mI Y b np ns) (hj : j < ns) (hr : r < 3) (u d : Int32) :
    xLawS X t w r j u d = yLawV Y (lr r) (yNmS Y j u (Y 163 (16 * b + j)) d) ∧ ∀ m z, m = 999 ∨ m = 50 → xFirst (xLawS X t w r j u d) m z = yBd Y (lr r) (yNmS Y j u (Y 163 (16 * b + j)) d) z m := by
  obtain ⟨o1, o2⟩ := own_y hT (own_of hi hj)
  unfold xLawS yNmS
  rw [(hW.1 j hj).2.2, (hW.1 j hj).1, o1, o2, (hT.2.2.2.1 j hj).2.1, (hT.2.2.2.1 j hj).2.2.1, B_bL]
  exact xLaw_y hT.2.2.2.2.2 hwf hr (fun q hq => ⟨nm_pm q hq, nm_bd (bd_i32 _) (bd_i32 _) (bd_bL _) (bd_i32 _) (bd_if (by decide) (bd_i32 _)) (bd_i32 _) (bd_if (by decide) (bd_i32 _)) q hq⟩)
theorem one_mul32 (x : Int32) : 1 * x = x := by
  apply Int32.toBitVec_inj.mp
  simp
theorem worth_y {X Y : Nat → Nat → Int32} {t w b np ns nd j : Nat} (hT : tR X Y t np ns nd) (hW : wR X Y w b np ns nd) (hwf : wfL Y) (hi : mI Y b np ns) (hj : j < ns) (u d : Int32) (hg : ¬ Y 163 (16 * b + j) = -2) : xWorth X t w j u d = yWorthB Y j u (Y 163 (16 * b + j)) d := by
  unfold xWorth yWorthB
  rw [if_neg hg, (lawS_y hT hW hwf hi hj (by decide) u d).2 _ _ (Or.inl rfl), (hW.1 j hj).1, (hT.2.2.2.1 j hj).2.1]
  have e : iMax 0 ((if ySide Y j = 0 then 2 * Y 143 j else Y 143 j) - u / 5) = if yWo0 Y j u < 0 then 0 else yWo0 Y j u := by
    have e1 : (if ySide Y j = 0 then 2 * Y 143 j else Y 143 j) - u / 5 = yWo0 Y j u := by
      unfold yWo0
      split
      · rfl
      · rw [one_mul32]
    rw [e1]
    unfold iMax
    by_cases z : yWo0 Y j u < 0
    · rw [if_pos z, if_neg (fun q => Int32.lt_irrefl (Int32.lt_trans z q))]
    · rw [if_neg z]
      by_cases z2 : 0 < yWo0 Y j u
      · rw [if_pos z2]
      · rw [if_neg z2]
        exact Int32.le_antisymm (Int32.not_lt.mp z) (Int32.not_lt.mp z2)
  rw [e]
  rfl
theorem worthNow_y {X Y : Nat → Nat → Int32} {t w b np ns nd j : Nat} (hT : tR X Y t np ns nd) (hW : wR X Y w b np ns nd) (hwf : wfL Y) (hi : mI Y b np ns) (hj : j < ns) : xWorthNow X t w j = yWorth Y b j := by
  unfold xWorthNow yWorth
  rw [(hW.1 j hj).2.2, (hW.1 j hj).2.1, hW.2.2.2.1]
  by_cases z : Y 163 (16 * b + j) = -2
  · rw [if_pos z]
    unfold yWorthB
    rw [if_pos z]
  · rw [if_neg z, worth_y hT hW hwf hi hj _ _ z]
theorem wear_y {X Y : Nat → Nat → Int32} {t w b np ns nd j p : Nat} (hT : tR X Y t np ns nd) (hW : wR X Y w b np ns nd) (hwf : wfL Y) (hi : mI Y b np ns) (hj : j < ns) (hp : p < np) (hop : Y 163 (16 * b + j) = nI p) (u d : Int32) : xWear X t w j u d = yWearB Y j u p d := by
  have hP := hT.ofP hp
  have e : ixn (nI p) = p := ixn_nI (by have := hT.2.1.2.1; omega)
  unfold xWear yWearB
  rw [(lawS_y hT hW hwf hi hj (by decide) u d).2 _ _ (Or.inr rfl), (hW.1 j hj).2.2, hop, if_pos ((hT.hasP _).mpr hP), e, (hT.2.2.1 p hp).2.2.1]
  rfl
theorem iAbs_y (x : Int32) : iAbs x = if 0 ≤ x then x else -x := by
  unfold iAbs
  split
  · rfl
  · apply Int32.toBitVec_inj.mp
    simp
theorem lawP_y {X Y : Nat → Nat → Int32} {t w np ns nd i j : Nat} (hT : tR X Y t np ns nd) (hW : wR X Y w 0 np ns nd) (hwf : wfL Y) (hi : i < ns) (hj : j < ns) :
    xLawP X t w i j = yLawV Y 1 (yNmP Y i j) ∧ ∀ m z, m = 999 ∨ m = 50 → xFirst (xLawP X t w i j) m z = yBd Y 1 (yNmP Y i j) z m := by
  have e1 := (hW.1 i hi).2.1
  have e2 := (hW.1 j hj).2.1
  rw [Nat.mul_zero, Nat.zero_add] at e1 e2
  unfold xLawP yNmP
  rw [e1, e2, (hT.2.2.2.1 i hi).2.1, (hT.2.2.2.1 i hi).2.2.1, (hT.2.2.2.1 j hj).2.1, hW.2.2.2.1, iAbs_y]
  exact xLaw_y (r := 2) hT.2.2.2.2.2 hwf (by decide) (fun q hq => ⟨nm_pm q hq, nm_bd (bd_i32 _) (bd_i32 _) (bd_i32 _) (bd_i32 _) (by decide) (bd_i32 _) (by decide) q hq⟩)
theorem pair_y {X Y : Nat → Nat → Int32} {t w np ns nd i j : Nat} (hT : tR X Y t np ns nd) (hW : wR X Y w 0 np ns nd) (hwf : wfL Y) (hi : i < ns) (hj : j < ns) : xPair X t w i j = yPairB Y i j := by
  unfold xPair yPairB
  rw [(lawP_y hT hW hwf hi hj).2 _ _ (Or.inl rfl), (hT.2.2.2.1 i hi).2.1, (hT.2.2.2.1 i hi).2.2.1, (hT.2.2.2.1 j hj).2.1, (hT.2.2.2.1 j hj).2.2.1]
