/-! ===== class and reference: the whole relation ===== -/
def imR (X Y : Nat → Nat → Int32) (np ns nd : Nat) : Prop := (X 1 10 = 0 ∧ Y 134 88 = 0) ∨ (X 1 10 = 1 ∧ Y 134 88 = 1 ∧ (∀ s, s < ns → X 69 s = Y 142 s ∧ X 70 s = Y 183 s) ∧ snR (X 71) (X 72) (Y 182) np ns ∧ (∀ d, d < nd → X 73 d = Y 184 d) ∧ X 68 1 = Y 134 92 ∧ X 68 2 = 1 ∧ X 68 3 = 1 ∧ enOK (Y 183) (Y 182) np ns ∧ (∀ d, d < nd → ¬ Y 150 d < Y 134 92 → Y 184 d = 0) ∧ ∃ dd, dd ≤ 999 ∧ Y 134 92 = nI dd)
def tkR (X Y : Nat → Nat → Int32) : Prop := ∃ tk, tk ≤ 24 ∧ X 123 0 = nI tk ∧ Y 134 80 = nI tk ∧ tkM Y tk ∧ X 123 1 = Y 134 81 ∧ (-1 ≤ Y 134 81 ∧ Y 134 81 ≤ nI tk) ∧ ∀ k, k < tk → (Y 178 (2 * k) = -1 → X 124 k = 2) ∧ (¬ Y 178 (2 * k) = -1 → X 124 k = Y 178 (2 * k)) ∧ X 125 k = Y 178 (2 * k + 1)
def clR (X Y : Nat → Nat → Int32) (t np : Nat) : Prop := ∃ c, clM Y np c ∧ ∀ p, p < np → X (t + 5) p = nI (c p)
def rtR (X Y : Nat → Nat → Int32) (t : Nat) : Prop := ∃ nr, nr ≤ 8 ∧ X (t + 15) 0 = nI nr ∧ Y 134 15 = nI nr ∧
  (∀ k, k < nr → ∃ a b u v, a < 6 ∧ b < 6 ∧ a ≠ b ∧ 1 ≤ u ∧ u ≤ 99 ∧ 1 ≤ v ∧ v ≤ 99 ∧ Y 151 (4 * k) = nI a ∧ Y 151 (4 * k + 1) = nI u ∧ Y 151 (4 * k + 2) = nI b ∧ Y 151 (4 * k + 3) = nI v ∧ X (t + 16) (6 * a + b) = nI u ∧ X (t + 17) (6 * a + b) = nI v) ∧
  (∀ a b, a < 6 → b < 6 → (∀ k, k < nr → ¬ (Y 151 (4 * k) = nI a ∧ Y 151 (4 * k + 2) = nI b)) → X (t + 17) (6 * a + b) = 0) ∧
  ∀ k k', k < nr → k' < nr → Y 151 (4 * k) = Y 151 (4 * k') → Y 151 (4 * k + 2) = Y 151 (4 * k' + 2) → k = k'
/-- a byte as the class holds it -/
def sgB (x : Nat) : Int32 := if x < 128 then nI x else nI x - 256
def tpR (X Y : Nat → Nat → Int32) : Prop := ∃ tp, tp ≤ 700 ∧ X 1 1 = nI tp ∧ Y 134 1 = nI tp ∧ ∀ k, k < 700 → ∃ x, x ≤ 255 ∧ Y 135 k = nI x ∧ (k < tp → X 2 k = sgB x)
/-- what calls on shoes leave alone -/
def oR (X Y : Nat → Nat → Int32) (t np ns nd : Nat) : Prop := imR X Y np ns nd ∧ tkR X Y ∧ clR X Y t np ∧ rtR X Y t ∧ tpR X Y ∧ X 1 5 = Y 134 4 ∧ X 1 6 = Y 134 5 ∧ X (t + 19) 0 = Y 134 16
def o134 : List Nat := [1, 4, 5, 15, 16, 80, 81, 88, 92]
theorem oR_cg {X Y X' Y' : Nat → Nat → Int32} {t np ns nd : Nat} (h : oR X Y t np ns nd) (ht : t = 3 ∨ t = 30) (hX : ∀ a, (a < 57 ∧ a ≠ 21 ∧ a ≠ 48) ∨ (68 ≤ a ∧ a < 74) ∨ (122 < a ∧ a < 126) → X' a = X a) (hY : ∀ a, (134 < a ∧ a < 158) ∨ a = 178 ∨ (181 < a ∧ a < 185) → Y' a = Y a) (h4 : ∀ k, k ∈ o134 → Y' 134 k = Y 134 k) : oR X' Y' t np ns nd := by
  obtain ⟨h1, h2, h3, h5, h6, h7, h8, h9⟩ := h
  have m : ∀ k, k ∈ o134 ↔ k = 1 ∨ k = 4 ∨ k = 5 ∨ k = 15 ∨ k = 16 ∨ k = 80 ∨ k = 81 ∨ k = 88 ∨ k = 92 := by
    intro k
    simp [o134]
  have q : ∀ k, (k = 1 ∨ k = 4 ∨ k = 5 ∨ k = 15 ∨ k = 16 ∨ k = 80 ∨ k = 81 ∨ k = 88 ∨ k = 92) → Y' 134 k = Y 134 k := fun k hk => h4 k ((m k).mpr hk)
  refine ⟨?_, ?_, ?_, ?_, ?_, ?_, ?_, ?_⟩
  · unfold imR at *
    rw [hX 1 (by omega), hX 69 (by omega), hX 70 (by omega), hX 71 (by omega), hX 72 (by omega), hX 73 (by omega), hX 68 (by omega), q 88 (by decide), q 92 (by decide), hY 142 (by omega), hY 182 (by omega), hY 183 (by omega), hY 184 (by omega), hY 150 (by omega)]
    exact h1
  · unfold tkR tkM at *
    rw [hX 123 (by omega), hX 124 (by omega), hX 125 (by omega), q 80 (by decide), q 81 (by decide), hY 178 (by omega)]
    exact h2
  · unfold clR clM at *
    rw [hX (t + 5) (by omega), hY 141 (by omega)]
    exact h3
  · unfold rtR at *
    rw [hX (t + 15) (by omega), hX (t + 16) (by omega), hX (t + 17) (by omega), q 15 (by decide), hY 151 (by omega)]
    exact h5
  · unfold tpR at *
    rw [hX 1 (by omega), hX 2 (by omega), q 1 (by decide), hY 135 (by omega)]
    exact h6
  · rw [hX 1 (by omega), q 4 (by decide)]; exact h7
  · rw [hX 1 (by omega), q 5 (by decide)]; exact h8
  · rw [hX (t + 19) (by omega), q 16 (by decide)]; exact h9
/-- class (X) and reference (Y) between two calls -/
def gR (X Y : Nat → Nat → Int32) (t np ns nd nx sz : Nat) : Prop :=
  hR X Y t 62 np ns nd ∧ (X 62 2 = 1 ∧ X 62 3 = 1) ∧ (Y 134 62 = 0 ∧ Y 134 63 = 0) ∧ dvM Y 0 nd ∧ (∃ dd, dd ≤ 999 ∧ Y 167 0 = nI dd) ∧ hsN X Y np ns nx sz ∧ oR X Y t np ns nd ∧ (t = 3 ∨ t = 30)
/-- what a call may change besides what it speaks of -/
def xQ (X' X : Nat → Nat → Int32) : Prop := ∀ a, a < 134 → (a < 74 ∨ 79 < a) → scrA.contains a = false → X' a = X a
def yQ (Y' Y : Nat → Nat → Int32) : Prop := (∀ a, 134 < a → scrA.contains a = false → Y' a = Y a) ∧ ∀ k, scrF.contains k = false → Y' 134 k = Y 134 k
theorem sc_iff (a : Nat) : scrA.contains a = false ↔ (a ≠ 21 ∧ a ≠ 48 ∧ a ≠ 61 ∧ ¬ (126 ≤ a ∧ a ≤ 129) ∧ a ≠ 132 ∧ a ≠ 133 ∧ ¬ (168 ≤ a ∧ a ≤ 177) ∧ a ≠ 179 ∧ a ≠ 180) := by
  have e : scrA.contains a = true ↔ (a = 21 ∨ a = 48 ∨ a = 61 ∨ (126 ≤ a ∧ a ≤ 129) ∨ a = 132 ∨ a = 133 ∨ (168 ≤ a ∧ a ≤ 177) ∨ a = 179 ∨ a = 180) := by
    rw [List.contains_iff_mem]
    simp only [scrA, List.mem_cons, List.not_mem_nil, or_false]
    omega
  rw [← Bool.not_eq_true, e]
  omega
theorem sf_iff (k : Nat) : scrF.contains k = false ↔ (k ≠ 2 ∧ k ≠ 54 ∧ k ≠ 70 ∧ k ≠ 71 ∧ k ≠ 77 ∧ k ≠ 78 ∧ k ≠ 79 ∧ k ≠ 85) := by
  have e : scrF.contains k = true ↔ (k = 2 ∨ k = 54 ∨ k = 70 ∨ k = 71 ∨ k = 77 ∨ k = 78 ∨ k = 79 ∨ k = 85) := by
    rw [List.contains_iff_mem]
    simp only [scrF, List.mem_cons, List.not_mem_nil, or_false]
  rw [← Bool.not_eq_true, e]
  omega
theorem rep.xQ {I J : Nat → Nat → Int32} (h : rep I J) : xQ I J := fun a h1 _ h3 => funext fun k => h a k (scr_no h3 (by omega) k)
theorem rep.yQ {I J : Nat → Nat → Int32} (h : rep I J) : yQ I J := by
  refine ⟨fun a h1 h3 => funext fun k => h a k (scr_no h3 (by omega) k), fun k hk => h 134 k ?_⟩
  show (scrA.contains 134 || (134 == 134 && scrF.contains k)) = false
  rw [hk]
  rfl
theorem gR_cg {X Y X' Y' : Nat → Nat → Int32} {t np ns nd nx sz : Nat} (h : gR X Y t np ns nd nx sz) (hX : xQ X' X) (hY : yQ Y' Y) : gR X' Y' t np ns nd nx sz := by
  obtain ⟨h1, h2, h3, h4, h5, h6, h7, ht⟩ := h
  have x : ∀ a, (a < 74 ∨ (79 < a ∧ a < 134)) → (a ≠ 21 ∧ a ≠ 48 ∧ a ≠ 61 ∧ ¬ (126 ≤ a ∧ a ≤ 129) ∧ a ≠ 132 ∧ a ≠ 133) → X' a = X a := fun a q1 q2 => hX a (by omega) (by omega) ((sc_iff a).mpr (by omega))
  have y : ∀ a, 134 < a → (a ≠ 179 ∧ a ≠ 180 ∧ ¬ (168 ≤ a ∧ a ≤ 177)) → Y' a = Y a := fun a q1 q2 => hY.1 a q1 ((sc_iff a).mpr (by omega))
  have z : ∀ k, (k ≠ 2 ∧ k ≠ 54 ∧ k ≠ 70 ∧ k ≠ 71 ∧ k ≠ 77 ∧ k ≠ 78 ∧ k ≠ 79 ∧ k ≠ 85) → Y' 134 k = Y 134 k := fun k hk => hY.2 k ((sf_iff k).mpr hk)
  have hns := h1.lns
  have hnp := h1.lnp
  refine ⟨⟨sT_cg h1.1 (fun a q1 q2 q3 => x a (by omega) (by omega)) ⟨fun a q1 q2 => y a (by omega) (by omega), z 12 (by omega), z 13 (by omega), z 14 (by omega)⟩, wR_cg h1.2.1 (fun a q1 q2 => x a (by omega) (by omega)) (fun a q1 q2 => y a (by omega) (by omega)) (y 142 (by omega) (by omega)) (z 62 (by omega)) (z 63 (by omega)) (z 64 (by omega)), mI_cgY h1.2.2.1 (fun a q1 q2 => y a (by omega) (by omega)), by rw [z 64 (by omega)]; exact h1.2.2.2.1, uM_cgY h1.2.2.2.2 (fun a q1 q2 => y a (by omega) (by omega))⟩, by rw [x 62 (by omega) (by omega)]; exact h2, by rw [z 62 (by omega), z 63 (by omega)]; exact h3, ?_, by rw [y 167 (by omega) (by omega)]; exact h5, hsN_cg h6 (fun a q1 q2 => x a (by omega) (by omega)) (fun s _ => by rw [y 162 (by omega) (by omega)]) (y 181 (by omega) (by omega)) (z 86 (by omega)) hns hnp, oR_cg h7 ht (fun a q => x a (by omega) (by omega)) (fun a q => y a (by omega) (by omega)) (fun k hk => z k ?_), ht⟩
  · unfold dvM at *
    rw [y 150 (by omega) (by omega), y 167 (by omega) (by omega), y 166 (by omega) (by omega)]
    exact h4
  · simp only [o134, List.mem_cons, List.not_mem_nil, or_false] at hk
    omega
