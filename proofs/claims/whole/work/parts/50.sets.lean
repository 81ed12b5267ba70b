/-! ===== the fewest shoes: the table of the class tells the best of all sets ===== -/
def sumB (wt : Nat → Nat) (S : Nat) : Nat → Nat
  | 0 => 0
  | k + 1 => sumB wt S k + (if S.testBit k then wt k else 0)
def cntB (S : Nat) : Nat → Nat
  | 0 => 0
  | k + 1 => cntB S k + (if S.testBit k then 1 else 0)
def okB (wt : Nat → Nat) (S n : Nat) : Prop := ∀ i, i < n → S.testBit i = true → ¬ wt i = 0
theorem sumB_cg {wt : Nat → Nat} {S T : Nat} : ∀ {n : Nat}, (∀ i, i < n → S.testBit i = T.testBit i) → sumB wt S n = sumB wt T n
  | 0, _ => rfl
  | n + 1, h => by
    unfold sumB
    rw [sumB_cg (fun i hi => h i (by omega)), h n (by omega)]
theorem cntB_cg {S T : Nat} : ∀ {n : Nat}, (∀ i, i < n → S.testBit i = T.testBit i) → cntB S n = cntB T n
  | 0, _ => rfl
  | n + 1, h => by
    unfold cntB
    rw [cntB_cg (fun i hi => h i (by omega)), h n (by omega)]
theorem cntB_le (S : Nat) : ∀ n, cntB S n ≤ n
  | 0 => Nat.le_refl _
  | n + 1 => by
    have := cntB_le S n
    unfold cntB
    split <;> omega
theorem tb_hi {S k : Nat} (h : S < 2 ^ k) {i : Nat} (hi : k ≤ i) : S.testBit i = false := Nat.testBit_lt_two_pow (Nat.lt_of_lt_of_le h (Nat.pow_le_pow_right (by decide) hi))
theorem tb_add {S k : Nat} (h : S < 2 ^ k) (i : Nat) : (S + 2 ^ k).testBit i = (S.testBit i || decide (i = k)) := by
  rw [Nat.add_comm, ← Nat.mul_one (2 ^ k), Nat.two_pow_add_eq_or_of_lt h, Nat.mul_one, Nat.or_comm, fb_bit_set]
/-- the cost of a set, and whether it makes s -/
def feaB (wt : Nat → Nat) (k s S : Nat) : Prop := S < 2 ^ k ∧ okB wt S k ∧ sumB wt S k = s
theorem feaB_up {wt : Nat → Nat} {k s S : Nat} (h : feaB wt k s S) : feaB wt (k + 1) s S ∧ cntB S (k + 1) = cntB S k := by
  have hb := tb_hi h.1 (Nat.le_refl k)
  refine ⟨⟨by have := h.1; rw [Nat.pow_succ]; omega, fun i hi hs => ?_, ?_⟩, ?_⟩
  · by_cases q : i = k
    · subst q; rw [hb] at hs; cases hs
    · exact h.2.1 i (by omega) hs
  · unfold sumB; rw [hb, h.2.2]; simp
  · show cntB S k + _ = _; rw [hb]; simp
theorem feaB_add {wt : Nat → Nat} {k s S : Nat} (h : feaB wt k s S) (hk : ¬ wt k = 0) : feaB wt (k + 1) (s + wt k) (S + 2 ^ k) ∧ cntB (S + 2 ^ k) (k + 1) = cntB S k + 1 := by
  have hlo : ∀ i, i < k → (S + 2 ^ k).testBit i = S.testBit i := fun i hi => by rw [tb_add h.1, decide_eq_false (show ¬ i = k by omega), Bool.or_false]
  have hk1 : (S + 2 ^ k).testBit k = true := by rw [tb_add h.1, decide_eq_true rfl, Bool.or_true]
  refine ⟨⟨by have := h.1; rw [Nat.pow_succ]; omega, fun i hi hs => ?_, ?_⟩, ?_⟩
  · by_cases q : i = k
    · subst q; exact hk
    · rw [hlo i (by omega)] at hs; exact h.2.1 i (by omega) hs
  · show sumB wt (S + 2 ^ k) k + _ = _; rw [hk1, sumB_cg hlo, h.2.2]; simp
  · show cntB (S + 2 ^ k) k + _ = _; rw [hk1, cntB_cg hlo]; simp
/-- a set of k + 1 is one of k, with or without the last -/
theorem feaB_cut {wt : Nat → Nat} {k s S : Nat} (h : feaB wt (k + 1) s S) : (feaB wt k s S ∧ cntB S (k + 1) = cntB S k) ∨ (¬ wt k = 0 ∧ wt k ≤ s ∧ ∃ T, S = T + 2 ^ k ∧ feaB wt k (s - wt k) T ∧ cntB S (k + 1) = cntB T k + 1) := by
  by_cases hb : S.testBit k = true
  · right
    have hk := h.2.1 k (by omega) hb
    have h2 : 2 ^ k ≤ S := Nat.ge_two_pow_of_testBit hb
    have hT : S - 2 ^ k < 2 ^ k := by have := h.1; rw [Nat.pow_succ] at this; omega
    have hS : S = (S - 2 ^ k) + 2 ^ k := by omega
    have hlo : ∀ i, i < k → S.testBit i = (S - 2 ^ k).testBit i := fun i hi => by
      conv => lhs; rw [hS]
      rw [tb_add hT, decide_eq_false (show ¬ i = k by omega), Bool.or_false]
    have hsum : sumB wt S (k + 1) = sumB wt (S - 2 ^ k) k + wt k := by show sumB wt S k + _ = _; rw [hb, sumB_cg hlo]; simp
    have hcnt : cntB S (k + 1) = cntB (S - 2 ^ k) k + 1 := by show cntB S k + _ = _; rw [hb, cntB_cg hlo]; simp
    rw [h.2.2] at hsum
    refine ⟨hk, by omega, S - 2 ^ k, hS, ⟨hT, fun i hi hs => h.2.1 i (by omega) (by rw [hlo i hi]; exact hs), by omega⟩, hcnt⟩
  · left
    have hb' : S.testBit k = false := by cases hq : S.testBit k; rfl; exact absurd hq hb
    have hT : S < 2 ^ k := by
      rcases Nat.lt_or_ge S (2 ^ k) with q | q
      · exact q
      · exfalso
        have h3 : S - 2 ^ k < 2 ^ k := by have := h.1; rw [Nat.pow_succ] at this; omega
        have := tb_add h3 k
        rw [show S - 2 ^ k + 2 ^ k = S by omega, decide_eq_true rfl, Bool.or_true] at this
        exact hb this
    have hsum : sumB wt S (k + 1) = sumB wt S k := by show sumB wt S k + _ = _; rw [hb']; simp
    have hcnt : cntB S (k + 1) = cntB S k := by show cntB S k + _ = _; rw [hb']; simp
    exact ⟨⟨hT, fun i hi hs => h.2.1 i (by omega) hs, by rw [← hsum]; exact h.2.2⟩, hcnt⟩
theorem feaB_in {wt : Nat → Nat} : ∀ {k s S : Nat}, feaB wt k s S → cntB S k = 0 → S = 0 ∧ s = 0
  | 0, s, S, h, _ => ⟨by have := h.1; omega, h.2.2.symm⟩
  | k + 1, s, S, h, hc => by
    rcases feaB_cut h with ⟨h1, h2⟩ | ⟨_, _, T, _, _, h2⟩
    · exact feaB_in h1 (by omega)
    · omega
theorem dpR_fea {wt : Nat → Nat} {q : Nat} : ∀ {k s : Nat}, k ≤ 16 → ¬ dpR wt q k s = INF → ∃ S, feaB wt k s S ∧ dpR wt q k s = cntB S k * 65536 + S
  | 0, s, _, h => by
    unfold dpR at h ⊢
    by_cases h0 : s = 0
    · rw [if_pos h0]; exact ⟨0, ⟨by decide, fun i hi => absurd hi (Nat.not_lt_zero _), h0.symm⟩, rfl⟩
    · rw [if_neg h0] at h; exact absurd rfl h
  | k + 1, s, hk, h => by
    unfold dpR at h ⊢
    by_cases h1 : wt k = 0 ∨ q < wt k
    · rw [if_pos h1] at h ⊢
      obtain ⟨S, hS, hd⟩ := dpR_fea (by omega) h
      exact ⟨S, (feaB_up hS).1, by rw [(feaB_up hS).2]; exact hd⟩
    · rw [if_neg h1] at h ⊢
      by_cases h2 : wt k ≤ s ∧ dpR wt q k (s - wt k) ≠ INF ∧ dpR wt q k (s - wt k) + 65536 + 2 ^ k < dpR wt q k s
      · rw [if_pos h2]
        obtain ⟨S, hS, hd⟩ := dpR_fea (by omega) h2.2.1
        have h3 := feaB_add hS (fun w => h1 (Or.inl w))
        rw [show s - wt k + wt k = s by omega] at h3
        exact ⟨S + 2 ^ k, h3.1, by rw [h3.2, hd]; omega⟩
      · rw [if_neg h2] at h ⊢
        obtain ⟨S, hS, hd⟩ := dpR_fea (by omega) h
        exact ⟨S, (feaB_up hS).1, by rw [(feaB_up hS).2]; exact hd⟩
theorem dpR_min {wt : Nat → Nat} {q : Nat} : ∀ {k s S : Nat}, k ≤ 16 → s ≤ q → feaB wt k s S → dpR wt q k s ≤ cntB S k * 65536 + S
  | 0, s, S, _, _, h => by
    have h0 : s = 0 := h.2.2.symm
    unfold dpR
    rw [if_pos h0]
    exact Nat.zero_le _
  | k + 1, s, S, hk, hq, h => by
    unfold dpR
    have h16 : 2 ^ k ≤ 2 ^ 16 := Nat.pow_le_pow_right (by decide) (by omega)
    rcases feaB_cut h with ⟨h1, h2⟩ | ⟨hw, hle, T, rfl, h1, h2⟩
    · have ih := dpR_min (by omega) hq h1
      rw [h2]
      split
      · exact ih
      · split
        · omega
        · exact ih
    · have ih := dpR_min (by omega) (show s - wt k ≤ q by omega) h1
      have hc := cntB_le T k
      have hT := h1.1
      have hne : dpR wt q k (s - wt k) ≠ INF := by unfold INF; omega
      rw [if_neg (show ¬ (wt k = 0 ∨ q < wt k) by omega), h2]
      by_cases h3 : wt k ≤ s ∧ dpR wt q k (s - wt k) ≠ INF ∧ dpR wt q k (s - wt k) + 65536 + 2 ^ k < dpR wt q k s
      · rw [if_pos h3]; omega
      · rw [if_neg h3]
        have : ¬ dpR wt q k (s - wt k) + 65536 + 2 ^ k < dpR wt q k s := fun w => h3 ⟨hle, hne, w⟩
        omega
/-- the best set: the fewest, then the least -/
def selB (wt : Nat → Nat) (q : Nat) : Int32 := if dpR wt q 16 q = INF then -1 else nI (dpR wt q 16 q % 65536)
theorem selB_no {wt : Nat → Nat} {q : Nat} (h : ∀ S, ¬ feaB wt 16 q S) : selB wt q = -1 := by
  unfold selB
  by_cases hd : dpR wt q 16 q = INF
  · rw [if_pos hd]
  · obtain ⟨S, hS, _⟩ := dpR_fea (Nat.le_refl 16) hd
    exact absurd hS (h S)
theorem selB_is {wt : Nat → Nat} {q S : Nat} (h : feaB wt 16 q S) (hm : ∀ T, feaB wt 16 q T → cntB S 16 < cntB T 16 ∨ (cntB S 16 = cntB T 16 ∧ S ≤ T)) : selB wt q = nI S := by
  have h1 := dpR_min (Nat.le_refl 16) (Nat.le_refl q) h
  have hc := cntB_le S 16
  have hS := h.1
  have hd : ¬ dpR wt q 16 q = INF := by unfold INF; omega
  unfold selB
  rw [if_neg hd]
  obtain ⟨T, hT, hTd⟩ := dpR_fea (Nat.le_refl 16) hd
  have hTl := hT.1
  rcases hm T hT with w | ⟨w1, w2⟩
  · omega
  · have : S = T := by omega
    subst this
    rw [hTd]
    congr 1
    omega
