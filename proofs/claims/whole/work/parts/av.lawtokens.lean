/-! ===== tokens of laws ===== -/
/-- the sign that joins, by the class's number of a token -/
def opK (K : Nat) : Nat := if K = 16 then 4 else if K = 17 then 3 else if 30 ≤ K ∧ K ≤ 35 then K - 25 else if 36 ≤ K ∧ K ≤ 39 then K - 25 else 0
def nmK (K : Nat) : Int32 := if K = 7 then 2 else if 21 ≤ K ∧ K ≤ 24 then nI (K - 18) else if K = 19 ∨ K = 20 then nI (K - 19) else -1
def opB (kd wh : Int32) : Nat := if kd = 1 ∧ wh = 16 then 3 else if kd = 1 ∧ wh = 17 then 4 else if kd = 5 then 5 + ixn wh else if kd = 4 ∧ wh = 43 then 11 else if kd = 4 ∧ wh = 45 then 12 else if kd = 4 ∧ wh = 42 then 13 else if kd = 4 ∧ wh = 47 then 14 else 0
def nmB (kd wh : Int32) : Int32 := if ¬ kd = 1 then -1 else if wh = 7 then 2 else if 21 ≤ wh then 3 + wh - 21 else if 19 ≤ wh then wh - 19 else -1
/-- what a token is, for laws -/
abbrev lwK (K : Nat) (kd wh : Int32) : Prop := opB kd wh = opK K ∧ ((kd = 4 ∧ wh = 40) ↔ K = 28) ∧ ((kd = 4 ∧ wh = 41) ↔ K = 29) ∧ ((kd = 4 ∧ wh = 59) ↔ K = 27) ∧ ((kd = 1 ∧ wh = 18) ↔ K = 18) ∧ (kd = 3 ↔ K = 26) ∧ nmB kd wh = nmK K
theorem lwK_w : ∀ K, K < 25 → lwK K 1 (nI (wmN K)) := by decide +kernel
theorem lwK_c : ∀ K, 30 ≤ K → K ≤ 35 → lwK K 5 (nI (K - 30)) := by
  intro K h1 h2
  have hc : K = 30 ∨ K = 31 ∨ K = 32 ∨ K = 33 ∨ K = 34 ∨ K = 35 := by omega
  rcases hc with rfl | rfl | rfl | rfl | rfl | rfl <;> decide +kernel
theorem lwK_o {K : Nat} {kd : Int32} (wh : Int32) (h1 : ¬ kd = 1) (h4 : ¬ kd = 4) (h5 : ¬ kd = 5) (h3 : kd = 3 ↔ K = 26) (hK : K = 25 ∨ K = 26 ∨ K = 40 ∨ K = 41) : lwK K kd wh := by
  have e1 : opB kd wh = 0 := by
    unfold opB
    rw [if_neg (fun q => h1 q.1), if_neg (fun q => h1 q.1), if_neg h5, if_neg (fun q => h4 q.1), if_neg (fun q => h4 q.1), if_neg (fun q => h4 q.1), if_neg (fun q => h4 q.1)]
  have e2 : nmB kd wh = -1 := by
    unfold nmB
    rw [if_pos h1]
  have k1 : opK K = 0 ∧ nmK K = -1 := by rcases hK with rfl | rfl | rfl | rfl <;> decide
  exact ⟨e1.trans k1.1.symm, ⟨fun q => absurd q.1 h4, fun q => by omega⟩, ⟨fun q => absurd q.1 h4, fun q => by omega⟩, ⟨fun q => absurd q.1 h4, fun q => by omega⟩, ⟨fun q => absurd q.1 h1, fun q => by omega⟩, h3, e2.trans k1.2.symm⟩
theorem lwK_T {kx vx kd wh : Int32} (h : tkT kx vx kd wh) : ∃ K, K ≤ 41 ∧ kx = nI K ∧ lwK K kd wh := by
  obtain ⟨K, hK, e, hF⟩ := tkT_F h
  refine ⟨K, hK, e, ?_⟩
  by_cases c0 : K < 25
  · unfold tkF at hF
    rw [if_pos c0] at hF
    rw [hF.1, hF.2]
    exact lwK_w K c0
  have hc : K = 25 ∨ K = 26 ∨ K = 27 ∨ K = 28 ∨ K = 29 ∨ (30 ≤ K ∧ K ≤ 35) ∨ K = 36 ∨ K = 37 ∨ K = 38 ∨ K = 39 ∨ K = 40 ∨ K = 41 := by omega
  rcases hc with rfl | rfl | rfl | rfl | rfl | ⟨q1, q2⟩ | rfl | rfl | rfl | rfl | rfl | rfl
  · obtain ⟨q, -⟩ : kd = 2 ∧ _ := by simpa [tkF] using hF
    rw [q]; exact lwK_o _ (by decide) (by decide) (by decide) ⟨fun w => absurd w (by decide), fun w => by omega⟩ (Or.inl rfl)
  · obtain ⟨q, -⟩ : kd = 3 ∧ _ := by simpa [tkF] using hF
    rw [q]; exact lwK_o _ (by decide) (by decide) (by decide) ⟨fun _ => rfl, fun _ => rfl⟩ (Or.inr (Or.inl rfl))
  · obtain ⟨q1, q2⟩ : kd = 4 ∧ wh = nI 59 := by simpa [tkF] using hF
    rw [q1, q2]; decide +kernel
  · obtain ⟨q1, q2⟩ : kd = 4 ∧ wh = nI 40 := by simpa [tkF] using hF
    rw [q1, q2]; decide +kernel
  · obtain ⟨q1, q2⟩ : kd = 4 ∧ wh = nI 41 := by simpa [tkF] using hF
    rw [q1, q2]; decide +kernel
  · unfold tkF at hF
    rw [if_neg (by omega), if_neg (by omega), if_neg (by omega), if_neg (by omega), if_neg (by omega), if_neg (by omega), if_pos (by omega)] at hF
    rw [hF.1, hF.2]
    exact lwK_c K q1 q2
  · obtain ⟨q1, q2⟩ : kd = 4 ∧ wh = nI 43 := by simpa [tkF] using hF
    rw [q1, q2]; decide +kernel
  · obtain ⟨q1, q2⟩ : kd = 4 ∧ wh = nI 45 := by simpa [tkF] using hF
    rw [q1, q2]; decide +kernel
  · obtain ⟨q1, q2⟩ : kd = 4 ∧ wh = nI 42 := by simpa [tkF] using hF
    rw [q1, q2]; decide +kernel
  · obtain ⟨q1, q2⟩ : kd = 4 ∧ wh = nI 47 := by simpa [tkF] using hF
    rw [q1, q2]; decide +kernel
  · have q : kd = 0 := by simpa [tkF] using hF
    rw [q]; exact lwK_o _ (by decide) (by decide) (by decide) ⟨fun w => absurd w (by decide), fun w => by omega⟩ (Or.inr (Or.inr (Or.inl rfl)))
  · have q : kd = 6 ∨ (kd = 4 ∧ wh = nI 37) := by simpa [tkF] using hF
    rcases q with q | ⟨q1, q2⟩
    · rw [q]; exact lwK_o _ (by decide) (by decide) (by decide) ⟨fun w => absurd w (by decide), fun w => by omega⟩ (Or.inr (Or.inr (Or.inr rfl)))
    · rw [q1, q2]; decide +kernel
/-- class's reader stands at a token of laws -/
theorem rdR_K {X J : Nat → Nat → Int32} {n : Nat} (h : rdR X J n) : ∃ K, K ≤ 41 ∧ X 58 0 = nI K ∧ opA J = opK K ∧ ((J 134 8 = 4 ∧ J 134 9 = 40) ↔ K = 28) ∧ ((J 134 8 = 4 ∧ J 134 9 = 41) ↔ K = 29) ∧ ((J 134 8 = 4 ∧ J 134 9 = 59) ↔ K = 27) ∧ ((J 134 8 = 1 ∧ J 134 9 = 18) ↔ K = 18) ∧ (J 134 8 = 3 ↔ K = 26) ∧ nmA J = nmK K := by
  obtain ⟨K, h1, h2, h3⟩ := lwK_T h.1
  exact ⟨K, h1, h2, h3⟩
/-- the level of a sign that joins -/
def lvK (K : Nat) : Int32 := if K = 16 then 0 else if K = 17 then 1 else if 30 ≤ K ∧ K ≤ 35 then 3 else if K = 36 ∨ K = 37 then 4 else if K = 38 ∨ K = 39 then 5 else -1
theorem lvK_rk : ∀ K, K < 42 → (opK K = 0 ∧ lvK K = -1) ∨ (3 ≤ opK K ∧ opK K ≤ 14 ∧ 1 ≤ rkN (opK K) ∧ lvK K = nI (rkN (opK K) - 1) ∧ nI K = nI (cdO (opK K)) ∧ ¬ rkN (opK K) = 3) := by decide +kernel
