/-! ===== class and reference: tokens ===== -/
def nmR (v u : Nat) : Prop := (v = u ∧ u ≤ 99999) ∨ (99999 < v ∧ v ≤ 1000000 ∧ 99999 < u ∧ u ≤ 999999)
theorem num_y {b : Nat → Nat} : ∀ c k v u, (∀ i, k ≤ i → i < k + c → 48 ≤ b i ∧ b i ≤ 57) → nmR v u → nmR (numC b c k v) (numV b c k u)
  | 0, _, _, _, _, h => h
  | c + 1, k, v, u, hd, h => by
    have d := hd k (Nat.le_refl _) (by omega)
    show nmR (numC b c (k + 1) (if v * 10 + b k - 48 ≤ 1000000 then v * 10 + b k - 48 else 1000000)) (numV b c (k + 1) (if 99999 < u then u else 10 * u + b k - 48))
    refine num_y c (k + 1) _ _ (fun i h1 h2 => hd i (by omega) (by omega)) ?_
    unfold nmR at *
    rcases h with ⟨rfl, h2⟩ | ⟨h1, h2, h3, h4⟩
    · rw [if_pos (by omega), if_neg (by omega)]
      by_cases z : v * 10 + b k - 48 ≤ 99999
      · exact Or.inl ⟨by omega, by omega⟩
      · exact Or.inr ⟨by omega, by omega, by omega, by omega⟩
    · rw [if_pos h3]
      refine Or.inr ⟨?_, ?_, h3, h4⟩
      · split <;> omega
      · split <;> omega
/-- a token of the class (kind, value) and one of the reference (kind, which) -/
def tkT (kx vx kd wh : Int32) : Prop :=
  (kx = 40 ∧ kd = 0) ∨ (∃ i, i < 25 ∧ kx = nI (wmN i) ∧ kd = 1 ∧ wh = nI i) ∨ (∃ v, v < 2 ^ 30 ∧ kx = 25 ∧ vx = nI v ∧ kd = 2 ∧ wh = nI v) ∨
  (∃ v u, nmR v u ∧ kx = 26 ∧ vx = nI v ∧ kd = 3 ∧ wh = nI u) ∨ (∃ c k, (c, k) ∈ [(59, 27), (40, 28), (41, 29), (43, 36), (45, 37), (42, 38), (47, 39)] ∧ kx = nI k ∧ kd = 4 ∧ wh = nI c) ∨
  (∃ h, h ≤ 5 ∧ kx = nI (30 + h) ∧ kd = 5 ∧ wh = nI h) ∨ (kx = 41 ∧ (kd = 6 ∨ (kd = 4 ∧ wh = nI 37)))
theorem kSg_y (b : Nat → Nat) (n a : Nat) : tkT (nI (kSg b n a)) 0 (nI (sgK b a)) (nI (sgH b n a)) := by
  by_cases h59 : b a = 59
  · exact Or.inr (Or.inr (Or.inr (Or.inr (Or.inl ⟨59, 27, by simp, by simp [kSg, h59], by simp [sgK, sgC, h59]; rfl, by simp [sgH, sgC, h59]⟩))))
  by_cases h40 : b a = 40
  · exact Or.inr (Or.inr (Or.inr (Or.inr (Or.inl ⟨40, 28, by simp, by simp [kSg, h40], by simp [sgK, sgC, h40]; rfl, by simp [sgH, sgC, h40]⟩))))
  by_cases h41 : b a = 41
  · exact Or.inr (Or.inr (Or.inr (Or.inr (Or.inl ⟨41, 29, by simp, by simp [kSg, h41], by simp [sgK, sgC, h41]; rfl, by simp [sgH, sgC, h41]⟩))))
  by_cases h60 : b a = 60
  · by_cases q : sgN b n a = 61
    · exact Or.inr (Or.inr (Or.inr (Or.inr (Or.inr (Or.inl ⟨1, by decide, by simp [kSg, h60, q], by simp [sgK, sgC, h60]; rfl, by simp [sgH, sgC, sgQ, h60, q]⟩)))))
    · by_cases q2 : sgN b n a = 62
      · exact Or.inr (Or.inr (Or.inr (Or.inr (Or.inr (Or.inl ⟨3, by decide, by simp [kSg, h60, q2], by simp [sgK, sgC, h60]; rfl, by simp [sgH, sgC, sgQ, sgU, h60, q2]⟩)))))
      · exact Or.inr (Or.inr (Or.inr (Or.inr (Or.inr (Or.inl ⟨0, by decide, by simp [kSg, h60, q, q2], by simp [sgK, sgC, h60]; rfl, by simp [sgH, sgC, sgQ, sgU, h60, q, q2]⟩)))))
  by_cases h61 : b a = 61
  · exact Or.inr (Or.inr (Or.inr (Or.inr (Or.inr (Or.inl ⟨2, by decide, by simp [kSg, h61], by simp [sgK, sgC, h61]; rfl, by simp [sgH, sgC, h61]⟩)))))
  by_cases h62 : b a = 62
  · by_cases q : sgN b n a = 61
    · exact Or.inr (Or.inr (Or.inr (Or.inr (Or.inr (Or.inl ⟨4, by decide, by simp [kSg, h62, q], by simp [sgK, sgC, h62]; rfl, by simp [sgH, sgC, sgQ, h62, q]⟩)))))
    · exact Or.inr (Or.inr (Or.inr (Or.inr (Or.inr (Or.inl ⟨5, by decide, by simp [kSg, h62, q], by simp [sgK, sgC, h62]; rfl, by simp [sgH, sgC, sgQ, h62, q]⟩)))))
  by_cases h43 : b a = 43
  · exact Or.inr (Or.inr (Or.inr (Or.inr (Or.inl ⟨43, 36, by simp, by simp [kSg, h43], by simp [sgK, sgC, h43]; rfl, by simp [sgH, sgC, h43]⟩))))
  by_cases h45 : b a = 45
  · exact Or.inr (Or.inr (Or.inr (Or.inr (Or.inl ⟨45, 37, by simp, by simp [kSg, h45], by simp [sgK, sgC, h45]; rfl, by simp [sgH, sgC, h45]⟩))))
  by_cases h42 : b a = 42
  · exact Or.inr (Or.inr (Or.inr (Or.inr (Or.inl ⟨42, 38, by simp, by simp [kSg, h42], by simp [sgK, sgC, h42]; rfl, by simp [sgH, sgC, h42]⟩))))
  by_cases h47 : b a = 47
  · exact Or.inr (Or.inr (Or.inr (Or.inr (Or.inl ⟨47, 39, by simp, by simp [kSg, h47], by simp [sgK, sgC, h47]; rfl, by simp [sgH, sgC, h47]⟩))))
  refine Or.inr (Or.inr (Or.inr (Or.inr (Or.inr (Or.inr ⟨by simp [kSg, h59, h40, h41, h60, h61, h62, h43, h45, h42, h47]; rfl, ?_⟩)))))
  by_cases h37 : b a = 37
  · exact Or.inr ⟨by simp [sgK, sgC, h37]; rfl, by simp [sgH, sgC, h37]⟩
  · exact Or.inl (by simp [sgK, sgC, h59, h40, h41, h60, h61, h62, h43, h45, h42, h47, h37]; rfl)
theorem tok_T (b : Nat → Nat) (n a : Nat) (han : a ≤ n) (w : Int32) : tkT (nI (kTk b n a)) (nI (vTk b n a)) (nI (tkK b n a)) (tkH b n a w) := by
  unfold kTk vTk tkK tkH
  by_cases hn : a = n
  · rw [if_pos hn, if_pos hn, if_pos hn, if_pos hn]
    exact Or.inl ⟨rfl, rfl⟩
  rw [if_neg hn, if_neg hn, if_neg hn, if_neg hn]
  by_cases hs : smP b n a
  · rw [if_pos hs, if_pos hs, if_pos hs, if_pos hs]
    have hele := runTo_le (fun k => decide (smP b n k)) (n - a) a
    have hlet : ∀ i, a ≤ i → i < tkW b n a → 97 ≤ b i ∧ b i ≤ 122 := fun i h1 h2 => (of_decide_eq_true (runTo_in (fun k => decide (smP b n k)) (n - a) a i h1 h2)).2
    have ge : a ≤ tkW b n a := hele.1
    generalize tkW b n a = e at hlet ge
    unfold kWd vWd
    by_cases h6 : e - a ≤ 6
    · have hpl : pkF b a e < 2 ^ 30 := by
        have := pkF_lt (b := b) (a := a) (l := e - a) h6 (fun i hi => (hlet (a + i) (by omega) (by omega)).2)
        rwa [show a + (e - a) = e by omega] at this
      rw [if_pos h6, if_pos h6, kwU_r]
      by_cases hw : wIx (pkF b a e) < 25
      · have nn : ¬ nI (wIx (pkF b a e)) < 0 := nI_pos (by omega)
        have eW : wRes b a e = nI (wIx (pkF b a e)) := if_pos ⟨h6, hw⟩
        rw [if_pos hw, eW, if_neg nn, if_neg (fun q => nn q.1)]
        exact Or.inr (Or.inl ⟨_, hw, rfl, rfl, rfl⟩)
      · have eW : wRes b a e = -1 := if_neg (fun q => hw q.2)
        rw [if_neg hw, eW, if_pos (show (-1 : Int32) < 0 by decide), if_pos h6, if_pos ⟨by decide, h6⟩]
        exact Or.inr (Or.inr (Or.inl ⟨_, hpl, rfl, rfl, rfl, rfl⟩))
    · have eW : wRes b a e = -1 := if_neg (fun q => h6 q.1)
      rw [if_neg h6, if_neg h6, eW, if_pos (show (-1 : Int32) < 0 by decide), if_neg h6]
      exact Or.inr (Or.inr (Or.inr (Or.inr (Or.inr (Or.inr ⟨rfl, Or.inl rfl⟩)))))
  rw [if_neg hs, if_neg hs, if_neg hs, if_neg hs]
  by_cases hd : dgP b n a
  · rw [if_pos hd, if_pos hd, if_pos hd, if_pos hd]
    have hdg : ∀ i, a ≤ i → i < tkD b n a → 48 ≤ b i ∧ b i ≤ 57 := fun i h1 h2 => (of_decide_eq_true (runTo_in (fun k => decide (dgP b n k)) (n - a) a i h1 h2)).2
    have ge : a ≤ tkD b n a := (runTo_le (fun k => decide (dgP b n k)) (n - a) a).1
    exact Or.inr (Or.inr (Or.inr (Or.inl ⟨_, _, num_y (tkD b n a - a) a 0 0 (fun i h1 h2 => hdg i h1 (by omega)) (Or.inl ⟨rfl, by decide⟩), rfl, rfl, rfl, rfl⟩)))
  rw [if_neg hd, if_neg hd, if_neg hd, if_neg hd]
  exact kSg_y b n a
