/-! ===== class and reference: reading ===== -/
/-- a token by the class's number of it -/
def tkF (K : Nat) (vx kd wh : Int32) : Prop := if K < 25 then (kd = 1 ∧ wh = nI (wmN K)) else if K = 25 then (kd = 2 ∧ ∃ v, v < 2 ^ 30 ∧ vx = nI v ∧ wh = nI v) else if K = 26 then (kd = 3 ∧ ∃ v u, nmR v u ∧ vx = nI v ∧ wh = nI u)
  else if K = 27 then (kd = 4 ∧ wh = nI 59) else if K = 28 then (kd = 4 ∧ wh = nI 40) else if K = 29 then (kd = 4 ∧ wh = nI 41) else if K ≤ 35 then (kd = 5 ∧ wh = nI (K - 30)) else if K = 36 then (kd = 4 ∧ wh = nI 43) else if K = 37 then (kd = 4 ∧ wh = nI 45)
  else if K = 38 then (kd = 4 ∧ wh = nI 42) else if K = 39 then (kd = 4 ∧ wh = nI 47) else if K = 40 then kd = 0 else (kd = 6 ∨ (kd = 4 ∧ wh = nI 37))
theorem tkT_F {kx vx kd wh : Int32} (h : tkT kx vx kd wh) : ∃ K, K ≤ 41 ∧ kx = nI K ∧ tkF K vx kd wh := by
  rcases h with ⟨h1, h2⟩ | ⟨i, hi, h1, h2, h3⟩ | ⟨v, hv, h1, h2, h3, h4⟩ | ⟨v, u, hr, h1, h2, h3, h4⟩ | ⟨c, k, hm, h1, h2, h3⟩ | ⟨i, hi, h1, h2, h3⟩ | ⟨h1, h2⟩
  · exact ⟨40, by decide, h1, by simp [tkF, h2]⟩
  · have m := wmN_in i hi
    exact ⟨wmN i, by omega, h1, by unfold tkF; rw [if_pos m.1, m.2]; exact ⟨h2, h3⟩⟩
  · exact ⟨25, by decide, h1, by unfold tkF; rw [if_neg (by decide), if_pos rfl]; exact ⟨h3, v, hv, h2, h4⟩⟩
  · exact ⟨26, by decide, h1, by unfold tkF; rw [if_neg (by decide), if_neg (by decide), if_pos rfl]; exact ⟨h3, v, u, hr, h2, h4⟩⟩
  · simp only [List.mem_cons, Prod.mk.injEq, List.not_mem_nil, or_false] at hm
    rcases hm with ⟨rfl, rfl⟩ | ⟨rfl, rfl⟩ | ⟨rfl, rfl⟩ | ⟨rfl, rfl⟩ | ⟨rfl, rfl⟩ | ⟨rfl, rfl⟩ | ⟨rfl, rfl⟩ <;> exact ⟨_, by decide, h1, by simp [tkF, h2, h3]⟩
  · refine ⟨30 + i, by omega, h1, ?_⟩
    unfold tkF
    rw [if_neg (by omega), if_neg (by omega), if_neg (by omega), if_neg (by omega), if_neg (by omega), if_neg (by omega), if_pos (by omega), show 30 + i - 30 = i by omega]
    exact ⟨h2, h3⟩
  · exact ⟨41, by decide, h1, by simp [tkF]; exact h2⟩
/-- the reference's kind, for all but what is no token -/
def kdN (K : Nat) : Nat := if K < 25 then 1 else if K = 25 then 2 else if K = 26 then 3 else if 30 ≤ K ∧ K ≤ 35 then 5 else if K = 40 then 0 else if K = 41 then 6 else 4
theorem tkF_kd {K : Nat} {vx kd wh : Int32} (hK : K ≤ 41) (h : tkF K vx kd wh) : (K ≠ 41 → kd = nI (kdN K)) ∧ (K = 41 → kd = 6 ∨ (kd = 4 ∧ wh = nI 37)) := by
  refine ⟨fun h41 => ?_, fun h41 => by subst h41; simpa [tkF] using h⟩
  unfold tkF at h
  unfold kdN
  by_cases c0 : K < 25
  · rw [if_pos c0] at h ⊢; exact h.1
  rw [if_neg c0] at h ⊢
  by_cases c1 : K = 25
  · rw [if_pos c1] at h ⊢; exact h.1
  rw [if_neg c1] at h ⊢
  by_cases c2 : K = 26
  · rw [if_pos c2] at h ⊢; exact h.1
  rw [if_neg c2] at h ⊢
  by_cases c3 : 30 ≤ K ∧ K ≤ 35
  · rw [if_neg (by omega), if_neg (by omega), if_neg (by omega), if_pos (by omega)] at h
    rw [if_pos c3]; exact h.1
  rw [if_neg c3]
  by_cases c4 : K = 40
  · subst c4
    simp at h
    exact h
  rw [if_neg c4, if_neg h41]
  have hc : K = 27 ∨ K = 28 ∨ K = 29 ∨ K = 36 ∨ K = 37 ∨ K = 38 ∨ K = 39 := by omega
  rcases hc with rfl | rfl | rfl | rfl | rfl | rfl | rfl <;> (simp at h; exact h.1)
theorem kdN_le (K : Nat) : kdN K ≤ 6 := by
  unfold kdN
  repeat' split
  all_goals omega
section
variable {kx vx kd wh : Int32}
theorem tk_26 (h : tkT kx vx kd wh) : kx = 26 ↔ kd = 3 := by
  obtain ⟨K, hK, e, hF⟩ := tkT_F h
  obtain ⟨f1, f2⟩ := tkF_kd hK hF
  have hl := kdN_le K
  rw [e, show (26 : Int32) = nI 26 from rfl, nI_eq (by omega) (by decide)]
  by_cases z : K = 41
  · rcases f2 z with q | q
    · rw [q]; exact ⟨fun k => by omega, fun k => absurd k (by decide)⟩
    · rw [q.1]; exact ⟨fun k => by omega, fun k => absurd k (by decide)⟩
  · rw [f1 z, show (3 : Int32) = nI 3 from rfl, nI_eq (by omega) (by decide)]
    unfold kdN
    constructor
    · rintro rfl; rfl
    · intro q
      revert q
      repeat' split
      all_goals omega
theorem tk_25 (h : tkT kx vx kd wh) : kx = 25 ↔ kd = 2 := by
  obtain ⟨K, hK, e, hF⟩ := tkT_F h
  obtain ⟨f1, f2⟩ := tkF_kd hK hF
  have hl := kdN_le K
  rw [e, show (25 : Int32) = nI 25 from rfl, nI_eq (by omega) (by decide)]
  by_cases z : K = 41
  · rcases f2 z with q | q
    · rw [q]; exact ⟨fun k => by omega, fun k => absurd k (by decide)⟩
    · rw [q.1]; exact ⟨fun k => by omega, fun k => absurd k (by decide)⟩
  · rw [f1 z, show (2 : Int32) = nI 2 from rfl, nI_eq (by omega) (by decide)]
    unfold kdN
    constructor
    · rintro rfl; rfl
    · intro q
      revert q
      repeat' split
      all_goals omega
theorem tk_40 (h : tkT kx vx kd wh) : kx = 40 ↔ kd = 0 := by
  obtain ⟨K, hK, e, hF⟩ := tkT_F h
  obtain ⟨f1, f2⟩ := tkF_kd hK hF
  have hl := kdN_le K
  rw [e, show (40 : Int32) = nI 40 from rfl, nI_eq (by omega) (by decide)]
  by_cases z : K = 41
  · rcases f2 z with q | q
    · rw [q]; exact ⟨fun k => by omega, fun k => absurd k (by decide)⟩
    · rw [q.1]; exact ⟨fun k => by omega, fun k => absurd k (by decide)⟩
  · rw [f1 z, show (0 : Int32) = nI 0 from rfl, nI_eq (by omega) (by decide)]
    unfold kdN
    constructor
    · rintro rfl; rfl
    · intro q
      revert q
      repeat' split
      all_goals omega
/-- a word of the language -/
theorem tk_key (h : tkT kx vx kd wh) : (¬ kx < 0 ∧ kx < 25 ↔ kd = 1) ∧ (kd = 1 → ∃ i, i < 25 ∧ kx = nI (wmN i) ∧ wh = nI i) := by
  obtain ⟨K, hK, e, hF⟩ := tkT_F h
  obtain ⟨f1, f2⟩ := tkF_kd hK hF
  have hl := kdN_le K
  have c25 : (¬ kx < 0 ∧ kx < 25) ↔ K < 25 := by
    rw [e, show (25 : Int32) = nI 25 from rfl, nI_ltI (by omega) (by decide)]
    exact ⟨fun q => q.2, fun q => ⟨nI_pos (by omega), q⟩⟩
  have key : kd = 1 ↔ K < 25 := by
    by_cases z : K = 41
    · rcases f2 z with q | q
      · rw [q]; exact ⟨fun k => absurd k (by decide), fun k => by omega⟩
      · rw [q.1]; exact ⟨fun k => absurd k (by decide), fun k => by omega⟩
    · rw [f1 z, show (1 : Int32) = nI 1 from rfl, nI_eq (by omega) (by decide)]
      unfold kdN
      constructor
      · intro q
        revert q
        repeat' split
        all_goals omega
      · intro q; rw [if_pos q]
  refine ⟨c25.trans key.symm, fun q => ?_⟩
  have k25 := key.mp q
  unfold tkF at hF
  rw [if_pos k25] at hF
  have m := wmN_in K k25
  exact ⟨wmN K, m.1, by rw [m.2]; exact e, hF.2⟩
theorem tk_sc (h : tkT kx vx kd wh) : kx = 27 ↔ (kd = 4 ∧ wh = 59) := by
  obtain ⟨K, hK, e, hF⟩ := tkT_F h
  obtain ⟨f1, f2⟩ := tkF_kd hK hF
  have hl := kdN_le K
  rw [e, show (27 : Int32) = nI 27 from rfl, nI_eq (by omega) (by decide)]
  constructor
  · rintro rfl
    simp [tkF] at hF
    exact hF
  · rintro ⟨q1, q2⟩
    by_cases z : K = 41
    · rcases f2 z with q | q
      · rw [q] at q1; exact absurd q1 (by decide)
      · rw [q.2] at q2; exact absurd q2 (by decide)
    · have k4 : kdN K = 4 := by
        have := (f1 z).symm.trans q1
        rw [show (4 : Int32) = nI 4 from rfl, nI_eq (by omega) (by decide)] at this
        exact this
      have hc : K = 27 ∨ K = 28 ∨ K = 29 ∨ K = 36 ∨ K = 37 ∨ K = 38 ∨ K = 39 := by
        revert k4
        unfold kdN
        repeat' split
        all_goals omega
      rcases hc with rfl | rfl | rfl | rfl | rfl | rfl | rfl
      · rfl
      all_goals (exfalso; simp [tkF] at hF; rw [hF.2] at q2; exact absurd q2 (by decide))
theorem tk_nm (h : tkT kx vx kd wh) (hk : kd = 3) : ∃ v u, nmR v u ∧ vx = nI v ∧ wh = nI u := by
  obtain ⟨K, hK, e, hF⟩ := tkT_F h
  have k26 : K = 26 := by
    have := (tk_26 h).mpr hk
    rw [e, show (26 : Int32) = nI 26 from rfl, nI_eq (by omega) (by decide)] at this
    exact this
  subst k26
  unfold tkF at hF
  rw [if_neg (by decide), if_neg (by decide), if_pos rfl] at hF
  exact hF.2
theorem tk_wd (h : tkT kx vx kd wh) (hk : kd = 2) : vx = wh := by
  obtain ⟨K, hK, e, hF⟩ := tkT_F h
  have k25 : K = 25 := by
    have := (tk_25 h).mpr hk
    rw [e, show (25 : Int32) = nI 25 from rfl, nI_eq (by omega) (by decide)] at this
    exact this
  subst k25
  unfold tkF at hF
  rw [if_neg (by decide), if_pos rfl] at hF
  obtain ⟨-, v, -, q1, q2⟩ := hF
  rw [q1, q2]
end
/-- reader of the class (X) and the reference (J) stand at the same token of n bytes -/
def rdR (X J : Nat → Nat → Int32) (n : Nat) : Prop := tkT (X 58 0) (X 58 1) (J 134 8) (J 134 9) ∧ X 58 2 = J 134 10 ∧ (∃ q, q ≤ n ∧ X 58 5 = nI q ∧ J 134 7 = nI q) ∧ X 58 4 = nI n ∧ J 134 6 = nI n ∧ n ≤ 700 ∧ (∀ k, k < n → X 2 k = sgB (bT J k) ∧ bT J k < 256) ∧ ∀ w, w < 25 → X 60 w = nI (rfW (wmN w))
theorem reQ_at (I : Nat → Nat → Int32) (a b c d : Int32) : reQ I a b c d 58 0 = a ∧ reQ I a b c d 58 1 = b ∧ reQ I a b c d 58 2 = c ∧ reQ I a b c d 58 5 = d ∧ reQ I a b c d 58 4 = I 58 4 ∧ ∀ q, q ≠ 58 → reQ I a b c d q = I q := ⟨rfl, rfl, rfl, rfl, rfl, fun q h => by unfold reQ; rw [sI_ne h, sI_ne h, sI_ne h, sI_ne h]⟩
theorem rdR_tok {X J : Nat → Nat → Int32} {n q : Nat} (h : rdR X J n) (hq : J 134 7 = nI q) (hqn : q ≤ n) : rdR (xTk X (bT J) n q) (yTok J) n := by
  obtain ⟨h1, h2, -, h4, h5, h6, h7, h8⟩ := h
  have hle := runTo_le (fun k => decide (blP (bT J) n k)) (n - q) q
  have ha : tkA (bT J) n q ≤ n := by show runTo _ _ _ ≤ n; omega
  have e6 : ixn (J 134 6) = n := by rw [h5, ixn_nI (by omega)]
  have e7 : ixn (J 134 7) = q := by rw [hq, ixn_nI (by omega)]
  obtain ⟨r0, r1, r2, r5, r4, rn⟩ := reQ_at X (nI (kTk (bT J) n (tkA (bT J) n q))) (nI (vTk (bT J) n (tkA (bT J) n q))) (nI (tkA (bT J) n q)) (nI (tkE (bT J) n (tkA (bT J) n q)))
  have hE : tkE (bT J) n (tkA (bT J) n q) ≤ n := by
    generalize tkA (bT J) n q = a at ha
    unfold tkE
    split
    · exact ha
    · split
      · have := (runTo_le (fun k => decide (smP (bT J) n k)) (n - a) a).2
        show runTo _ _ _ ≤ n
        omega
      · split
        · have := (runTo_le (fun k => decide (dgP (bT J) n k)) (n - a) a).2
          show runTo _ _ _ ≤ n
          omega
        · rename_i hne _ _
          rw [sgE_j]
          by_cases z : jnP (bT J) n a
          · rw [if_pos z]
            have : sgN (bT J) n a ≠ 0 := by unfold jnP at z; omega
            unfold sgN at this
            by_cases w : a + 1 < n
            · omega
            · rw [if_neg w] at this; exact absurd rfl this
          · rw [if_neg z]; omega
  have yJ : yTok J = tkQ J (nI (tkE (bT J) n (tkA (bT J) n q))) (nI (tkK (bT J) n (tkA (bT J) n q))) (tkH (bT J) n (tkA (bT J) n q) (J 134 9)) (nI (tkA (bT J) n q)) := by
    unfold yTok
    rw [e6, e7]
  rw [yJ]
  refine ⟨?_, r2, ⟨_, hE, r5, rfl⟩, r4.trans h4, h5, h6, ?_, ?_⟩
  · show tkT (reQ X _ _ _ _ 58 0) (reQ X _ _ _ _ 58 1) _ _
    rw [r0, r1]
    exact tok_T (bT J) n _ ha (J 134 9)
  · intro k hk
    show reQ X _ _ _ _ 2 k = _ ∧ _
    rw [rn 2 (by decide)]
    exact h7 k hk
  · intro w hw
    show reQ X _ _ _ _ 60 w = _
    rw [rn 60 (by decide)]
    exact h8 w hw
