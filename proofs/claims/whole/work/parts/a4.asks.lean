/-! ===== class and reference: questions ===== -/
/-- the true half of both -/
def hR (X Y : Nat → Nat → Int32) (t w np ns nd : Nat) : Prop := sT X Y t np ns nd ∧ wR X Y w 0 np ns nd ∧ mI Y 0 np ns ∧ Y 134 64 = 0 ∧ uM Y 0 ns
section
variable {X Y : Nat → Nat → Int32} {t w np ns nd : Nat}
theorem hR.w1 (h : hR X Y t w np ns nd) {s : Nat} (hs : s < ns) : X (w + 1) s = Y 142 s := by
  rw [(h.2.1.1 s hs).1]
  exact if_pos h.2.2.2.1
theorem hR.w2 (h : hR X Y t w np ns nd) {s : Nat} (hs : s < ns) : X (w + 2) s = Y 162 s := by
  have := (h.2.1.1 s hs).2.1
  rwa [Nat.mul_zero, Nat.zero_add] at this
theorem hR.w3 (h : hR X Y t w np ns nd) {s : Nat} (hs : s < ns) : X (w + 3) s = Y 163 s := by
  have := (h.2.1.1 s hs).2.2
  rwa [Nat.mul_zero, Nat.zero_add] at this
theorem hR.f0 (h : hR X Y t w np ns nd) {p : Nat} (hp : p < np) : X (w + 4) (2 * p) = Y 164 p := by
  have := (h.2.1.2.1 p hp).1
  rwa [Nat.mul_zero, Nat.zero_add] at this
theorem hR.f1 (h : hR X Y t w np ns nd) {p : Nat} (hp : p < np) : X (w + 4) (2 * p + 1) = Y 165 p := by
  have := (h.2.1.2.1 p hp).2
  rwa [Nat.mul_zero, Nat.zero_add] at this
theorem hR.w5 (h : hR X Y t w np ns nd) {d : Nat} (hd : d < nd) : X (w + 5) d = Y 166 d := by
  have := h.2.1.2.2.1 d hd
  rwa [Nat.mul_zero, Nat.zero_add] at this
theorem hR.lns (h : hR X Y t w np ns nd) : ns ≤ 16 := h.1.1.2.1.2.2.2.1
theorem hR.lnp (h : hR X Y t w np ns nd) : np ≤ 5 := h.1.1.2.1.2.1
theorem hR.lnd (h : hR X Y t w np ns nd) : nd ≤ 8 := h.1.1.2.1.2.2.2.2.2
theorem hR.there (h : hR X Y t w np ns nd) (s : Int32) : xThere X t w s ↔ yThere Y s := by
  unfold xThere yThere
  rw [h.1.1.hasS]
  constructor
  · rintro ⟨h1, h2⟩
    exact ⟨h1, by rw [← h.w3 (h.1.1.S h1).1]; exact h2⟩
  · rintro ⟨h1, h2⟩
    exact ⟨h1, by rw [h.w3 (h.1.1.S h1).1]; exact h2⟩
theorem hR.pairs (h : hR X Y t w np ns nd) (l r : Int32) : xPairs X t w l r ↔ yPairs Y l r := by
  unfold xPairs yPairs
  rw [h.there, h.there]
  constructor
  · rintro ⟨h1, h2, h3, h4⟩
    exact ⟨h1, h2, by rw [← h.w1 (h.1.1.S h1.1).1]; exact h3, by rw [← h.w1 (h.1.1.S h2.1).1]; exact h4⟩
  · rintro ⟨h1, h2, h3, h4⟩
    exact ⟨h1, h2, by rw [h.w1 (h.1.1.S h1.1).1]; exact h3, by rw [h.w1 (h.1.1.S h2.1).1]; exact h4⟩
theorem fFind_cg {f g : Nat → Int32} {x : Int32} : ∀ (j k : Nat), (∀ i, k ≤ i → i < k + j → f i = g i) → fFind f x j k = fFind g x j k
  | 0, _, _ => rfl
  | j + 1, k, h => by
    unfold fFind
    rw [h k (Nat.le_refl _) (by omega), fFind_cg j (k + 1) (fun i h1 h2 => h i (by omega) (by omega))]
theorem named_y (h : hR X Y t w np ns nd) (q : Int32) : fFind (X (t + 1)) q np 0 = fFind (fun k => Y 137 (0 + k)) q np 0 :=
  fFind_cg np 0 fun i _ hi => by
    show _ = Y 137 (0 + i)
    rw [Nat.zero_add, (h.1.1.2.2.1 i (by omega)).1]
theorem refused_y (h : hR X Y t w np ns nd) : fFind (X (w + 5)) 2 nd 0 = fFind (Y 166) 2 nd 0 := fFind_cg nd 0 fun i _ hi => h.w5 (by omega)
theorem sumW_y (h : hR X Y t w np ns nd) (p : Int32) : ∀ n, n ≤ ns → sumW (xWorthNow X t w) (fun k => decide (X (w + 3) k = p)) n = yOf Y 0 p 0 n
  | 0, _ => rfl
  | n + 1, hn => by
    have ih := sumW_y h p n (by omega)
    have e3 := (h.2.1.1 n (by omega)).2.2
    unfold sumW
    by_cases z : Y 163 (16 * 0 + n) = p
    · rw [yOf_y z, if_pos (by rw [e3]; exact decide_eq_true z), ih, worthNow_y h.1.1 h.2.1 h.1.2.1 h.2.2.1 (by omega)]
      rfl
    · rw [yOf_n z, if_neg (by rw [e3]; simpa using z), ih]
theorem sumA_y (h : hR X Y t w np ns nd) : ∀ n, n ≤ ns → sumW (xWorthNow X t w) (fun _ => true) n = yAll Y 0 n
  | 0, _ => rfl
  | n + 1, hn => by
    unfold sumW yAll
    rw [if_pos rfl, sumA_y h n (by omega), worthNow_y h.1.1 h.2.1 h.1.2.1 h.2.2.1 (by omega)]
theorem in04 {q : Int32} : (0 ≤ q ∧ q ≤ 4) ↔ (q = 0 ∨ q = 1 ∨ q = 2 ∨ q = 3 ∨ q = 4) := by
  constructor
  · rintro ⟨h1, h2⟩
    obtain ⟨j, hj, rfl⟩ := nI_of (Int32.not_lt.mpr h1)
    have := (cLe rfl (y := 4) (b := 4) rfl hj (by decide)).mp h2
    rcases (show j = 0 ∨ j = 1 ∨ j = 2 ∨ j = 3 ∨ j = 4 by omega) with rfl | rfl | rfl | rfl | rfl
    · exact Or.inl rfl
    · exact Or.inr (Or.inl rfl)
    · exact Or.inr (Or.inr (Or.inl rfl))
    · exact Or.inr (Or.inr (Or.inr (Or.inl rfl)))
    · exact Or.inr (Or.inr (Or.inr (Or.inr rfl)))
  · rintro (rfl | rfl | rfl | rfl | rfl) <;> decide
theorem person_y (h : hR X Y t w np ns nd) (p q : Int32) : xPersonQ X t w ns p q = yPersonQ Y ns p q := by
  unfold xPersonQ yPersonQ
  by_cases zp : yHasP Y p
  · rw [if_neg (show ¬ ¬ xHasP X t p from fun k => k ((h.1.1.hasP p).mpr zp))]
    obtain ⟨p1, p2⟩ := h.1.1.P zp
    by_cases zq : 0 ≤ q ∧ q ≤ 4
    · rw [if_neg (show ¬ ¬ (yHasP Y p ∧ 0 ≤ q ∧ q ≤ 4) from fun k => k ⟨zp, zq⟩)]
      rcases in04.mp zq with rfl | rfl | rfl | rfl | rfl
      · exact h.f0 p1
      · exact h.f1 p1
      · exact sumW_y h p ns (Nat.le_refl _)
      · exact (bc_y h.2.1 h.lns p).1
      · exact (bc_y h.2.1 h.lns p).2
    · rw [if_pos (show ¬ (yHasP Y p ∧ 0 ≤ q ∧ q ≤ 4) from fun k => zq k.2)]
      have hn := fun k => zq (in04.mpr k)
      rw [if_neg (fun k => hn (Or.inl k)), if_neg (fun k => hn (Or.inr (Or.inl k))), if_neg (fun k => hn (Or.inr (Or.inr (Or.inl k)))), if_neg (fun k => hn (Or.inr (Or.inr (Or.inr (Or.inl k))))), if_neg (fun k => hn (Or.inr (Or.inr (Or.inr (Or.inr k)))))]
  · rw [if_pos (fun k => zp ((h.1.1.hasP p).mp k)), if_pos (fun k => zp k.1)]
theorem debt_y (h : hR X Y t w np ns nd) (p q : Int32) : xDebtQ X t w p q = yDebtQ Y p q := by
  unfold xDebtQ yDebtQ
  rw [h.1.1.nd]
  by_cases z : 0 ≤ p ∧ p < Y 134 14
  · obtain ⟨j, hj, rfl⟩ := nIn h.1.1.2.1.2.2.2.2.1 (by have := h.lnd; omega) z
    have e : ixn (nI j) = j := ixn_nI (by have := h.lnd; omega)
    obtain ⟨d1, d2, d3, d4⟩ := h.1.1.2.2.2.2.1 j hj
    rw [if_neg (show ¬ ¬ (0 ≤ nI j ∧ nI j < Y 134 14) from fun k => k z), if_neg (show ¬ ¬ (0 ≤ nI j ∧ nI j < Y 134 14) from fun k => k z), e, d1, d2, d3, d4, h.w5 hj]
  · rw [if_pos z, if_pos z]
theorem pairQ_y (h : hR X Y t w np ns nd) (l r : Int32) : xPairQ X t w l r = yPairQ Y l r := by
  unfold xPairQ yPairQ
  by_cases z : yPairs Y l r
  · rw [if_pos z, if_pos ((h.pairs l r).mpr z), pair_y h.1.1 h.2.1 h.1.2.1 (h.1.1.S z.1.1).1 (h.1.1.S z.2.1.1).1]
  · rw [if_neg z, if_neg (fun k => z ((h.pairs l r).mp k))]
theorem lawQ_y (h : hR X Y t w np ns nd) (q s u : Int32) : xLawQ X t w q s u = yLawQ Y q s u := by
  unfold xLawQ yLawQ
  by_cases z2 : q = 2
  · rw [if_pos z2, if_pos z2]
    by_cases z : yPairs Y s u
    · rw [if_pos z, if_pos ((h.pairs s u).mpr z), (lawP_y h.1.1 h.2.1 h.1.2.1 (h.1.1.S z.1.1).1 (h.1.1.S z.2.1.1).1).1]
    · rw [if_neg z, if_neg (fun k => z ((h.pairs s u).mp k))]
  · rw [if_neg z2, if_neg z2]
    by_cases z : yThere Y s ∧ (q = 0 ∨ q = 1)
    · have hs := (h.1.1.S z.1.1).1
      rw [if_pos z, if_pos ⟨(h.there s).mpr z.1, z.2⟩, h.w2 hs, h.2.1.2.2.2.1]
      rcases z.2 with rfl | rfl
      · have := (lawS_y h.1.1 h.2.1 h.1.2.1 h.2.2.1 hs (r := 0) (by decide) (Y 162 (ixn s)) (Y 167 0)).1
        rw [Nat.mul_zero, Nat.zero_add] at this
        exact this
      · have := (lawS_y h.1.1 h.2.1 h.1.2.1 h.2.2.1 hs (r := 1) (by decide) (Y 162 (ixn s)) (Y 167 0)).1
        rw [Nat.mul_zero, Nat.zero_add] at this
        exact this
    · rw [if_neg z, if_neg (fun k => z ⟨(h.there s).mp k.1, k.2⟩)]
theorem hasP_ne {Y : Nat → Nat → Int32} {p : Int32} (h : yHasP Y p) : ¬ p = -2 := by
  rintro rfl
  exact absurd h.1 (by decide)
theorem changeQ_y (h : hR X Y t w np ns nd) (p q : Int32) : xChangeQ X t w ns p q = yChangeQ Y ns p q := by
  unfold xChangeQ yChangeQ
  by_cases z : yHasP Y p ∧ 1 ≤ q ∧ q ≤ 9999
  · rw [if_pos z, if_pos ⟨(h.1.1.hasP p).mpr z.1, z.2⟩]
    rcases for_y h.1 h.2.1 h.2.2.1 (hasP_ne z.1) (ixn q) with ⟨k1, k2⟩ | ⟨k1, k2, -⟩
    · rw [if_pos k1, k2]
    · rw [if_neg k1, k2]
  · rw [if_neg z, if_neg (fun k => z ⟨(h.1.1.hasP p).mp k.1, k.2⟩)]
theorem halves_y (h : hR X Y t w np ns nd) (l r : Int32) : xHalves X t w l r ↔ yHalves Y l r := by
  unfold xHalves yHalves
  rw [h.pairs]
  have key : ∀ s, yThere Y s → (xHasP X t (X (w + 3) (ixn s)) ↔ ¬ Y 163 (ixn s) < 0) := by
    intro s hs
    have hj := (h.1.1.S hs.1).1
    rw [h.w3 hj, h.1.1.hasP]
    have ho := own_of h.2.2.1 hj
    rw [Nat.mul_zero, Nat.zero_add] at ho
    constructor
    · intro k
      exact Int32.not_lt.mpr k.1
    · intro k
      rcases ho with z | ⟨p, hp, z⟩
      · exact absurd z k
      · rw [z]; exact h.1.1.ofP hp
  constructor
  · rintro ⟨h1, h2, h3, h4⟩
    refine ⟨h1, (key l h1.1).mp h2, (key r h1.2.1).mp h3, ?_⟩
    rwa [h.w3 (h.1.1.S h1.1.1).1, h.w3 (h.1.1.S h1.2.1.1).1] at h4
  · rintro ⟨h1, h2, h3, h4⟩
    refine ⟨h1, (key l h1.1).mpr h2, (key r h1.2.1).mpr h3, ?_⟩
    rw [h.w3 (h.1.1.S h1.1.1).1, h.w3 (h.1.1.S h1.2.1.1).1]
    exact h4
end
