/-! ===== class and reference: calls that move shoes ===== -/
section
variable {X Y X' Y' : Nat → Nat → Int32} {t np ns nd nx sz j : Nat} {to : Int32}
theorem hR_of (h : hR X Y t 62 np ns nd) (ht : t = 3 ∨ t = 30) (hX : ∀ a, a < 62 → X' a = X a) (hY : ∀ a, a < 162 → 134 ≤ a → Y' a = Y a) (hW : wR X' Y' 62 0 np ns nd) (hi : mI Y' 0 np ns) (hu : uM Y' 0 ns) : hR X' Y' t 62 np ns nd :=
  ⟨sT_cg h.1 (fun a h1 h2 _ => hX a (by omega)) ⟨fun a h1 h2 => hY a (by omega) (by omega), by rw [hY 134 (by omega) (by omega)], by rw [hY 134 (by omega) (by omega)], by rw [hY 134 (by omega) (by omega)]⟩, hW, hi, by rw [hY 134 (by omega) (by omega)]; exact h.2.2.2.1, hu⟩
theorem gR_of (h : gR X Y t np ns nd nx sz) (hX : ∀ a, (a < 62 ∨ 67 < a) → X' a = X a) (hY : ∀ a, 134 ≤ a → (a < 162 ∨ 167 < a) → Y' a = Y a) (h1 : hR X' Y' t 62 np ns nd) (h2 : X' 62 2 = 1 ∧ X' 62 3 = 1) (h3 : dvM Y' 0 nd) (h4 : ∃ dd, dd ≤ 999 ∧ Y' 167 0 = nI dd) (h5 : ∀ s, s < ns → Y' 162 s = Y 162 s) : gR X' Y' t np ns nd nx sz := by
  have e4 := hY 134 (by omega) (by omega)
  exact ⟨h1, h2, by rw [e4]; exact h.2.2.1, h3, h4, hsN_cg h.2.2.2.2.2.1 (fun a q1 q2 => hX a (by omega)) h5 (hY 181 (by omega) (by omega)) (by rw [e4]) h.1.lns h.1.lnp, oR_cg h.2.2.2.2.2.2.1 h.2.2.2.2.2.2.2 (fun a q => hX a (by omega)) (fun a q => hY a (by omega) (by omega)) (fun k _ => by rw [e4]), h.2.2.2.2.2.2.2⟩
theorem gR_note (h : gR X Y t np ns nd nx sz) : gR (xNote X 62 nx sz) (yRem Y sz) t np ns nd ((nx + 1) % 20) (min 20 (sz + 1)) := by
  have hnx := h.2.2.2.2.2.1.2.1
  have ht := h.2.2.2.2.2.2.2
  refine ⟨hR_note h.1 (by decide) (by omega) hnx, by rw [xNote_fr hnx (by omega)]; exact h.2.1, by rw [yRem_134 (by decide), yRem_134 (by decide)]; exact h.2.2.1, ?_, by rw [yRem_fr (by decide) (by decide)]; exact h.2.2.2.2.1, hs_note h.2.2.2.2.2.1 h.1 (by decide), oR_cg h.2.2.2.2.2.2.1 ht (fun a q => xNote_fr hnx (by omega)) (fun a q => yRem_fr (by omega) (by omega)) (fun k hk => yRem_134 ?_), ht⟩
  · unfold dvM
    rw [yRem_fr (by decide) (by decide), yRem_fr (by decide) (by decide), yRem_fr (by decide) (by decide)]
    exact h.2.2.2.1
  · simp only [o134, List.mem_cons, List.not_mem_nil, or_false] at hk
    omega
theorem gR_2 (h : gR X Y t np ns nd nx sz) (x : Int32) : gR X (sI Y 134 2 x) t np ns nd nx sz :=
  gR_cg h (fun a _ _ _ => rfl) ⟨fun a h1 _ => sI_ne (by omega), fun k hk => by rw [sI_at, if_neg ((sf_iff k).mp hk).1]⟩
theorem gR_move (h : gR X Y t np ns nd nx sz) (hj : j < ns) (hto : to = -2 ∨ to = -1 ∨ ∃ p, p < np ∧ to = nI p) (hu : to = -2 ∨ ¬ Y 163 j = -2) : gR (xMove X t 62 j to) (yGoes Y 0 j np to) t np ns nd nx sz := by
  have ht := h.2.2.2.2.2.2.2
  have hx : ∀ a, a ≠ 65 → a ≠ 66 → xMove X t 62 j to a = X a := fun a q1 q2 => xMove_ne q1 q2
  have hy : ∀ a, a ≠ 163 → a ≠ 164 → a ≠ 165 → yGoes Y 0 j np to a = Y a := fun a q1 q2 q3 => yGoes_fr q1 q2 q3
  refine gR_of h (fun a q => hx a (by omega) (by omega)) (fun a q1 q2 => hy a (by omega) (by omega) (by omega)) ?_ (by rw [hx 62 (by omega) (by omega)]; exact h.2.1) ?_ (by rw [hy 167 (by omega) (by omega) (by omega)]; exact h.2.2.2.2.1) (fun s _ => by rw [hy 162 (by omega) (by omega) (by omega)])
  · exact hR_of h.1 ht (fun a q => hx a (by omega) (by omega)) (fun a q _ => hy a (by omega) (by omega) (by omega)) (wR_goes h.1.1.1 h.1.2.1 (ftO_of h.1.2.2.1 hj h.1.lns) hj) (mI_goes h.1.2.2.1 hj h.1.lns hto) (uM_goes h.1.2.2.2.2 hj (by rw [Nat.mul_zero, Nat.zero_add]; exact hu))
  · unfold dvM
    rw [hy 150 (by omega) (by omega) (by omega), hy 166 (by omega) (by omega) (by omega), hy 167 (by omega) (by omega) (by omega)]
    exact h.2.2.2.1
theorem give_y (h : gR X Y t np ns nd nx sz) (s to : Int32) :
    ((xThere X t 62 s ∧ (to = -1 ∨ xHasP X t to) ∧ X (62 + 3) (ixn s) ≠ to) ↔ (yThere Y s ∧ (to = -1 ∨ yHasP Y to) ∧ Y 163 (ixn s) ≠ to)) ∧
    (yThere Y s ∧ (to = -1 ∨ yHasP Y to) ∧ Y 163 (ixn s) ≠ to → gR (xMove (xNote X 62 nx sz) t 62 (ixn s) to) (yGoes (yRem (sI Y 134 2 0) sz) 0 (ixn s) np to) t np ns nd ((nx + 1) % 20) (min 20 (sz + 1))) := by
  refine ⟨?_, fun hc => ?_⟩
  · rw [h.1.there, h.1.1.1.hasP]
    constructor
    · rintro ⟨h1, h2, h3⟩
      exact ⟨h1, h2, by rw [← h.1.w3 (h.1.1.1.S h1.1).1]; exact h3⟩
    · rintro ⟨h1, h2, h3⟩
      exact ⟨h1, h2, by rw [h.1.w3 (h.1.1.1.S h1.1).1]; exact h3⟩
  · have g := gR_note (gR_2 h 0)
    refine gR_move g (h.1.1.1.S hc.1.1).1 ?_ (Or.inr ?_)
    · rcases hc.2.1 with z | z
      · exact Or.inr (Or.inl z)
      · exact Or.inr (Or.inr ⟨ixn to, h.1.1.1.P z⟩)
    · rw [yRem_fr (by decide) (by decide), sI_ne (by decide)]
      exact hc.1.2
theorem gR_hand {v : Int32} (h : gR X Y t np ns nd nx sz) (hto : to = -2 ∨ to = -1 ∨ ∃ p, p < np ∧ to = nI p) (hv : ∀ k, k < ns → xBit v k → ¬ Y 163 k = -2) : gR (xHand X t 62 v to ns) (yHand Y 0 np v to ns) t np ns nd nx sz := by
  have ht := h.2.2.2.2.2.2.2
  have hx : ∀ a, a ≠ 65 → a ≠ 66 → xHand X t 62 v to ns a = X a := fun a q1 q2 => xHand_ne q1 q2 ns
  have hy : ∀ a, a ≠ 163 → a ≠ 164 → a ≠ 165 → yHand Y 0 np v to ns a = Y a := fun a q1 q2 q3 => yHand_fr q1 q2 q3 ns
  refine gR_of h (fun a q => hx a (by omega) (by omega)) (fun a q1 q2 => hy a (by omega) (by omega) (by omega)) ?_ (by rw [hx 62 (by omega) (by omega)]; exact h.2.1) ?_ (by rw [hy 167 (by omega) (by omega) (by omega)]; exact h.2.2.2.2.1) (fun s _ => by rw [hy 162 (by omega) (by omega) (by omega)])
  · exact hR_of h.1 ht (fun a q => hx a (by omega) (by omega)) (fun a q _ => hy a (by omega) (by omega) (by omega)) (wR_hand h.1.1.1 (by omega) h.1.2.1 h.1.2.2.1 hto ns (Nat.le_refl _)) (mI_hand h.1.2.2.1 h.1.lns hto ns (Nat.le_refl _)) (uM_hand h.1.2.2.2.2 (fun k hk hb => by rw [Nat.mul_zero, Nat.zero_add]; exact hv k hk hb) ns (Nat.le_refl _))
  · unfold dvM
    rw [hy 150 (by omega) (by omega) (by omega), hy 166 (by omega) (by omega) (by omega), hy 167 (by omega) (by omega) (by omega)]
    exact h.2.2.2.1
/-- pay: the class's answer v, and both behind it -/
theorem pay_y (h : gR X Y t np ns nd nx sz) (p to q : Int32) (f : Nat → Int32) (hp : yHasP Y p) (hto : yHasP Y to) :
    (selB (yWt Y 0 ns p) (ixn q) < 0 → xFor X t 62 ns p (ixn q) = -2) ∧ (¬ selB (yWt Y 0 ns p) (ixn q) < 0 → xFor X t 62 ns p (ixn q) = selB (yWt Y 0 ns p) (ixn q) ∧ ¬ xFor X t 62 ns p (ixn q) = -2 ∧
      gR (xHand (xNote (aU X 61 f) 62 nx sz) t 62 (xFor X t 62 ns p (ixn q)) to ns) (yHand (yRem Y sz) 0 np (selB (yWt Y 0 ns p) (ixn q)) to ns) t np ns nd ((nx + 1) % 20) (min 20 (sz + 1))) := by
  rcases for_y h.1.1 h.1.2.1 h.1.2.2.1 (hasP_ne hp) (ixn q) with ⟨k1, k2⟩ | ⟨k1, k2, v, hv, k3⟩
  · exact ⟨fun _ => k2, fun z => absurd k1 z⟩
  · refine ⟨fun z => absurd z k1, fun _ => ⟨k2, ?_, ?_⟩⟩
    · rw [k2, k3]
      intro e
      have := congrArg Int32.toInt e
      rw [nI_toInt (by omega)] at this
      have e1 : (-2 : Int32).toInt = -2 := rfl
      omega
    · rw [k2]
      have g0 : gR (aU X 61 f) Y t np ns nd nx sz := gR_cg h (fun a _ _ q => aU_ne (((sc_iff a).mp q).2.2.1)) ⟨fun _ _ _ => rfl, fun _ _ => rfl⟩
      refine gR_hand (gR_note g0) (Or.inr (Or.inr ⟨ixn to, h.1.1.1.P hto⟩)) (fun k hk hb => ?_)
      rw [yRem_fr (by decide) (by decide)]
      have := (yWt_ne (selB_bit k1 (by have := h.1.lns; omega) hb)).2
      rw [Nat.mul_zero, Nat.zero_add] at this
      rw [this]
      exact hasP_ne hp
end
