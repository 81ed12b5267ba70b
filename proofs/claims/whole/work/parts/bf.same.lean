/-! ===== the reference's reading does not see the number that it read last ===== -/
section
variable {M : Nat → Nat → Int32} {x : Int32}
theorem u_st {a k : Nat} {y : Int32} (h : ¬ (a = 134 ∧ k = 11)) : sI (sI M 134 11 x) a k y = sI (sI M a k y) 134 11 x := by
  funext b j
  by_cases e1 : b = a
  · subst e1
    rw [sI_at]
    by_cases e2 : b = 134
    · subst e2
      rw [sI_at, sI_at, sI_at]
      by_cases ej : j = k
      · subst ej
        rw [if_pos rfl, if_neg (fun w => h ⟨rfl, w⟩), if_pos rfl]
      · rw [if_neg ej, if_neg ej]
    · rw [sI_ne e2, sI_ne e2, sI_at]
  · rw [sI_ne e1]
    by_cases e2 : b = 134
    · subst e2
      rw [sI_at, sI_at, sI_ne e1]
    · rw [sI_ne e2, sI_ne e2, sI_ne e1]
theorem u_ow {y : Int32} : sI (sI M 134 11 x) 134 11 y = sI M 134 11 y := by
  funext b j
  by_cases e2 : b = 134
  · subst e2
    rw [sI_at, sI_at, sI_at]
    by_cases ej : j = 11
    · rw [if_pos ej, if_pos ej]
    · rw [if_neg ej, if_neg ej, if_neg ej]
  · rw [sI_ne e2, sI_ne e2, sI_ne e2]
theorem u_tok : yTok (sI M 134 11 x) = sI (yTok M) 134 11 x := by
  have e : ∀ n k w p : Int32, tkQ (sI M 134 11 x) n k w p = sI (tkQ M n k w p) 134 11 x := fun n k w p => by
    unfold tkQ
    rw [u_st (by decide), u_st (by decide), u_st (by decide), u_st (by decide)]
  exact e _ _ _ _
/-- the same, or the same fault -/
def k1 (q' q : Bool × (Nat → Nat → Int32)) : Prop := (q.1 = true → q' = q) ∧ (q.1 = false → q'.1 = false ∧ q'.2 134 4 = q.2 134 4 ∧ q'.2 134 5 = q.2 134 5)
theorem k1_if {c c' : Prop} [Decidable c] [Decidable c'] {a a' b b' : Bool × (Nat → Nat → Int32)} (hc : c' ↔ c) (ha : k1 a' a) (hb : k1 b' b) : k1 (if c' then a' else b') (if c then a else b) := by
  by_cases h : c
  · rw [if_pos h, if_pos (hc.mpr h)]; exact ha
  · rw [if_neg h, if_neg (fun w => h (hc.mp w))]; exact hb
theorem k1_f {q : Int32} : k1 (false, yWr (sI M 134 11 x) q) (false, yWr M q) := ⟨fun h => (by cases h), fun _ => ⟨rfl, rfl, rfl⟩⟩
theorem k1_t {K K' : Nat → Nat → Int32} (h : K' = K) : k1 (true, K') (true, K) := ⟨fun _ => (by rw [h]), fun h => (by cases h)⟩
theorem k1_B {q q' : Bool × (Nat → Nat → Int32)} {f : (Nat → Nat → Int32) → Bool × (Nat → Nat → Int32)} (hq : k1 q' q) : k1 (yB q' f) (yB q f) := by
  by_cases h : q.1 = true
  · rw [hq.1 h]
    exact ⟨fun _ => rfl, fun w => ⟨w, rfl, rfl⟩⟩
  · have h0 : q.1 = false := by simpa using h
    unfold yB
    rw [if_neg h, if_neg (by rw [(hq.2 h0).1]; decide)]
    exact hq
theorem k1_num {lo hi : Int32} : k1 (yNum (sI M 134 11 x) lo hi) (yNum M lo hi) := k1_if Iff.rfl k1_f (k1_if Iff.rfl k1_f (k1_t (by rw [u_ow]; rfl)))
theorem k1_pick {lo hi : Int32} : k1 (yPick (sI M 134 11 x) lo hi) (yPick M lo hi) := k1_if Iff.rfl k1_f (k1_if Iff.rfl k1_f (k1_if Iff.rfl k1_f (k1_t (by rw [u_tok, u_ow]; rfl))))
theorem k1_per {pr : Nat} : k1 (yPer (sI M 134 11 x) pr) (yPer M pr) := k1_if Iff.rfl k1_f (k1_if Iff.rfl k1_f (k1_t (by rw [u_tok, u_ow]; rfl)))
theorem k1_PL {pr : Nat} : k1 (yPL pr (sI M 134 11 x)) (yPL pr M) := by
  unfold yPL
  refine k1_if Iff.rfl k1_f ?_
  rw [u_tok]
  generalize yTok M = K
  refine k1_if Iff.rfl k1_f (k1_if Iff.rfl k1_f ?_)
  have e : yTok (sI (sI K 134 11 x) 137 (5 + pr) (sI K 134 11 x 134 9)) = sI (yTok (sI K 137 (5 + pr) (K 134 9))) 134 11 x := by
    rw [u_st (by omega), u_tok]
    rfl
  rw [e]
  exact k1_B k1_num
theorem k1_SL {pr sr : Nat} : k1 (ySL pr sr (sI M 134 11 x)) (ySL pr sr M) := by
  unfold ySL
  refine k1_if Iff.rfl k1_f ?_
  rw [u_tok]
  exact k1_B k1_pick
theorem k1_DL {pr dr : Nat} : k1 (yDL pr dr (sI M 134 11 x)) (yDL pr dr M) := by
  unfold yDL
  refine k1_if Iff.rfl k1_f ?_
  rw [u_tok]
  exact k1_B k1_per
theorem k1_CL {pr : Nat} : k1 (yCL pr (sI M 134 11 x)) (yCL pr M) := by
  unfold yCL
  rw [u_tok]
  generalize yTok M = K
  exact k1_B (f := fun I2 => if ¬ I2 141 (5 + ixn (I2 134 11)) < 0 then (false, yWr (sI I2 134 10 (K 134 10)) 3) else yB (yNum I2 1 9) fun I3 => (true, sI I3 141 (5 + ixn (I2 134 11)) (I3 134 11))) k1_per
theorem k1_RL {rr : Nat} : k1 (yRL rr (sI M 134 11 x)) (yRL rr M) := by
  unfold yRL
  refine k1_if Iff.rfl k1_f ?_
  rw [u_tok]
  exact k1_B k1_pick
theorem k1_end {q q' : Bool × (Nat → Nat → Int32)} (hq : k1 q' q) : k1 (yEnd q') (yEnd q) := by
  by_cases h : q.1 = true
  · rw [hq.1 h]
    exact ⟨fun _ => rfl, fun w => ⟨w, rfl, rfl⟩⟩
  · have h0 : q.1 = false := by simpa using h
    unfold yEnd
    rw [if_neg h, if_neg (by rw [(hq.2 h0).1]; decide)]
    exact hq
end
/-! ===== the machine of laws over such memories ===== -/
abbrev t8 : Type := Nat × List (Nat × Nat) × List Nat × Bool × Bool × Nat × Nat × (Nat → Nat → Int32)
def p8 (ω : (Nat → Nat → Int32) → Nat → Nat → Int32) (X : t8) : t8 := (X.1, X.2.1, X.2.2.1, X.2.2.2.1, X.2.2.2.2.1, X.2.2.2.2.2.1, X.2.2.2.2.2.2.1, ω X.2.2.2.2.2.2.2)
section
variable {ω : (Nat → Nat → Int32) → Nat → Nat → Int32}
theorem leaf_al (h8 : ∀ G, ω G 134 8 = G 134 8) (h9 : ∀ G, ω G 134 9 = G 134 9) (ht : ∀ G, yTok (ω G) = ω (yTok G)) {E : List (Nat × Nat)} {W : List Nat} {wn mn : Bool} {br cn : Nat} {G : Nat → Nat → Int32} : leafA E W wn mn br cn (ω G) = p8 ω (leafA E W wn mn br cn G) := by
  have hn : nmA (ω G) = nmA G := by unfold nmA; rw [h8, h9]
  unfold leafA
  rw [hn, h8, h9, ht]
  exact h_if Iff.rfl (h_if Iff.rfl rfl rfl) (h_if Iff.rfl (h_if Iff.rfl rfl rfl) (h_if Iff.rfl rfl (h_if Iff.rfl rfl (h_if Iff.rfl rfl rfl))))
theorem signs_al (h8 : ∀ G, ω G 134 8 = G 134 8) (h9 : ∀ G, ω G 134 9 = G 134 9) (ht : ∀ G, yTok (ω G) = ω (yTok G)) {E : List (Nat × Nat)} {W : List Nat} {wn mn : Bool} {br cn : Nat} {G : Nat → Nat → Int32} : signsA E W wn mn br cn (ω G) = p8 ω (signsA E W wn mn br cn G) := by
  have hn : opA (ω G) = opA G := by unfold opA; rw [h8, h9]
  unfold signsA
  rw [hn, h8, h9, ht]
  exact h_if Iff.rfl rfl (h_if Iff.rfl rfl (h_if Iff.rfl rfl (h_if Iff.rfl rfl rfl)))
theorem sum_al (h8 : ∀ G, ω G 134 8 = G 134 8) (h9 : ∀ G, ω G 134 9 = G 134 9) (ht : ∀ G, yTok (ω G) = ω (yTok G)) : ∀ (c : Nat) (E : List (Nat × Nat)) (W : List Nat) (wn mn : Bool) (br cn : Nat) (G : Nat → Nat → Int32), sumA c E W wn mn br cn (ω G) = p8 ω (sumA c E W wn mn br cn G)
  | 0, E, W, wn, mn, br, cn, G => rfl
  | c + 1, E, W, wn, mn, br, cn, G => by
    unfold sumA
    rw [h8, h9]
    refine h_if Iff.rfl rfl ?_
    have e : (if wn = true then leafA E W true mn br cn (ω G) else signsA E W false mn br cn (ω G)) = p8 ω (if wn = true then leafA E W true mn br cn G else signsA E W false mn br cn G) := h_if Iff.rfl (leaf_al h8 h9 ht) (signs_al h8 h9 ht)
    rw [e]
    generalize (if wn = true then leafA E W true mn br cn G else signsA E W false mn br cn G) = X
    exact h_if Iff.rfl (sum_al h8 h9 ht c _ _ _ _ _ _ _) rfl
end
