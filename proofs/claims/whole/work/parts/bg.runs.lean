/-! ===== two readings of one text by the reference agree ===== -/
def om (C : Nat → Nat → Int32) (x : Int32) (M : Nat → Nat → Int32) : Nat → Nat → Int32 := sI (jf C M) 134 11 x
/-- the laws as both hold them -/
def lwE (A B : Nat → Nat → Int32) : Prop := B 134 21 = A 134 21 ∧ ∀ i, i < ixn (A 134 21) → B 155 (64 + i) = A 155 (64 + i) ∧ ((A 155 (64 + i) = 0 ∨ A 155 (64 + i) = 1) → B 156 (64 + i) = A 156 (64 + i))
def aE (A B : Nat → Nat → Int32) : Prop := ∀ a k, jk a k = false → ¬ (a = 134 ∧ k = 11) → B a k = A a k
def aL2 (A B : Nat → Nat → Int32) : Prop := aE A B ∧ lwE A B
def outE (b b' : Bool) (A A' B B' : Nat → Nat → Int32) : Prop := b' = b ∧ B' 134 4 = A' 134 4 ∧ B' 134 5 = A' 134 5 ∧ (b = true → aE A' B' ∧ (lwE A B → lwE A' B'))
theorem jf_self (A : Nat → Nat → Int32) : jf A A = A := by
  funext a k
  unfold jf
  split <;> rfl
theorem om_of {A B : Nat → Nat → Int32} (h : aE A B) : B = om B (B 134 11) A := by
  funext a k
  unfold om
  by_cases e : a = 134
  · subst e
    rw [sI_at]
    by_cases ek : k = 11
    · rw [if_pos ek, ek]
    · rw [if_neg ek]
      by_cases j : jk 134 k = true
      · rw [jf_jk j]
      · rw [jf_rd (by simpa using j)]
        exact h 134 k (by simpa using j) (fun w => ek w.2)
  · rw [sI_ne e]
    by_cases j : jk a k = true
    · rw [jf_jk j]
    · rw [jf_rd (by simpa using j)]
      exact h a k (by simpa using j) (fun w => e w.1)
section
variable {C A A' B' : Nat → Nat → Int32} {x : Int32} {b b' : Bool}
theorem om_jk {a k : Nat} (h : jk a k = true) (h2 : ¬ (a = 134 ∧ k = 11)) : om C x A a k = C a k := by
  unfold om
  by_cases e : a = 134
  · subst e
    rw [sI_at, if_neg (fun w => h2 ⟨rfl, w⟩), jf_jk h]
  · rw [sI_ne e, jf_jk h]
theorem al_F {F : (Nat → Nat → Int32) → Bool × (Nat → Nat → Int32)} (hF : ∀ C M, F (jf C M) = pj C (F M)) (kF : ∀ M x, k1 (F (sI M 134 11 x)) (F M)) (hA : (b, A') = yEnd (F A)) (hB : (b', B') = yEnd (F (om C x A))) : outE b b' A A' (om C x A) B' := by
  have h1 := k1_end (kF (jf C A) x)
  have h2 : yEnd (F (jf C A)) = (b, jf C A') := by rw [hF, h_end rfl, ← hA]; rfl
  have h3 : A' = jf A A' := by
    have e : yEnd (F A) = pj A (yEnd (F A)) := by
      have := h_end (hF A A)
      rw [jf_self] at this
      exact this
    rw [← hA] at e
    exact congrArg Prod.snd e
  rw [h2] at h1
  have hB' : (b', B') = yEnd (F (sI (jf C A) 134 11 x)) := hB
  rw [← hB'] at h1
  cases b with
  | true =>
    have e := h1.1 rfl
    have e1 : b' = true := congrArg Prod.fst e
    have e2 : B' = jf C A' := congrArg Prod.snd e
    subst e1 e2
    refine ⟨rfl, jf_rd rfl, jf_rd rfl, fun _ => ⟨fun a k h _ => jf_rd h, fun hl => ?_⟩⟩
    have j21 : jk 134 21 = true := rfl
    have a21 : A' 134 21 = A 134 21 := by rw [h3, jf_jk j21]
    have j5 : ∀ i, jk 155 i = true := fun i => rfl
    have j6 : ∀ i, jk 156 i = true := fun i => rfl
    refine ⟨?_, fun i hi => ?_⟩
    · rw [jf_jk j21, a21, ← hl.1, om_jk j21 (by decide)]
    · rw [a21] at hi
      obtain ⟨q1, q2⟩ := hl.2 i hi
      rw [om_jk (j5 _) (by omega)] at q1
      rw [om_jk (j6 _) (by omega)] at q2
      have a5 : A' 155 (64 + i) = A 155 (64 + i) := by rw [h3, jf_jk (j5 _)]
      have a6 : A' 156 (64 + i) = A 156 (64 + i) := by rw [h3, jf_jk (j6 _)]
      rw [jf_jk (j5 _), jf_jk (j6 _), a5, a6]
      exact ⟨q1, q2⟩
  | false =>
    obtain ⟨e1, e2, e3⟩ := h1.2 rfl
    exact ⟨e1, e2, e3, fun w => by cases w⟩
theorem al_f {q : Int32} {K : Nat → Nat → Int32} (hA : (b, A') = (false, yWr K q)) (hB : (b', B') = (false, yWr (om C x K) q)) : outE b b' A A' (om C x A) B' := by
  cases hA
  cases hB
  exact ⟨rfl, rfl, rfl, fun w => by cases w⟩
theorem om_tok {K : Nat → Nat → Int32} : yTok (om C x K) = om C x (yTok K) := by
  unfold om
  rw [u_tok, h_tok rfl]
theorem om_st {K : Nat → Nat → Int32} {a k : Nat} {y : Int32} (h : jk a k = false) (h2 : ¬ (a = 134 ∧ k = 11)) : sI (om C x K) a k y = om C x (sI K a k y) := by
  unfold om
  rw [u_st h2, h_st h rfl rfl]
theorem sh_al {kn pt ot kn' pt' ot' : Nat → Int32} {b0 : Nat} : ∀ {E : List (Nat × Nat)} {S S' : List Nat}, shE kn pt ot b0 E S → shE kn' pt' ot' b0 E S' → ∀ i, b0 ≤ i → i < b0 + E.length → kn' i = kn i ∧ ((kn i = 0 ∨ kn i = 1) → pt' i = pt i)
  | [], S, S', _, _, i, h1, h2 => absurd h2 (by simp; omega)
  | (q, v) :: E, S, S', h, h', i, h1, h2 => by
    have hl : ((q, v) :: E).length = E.length + 1 := rfl
    rw [hl] at h2
    obtain ⟨g1, g2⟩ := h
    obtain ⟨g1', g2'⟩ := h'
    by_cases hi : i = b0 + E.length
    · subst hi
      refine ⟨by rw [g1, g1'], fun w => ?_⟩
      have c2 : ∀ q : Nat, 2 ≤ q → q ≤ 14 → ¬ (nI q = 0 ∨ nI q = 1) := by
        intro q
        rcases (show q < 2 ∨ 14 < q ∨ q = 2 ∨ q = 3 ∨ q = 4 ∨ q = 5 ∨ q = 6 ∨ q = 7 ∨ q = 8 ∨ q = 9 ∨ q = 10 ∨ q = 11 ∨ q = 12 ∨ q = 13 ∨ q = 14 by omega) with z | z | rfl | rfl | rfl | rfl | rfl | rfl | rfl | rfl | rfl | rfl | rfl | rfl | rfl
        · omega
        · omega
        all_goals (intro _ _; decide)
      rw [g1] at w
      rcases g2 with ⟨r1, _, r2, _⟩ | ⟨r1, r2, r3, _⟩ | ⟨r1, _⟩ | ⟨r1, r2, _⟩
      · rcases g2' with ⟨_, _, s2, _⟩ | ⟨s1, _⟩ | ⟨s1, _⟩ | ⟨s1, _⟩
        · rw [r2, s2]
        · omega
        · omega
        · omega
      · rcases g2' with ⟨s1, _⟩ | ⟨_, _, s3, _⟩ | ⟨s1, _⟩ | ⟨s1, _⟩
        · omega
        · rw [r3, s3]
        · omega
        · omega
      · exact absurd w (c2 q (by omega) (by omega))
      · exact absurd w (c2 q (by omega) r2)
    · have hx : ∃ T, shE kn pt ot b0 E T := by
        rcases g2 with ⟨_, _, _, T, _, r⟩ | ⟨_, _, _, T, _, r⟩ | ⟨_, a, T, _, _, r⟩ | ⟨_, _, a, b, T, _, _, _, r⟩ <;> exact ⟨_, r⟩
      have hx' : ∃ T, shE kn' pt' ot' b0 E T := by
        rcases g2' with ⟨_, _, _, T, _, r⟩ | ⟨_, _, _, T, _, r⟩ | ⟨_, a, T, _, _, r⟩ | ⟨_, _, a, b, T, _, _, _, r⟩ <;> exact ⟨_, r⟩
      obtain ⟨T, hT⟩ := hx
      obtain ⟨T', hT'⟩ := hx'
      exact sh_al hT hT' i h1 (by omega)
end
