/-! ===== the reference's reading does not see what a law leaves behind: two memories that agree elsewhere ===== -/
def jk (a k : Nat) : Bool := decide (a < 134) || (decide (155 ≤ a) && decide (a ≤ 159)) || (a == 134 && (k == 1 || k == 21 || k == 46 || k == 47 || k == 48 || k == 49 || k == 50 || k == 51))
/-- M, with C where jk says so -/
def jf (C M : Nat → Nat → Int32) : Nat → Nat → Int32 := fun a k => if jk a k = true then C a k else M a k
section
variable {C M M' : Nat → Nat → Int32}
theorem jf_rd {a k : Nat} (h : jk a k = false) : jf C M a k = M a k := if_neg (by rw [h]; decide)
theorem jf_jk {a k : Nat} (h : jk a k = true) : jf C M a k = C a k := if_pos h
theorem h_st {a k : Nat} {x x' : Int32} (h : jk a k = false) (hM : M' = jf C M) (hx : x' = x) : sI M' a k x' = jf C (sI M a k x) := by
  subst hM hx
  funext b j
  by_cases e : b = a
  · subst e
    rw [sI_at]
    by_cases ej : j = k
    · subst ej
      rw [if_pos rfl, jf_rd h, sI_at, if_pos rfl]
    · rw [if_neg ej]
      unfold jf
      rw [sI_at, if_neg ej]
  · rw [sI_ne e]
    unfold jf
    rw [sI_ne e]
theorem h_tok (hM : M' = jf C M) : yTok M' = jf C (yTok M) := by
  subst hM
  have e : ∀ n k w p : Int32, tkQ (jf C M) n k w p = jf C (tkQ M n k w p) := fun n k w p => h_st rfl (h_st rfl (h_st rfl (h_st rfl rfl rfl) rfl) rfl) rfl
  exact e _ _ _ _
theorem h_wr {q : Int32} (hM : M' = jf C M) : yWr M' q = jf C (yWr M q) := by
  subst hM
  exact h_st rfl (h_st rfl rfl rfl) rfl
theorem h_if {α : Type} {ψ : α → α} {c c' : Prop} [Decidable c] [Decidable c'] {a a' b b' : α} (hc : c' ↔ c) (ha : a' = ψ a) (hb : b' = ψ b) : (if c' then a' else b') = ψ (if c then a else b) := by
  by_cases h : c
  · rw [if_pos h, if_pos (hc.mpr h)]; exact ha
  · rw [if_neg h, if_neg (fun w => h (hc.mp w))]; exact hb
def pj (C : Nat → Nat → Int32) (q : Bool × (Nat → Nat → Int32)) : Bool × (Nat → Nat → Int32) := (q.1, jf C q.2)
theorem h_p {b : Bool} (hM : M' = jf C M) : (b, M') = pj C (b, M) := by subst hM; rfl
theorem h_B {q q' : Bool × (Nat → Nat → Int32)} {f f' : (Nat → Nat → Int32) → Bool × (Nat → Nat → Int32)} (hq : q' = pj C q) (hf : ∀ K, f' (jf C K) = pj C (f K)) : yB q' f' = pj C (yB q f) := by
  subst hq
  unfold yB
  by_cases h : q.1 = true
  · rw [if_pos h, if_pos (show (pj C q).1 = true from h)]; exact hf q.2
  · rw [if_neg h, if_neg (show ¬ (pj C q).1 = true from h)]
theorem h_num {lo hi : Int32} (hM : M' = jf C M) : yNum M' lo hi = pj C (yNum M lo hi) := by
  subst hM
  exact h_if Iff.rfl (h_p (h_wr rfl)) (h_if Iff.rfl (h_p (h_wr rfl)) (h_p (h_tok (h_st rfl rfl rfl))))
theorem h_pick {lo hi : Int32} (hM : M' = jf C M) : yPick M' lo hi = pj C (yPick M lo hi) := by
  subst hM
  exact h_if Iff.rfl (h_p (h_wr rfl)) (h_if Iff.rfl (h_p (h_wr rfl)) (h_if Iff.rfl (h_p (h_wr rfl)) (h_p (h_st rfl (h_tok rfl) rfl))))
theorem h_per {pr : Nat} (hM : M' = jf C M) : yPer M' pr = pj C (yPer M pr) := by
  subst hM
  exact h_if Iff.rfl (h_p (h_wr rfl)) (h_if Iff.rfl (h_p (h_wr rfl)) (h_p (h_st rfl (h_tok rfl) rfl)))
theorem h_PL {pr : Nat} : yPL pr (jf C M) = pj C (yPL pr M) := by
  unfold yPL
  refine h_if Iff.rfl (h_p (h_wr rfl)) ?_
  rw [h_tok (C := C) (M := M) rfl]
  generalize yTok M = K
  exact h_if Iff.rfl (h_p (h_wr rfl)) (h_if Iff.rfl (h_p (h_wr rfl)) (h_B (h_num (h_tok (h_st rfl rfl rfl))) (fun _ => h_B (h_num (h_st rfl rfl rfl)) (fun _ => h_B (h_num (h_st rfl rfl rfl)) (fun _ => h_p (h_st rfl (h_st rfl rfl rfl) rfl))))))
theorem h_SL {pr sr : Nat} : ySL pr sr (jf C M) = pj C (ySL pr sr M) := by
  unfold ySL
  refine h_if Iff.rfl (h_p (h_wr rfl)) (h_B (h_pick (h_tok rfl)) (fun _ => h_B (h_num (h_st rfl rfl rfl)) (fun _ => h_B (h_num (h_st rfl rfl rfl)) (fun _ => h_B (h_pick (h_st rfl rfl rfl)) (fun _ => h_if Iff.rfl (h_p (h_st rfl (h_st rfl (h_tok (h_st rfl rfl rfl)) rfl) rfl)) (h_B (h_per (h_st rfl rfl rfl)) (fun _ => h_p (h_st rfl (h_st rfl rfl rfl) rfl))))))))
theorem h_DL {pr dr : Nat} : yDL pr dr (jf C M) = pj C (yDL pr dr M) := by
  unfold yDL
  refine h_if Iff.rfl (h_p (h_wr rfl)) (h_B (h_per (h_tok rfl)) (fun _ => h_B (h_per (h_st rfl rfl rfl)) (fun _ => h_if Iff.rfl (h_p (h_wr (h_st rfl (h_st rfl rfl rfl) rfl))) (h_B (h_num (h_st rfl rfl rfl)) (fun _ => h_B (h_num (h_st rfl rfl rfl)) (fun _ => h_p (h_st rfl (h_st rfl rfl rfl) rfl)))))))
theorem h_CL {pr : Nat} : yCL pr (jf C M) = pj C (yCL pr M) := by
  unfold yCL
  rw [h_tok (C := C) (M := M) rfl]
  generalize yTok M = K
  exact h_B (h_per rfl) (fun _ => h_if Iff.rfl (h_p (h_wr (h_st rfl rfl rfl))) (h_B (h_num rfl) (fun _ => h_p (h_st rfl rfl rfl))))
theorem h_RL {rr : Nat} : yRL rr (jf C M) = pj C (yRL rr M) := by
  unfold yRL
  refine h_if Iff.rfl (h_p (h_wr rfl)) (h_B (h_pick (h_tok rfl)) (fun _ => h_B (h_pick (h_st rfl rfl rfl)) (fun _ => h_B (h_num (h_st rfl rfl rfl)) (fun _ => h_B (h_pick (h_st rfl rfl rfl)) (fun _ => h_B (h_pick (h_st rfl rfl rfl)) (fun K => ?_))))))
  have e : sI (jf C K) 151 (32 + 4 * rr + 2) (jf C K 151 (32 + 4 * rr + 2) + jf C K 134 11) = jf C (sI K 151 (32 + 4 * rr + 2) (K 151 (32 + 4 * rr + 2) + K 134 11)) := h_st rfl rfl rfl
  rw [e]
  generalize sI K 151 (32 + 4 * rr + 2) (K 151 (32 + 4 * rr + 2) + K 134 11) = G
  exact h_if Iff.rfl (h_p (h_wr (h_st rfl rfl rfl))) (h_B (h_num rfl) (fun _ => h_p (h_st rfl (h_st rfl rfl rfl) rfl)))
theorem h_end {q q' : Bool × (Nat → Nat → Int32)} (hq : q' = pj C q) : yEnd q' = pj C (yEnd q) := by
  subst hq
  exact h_if Iff.rfl (h_if Iff.rfl (h_p (h_tok rfl)) (h_p (h_wr rfl))) rfl
end
