/-! ===== the reference: the walk that costs least ===== -/
/-- the days walked by a code of n bits (the highest is the first day; 0: walk), k looked at -/
def wkS (cd n : Nat) : Nat → Nat
  | 0 => 0
  | k + 1 => if cd.testBit (n - 1 - k) = true then wkS cd n k else wkS cd n k ||| 2 ^ k
def wkF (fare : Int32) (cd n : Nat) : Nat → Int32
  | 0 => 0
  | k + 1 => if cd.testBit (n - 1 - k) = true then wkF fare cd n k + fare else wkF fare cd n k
theorem wkS_lt (cd n : Nat) : ∀ k, wkS cd n k < 2 ^ k
  | 0 => Nat.zero_lt_one
  | k + 1 => by
    have := wkS_lt cd n k
    have hp : 2 ^ (k + 1) = 2 ^ k + 2 ^ k := by rw [Nat.pow_succ, Nat.mul_two]
    unfold wkS
    split
    · omega
    · exact Nat.or_lt_two_pow (by omega) (by omega)
def yFo (I : Nat → Nat → Int32) (c p n : Nat) (s : Int32) (so : Int32) : Int32 := if I c p < 0 then s else s + (yBe I (ixn (I c p)) p n 0 - yBe I (ixn (I c p)) p n so)
/-- what a code costs -/
def yWS (I : Nat → Nat → Int32) (p n cd : Nat) : Int32 := yFo I 165 p n (yFo I 164 p n (wkF (I 140 p) cd n n) (nI (wkS cd n n))) (nI (wkS cd n n))
def wbf (S : Nat → Int32) (D : Nat → Nat) (x : Nat) (has ws wd : Int32) : Prop := (has = 0 ∧ x = 0) ∨ (has = 1 ∧ ∃ cs, cs < x ∧ ws = S cs ∧ wd = nI (D cs) ∧ ∀ cd, cd < x → S cs ≤ S cd ∧ (cd < cs → S cs < S cd))
theorem wbf_new {S : Nat → Int32} {D : Nat → Nat} {x : Nat} {has ws wd : Int32} (h : wbf S D x has ws wd) (hn : has = 0 ∨ S x < ws) : wbf S D (x + 1) 1 (S x) (nI (D x)) := by
  refine Or.inr ⟨rfl, x, by omega, rfl, rfl, fun cd hc => ?_⟩
  rcases h with ⟨_, hx⟩ | ⟨h1, cs, hcs, hws, _, hm⟩
  · obtain rfl : cd = x := by omega
    exact ⟨Int32.le_refl _, fun w => absurd w (Nat.lt_irrefl _)⟩
  · by_cases e : cd = x
    · subst e; exact ⟨Int32.le_refl _, fun w => absurd w (Nat.lt_irrefl _)⟩
    · have hlt : S x < S cs := by
        rcases hn with w | w
        · rw [h1] at w; exact absurd w (by decide)
        · rw [← hws]; exact w
      have := (hm cd (by omega)).1
      have h3 : S x < S cd := Int32.lt_of_lt_of_le hlt this
      exact ⟨Int32.le_of_lt h3, fun _ => h3⟩
theorem wbf_old {S : Nat → Int32} {D : Nat → Nat} {x : Nat} {has ws wd : Int32} (h : wbf S D x has ws wd) (h0 : ¬ has = 0) (hn : ws ≤ S x) : wbf S D (x + 1) has ws wd := by
  rcases h with ⟨h1, _⟩ | ⟨h1, cs, hcs, hws, hwd, hm⟩
  · exact absurd h1 h0
  · refine Or.inr ⟨h1, cs, by omega, hws, hwd, fun cd hc => ?_⟩
    by_cases e : cd = x
    · subst e; exact ⟨by rw [← hws]; exact hn, fun w => by omega⟩
    · exact hm cd (by omega)
theorem wbf_01 {S : Nat → Int32} {D : Nat → Nat} {x : Nat} {has ws wd : Int32} (h : wbf S D x has ws wd) : has = 0 ∨ has = 1 := by
  rcases h with ⟨h, _⟩ | ⟨h, _⟩
  · exact Or.inl h
  · exact Or.inr h
/-- the walk's memory: sum and days in their cells -/
def yWm (I : Nat → Nat → Int32) (ev ws wd : Int32) : Nat → Nat → Int32 := sI (sI (sI I 134 54 ev) 134 78 ws) 134 79 wd
theorem yWm_e (I : Nat → Nat → Int32) (ev ws wd e2 : Int32) : sI (yWm I ev ws wd) 134 54 e2 = yWm I e2 ws wd := by
  funext a k
  by_cases ha : a = 134
  · subst ha
    unfold yWm
    by_cases h54 : k = 54
    · subst h54; rw [sI_rs, sI_rd (by decide), sI_rd (by decide), sI_rs]
    · rw [sI_rd h54]
      by_cases h79 : k = 79
      · subst h79; rw [sI_rs, sI_rs]
      · rw [sI_rd h79, sI_rd h79]
        by_cases h78 : k = 78
        · subst h78; rw [sI_rs, sI_rs]
        · rw [sI_rd h78, sI_rd h78, sI_rd h54, sI_rd h54]
  · unfold yWm
    rw [sI_ne ha, sI_ne ha, sI_ne ha, sI_ne ha, sI_ne ha, sI_ne ha, sI_ne ha]
theorem yWm_w (I : Nat → Nat → Int32) (ev ws wd a b : Int32) : sI (sI (yWm I ev ws wd) 134 78 a) 134 79 b = yWm I ev a b := by
  funext c k
  by_cases ha : c = 134
  · subst ha
    unfold yWm
    by_cases h79 : k = 79
    · subst h79; rw [sI_rs, sI_rs]
    · rw [sI_rd h79, sI_rd h79]
      by_cases h78 : k = 78
      · subst h78; rw [sI_rs, sI_rs]
      · rw [sI_rd h78, sI_rd h79, sI_rd h78, sI_rd h78]
  · unfold yWm
    rw [sI_ne ha, sI_ne ha, sI_ne ha, sI_ne ha, sI_ne ha, sI_ne ha, sI_ne ha, sI_ne ha]
theorem rep_wm {I : Nat → Nat → Int32} {ev ws wd : Int32} : rep (yWm I ev ws wd) I := (((rep.rf I).scr (a := 134) (k := 54) (by decide) ev).scr (a := 134) (k := 78) (by decide) ws).scr (a := 134) (k := 79) (by decide) wd
