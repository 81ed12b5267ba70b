/-! ===== the machine that reads laws: runs and stops ===== -/
abbrev aSt := List (Nat × Nat) × List Nat × Bool × Bool × Nat × Nat × (Nat → Nat → Int32)
def sumS (c : Nat) (s : aSt) : Nat × List (Nat × Nat) × List Nat × Bool × Bool × Nat × Nat × (Nat → Nat → Int32) := sumA c s.1 s.2.1 s.2.2.1 s.2.2.2.1 s.2.2.2.2.1 s.2.2.2.2.2.1 s.2.2.2.2.2.2
/-- the machine comes from s to s' -/
def mRn (s s' : aSt) : Prop := ∃ m, ∀ c, sumS (m + c) s = sumS c s'
/-- the machine stops from s on with fault f at G's token -/
def mFl (s : aSt) (f : Nat) (G : Nat → Nat → Int32) : Prop := ¬ f = 0 ∧ ∃ m, ∀ c, (sumS (m + c) s).1 = f ∧ (sumS (m + c) s).2.2.2.2.2.2.2 = G
theorem mRn.rf (s : aSt) : mRn s s := ⟨0, fun c => by rw [Nat.zero_add]⟩
theorem mRn.tr {a b d : aSt} (h1 : mRn a b) (h2 : mRn b d) : mRn a d := by
  obtain ⟨m, hm⟩ := h1
  obtain ⟨k, hk⟩ := h2
  exact ⟨m + k, fun c => by rw [Nat.add_assoc, hm, hk]⟩
theorem mRn.fl {a b : aSt} {f : Nat} {G : Nat → Nat → Int32} (h1 : mRn a b) (h2 : mFl b f G) : mFl a f G := by
  obtain ⟨m, hm⟩ := h1
  obtain ⟨h0, k, hk⟩ := h2
  exact ⟨h0, m + k, fun c => by rw [Nat.add_assoc, hm]; exact hk c⟩
section
variable {E : List (Nat × Nat)} {W : List Nat} {mn : Bool} {br cn : Nat} {G : Nat → Nat → Int32}
theorem st_leaf {s : aSt} (h : leafA E W true mn br cn G = (0, s)) : mRn (E, W, true, mn, br, cn, G) s := by
  refine ⟨1, fun c => ?_⟩
  rw [Nat.add_comm]
  show sumA (c + 1) E W true mn br cn G = _
  unfold sumA
  rw [if_neg (fun q => absurd q.2.1 (by decide)), if_pos rfl, h]
  rfl
theorem st_leafF {f : Nat} {s : aSt} (h : leafA E W true mn br cn G = (f, s)) (hf : ¬ f = 0) : mFl (E, W, true, mn, br, cn, G) f s.2.2.2.2.2.2 := by
  refine ⟨hf, 1, fun c => ?_⟩
  rw [Nat.add_comm]
  have e : sumS (c + 1) (E, W, true, mn, br, cn, G) = (f, s) := by
    show sumA (c + 1) E W true mn br cn G = _
    unfold sumA
    rw [if_neg (fun q => absurd q.2.1 (by decide)), if_pos rfl, h]
    exact if_neg hf
  rw [e]
  exact ⟨rfl, rfl⟩
theorem st_sign {s : aSt} (hn : ¬ ((G 134 8 = 4 ∧ G 134 9 = 59) ∧ br = 0)) (h : signsA E W false mn br cn G = (0, s)) : mRn (E, W, false, mn, br, cn, G) s := by
  refine ⟨1, fun c => ?_⟩
  rw [Nat.add_comm]
  show sumA (c + 1) E W false mn br cn G = _
  unfold sumA
  rw [if_neg (fun q => hn ⟨q.1, q.2.2⟩), if_neg (by decide), h]
  rfl
theorem st_signF {f : Nat} {s : aSt} (hn : ¬ ((G 134 8 = 4 ∧ G 134 9 = 59) ∧ br = 0)) (h : signsA E W false mn br cn G = (f, s)) (hf : ¬ f = 0) : mFl (E, W, false, mn, br, cn, G) f s.2.2.2.2.2.2 := by
  refine ⟨hf, 1, fun c => ?_⟩
  rw [Nat.add_comm]
  have e : sumS (c + 1) (E, W, false, mn, br, cn, G) = (f, s) := by
    show sumA (c + 1) E W false mn br cn G = _
    unfold sumA
    rw [if_neg (fun q => hn ⟨q.1, q.2.2⟩), if_neg (by decide), h]
    exact if_neg hf
  rw [e]
  exact ⟨rfl, rfl⟩
/-- the law's end -/
theorem st_end (h : (G 134 8 = 4 ∧ G 134 9 = 59) ∧ br = 0) (c : Nat) : sumS (c + 1) (E, W, false, mn, br, cn, G) = (0, (bindA 1 W E).2, (bindA 1 W E).1, false, mn, br, cn, G) := by
  show sumA (c + 1) E W false mn br cn G = _
  unfold sumA
  rw [if_pos ⟨h.1, rfl, h.2⟩]
end
theorem bindA_up {l l' : Nat} (hl : l ≤ l') : ∀ (W : List Nat) (E : List (Nat × Nat)), bindA l (bindA l' W E).1 (bindA l' W E).2 = bindA l W E
  | [], E => rfl
  | k :: W, E => by
    show bindA l (if l' ≤ rkN k then bindA l' W ((k, 0) :: E) else (k :: W, E)).1 (if l' ≤ rkN k then bindA l' W ((k, 0) :: E) else (k :: W, E)).2 = _
    by_cases h : l' ≤ rkN k
    · rw [if_pos h, bindA_up hl W]
      show _ = if l ≤ rkN k then _ else _
      rw [if_pos (by omega)]
    · rw [if_neg h]
theorem bindA_hd {l : Nat} {W : List Nat} {E : List (Nat × Nat)} (h : rkN (W.headD 0) < l) : bindA l W E = (W, E) := by
  cases W with
  | nil => rfl
  | cons k W =>
    show (if l ≤ rkN k then _ else _) = _
    rw [if_neg (by have : rkN k < l := h; omega)]
theorem bindA_dn {l l' : Nat} {W W' : List Nat} {E E' : List (Nat × Nat)} (h : bindA l' W' E' = (W, E)) (hl : l ≤ l') (hw : rkN (W.headD 0) < l) : bindA l W' E' = (W, E) := by
  rw [← bindA_up hl, h]
  exact bindA_hd hw
theorem bindA_op1 {l l' k : Nat} {W W' : List Nat} {E E' : List (Nat × Nat)} (h : bindA l' W' E' = (k :: W, E)) (hl : l ≤ l') (hk : l ≤ rkN k) (hw : rkN (W.headD 0) < l) : bindA l W' E' = (W, (k, 0) :: E) := by
  rw [← bindA_up hl, h]
  show (if l ≤ rkN k then bindA l W ((k, 0) :: E) else _) = _
  rw [if_pos hk]
  exact bindA_hd hw
theorem bindA_7 (W : List Nat) (E : List (Nat × Nat)) : bindA 7 W E = (W, E) := bindA_hd (by have := rkN_6 (W.headD 0); omega)
/-- no sign of this level or above stands here, or it is a comparison behind a comparison -/
def stS (l : Nat) (E : List (Nat × Nat)) (W : List Nat) (G : Nat → Nat → Int32) : Prop := opA G = 0 ∨ rkN (opA G) ≤ l ∨ (rkN (opA G) = 4 ∧ rkN ((bindA 5 W E).1.headD 0) = 4)
theorem opA_3 (G : Nat → Nat → Int32) : opA G = 0 ∨ 3 ≤ opA G := by
  unfold opA
  repeat' split
  all_goals omega
theorem rk_pos {k : Nat} (h : 3 ≤ k) : 1 ≤ rkN k := by
  unfold rkN
  repeat' split
  all_goals omega
theorem st_stop {E : List (Nat × Nat)} {W : List Nat} {mn : Bool} {br cn : Nat} {G : Nat → Nat → Int32} (h : stS 0 E W G) (h1 : ¬ ((G 134 8 = 4 ∧ G 134 9 = 59) ∧ br = 0)) (h2 : ¬ ((G 134 8 = 4 ∧ G 134 9 = 41) ∧ 0 < br)) : mFl (E, W, false, mn, br, cn, G) 1 G := by
  refine st_signF (s := (E, W, false, mn, br, cn, G)) h1 ?_ (by decide)
  unfold signsA
  rw [if_neg h2]
  by_cases c : opA G = 0
  · rw [if_pos c]
  · rw [if_neg c]
    have h3 := (opA_3 G).resolve_left c
    have h4 := rk_pos h3
    have h5 : rkN (opA G) = 4 ∧ rkN ((bindA 5 W E).1.headD 0) = 4 := by
      rcases h with q | q | q
      · exact absurd q c
      · omega
      · exact q
    rw [if_pos h5]
/-- enough is enough -/
theorem lf_9 (E : List (Nat × Nat)) (W : List Nat) (wn mn : Bool) (br cn : Nat) (G : Nat → Nat → Int32) : (leafA E W wn mn br cn G).1 ≤ 2 ∧ (signsA E W wn mn br cn G).1 ≤ 2 := by
  constructor
  · unfold leafA
    repeat' split
    all_goals exact Nat.le_of_ble_eq_true rfl
  · unfold signsA
    repeat' split
    all_goals exact Nat.le_of_ble_eq_true rfl
theorem sumA_up : ∀ (c : Nat) (s : aSt), ¬ (sumS c s).1 = 9 → sumS (c + 1) s = sumS c s
  | 0, s, h => absurd rfl h
  | c + 1, (E, W, wn, mn, br, cn, G), h => by
    have e : ∀ k, sumS (k + 1) (E, W, wn, mn, br, cn, G) = if (G 134 8 = 4 ∧ G 134 9 = 59) ∧ wn = false ∧ br = 0 then (0, (bindA 1 W E).2, (bindA 1 W E).1, wn, mn, br, cn, G) else (if (if wn = true then leafA E W true mn br cn G else signsA E W false mn br cn G).1 = 0 then sumS k (if wn = true then leafA E W true mn br cn G else signsA E W false mn br cn G).2 else (if wn = true then leafA E W true mn br cn G else signsA E W false mn br cn G)) := fun k => rfl
    rw [e] at h
    rw [e, e]
    by_cases c1 : (G 134 8 = 4 ∧ G 134 9 = 59) ∧ wn = false ∧ br = 0
    · rw [if_pos c1, if_pos c1]
    · rw [if_neg c1] at h
      rw [if_neg c1, if_neg c1]
      generalize (if wn = true then leafA E W true mn br cn G else signsA E W false mn br cn G) = X at h
      by_cases c2 : X.1 = 0
      · rw [if_pos c2] at h
        rw [if_pos c2, if_pos c2]
        exact sumA_up c X.2 h
      · rw [if_neg c2, if_neg c2]
theorem sumA_ups (s : aSt) {c : Nat} (h : ¬ (sumS c s).1 = 9) : ∀ m, sumS (m + c) s = sumS c s
  | 0 => by rw [Nat.zero_add]
  | m + 1 => by
    have e := sumA_ups s h m
    rw [show m + 1 + c = (m + c) + 1 by omega, sumA_up (m + c) s (by rw [e]; exact h), e]
theorem sumA_9 : ∀ (c : Nat) (s : aSt), prI s.2.2.2.2.2.2 → muG s.2.2.2.2.2.2 < c → ¬ (sumS c s).1 = 9
  | 0, s, _, h => absurd h (Nat.not_lt_zero _)
  | c + 1, (E, W, wn, mn, br, cn, G), hp, h => by
    have e : sumS (c + 1) (E, W, wn, mn, br, cn, G) = if (G 134 8 = 4 ∧ G 134 9 = 59) ∧ wn = false ∧ br = 0 then (0, (bindA 1 W E).2, (bindA 1 W E).1, wn, mn, br, cn, G) else (if (if wn = true then leafA E W true mn br cn G else signsA E W false mn br cn G).1 = 0 then sumS c (if wn = true then leafA E W true mn br cn G else signsA E W false mn br cn G).2 else (if wn = true then leafA E W true mn br cn G else signsA E W false mn br cn G)) := rfl
    rw [e]
    by_cases c1 : (G 134 8 = 4 ∧ G 134 9 = 59) ∧ wn = false ∧ br = 0
    · rw [if_pos c1]; exact fun w => Nat.noConfusion (show 0 = 9 from w)
    · rw [if_neg c1]
      have hl := lf_9 E W true mn br cn G
      have hs := lf_9 E W false mn br cn G
      have hG : ∀ X, X = (if wn = true then leafA E W true mn br cn G else signsA E W false mn br cn G) → X.1 = 0 → X.2.2.2.2.2.2.2 = yTok G ∧ ¬ G 134 8 = 0 := by
        rintro ⟨f, E', W', wn', mn', br', cn', G'⟩ hX h0
        have h0' : f = 0 := h0
        subst h0'
        by_cases w : wn = true
        · rw [if_pos w] at hX; exact leafA_G hX.symm
        · rw [if_neg w] at hX; exact signsA_G hX.symm
      have h2 : (if wn = true then leafA E W true mn br cn G else signsA E W false mn br cn G).1 ≤ 2 := by
        by_cases w : wn = true
        · rw [if_pos w]; exact hl.1
        · rw [if_neg w]; exact hs.2
      generalize (if wn = true then leafA E W true mn br cn G else signsA E W false mn br cn G) = X at hG h2
      obtain hG := hG X rfl
      by_cases c2 : X.1 = 0
      · rw [if_pos c2]
        obtain ⟨g1, g2⟩ := hG c2
        have hp' : prI G := hp
        have h' : muG G < c + 1 := h
        have := muG_tok hp' g2
        refine sumA_9 c X.2 ?_ ?_
        · rw [g1]; exact prI_tok hp'
        · rw [g1]; omega
      · rw [if_neg c2]; omega
/-- what the machine answers, by where it comes to -/
theorem mRn_ans {s s' : aSt} (h : mRn s s') (h9 : ¬ (sumS 1500 s).1 = 9) : sumS 1500 s = sumS 1500 s' := by
  obtain ⟨m, hm⟩ := h
  have := hm 1500
  rw [sumA_ups s h9] at this
  exact this
theorem mFl_ans {s : aSt} {f : Nat} {G : Nat → Nat → Int32} (h : mFl s f G) (h9 : ¬ (sumS 1500 s).1 = 9) : (sumS 1500 s).1 = f ∧ (sumS 1500 s).2.2.2.2.2.2.2 = G := by
  obtain ⟨-, m, hm⟩ := h
  have := hm 1500
  rw [sumA_ups s h9] at this
  exact this
