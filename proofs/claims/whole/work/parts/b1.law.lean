/-! ===== the class: a law's line beside the reference's ===== -/
theorem sumS_b : ∀ (c : Nat) (s : aSt), (sumS c s).1 ≤ 9
  | 0, s => Nat.le_refl 9
  | c + 1, (E, W, wn, mn, br, cn, G) => by
    have e : sumS (c + 1) (E, W, wn, mn, br, cn, G) = if (G 134 8 = 4 ∧ G 134 9 = 59) ∧ wn = false ∧ br = 0 then (0, (bindA 1 W E).2, (bindA 1 W E).1, wn, mn, br, cn, G) else (if (if wn = true then leafA E W true mn br cn G else signsA E W false mn br cn G).1 = 0 then sumS c (if wn = true then leafA E W true mn br cn G else signsA E W false mn br cn G).2 else (if wn = true then leafA E W true mn br cn G else signsA E W false mn br cn G)) := rfl
    rw [e]
    by_cases h : (G 134 8 = 4 ∧ G 134 9 = 59) ∧ wn = false ∧ br = 0
    · rw [if_pos h]; exact Nat.zero_le _
    · rw [if_neg h]
      generalize hZ : (if wn = true then leafA E W true mn br cn G else signsA E W false mn br cn G) = Z
      by_cases h0 : Z.1 = 0
      · rw [if_pos h0]; exact sumS_b c Z.2
      · rw [if_neg h0, ← hZ]
        cases wn with
        | true => exact Nat.le_trans (lf_9 E W true mn br cn G).1 (by decide)
        | false => exact Nat.le_trans (lf_9 E W false mn br cn G).2 (by decide)
theorem shE_at {kn pt ot : Nat → Int32} {b0 : Nat} : ∀ {E : List (Nat × Nat)} {S : List Nat}, shE kn pt ot b0 E S → ∀ i q v, E.reverse[i]? = some (q, v) → kn (b0 + i) = nI q ∧ q ≤ 14 ∧ (q < 2 → pt (b0 + i) = nI v)
  | [], S, h, i, q, v, hi => by simp at hi
  | (q0, v0) :: E, S, h, i, q, v, hi => by
    rw [List.reverse_cons] at hi
    by_cases hl : i < E.length
    · rw [List.getElem?_append_left (by simpa using hl)] at hi
      obtain ⟨_, h⟩ := h
      rcases h with ⟨_, _, _, S', _, h⟩ | ⟨_, _, _, S', _, h⟩ | ⟨_, a, S', _, _, h⟩ | ⟨_, _, a, b, S', _, _, _, h⟩ <;> exact shE_at h i q v hi
    · rw [List.getElem?_append_right (by simpa using Nat.le_of_not_lt hl)] at hi
      have hi0 : i = E.length := by
        have h1 : i - E.reverse.length < 1 := by
          have := (List.getElem?_eq_some_iff.mp hi).1
          simpa using this
        rw [List.length_reverse] at h1
        omega
      subst hi0
      rw [List.length_reverse, Nat.sub_self] at hi
      have hq : (q0, v0) = (q, v) := by simpa using hi
      cases hq
      obtain ⟨h0, h⟩ := h
      rcases h with ⟨c1, c2, c3, S', _, _⟩ | ⟨c1, c2, c3, S', _, _⟩ | ⟨c1, a, S', _, _, _⟩ | ⟨c1, c2, a, b, S', _, _, _, _⟩
      · exact ⟨h0, by omega, fun _ => c3⟩
      · exact ⟨h0, by omega, fun _ => c3⟩
      · exact ⟨h0, by omega, fun w => by omega⟩
      · exact ⟨h0, c2, fun w => by omega⟩
theorem cdR_pt {c x p : Int32} {q v : Nat} (h : cdR c x (nI q) (nI v)) (hq : q ≤ 14) (hp : q < 2 → p = nI v) : cdR c x (nI q) p := by
  rcases h with ⟨a1, a2, a3⟩ | ⟨a1, a2, a3⟩ | h
  · have : q = 0 := (nI_eq (a := q) (b := 0) (by omega) (by decide)).mp a1
    exact Or.inl ⟨a1, a2, by rw [hp (by omega)]; exact a3⟩
  · have : q = 1 := (nI_eq (a := q) (b := 1) (by omega) (by decide)).mp a1
    exact Or.inr (Or.inl ⟨a1, a2, by rw [hp (by omega)]; exact a3⟩)
  · exact Or.inr (Or.inr h)
theorem cdL_sh {X : Nat → Nat → Int32} {kn pt ot : Nat → Int32} {t b0 : Nat} {E : List (Nat × Nat)} {S : List Nat} (h : cdL X t b0 E) (hS : shE kn pt ot b0 E S) : ∀ i, i < E.length → cdR (X (t + 20) (b0 + i)) (X (t + 21) (b0 + i)) (kn (b0 + i)) (pt (b0 + i)) := fun i hi => by
  obtain ⟨⟨q, v⟩, hx⟩ : ∃ x, E.reverse[i]? = some x := ⟨_, List.getElem?_eq_getElem (by simpa using hi)⟩
  obtain ⟨e1, e2, e3⟩ := shE_at hS i q v hx
  rw [e1]
  exact cdR_pt (h i q v hx) e2 e3
theorem lr_3 : ∀ r, r < 3 → lr r < 3 := by decide
theorem lr_inj : ∀ r, r < 3 → ∀ s, s < 3 → lr r = lr s → r = s := by decide
/-- one more law has been told -/
theorem dLw_add {I J X K : Nat → Nat → Int32} {t kr len r : Nat} (hr : r < 3) (h : dLw I J t kr) (hle : kr + len ≤ 64) (x0 : X (t + 19) 0 = nI (kr + len)) (x1 : X (t + 19) 1 = nI (kr + len)) (x24 : X (t + 24) = upd (I (t + 24)) r 1) (x22 : X (t + 22) = upd (I (t + 22)) r (nI kr)) (x23 : X (t + 23) r = nI (kr + len)) (x23' : ∀ j, j ≠ r → X (t + 23) j = I (t + 23) j) (xl : ∀ i, i < kr → X (t + 20) i = I (t + 20) i ∧ X (t + 21) i = I (t + 21) i)
    (k152 : K 152 = upd (J 152) (3 + lr r) 1) (k153 : K 153 = upd (J 153) (3 + lr r) (nI kr)) (k154 : K 154 = upd (J 154) (3 + lr r) (nI (kr + len))) (kl : ∀ j, j < 64 + kr → K 155 j = J 155 j ∧ K 156 j = J 156 j) (hc : ∀ i, i < len → cdR (X (t + 20) (kr + i)) (X (t + 21) (kr + i)) (K 155 (64 + (kr + i))) (K 156 (64 + (kr + i)))) : dLw X K t (kr + len) := by
  refine ⟨x0, x1, hle, fun s hs => ?_⟩
  by_cases e : s = r
  · subst e
    refine Or.inr ⟨by rw [x24, upd_eq], by rw [k152, upd_eq], kr, kr + len, by omega, by omega, by rw [x22, upd_eq], by rw [k153, upd_eq], x23, by rw [k154, upd_eq], fun i h1 h2 => ?_⟩
    have := hc (i - kr) (by omega)
    rw [show kr + (i - kr) = i by omega] at this
    exact this
  · have hl : 3 + lr s ≠ 3 + lr r := fun w => e (lr_inj s hs r hr (by omega))
    rw [x24, upd_ne e, k152, upd_ne hl, x22, upd_ne e, k153, upd_ne hl, x23' s e, k154, upd_ne hl]
    rcases h.2.2.2 s hs with q | ⟨q1, q2, b, e', w1, w2, w3, w4, w5, w6, w7⟩
    · exact Or.inl q
    · refine Or.inr ⟨q1, q2, b, e', w1, by omega, w3, w4, w5, w6, fun i h1 h2 => ?_⟩
      rw [(xl i (by omega)).1, (xl i (by omega)).2, (kl (64 + i) (by omega)).1, (kl (64 + i) (by omega)).2]
      exact w7 i h1 h2
theorem law_rng {X J : Nat → Nat → Int32} {n : Nat} (h : rdR X J n) : (kIn X 13 15 ↔ (J 134 8 = 1 ∧ ¬ J 134 9 < 13 ∧ ¬ 15 < J 134 9)) ∧ (kIn X 13 15 → ∃ r, r < 3 ∧ X 58 0 - nI 13 = nI r ∧ 3 + ixn (J 134 9) - 13 = 3 + lr r) := by
  have key := tk_rng h.1 (lo := 13) (hi := 15) (by decide) (by decide) (by decide)
  refine ⟨key.1, fun w => ?_⟩
  obtain ⟨i, i1, i2, i3, i4⟩ := key.2 w
  rw [i3, i4]
  have hi : i = 13 ∨ i = 14 ∨ i = 15 := by omega
  rcases hi with rfl | rfl | rfl
  · exact ⟨0, by decide, by decide, by decide⟩
  · exact ⟨2, by decide, by decide, by decide⟩
  · exact ⟨1, by decide, by decide, by decide⟩
theorem lnL_no {J K : Nat → Nat → Int32} {kr : Nat} {b : Bool} (h : lnL J kr b K) (hn : ¬ (yTok J 134 8 = 1 ∧ ¬ yTok J 134 9 < 13 ∧ ¬ 15 < yTok J 134 9)) : (b, K) = (false, yWr (yTok J) 1) := by
  unfold lnL at h
  dsimp only at h
  by_cases h1 : yTok J 134 8 = 1
  · rw [if_neg (fun w => w h1)] at h
    by_cases h2 : yTok J 134 9 < 13
    · rw [if_pos h2] at h; exact h
    · rw [if_neg h2] at h
      by_cases h3 : 15 < yTok J 134 9
      · rw [if_pos h3] at h; exact h
      · exact absurd ⟨h1, h2, h3⟩ hn
  · rw [if_pos h1] at h; exact h
theorem lnL_yes {J K : Nat → Nat → Int32} {kr k : Nat} {b : Bool} (h : lnL J kr b K) (hy : yTok J 134 8 = 1 ∧ ¬ yTok J 134 9 < 13 ∧ ¬ 15 < yTok J 134 9) (hk : 3 + ixn (yTok J 134 9) - 13 = k) : (¬ yTok J 152 k = 0 → (b, K) = (false, yWr (yTok J) 3)) ∧ (yTok J 152 k = 0 → ∃ f E W wn mn br cn G J4, sumA 1500 [] [] true true 0 kr (sI (yTok (sI (yTok J) 152 k 1)) 153 k (nI kr)) = (f, E, W, wn, mn, br, cn, G) ∧ lwR (sI (yTok (sI (yTok J) 152 k 1)) 153 k (nI kr)) J4 kr f E cn G ∧ (b, K) = yEnd (decide (f = 0), sI J4 154 k (J4 134 21))) := by
  unfold lnL at h
  dsimp only at h
  rw [if_neg (fun w => w hy.1), if_neg hy.2.1, if_neg hy.2.2, hk] at h
  refine ⟨fun w => ?_, fun w => ?_⟩
  · rw [if_pos w] at h; exact h
  · rw [if_neg (fun z => z w)] at h; exact h
/-- the reference's counts -/
def cnE (J : Nat → Nat → Int32) (pr sr dr rr kr : Nat) : Prop := J 134 17 = nI pr ∧ J 134 18 = nI sr ∧ J 134 19 = nI dr ∧ J 134 20 = nI rr ∧ J 134 21 = nI kr
/-- what a line leaves alone; the laws' bounds stay in order -/
def frL (t : Nat) (I I' : Nat → Nat → Int32) : Prop := (∀ a, a ≠ 57 → a ≠ 58 → (a < t ∨ t + 26 < a) → I' a = I a) ∧ (lOK I t → lOK I' t)
theorem lOK_e {I J : Nat → Nat → Int32} {t : Nat} (h1 : J (t + 22) = I (t + 22)) (h2 : J (t + 23) = I (t + 23)) (h : lOK I t) : lOK J t := lOK_cg h1 h2 h
theorem frL_of {t : Nat} {I I' : Nat → Nat → Int32} (ht : t = 3 ∨ t = 30) (h : frO t I I') : frL t I I' := ⟨fun a a1 a2 a3 => h a a1 a2 (by omega), lOK_e (h _ (by omega) (by omega) (by omega)) (h _ (by omega) (by omega) (by omega))⟩
theorem frL_57 {t : Nat} {I I' : Nat → Nat → Int32} (ht : t = 3 ∨ t = 30) (h : ∀ a, a ≠ 57 → a ≠ 58 → I' a = I a) : frL t I I' := frL_of ht (fun a a1 a2 _ => h a a1 a2)
theorem frL.rf (t : Nat) (I : Nat → Nat → Int32) : frL t I I := ⟨fun _ _ _ _ => rfl, id⟩
theorem frL.tr {t : Nat} {I J K : Nat → Nat → Int32} (h1 : frL t I J) (h2 : frL t J K) : frL t I K := ⟨fun a a1 a2 a3 => (h2.1 a a1 a2 a3).trans (h1.1 a a1 a2 a3), fun w => h2.2 (h1.2 w)⟩
/-- behind a line the class stands as the reference's outcome (b, K) says, its end not read yet -/
def lnO (b : Bool) (K I : Nat → Nat → Int32) (L : Nat → Nat → Int64) (P : Nat → Nat → Option Nat) (n t : Nat) : Option Value → pM → Prop := fun r M => ∃ I' b1, r = some (.int (bI b1)) ∧ M = (I', L, P) ∧ frL t I I' ∧ (b1 = false → b = false ∧ scF (false, K) I') ∧ (b1 = true → ∃ G, rdR I' G n ∧ I' 57 1 = 0 ∧ (I' 57 0 = I 57 0 ∧ I' 57 2 = I 57 2) ∧ (¬ (G 134 8 = 4 ∧ G 134 9 = 59) → b = false ∧ K 134 4 = 1 ∧ K 134 5 = G 134 10) ∧ (G 134 8 = 4 ∧ G 134 9 = 59 → b = true ∧ (∀ Z, rdR Z (yTok G) n → rdR Z K n) ∧ ∃ pr sr dr rr kr, cnE K pr sr dr rr kr ∧ txD I' K t pr sr dr rr kr))
theorem lnO_r {b : Bool} {K I Z G : Nat → Nat → Int32} {L : Nat → Nat → Int64} {P : Nat → Nat → Option Nat} {n t : Nat} {k : Int32} (ht : t = 3 ∨ t = 30) (h : (b, K) = (false, yWr G k)) (hr : rdR Z G n) (hk : ¬ k = 0) (ho : frL t I Z) : lnO b K I L P n t (some (.int 0)) (scRf Z k, L, P) := by
  have h1 : b = false := congrArg Prod.fst h
  have h2 : K = yWr G k := congrArg Prod.snd h
  have hs := scRf_sb hr hk
  refine ⟨_, false, rfl, rfl, ho.tr (frL_57 ht hs.2.2), fun _ => ⟨h1, ?_⟩, fun w => by cases w⟩
  rw [h2]
  exact ⟨rfl, hs.2.1 rfl⟩
theorem rdR_tq {Z J G : Nat → Nat → Int32} {n : Nat} (h : tq J G) (hr : rdR Z G n) : rdR Z J n := rdR_J hr (fun k hk => by
  have hk' : 6 ≤ k ∧ k ≤ 10 := by
    simp at hk; omega
  exact h.2.2 k (by omega) hk'.2) h.1
theorem tq_rf (G : Nat → Nat → Int32) : tq G G := ⟨rfl, rfl, fun _ _ _ => rfl⟩
theorem law_fin {I J K I2 I' J4 G : Nat → Nat → Int32} {L : Nat → Nat → Int64} {P : Nat → Nat → Option Nat} {n t pr sr dr rr kr r f cn br : Nat} {b b1 wn mn : Bool} {E : List (Nat × Nat)} {W : List Nat} (ht : t = 3 ∨ t = 30) (hp : prI J) (hd : txD I J t pr sr dr rr kr) (hc : cnE J pr sr dr rr kr) (h0 : I 57 1 = 0) (hr3 : r < 3) (h2 : ∀ a, a ≠ 58 → I2 a = I a)
    (hX : sumA 1500 [] [] true true 0 kr (sI (yTok (sI (yTok J) 152 (3 + lr r) 1)) 153 (3 + lr r) (nI kr)) = (f, E, W, wn, mn, br, cn, G)) (hw : lwR (sI (yTok (sI (yTok J) 152 (3 + lr r) 1)) 153 (3 + lr r) (nI kr)) J4 kr f E cn G) (hb : (b, K) = yEnd (decide (f = 0), sI J4 154 (3 + lr r) (J4 134 21)))
    (hF : lvF t (kr + ([] : List (Nat × Nat)).length) (lOpen I2 t r) I')
    (hT : b1 = true → ∃ E' W' mn' cn' G' E1, mRn ([], [], true, true, 0, kr, sI (yTok (sI (yTok J) 152 (3 + lr r) 1)) 153 (3 + lr r) (nI kr)) (E', W', false, mn', 0, cn', G') ∧ bindA (0 + 1) W' E' = ([], E1) ∧ stS 0 E' W' G' ∧ lvI I' G' n t kr E1 [] cn' ∧ ([] : List (Nat × Nat)).length ≤ E1.length ∧ I' 57 = lOpen I2 t r 57)
    (hN : b1 = false → ∃ f G', mFl ([], [], true, true, 0, kr, sI (yTok (sI (yTok J) 152 (3 + lr r) 1)) 153 (3 + lr r) (nI kr)) f G' ∧ I' 57 1 = nI f ∧ I' 57 2 = G' 134 10) :
    lnO b K I L P n t (some (.int (bI b1))) (sI I' (t + 23) r (I' (t + 19) 1), L, P) := by
  have hl3 := lr_3 r hr3
  obtain ⟨k, hk⟩ : ∃ k, k = 3 + lr r := ⟨_, rfl⟩
  rw [← hk] at hX hw hb hT hN
  obtain ⟨I3, hI3⟩ : ∃ I3, I3 = sI (yTok (sI (yTok J) 152 k 1)) 153 k (nI kr) := ⟨_, rfl⟩
  rw [← hI3] at hX hw hT hN
  have p1 := prI_tok hp
  have p2 := prI_tok (prI_st (a := 152) (k := k) p1 (by decide) 1)
  have p3 : prI I3 := by rw [hI3]; exact prI_st p2 (by decide) _
  have h9 : ¬ (sumS 1500 ([], [], true, true, 0, kr, I3)).1 = 9 := sumA_9 1500 _ p3 (Nat.lt_of_le_of_lt (muG_le p3) (by decide))
  have hS : sumS 1500 ([], [], true, true, 0, kr, I3) = (f, E, W, wn, mn, br, cn, G) := hX
  have hf9 : f ≤ 9 := by have := sumS_b 1500 ([], [], true, true, 0, kr, I3); rw [hS] at this; exact this
  obtain ⟨w1, w2, w3, w4⟩ := hw
  -- the class's memory
  have o57 : lOpen I2 t r 57 = I 57 := by unfold lOpen; (repeat rw [sI_ne (by omega)]); exact h2 57 (by decide)
  have oO : ∀ a, a ≠ 57 → a ≠ 58 → (a < t ∨ t + 26 < a) → lOpen I2 t r a = I a := fun a a1 a2 a3 => by unfold lOpen; (repeat rw [sI_ne (by omega)]); exact h2 a a2
  have fo : frL t I (sI I' (t + 23) r (I' (t + 19) 1)) := by
    refine ⟨fun a a1 a2 a3 => by rw [sI_ne (by omega), hF.1 a a1 a2 (by omega) (by omega) (by omega)]; exact oO a a1 a2 a3, fun hlo s hs => ?_⟩
    have k64 := hd.2.2.2.2.2.2.2.2.2.1
    have o19 : lOpen I2 t r (t + 19) 1 = nI kr := by unfold lOpen; (repeat rw [sI_ne (by omega)]); rw [h2 _ (by omega)]; exact hd.2.2.2.2.2.2.2.2.1
    have i19 : I2 (t + 19) 1 = nI kr := by rw [h2 _ (by omega)]; exact hd.2.2.2.2.2.2.2.2.1
    obtain ⟨v, v1, v2, v3⟩ := hF.2.2 kr k64 o19
    rw [sI_ne (show t + 22 ≠ t + 23 by omega), hF.1 (t + 22) (by omega) (by omega) (by omega) (by omega) (by omega)]
    by_cases e : s = r
    · subst e
      refine ⟨kr, v, ?_, by rw [sI_rs]; exact v3, v1, v2⟩
      unfold lOpen; rw [sI_ne (by omega), sI_rs]; exact i19
    · obtain ⟨b', e', q1, q2, q3, q4⟩ := hlo s hs
      refine ⟨b', e', ?_, ?_, q3, q4⟩
      · unfold lOpen; rw [sI_ne (by omega), sI_rd e, sI_ne (by omega), h2 _ (by omega)]; exact q1
      · rw [sI_rd e, hF.1 (t + 23) (by omega) (by omega) (by omega) (by omega) (by omega)]; unfold lOpen; rw [sI_rd e, sI_ne (by omega), sI_ne (by omega), h2 _ (by omega)]; exact q2
  have c57 : sI I' (t + 23) r (I' (t + 19) 1) 57 = I' 57 := sI_ne (by omega)
  -- the machine fails
  have bad : ∀ {f' : Nat} {G' : Nat → Nat → Int32}, mFl ([], [], true, true, 0, kr, I3) f' G' → b = false ∧ K 134 4 = nI f' ∧ K 134 5 = G' 134 10 ∧ ¬ K 134 4 = 0 := fun {f' G'} hm => by
    obtain ⟨e1, e2⟩ := mFl_ans hm h9
    rw [hS] at e1 e2
    have e1' : f = f' := e1
    have e2' : G = G' := e2
    subst e1' e2'
    have hf0 : ¬ f = 0 := hm.1
    obtain ⟨g1, g2⟩ := w4 hf0
    rw [decide_eq_false hf0] at hb
    have hb' : (b, K) = (false, sI J4 154 k (J4 134 21)) := hb
    have q1 : b = false := congrArg Prod.fst hb'
    have q2 : K = sI J4 154 k (J4 134 21) := congrArg Prod.snd hb'
    have q3 : K 134 = J4 134 := by rw [q2, sI_ne (by decide)]
    refine ⟨q1, by rw [q3]; exact g1, by rw [q3]; exact g2, by rw [q3, g1]; intro w; exact hf0 ((nI_eq (b := 0) (by omega) (by decide)).mp w)⟩
  cases b1 with
  | false =>
    obtain ⟨f', G', m1, m2, m3⟩ := hN rfl
    obtain ⟨q1, q2, q3, q4⟩ := bad m1
    exact ⟨_, false, rfl, rfl, fo, fun _ => ⟨q1, rfl, by rw [c57, m2]; exact q2.symm, by rw [c57, m3]; exact q3.symm, q4⟩, fun w => by cases w⟩
  | true =>
    obtain ⟨E', W', mn', cn', G', E1, m1, m2, m3, m4, m5, m6⟩ := hT rfl
    have rC : rdR (sI I' (t + 23) r (I' (t + 19) 1)) G' n := rdR_sX m4.1 (by omega) _ _
    have z57 : sI I' (t + 23) r (I' (t + 19) 1) 57 = I 57 := by rw [c57, m6, o57]
    refine ⟨_, true, rfl, rfl, fo, fun w => (by cases w), fun _ => ⟨G', rC, by rw [z57]; exact h0, ⟨by rw [z57], by rw [z57]⟩, fun hn => ?_, fun hy => ?_⟩⟩
    · have hm : mFl ([], [], true, true, 0, kr, I3) 1 G' := m1.fl (st_stop m3 (fun w => hn w.1) (fun w => absurd w.2 (by decide)))
      obtain ⟨q1, q2, q3, q4⟩ := bad hm
      exact ⟨q1, q2, q3⟩
    · have e := mRn_ans m1 h9
      rw [hS, show (1500 : Nat) = 1499 + 1 from rfl, st_end ⟨hy, rfl⟩ 1499] at e
      rw [show bindA 1 W' E' = ([], E1) from m2] at e
      have ef : f = 0 := congrArg Prod.fst e
      have e2 := congrArg Prod.snd e
      have eE : E = E1 := congrArg Prod.fst e2
      have ec : cn = cn' := congrArg (fun z => z.2.2.2.2.2.1) e2
      have eG : G = G' := congrArg (fun z => z.2.2.2.2.2.2) e2
      subst ef eE ec eG
      obtain ⟨⟨x, s1⟩, s2, s3, s4, s5, s6, s7, s8⟩ := w3 rfl
      obtain ⟨J5, hJ5⟩ : ∃ J5, J5 = sI J4 154 k (J4 134 21) := ⟨_, rfl⟩
      rw [← hJ5, decide_eq_true rfl] at hb
      have t5 : tq J5 G := by rw [hJ5]; exact tq_st s5 (by decide) _
      have hb' : (b, K) = (true, yTok J5) := by
        rw [hb]; unfold yEnd; rw [if_pos rfl, if_pos ⟨(t5.2.2 8 (by decide) (by decide)).trans s7, (t5.2.2 9 (by decide) (by decide)).trans s8⟩]
      have q1 : b = true := congrArg Prod.fst hb'
      have q2 : K = yTok J5 := congrArg Prod.snd hb'
      have tK : tq K (yTok G) := by rw [q2]; exact tq_tok t5
      have fK := prF_tok J5
      rw [← q2] at fK
      -- the reference's cells
      have j3 : ∀ a, a ≠ 134 → a ≠ 152 → a ≠ 153 → I3 a = J a := fun a a1 a2 a3 => by
        rw [hI3, sI_ne a3, (prF_tok _).1 a a1, sI_ne a2, (prF_tok J).1 a a1]
      have j34 : ∀ q, q ∉ [4, 5, 7, 8, 9, 10, 11] → I3 134 q = J 134 q := fun q hq => by
        rw [hI3, sI_ne (by decide), (prF_tok _).2 q hq, sI_ne (by decide), (prF_tok J).2 q hq]
      have jK : ∀ a, a ∉ [134, 152, 153, 154, 155, 156, 157, 158, 159] → K a = J a := fun a ha => by
        have ha' : a ≠ 134 ∧ a ≠ 152 ∧ a ≠ 153 ∧ a ≠ 154 ∧ a ≠ 155 ∧ a ≠ 156 ∧ a ≠ 157 ∧ a ≠ 158 ∧ a ≠ 159 := by simpa using ha
        rw [fK.1 a ha'.1, hJ5, sI_ne ha'.2.2.2.1, w2.1 a (by simp; omega), j3 a ha'.1 ha'.2.1 ha'.2.2.1]
      have jK4 : ∀ q, q ∉ [4, 5, 7, 8, 9, 10, 11, 21, 46, 47, 48, 49, 50, 51] → K 134 q = J 134 q := fun q hq => by
        rw [fK.2 q (fun w => hq (by revert w; simp; omega)), hJ5, sI_ne (by decide), w2.2.1 q hq, j34 q (fun w => hq (by revert w; simp; omega))]
      have e21 : J4 134 21 = nI (kr + E.length) := s1.2.1
      have n152 : K 152 = upd (J 152) k 1 := by
        rw [fK.1 152 (by decide), hJ5, sI_ne (by decide), w2.1 152 (by decide), hI3, sI_ne (by decide), (prF_tok _).1 152 (by decide), sI_eq, (prF_tok J).1 152 (by decide)]
      have n153 : K 153 = upd (J 153) k (nI kr) := by
        rw [fK.1 153 (by decide), hJ5, sI_ne (by decide), w2.1 153 (by decide), hI3, sI_eq, (prF_tok _).1 153 (by decide), sI_ne (by decide), (prF_tok J).1 153 (by decide)]
      have n154 : K 154 = upd (J 154) k (nI (kr + E.length)) := by
        rw [fK.1 154 (by decide), hJ5, sI_eq, e21, w2.1 154 (by decide), j3 154 (by decide) (by decide) (by decide)]
      have n155 : K 155 = J4 155 := by rw [fK.1 155 (by decide), hJ5, sI_ne (by decide)]
      have n156 : K 156 = J4 156 := by rw [fK.1 156 (by decide), hJ5, sI_ne (by decide)]
      -- the class's cells
      have x : ∀ a, t ≤ a → a < t + 25 → a ≠ t + 19 → a ≠ t + 20 → a ≠ t + 21 → a ≠ t + 22 → a ≠ t + 23 → a ≠ t + 24 → sI I' (t + 23) r (I' (t + 19) 1) a = I a := fun a a1 a2 a3 a4 a5 a6 a7 a8 => by
        rw [sI_ne a7, hF.1 a (by omega) (by omega) a3 a4 a5]; unfold lOpen; rw [sI_ne a7, sI_ne a6, sI_ne a8, h2 a (by omega)]
      have v1 : I' (t + 19) 1 = nI (kr + E.length) := m4.2.2.2.1
      have hop : kr + E.length + 0 = cn := m4.2.2.2.2.2.1
      have o19 : I2 (t + 19) 1 = nI kr := by rw [h2 _ (by omega)]; exact hd.2.2.2.2.2.2.2.2.1
      obtain ⟨a1, a2, a3, a4, a5, a6, a7, a8⟩ := hd
      have hlw : dLw (sI I' (t + 23) r (I' (t + 19) 1)) K t (kr + E.length) := by
        refine dLw_add (I := I) (J := J) hr3 a8 (by omega) (by rw [sI_ne (by omega), m4.2.2.1, ← hop]; rfl) (by rw [sI_ne (by omega)]; exact v1) ?_ ?_ (by rw [sI_rs]; exact v1) (fun j hj => ?_) (fun i hi => ?_) (by rw [← hk]; exact n152) (by rw [← hk]; exact n153) (by rw [← hk]; exact n154) (fun j hj => ?_) (fun i hi => ?_)
        · rw [sI_ne (by omega), hF.1 (t + 24) (by omega) (by omega) (by omega) (by omega) (by omega)]; unfold lOpen; rw [sI_ne (by omega), sI_ne (by omega), sI_eq, h2 _ (by omega)]
        · rw [sI_ne (by omega), hF.1 (t + 22) (by omega) (by omega) (by omega) (by omega) (by omega)]; unfold lOpen; rw [sI_ne (by omega), sI_eq, sI_ne (by omega), h2 _ (by omega), o19]
        · rw [sI_rd hj, hF.1 (t + 23) (by omega) (by omega) (by omega) (by omega) (by omega)]; unfold lOpen; rw [sI_rd hj, sI_ne (by omega), sI_ne (by omega), h2 _ (by omega)]
        · have hh := hF.2.1 i hi
          rw [sI_ne (by omega), sI_ne (by omega), hh.1, hh.2]; unfold lOpen
          rw [sI_ne (by omega), sI_ne (by omega), sI_ne (by omega), sI_ne (by omega), sI_ne (by omega), sI_ne (by omega), h2 _ (by omega), h2 _ (by omega)]
          exact ⟨rfl, rfl⟩
        · have hh := w2.2.2 j hj
          rw [n155, n156, hh.1, hh.2.1, j3 155 (by decide) (by decide) (by decide), j3 156 (by decide) (by decide) (by decide)]
          exact ⟨rfl, rfl⟩
        · rw [n155, n156, sI_ne (by omega), sI_ne (by omega)]
          exact cdL_sh m4.2.2.2.2.1 s1.1 i hi
      refine ⟨q1, fun Z hZ => rdR_tq tK hZ, pr, sr, dr, rr, kr + E.length, ⟨(jK4 17 (by decide)).trans hc.1, (jK4 18 (by decide)).trans hc.2.1, (jK4 19 (by decide)).trans hc.2.2.1, (jK4 20 (by decide)).trans hc.2.2.2.1, ?_⟩, by rw [z57, jK4 22 (by decide)]; exact a1, by unfold tOK; rw [x t (by omega) (by omega) (by omega) (by omega) (by omega) (by omega) (by omega) (by omega)]; exact a2, dPe_cg (fun a _ _ => x a (by omega) (by omega) (by omega) (by omega) (by omega) (by omega) (by omega) (by omega)) (fun a _ _ => jK a (by simp; omega)) a3, dSh_cg (fun a _ _ => x a (by omega) (by omega) (by omega) (by omega) (by omega) (by omega) (by omega) (by omega)) (fun a _ _ => jK a (by simp; omega)) a4, dDb_cg (fun a _ _ => x a (by omega) (by omega) (by omega) (by omega) (by omega) (by omega) (by omega) (by omega)) (fun a _ _ => jK a (by simp; omega)) a5, dC_cg (x _ (by omega) (by omega) (by omega) (by omega) (by omega) (by omega) (by omega) (by omega)) (jK 141 (by decide)) a6, dRt_cg (x _ (by omega) (by omega) (by omega) (by omega) (by omega) (by omega) (by omega) (by omega)) (x _ (by omega) (by omega) (by omega) (by omega) (by omega) (by omega) (by omega) (by omega)) (x _ (by omega) (by omega) (by omega) (by omega) (by omega) (by omega) (by omega) (by omega)) (jK 151 (by decide)) a7, hlw⟩
      rw [fK.2 21 (by decide), hJ5, sI_ne (by decide)]; exact e21
set_option maxHeartbeats 4000000 in
theorem ct_Sc_readLaw {sh : List pSh} {I : Nat → Nat → Int32} {L : Nat → Nat → Int64} {P : Nat → Nat → Option Nat} (hA : kA sh P) (hrb : P 58 3 = some 2) {J K : Nat → Nat → Int32} {n : Nat} (hr : rdR I J n) {t : Nat} (ht : t = 3 ∨ t = 30) (hst : P 57 5 = some t) (h0 : I 57 1 = 0) {pr sr dr rr kr : Nat} {b : Bool} (hp : prI J) (hd : txD I J t pr sr dr rr kr) (hc : cnE J pr sr dr rr kr) (hl : lnL J kr b K) : pCn m_Sc_readLaw 125 [.ref 57] sh (I, L, P) (lnO b K I L P n t) := by
  refine pCn_of (by decide +kernel) (Nat.le_of_ble_eq_true rfl) ?_
  refine pw_aload_n (k4 := 0) rfl (by decide +kernel) ?_
  refine pq_getP (c := 4) (k := 4) (ks_sc hA) (by decide) (by decide) (kp_sc_reader hA) lf_Sc_12 (by decide +kernel) ?_
  refine pq_callV (ν := m_Re_advance) (d' := 2) (av := []) (c := 3) (by decide +kernel) lm_Sc_62 ok_Re_advance (show _ = some 0 by decide +kernel) (ks_re hA) rfl (by decide) (by omega) (Nat.le_of_ble_eq_true rfl) (gt_advance hA hrb hr) ?_
  rintro _ _ ⟨rfl, I4, rfl, hr4, hf4⟩
  refine pw_aload_n (k4 := 0) rfl (by decide +kernel) ?_
  refine pw_bipush (n := 13) (v := 13) (by decide) (by decide +kernel) ?_
  refine pw_bipush (n := 15) (v := 15) (by decide) (by decide +kernel) ?_
  refine pq_callV (ν := m_Sc_lookAt) (d' := 1) (av := [_, _]) (c := 4) (by decide +kernel) lm_Sc_89 ok_Sc_lookAt (show _ = some 2 by decide +kernel) (ks_sc hA) rfl (by decide) (by omega) (Nat.le_of_ble_eq_true rfl) (ct_Sc_lookAt hA 13 15) ?_
  rintro _ _ ⟨I12, v12, rfl, rfl, hT12, hF12⟩
  obtain ⟨hg1, hg2⟩ := law_rng hr4
  have fo4 : frL t I I4 := frL_57 ht (fun a _ h2 => hf4 a h2)
  refine pq_istore_n (k4 := 1) (Nat.le_of_ble_eq_true rfl) rfl (by decide +kernel) ?_
  refine pw_iload_n (k4 := 1) rfl (by decide +kernel) ?_
  refine pw_if_ge (off := 5) (tgt := 22) (by decide +kernel) (by decide +kernel) (fun z17 => ?_) (fun z17 => ?_)
  · have hin : kIn I4 13 15 := Classical.byContradiction fun w => by
      rw [(hF12 w).1] at z17; exact absurd z17 (by decide)
    obtain ⟨ev, eI⟩ := hT12 hin
    subst eI
    obtain ⟨r, hr3, hv, hk⟩ := hg2 hin
    rw [hv] at ev
    subst ev
    obtain ⟨hy1, hy2⟩ := lnL_yes hl (hg1.mp hin) hk
    have i152 : yTok J 152 (3 + lr r) = J 152 (3 + lr r) := by rw [(prF_tok J).1 152 (by decide)]
    rw [i152] at hy1 hy2
    have e24 : I4 (t + 24) r = I (t + 24) r := by rw [hf4 _ (by omega)]
    refine pw_aload_n (k4 := 0) rfl (by decide +kernel) ?_
    refine pq_getP (c := 4) (k := 5) (ks_sc hA) (by decide) (by decide) hst lf_Sc_18 (by decide +kernel) ?_
    refine pq_getP (c := 7) (k := 18) (ks_t hA ht) (by decide) (by decide) (kp_t_laws hA ht) lf_Sc_174 (by decide +kernel) ?_
    refine pw_iload_n (k4 := 1) rfl (by decide +kernel) ?_
    refine pq_callV (ν := m_La_isTold) (d' := 0) (av := [_]) (c := 2) (by decide +kernel) lm_Sc_178 ok_La_isTold (show _ = some 1 by decide +kernel) (ks_t_laws hA ht) rfl (by decide) (by omega) (Nat.le_of_ble_eq_true rfl) (ct_La_isTold hA ht _) ?_
    rintro _ _ ⟨rfl, rfl⟩
    refine pn_ifB_eq (off := 9) (tgt := 42) (by decide +kernel) (by decide +kernel) (fun z33 => ?_) (fun z33 => ?_)
    · have hnt : J 152 (3 + lr r) = 0 := by
        rcases hd.2.2.2.2.2.2.2.2.2.2 r hr3 with q | q
        · exact q.2
        · exact absurd ⟨Int32.not_lt.mp (nI_pos (by omega)), (nI_ltI (b := 3) (by omega) (by decide)).mpr hr3, by rw [ixn_nI (by omega), e24, q.1]; decide⟩ z33
      obtain ⟨f, E, W, wn, mn, br, cn, G, J4, hX, hw, hb⟩ := hy2 hnt
      refine pw_aload_n (k4 := 0) rfl (by decide +kernel) ?_
      refine pq_getP (c := 4) (k := 4) (ks_sc hA) (by decide) (by decide) (kp_sc_reader hA) lf_Sc_12 (by decide +kernel) ?_
      have rG := rdR_sJ hr4 (a := 152) (by decide) (3 + lr r) 1
      refine pq_callV (ν := m_Re_advance) (d' := 2) (av := []) (c := 3) (by decide +kernel) lm_Sc_62 ok_Re_advance (show _ = some 0 by decide +kernel) (ks_re hA) rfl (by decide) (by omega) (Nat.le_of_ble_eq_true rfl) (gt_advance hA hrb rG) ?_
      rintro _ _ ⟨rfl, I46, rfl, hr46, hf46⟩
      have h2 : ∀ a, a ≠ 58 → I46 a = I a := fun a ha => (hf46 a ha).trans (hf4 a ha)
      refine pw_aload_n (k4 := 0) rfl (by decide +kernel) ?_
      refine pq_getP (c := 4) (k := 5) (ks_sc hA) (by decide) (by decide) hst lf_Sc_18 (by decide +kernel) ?_
      refine pq_getP (c := 7) (k := 18) (ks_t hA ht) (by decide) (by decide) (kp_t_laws hA ht) lf_Sc_174 (by decide +kernel) ?_
      refine pw_iload_n (k4 := 1) rfl (by decide +kernel) ?_
      refine pq_callV (ν := m_La_open) (d' := 0) (av := [_]) (c := 2) (by decide +kernel) lm_Sc_183 ok_La_open (show _ = some 1 by decide +kernel) (ks_t_laws hA ht) rfl (by decide) (by omega) (Nat.le_of_ble_eq_true rfl) (ct_La_open hA ht hr3) ?_
      rintro _ _ ⟨rfl, rfl⟩
      refine pw_aload_n (k4 := 0) rfl (by decide +kernel) ?_
      refine pw_iconst (n := 0) (v := 0) (by decide) (by decide +kernel) ?_
      refine pw_iconst (n := 0) (v := 0) (by decide) (by decide +kernel) ?_
      have rI3 := rdR_sJ hr46 (a := 153) (by decide) (3 + lr r) (nI kr)
      have o57 : lOpen I46 t r 57 = I 57 := by unfold lOpen; (repeat rw [sI_ne (by omega)]); exact h2 57 (by decide)
      have o19 : lOpen I46 t r (t + 19) = I (t + 19) := by unfold lOpen; (repeat rw [sI_ne (by omega)]); exact h2 _ (by omega)
      have a8 := hd.2.2.2.2.2.2.2
      have hv0 : lvI (lOpen I46 t r) (sI (yTok (sI (yTok J) 152 (3 + lr r) 1)) 153 (3 + lr r) (nI kr)) n t kr [] [] kr := ⟨rdR_X rI3 (by unfold lOpen; (repeat rw [sI_ne (by omega)])) (by unfold lOpen; (repeat rw [sI_ne (by omega)])) (by unfold lOpen; (repeat rw [sI_ne (by omega)])), by rw [o57]; exact h0, by rw [o19]; exact a8.1, by rw [o19]; exact a8.2.1, cdL_nil _ _ _, rfl, a8.2.2.1⟩
      refine pq_callV (ν := m_Sc_readLevel) (d' := (14 * 8 + 4 + 8)) (av := [_, _]) (c := 4) (by decide +kernel) lm_Sc_187 ok_Sc_readLevel (show _ = some 2 by decide +kernel) (ks_sc hA) rfl (by decide) (by omega) (Nat.le_of_ble_eq_true rfl) (lvl_all hA hrb ht hst 8 [] [] true kr 0 _ _ rfl hv0 (by decide) (fun _ => rfl) (fun w => absurd w (by decide))) ?_
      rintro _ _ ⟨I63, b63, rfl, rfl, hF63, hT63, hN63⟩
      refine pq_istore_n (k4 := 2) (Nat.le_of_ble_eq_true rfl) rfl (by decide +kernel) ?_
      refine pw_aload_n (k4 := 0) rfl (by decide +kernel) ?_
      refine pq_getP (c := 4) (k := 5) (ks_sc hA) (by decide) (by decide) hst lf_Sc_18 (by decide +kernel) ?_
      refine pq_getP (c := 7) (k := 18) (ks_t hA ht) (by decide) (by decide) (kp_t_laws hA ht) lf_Sc_174 (by decide +kernel) ?_
      refine pw_iload_n (k4 := 1) rfl (by decide +kernel) ?_
      refine pq_callV (ν := m_La_close) (d' := 0) (av := [_]) (c := 2) (by decide +kernel) lm_Sc_191 ok_La_close (show _ = some 1 by decide +kernel) (ks_t_laws hA ht) rfl (by decide) (by omega) (Nat.le_of_ble_eq_true rfl) (ct_La_close hA ht hr3) ?_
      rintro _ _ ⟨rfl, rfl⟩
      refine pw_iload_n (k4 := 2) rfl (by decide +kernel) ?_
      exact pq_zret rfl (bI_z _) (by decide +kernel) (law_fin ht hp hd hc h0 hr3 h2 hX hw hb hF63 hT63 hN63)
    · have htd : ¬ J 152 (3 + lr r) = 0 := by
        rcases hd.2.2.2.2.2.2.2.2.2.2 r hr3 with q | q
        · exact absurd (show I4 (t + 24) (ixn (nI r)) = 0 by rw [ixn_nI (by omega), e24]; exact q.1) z33.2.2
        · rw [q.2.1]; decide
      refine pw_aload_n (k4 := 0) rfl (by decide +kernel) ?_
      refine pw_iconst (n := 3) (v := 3) (by decide) (by decide +kernel) ?_
      refine pq_callV (ν := m_Sc_refuse) (d' := 0) (av := [_]) (c := 4) (by decide +kernel) lm_Sc_59 ok_Sc_refuse (show _ = some 1 by decide +kernel) (ks_sc hA) rfl (by decide) (by omega) (Nat.le_of_ble_eq_true rfl) (ct_Sc_refuse hA _) ?_
      rintro _ _ ⟨rfl, rfl⟩
      exact pq_zret rfl (Or.inl rfl) (by decide +kernel) (lnO_r ht (hy1 htd) hr4 (by decide) fo4)
  · have hin : ¬ kIn I4 13 15 := fun w => by
      obtain ⟨r, hr3, hv, hk⟩ := hg2 w
      rw [(hT12 w).1, hv] at z17; exact absurd (Int32.not_lt.mp (nI_pos (by omega))) z17
    obtain ⟨-, eI⟩ := hF12 hin
    subst eI
    refine pw_iconst (n := 0) (v := 0) (by decide) (by decide +kernel) ?_
    exact pq_zret rfl (by decide) (by decide +kernel) (lnO_r ht (lnL_no hl (fun w => hin (hg1.mpr w))) hr4 (by decide) fo4)

theorem lnO_of {q : Bool × (Nat → Nat → Int32)} {T : (Nat → Nat → Int32) → (Nat → Nat → Int32) → Prop} {b : Bool} {K I : Nat → Nat → Int32} {L : Nat → Nat → Int64} {P : Nat → Nat → Option Nat} {n t : Nat} {r : Option Value} {M : pM} (ht : t = 3 ∨ t = 30) (hX : (b, K) = yEnd q) (hT : ∀ I', q.1 = true → T I' q.2 → I' 57 1 = I 57 1 ∧ (I' 57 0 = I 57 0 ∧ I' 57 2 = I 57 2) ∧ ∃ pr sr dr rr kr, cnE q.2 pr sr dr rr kr ∧ txD I' q.2 t pr sr dr rr kr) (h0 : I 57 1 = 0) (hQ : lnQ q T I L P n t r M) : lnO b K I L P n t r M := by
  obtain ⟨I', e1, e2, fo, h1, h2⟩ := hQ
  cases hq : q.1 with
  | false =>
    have hy : yEnd q = q := by unfold yEnd; rw [if_neg (by rw [hq]; decide)]
    rw [hy] at hX
    refine ⟨I', false, by rw [e1, hq], e2, frL_of ht fo, fun _ => ⟨by rw [← hq, ← hX], ?_⟩, fun w => by cases w⟩
    have := h2 hq
    rw [← hX] at this hq
    exact ⟨rfl, this.2⟩
  | true =>
    obtain ⟨r1, t1⟩ := h1 hq
    obtain ⟨z1, z0, pr, sr, dr, rr, kr, z2, z3⟩ := hT I' hq t1
    refine ⟨I', true, by rw [e1, hq], e2, frL_of ht fo, fun w => (by cases w), fun _ => ⟨q.2, r1, z1.trans h0, z0, fun hn => ?_, fun hy => ?_⟩⟩
    · unfold yEnd at hX
      rw [if_pos hq, if_neg hn] at hX
      have b1 : b = false := congrArg Prod.fst hX
      have b2 : K = yWr q.2 1 := congrArg Prod.snd hX
      exact ⟨b1, by rw [b2]; rfl, by rw [b2]; exact sI_rs⟩
    · unfold yEnd at hX
      rw [if_pos hq, if_pos hy] at hX
      have b1 : b = true := congrArg Prod.fst hX
      have b2 : K = yTok q.2 := congrArg Prod.snd hX
      have f := prF_tok q.2
      refine ⟨b1, fun Z hZ => by rw [b2]; exact hZ, pr, sr, dr, rr, kr, ?_, ?_⟩
      · rw [b2]
        exact ⟨(f.2 17 (by decide)).trans z2.1, (f.2 18 (by decide)).trans z2.2.1, (f.2 19 (by decide)).trans z2.2.2.1, (f.2 20 (by decide)).trans z2.2.2.2.1, (f.2 21 (by decide)).trans z2.2.2.2.2⟩
      · rw [b2]; exact txD_pf f z3
theorem wm_7 : ∀ i, i < 7 → wmN i = i := by decide
theorem lnR_cs {X J K : Nat → Nat → Int32} {n pr sr dr rr kr : Nat} {b : Bool} (hr : rdR X J n) (h : lnR J pr sr dr rr kr b K) : (X 58 0 = nI 0 → (b, K) = yEnd (yPL pr J)) ∧ (X 58 0 = nI 1 → (b, K) = yEnd (ySL pr sr J)) ∧ (X 58 0 = nI 2 → (b, K) = yEnd (yDL pr dr J)) ∧ (X 58 0 = nI 3 → (b, K) = yEnd (yCL pr J)) ∧ (X 58 0 = nI 4 → (b, K) = yEnd (yRL rr J)) ∧ (X 58 0 = nI 5 → (b, K) = yEnd (ySd J)) ∧ (X 58 0 = nI 6 → lnL J kr b K) ∧ ((∀ i, i < 7 → ¬ X 58 0 = nI i) → (b, K) = (false, yWr J 1)) := by
  have key : ∀ i, i < 7 → X 58 0 = nI i → J 134 8 = 1 ∧ J 134 9 = nI i := fun i hi e => (tk_word hr.1 (i := i) (by omega)).mp (by rw [wm_7 i hi]; exact e)
  have st : ∀ i, i < 7 → X 58 0 = nI i → (lnR J pr sr dr rr kr b K ↔ (if nI i = 0 then (b, K) = yEnd (yPL pr J) else if nI i = 1 then (b, K) = yEnd (ySL pr sr J) else if nI i = 2 then (b, K) = yEnd (yDL pr dr J) else if nI i = 3 then (b, K) = yEnd (yCL pr J) else if nI i = 4 then (b, K) = yEnd (yRL rr J) else if nI i = 5 then (if J 134 22 = 0 then (b, K) = yEnd (yNum (yTok (sI J 134 22 1)) 0 99999) else (b, K) = (false, yWr J 3)) else lnL J kr b K)) := fun i hi e => by
    obtain ⟨k1, k2⟩ := key i hi e
    unfold lnR
    rw [if_neg (fun w => w k1), k2, if_neg (fun w => by have := (nI_ltI (a := 6) (by decide) (by omega)).mp w; omega)]
  refine ⟨fun e => ?_, fun e => ?_, fun e => ?_, fun e => ?_, fun e => ?_, fun e => ?_, fun e => ?_, fun e => ?_⟩
  · exact ((st 0 (by decide) e).mp h)
  · exact ((st 1 (by decide) e).mp h)
  · exact ((st 2 (by decide) e).mp h)
  · exact ((st 3 (by decide) e).mp h)
  · exact ((st 4 (by decide) e).mp h)
  · have h5 := ((st 5 (by decide) e).mp h)
    have h5' : if J 134 22 = 0 then (b, K) = yEnd (yNum (yTok (sI J 134 22 1)) 0 99999) else (b, K) = (false, yWr J 3) := h5
    unfold ySd
    by_cases z : J 134 22 = 0
    · rw [if_pos z] at h5' ⊢; exact h5'
    · rw [if_neg z] at h5' ⊢; exact h5'
  · exact ((st 6 (by decide) e).mp h)
  · unfold lnR at h
    by_cases k1 : J 134 8 = 1
    · rw [if_neg (fun w => w k1)] at h
      by_cases k2 : 6 < J 134 9
      · rw [if_pos k2] at h; exact h
      · obtain ⟨i, i25, i1, i2⟩ := (tk_key hr.1).2 k1
        have i7 : i < 7 := by
          rw [i2] at k2
          have := mt (nI_ltI (a := 6) (b := i) (by decide) (by omega)).mpr k2
          omega
        rw [wm_7 i i7] at i1
        exact absurd i1 (e i i7)
    · rw [if_pos k1] at h; exact h

set_option maxHeartbeats 4000000 in
theorem ct_Sc_readLine {sh : List pSh} {I : Nat → Nat → Int32} {L : Nat → Nat → Int64} {P : Nat → Nat → Option Nat} (hA : kA sh P) (hrb : P 58 3 = some 2) {J K : Nat → Nat → Int32} {n : Nat} (hr : rdR I J n) {t : Nat} (ht : t = 3 ∨ t = 30) (hst : P 57 5 = some t) (h0 : I 57 1 = 0) {pr sr dr rr kr : Nat} {b : Bool} (hp : prI J) (hd : txD I J t pr sr dr rr kr) (hc : cnE J pr sr dr rr kr) (hl : lnR J pr sr dr rr kr b K) : pCn m_Sc_readLine 126 [.ref 57] sh (I, L, P) (lnO b K I L P n t) := by
  refine pCn_of (by decide +kernel) (Nat.le_of_ble_eq_true rfl) ?_
  refine pw_aload_n (k4 := 0) rfl (by decide +kernel) ?_
  refine pq_getP (c := 4) (k := 4) (ks_sc hA) (by decide) (by decide) (kp_sc_reader hA) lf_Sc_12 (by decide +kernel) ?_
  refine pq_getI (c := 3) (k := 0) (ks_re hA) (by decide) (by decide) lf_Sc_45 (by decide +kernel) ?_
  have hsw : decode m_Sc_readLine.2.1 7 = .ok (.tableswitch 76 0 6 #[41, 46, 51, 56, 61, 66, 71], 41) := by decide +kernel
  obtain ⟨X0, hX0⟩ : ∃ X0, I 58 0 = X0 := ⟨_, rfl⟩
  rw [hX0]
  have hcs := lnR_cs hr hl
  have q57 : ∀ {I' : Nat → Nat → Int32}, I' 57 = I 57 → I' 57 1 = I 57 1 ∧ (I' 57 0 = I 57 0 ∧ I' 57 2 = I 57 2) := fun {I'} e => by rw [e]; exact ⟨rfl, rfl, rfl⟩
  have hPe : X0 = nI 0 → ∀ r M, lnQ (yPL pr J) (tPe I t pr) I L P n t r M → lnO b K I L P n t r M := fun e r M w => lnO_of ht (hcs.1 (hX0.trans e)) (fun I' q T => by
    have hy : yPL pr J = (true, (yPL pr J).2) := Prod.ext q rfl
    obtain ⟨-, -, f, -, c, -⟩ := yPL_ok hy hp
    exact ⟨(q57 T.1).1, (q57 T.1).2, pr + 1, sr, dr, rr, kr, ⟨c, (f.2 18 (by decide)).trans hc.2.1, (f.2 19 (by decide)).trans hc.2.2.1, (f.2 20 (by decide)).trans hc.2.2.2.1, (f.2 21 (by decide)).trans hc.2.2.2.2⟩, txD_PL ht hp hd hy T⟩) h0 w
  have hSh : X0 = nI 1 → ∀ r M, lnQ (ySL pr sr J) (tSh I t sr) I L P n t r M → lnO b K I L P n t r M := fun e r M w => lnO_of ht (hcs.2.1 (hX0.trans e)) (fun I' q T => by
    have hy : ySL pr sr J = (true, (ySL pr sr J).2) := Prod.ext q rfl
    obtain ⟨-, -, f, -, c, -⟩ := ySL_ok hy hp
    exact ⟨(q57 T.1).1, (q57 T.1).2, pr, sr + 1, dr, rr, kr, ⟨(f.2 17 (by decide)).trans hc.1, c, (f.2 19 (by decide)).trans hc.2.2.1, (f.2 20 (by decide)).trans hc.2.2.2.1, (f.2 21 (by decide)).trans hc.2.2.2.2⟩, txD_SL ht hp hd hy T⟩) h0 w
  have hDb : X0 = nI 2 → ∀ r M, lnQ (yDL pr dr J) (tDb I t dr) I L P n t r M → lnO b K I L P n t r M := fun e r M w => lnO_of ht (hcs.2.2.1 (hX0.trans e)) (fun I' q T => by
    have hy : yDL pr dr J = (true, (yDL pr dr J).2) := Prod.ext q rfl
    obtain ⟨-, -, f, -, c, -⟩ := yDL_ok hy hp
    exact ⟨(q57 T.1).1, (q57 T.1).2, pr, sr, dr + 1, rr, kr, ⟨(f.2 17 (by decide)).trans hc.1, (f.2 18 (by decide)).trans hc.2.1, c, (f.2 20 (by decide)).trans hc.2.2.2.1, (f.2 21 (by decide)).trans hc.2.2.2.2⟩, txD_DL ht hp hd hy T⟩) h0 w
  have hCl : X0 = nI 3 → ∀ r M, lnQ (yCL pr J) (tCk I t pr) I L P n t r M → lnO b K I L P n t r M := fun e r M w => lnO_of ht (hcs.2.2.2.1 (hX0.trans e)) (fun I' q T => by
    have hy : yCL pr J = (true, (yCL pr J).2) := Prod.ext q rfl
    obtain ⟨-, f, -, -⟩ := yCL_ok hd.2.1.2.1 hy hp
    exact ⟨(q57 T.1).1, (q57 T.1).2, pr, sr, dr, rr, kr, ⟨(f.2 17 (by decide)).trans hc.1, (f.2 18 (by decide)).trans hc.2.1, (f.2 19 (by decide)).trans hc.2.2.1, (f.2 20 (by decide)).trans hc.2.2.2.1, (f.2 21 (by decide)).trans hc.2.2.2.2⟩, txD_CL ht hp hd hy T⟩) h0 w
  have hSw : X0 = nI 4 → ∀ r M, lnQ (yRL rr J) (tRt I J t rr) I L P n t r M → lnO b K I L P n t r M := fun e r M w => lnO_of ht (hcs.2.2.2.2.1 (hX0.trans e)) (fun I' q T => by
    have hy : yRL rr J = (true, (yRL rr J).2) := Prod.ext q rfl
    obtain ⟨-, -, f, -, c, -⟩ := yRL_ok hy hp
    exact ⟨(q57 T.1).1, (q57 T.1).2, pr, sr, dr, rr + 1, kr, ⟨(f.2 17 (by decide)).trans hc.1, (f.2 18 (by decide)).trans hc.2.1, (f.2 19 (by decide)).trans hc.2.2.1, c, (f.2 21 (by decide)).trans hc.2.2.2.2⟩, txD_RL ht hp hd hy T⟩) h0 w
  have hSd : X0 = nI 5 → ∀ r M, lnQ (ySd J) (tSd I) I L P n t r M → lnO b K I L P n t r M := fun e r M w => lnO_of ht (hcs.2.2.2.2.2.1 (hX0.trans e)) (fun I' q T => by
    have hy : ySd J = (true, (ySd J).2) := Prod.ext q rfl
    refine ⟨by rw [T.1, upd_ne (by decide)], ⟨by rw [T.1, upd_ne (by decide)], by rw [T.1, upd_ne (by decide)]⟩, pr, sr, dr, rr, kr, ?_, txD_Sd ht hd hy T⟩
    have hz : J 134 22 = 0 := Classical.byContradiction fun z => by unfold ySd at hy; rw [if_neg z] at hy; cases hy
    have e : ∀ k, k ∉ [4, 5, 7, 8, 9, 10, 11, 22] → (ySd J).2 134 k = J 134 k := fun k hk => by
      have hy2 : yNum (yTok (sI J 134 22 1)) (0 : Int32) 99999 = (true, (ySd J).2) := by rw [← hy]; unfold ySd; rw [if_pos hz]
      rw [(num_pf hy2).2 k (fun w => hk (by revert w; simp; omega)), (prF_tok _).2 k (fun w => hk (by revert w; simp; omega)), sI_rd (fun w => hk (by rw [w]; decide))]
    exact ⟨(e 17 (by decide)).trans hc.1, (e 18 (by decide)).trans hc.2.1, (e 19 (by decide)).trans hc.2.2.1, (e 20 (by decide)).trans hc.2.2.2.1, (e 21 (by decide)).trans hc.2.2.2.2⟩) h0 w
  rcases swIn X0 0 6 (by decide) (by decide) with zo | ⟨j, j0, j6, ej⟩
  · refine pw_tableOut (tgt := 83) hsw zo (by decide) ?_
    refine pw_aload_n (k4 := 0) rfl (by decide +kernel) ?_
    refine pw_iconst (n := 1) (v := 1) (by decide) (by decide +kernel) ?_
    refine pq_callV (ν := m_Sc_refuse) (d' := 0) (av := [_]) (c := 4) (by decide +kernel) lm_Sc_59 ok_Sc_refuse (show _ = some 1 by decide +kernel) (ks_sc hA) rfl (by decide) (by omega) (Nat.le_of_ble_eq_true rfl) (ct_Sc_refuse hA _) ?_
    rintro _ _ ⟨rfl, rfl⟩
    have hn : ∀ i, i < 7 → ¬ I 58 0 = nI i := fun i hi w => by
      rw [hX0] at w
      rw [w] at zo
      have hi' : i = 0 ∨ i = 1 ∨ i = 2 ∨ i = 3 ∨ i = 4 ∨ i = 5 ∨ i = 6 := by omega
      rcases hi' with rfl | rfl | rfl | rfl | rfl | rfl | rfl <;> revert zo <;> decide
    exact pq_zret rfl (Or.inl rfl) (by decide +kernel) (lnO_r ht (hcs.2.2.2.2.2.2.2 hn) hr (by decide) (frL.rf t I))
  have jj : j = 0 ∨ j = 1 ∨ j = 2 ∨ j = 3 ∨ j = 4 ∨ j = 5 ∨ j = 6 := by omega
  rcases jj with rfl | rfl | rfl | rfl | rfl | rfl | rfl
  · have z7 : X0 = nI 0 := ej
    refine pw_tableIn (tgt := 48) hsw (by rw [z7]; decide) (by rw [z7]; decide) (by rw [z7]; rfl) (by decide) ?_
    refine pw_aload_n (k4 := 0) rfl (by decide +kernel) ?_
    refine pq_callV (ν := m_Sc_readPerson) (d' := 4) (av := []) (c := 4) (by decide +kernel) lm_Sc_65 ok_Sc_readPerson (show _ = some 0 by decide +kernel) (ks_sc hA) rfl (by decide) (by omega) (Nat.le_of_ble_eq_true rfl) (ct_Sc_readPerson hA hrb hr ht hst h0 hd.2.1 (fun p hp => (hd.2.2.1 p hp).1)) ?_
    intro r7 M7 hw
    have hO : lnO b K I L P n t r7 M7 := (hPe z7 _ _ hw)
    obtain ⟨I7, b7, e7, m7, -⟩ := id hO
    subst e7 m7
    exact pq_zret rfl (bI_z _) (by decide +kernel) hO
  · have z7 : X0 = nI 1 := ej
    refine pw_tableIn (tgt := 53) hsw (by rw [z7]; decide) (by rw [z7]; decide) (by rw [z7]; rfl) (by decide) ?_
    refine pw_aload_n (k4 := 0) rfl (by decide +kernel) ?_
    refine pq_callV (ν := m_Sc_readShoe) (d' := 4) (av := []) (c := 4) (by decide +kernel) lm_Sc_68 ok_Sc_readShoe (show _ = some 0 by decide +kernel) (ks_sc hA) rfl (by decide) (by omega) (Nat.le_of_ble_eq_true rfl) (ct_Sc_readShoe hA hrb hr ht hst h0 hd.2.1 (fun p hp => (hd.2.2.1 p hp).1)) ?_
    intro r7 M7 hw
    have hO : lnO b K I L P n t r7 M7 := (hSh z7 _ _ hw)
    obtain ⟨I7, b7, e7, m7, -⟩ := id hO
    subst e7 m7
    exact pq_zret rfl (bI_z _) (by decide +kernel) hO
  · have z7 : X0 = nI 2 := ej
    refine pw_tableIn (tgt := 58) hsw (by rw [z7]; decide) (by rw [z7]; decide) (by rw [z7]; rfl) (by decide) ?_
    refine pw_aload_n (k4 := 0) rfl (by decide +kernel) ?_
    refine pq_callV (ν := m_Sc_readDebt) (d' := 4) (av := []) (c := 4) (by decide +kernel) lm_Sc_71 ok_Sc_readDebt (show _ = some 0 by decide +kernel) (ks_sc hA) rfl (by decide) (by omega) (Nat.le_of_ble_eq_true rfl) (ct_Sc_readDebt hA hrb hr ht hst h0 hd.2.1 (fun p hp => (hd.2.2.1 p hp).1)) ?_
    intro r7 M7 hw
    have hO : lnO b K I L P n t r7 M7 := (hDb z7 _ _ hw)
    obtain ⟨I7, b7, e7, m7, -⟩ := id hO
    subst e7 m7
    exact pq_zret rfl (bI_z _) (by decide +kernel) hO
  · have z7 : X0 = nI 3 := ej
    refine pw_tableIn (tgt := 63) hsw (by rw [z7]; decide) (by rw [z7]; decide) (by rw [z7]; rfl) (by decide) ?_
    refine pw_aload_n (k4 := 0) rfl (by decide +kernel) ?_
    refine pq_callV (ν := m_Sc_readClaim) (d' := 4) (av := []) (c := 4) (by decide +kernel) lm_Sc_74 ok_Sc_readClaim (show _ = some 0 by decide +kernel) (ks_sc hA) rfl (by decide) (by omega) (Nat.le_of_ble_eq_true rfl) (gt_readClaim hA hrb hr ht hst h0 hd.2.1 (fun p hp => (hd.2.2.1 p hp).1) hd.2.2.2.2.2.1) ?_
    intro r7 M7 hw
    have hO : lnO b K I L P n t r7 M7 := (hCl z7 _ _ hw)
    obtain ⟨I7, b7, e7, m7, -⟩ := id hO
    subst e7 m7
    exact pq_zret rfl (bI_z _) (by decide +kernel) hO
  · have z7 : X0 = nI 4 := ej
    refine pw_tableIn (tgt := 68) hsw (by rw [z7]; decide) (by rw [z7]; decide) (by rw [z7]; rfl) (by decide) ?_
    refine pw_aload_n (k4 := 0) rfl (by decide +kernel) ?_
    refine pq_callV (ν := m_Sc_readSwap) (d' := 4) (av := []) (c := 4) (by decide +kernel) lm_Sc_77 ok_Sc_readSwap (show _ = some 0 by decide +kernel) (ks_sc hA) rfl (by decide) (by omega) (Nat.le_of_ble_eq_true rfl) (ct_Sc_readSwap hA hrb hr ht hst h0 hd.2.2.2.2.2.2.1) ?_
    intro r7 M7 hw
    have hO : lnO b K I L P n t r7 M7 := (hSw z7 _ _ hw)
    obtain ⟨I7, b7, e7, m7, -⟩ := id hO
    subst e7 m7
    exact pq_zret rfl (bI_z _) (by decide +kernel) hO
  · have z7 : X0 = nI 5 := ej
    refine pw_tableIn (tgt := 73) hsw (by rw [z7]; decide) (by rw [z7]; decide) (by rw [z7]; rfl) (by decide) ?_
    refine pw_aload_n (k4 := 0) rfl (by decide +kernel) ?_
    refine pq_callV (ν := m_Sc_readSeed) (d' := 4) (av := []) (c := 4) (by decide +kernel) lm_Sc_80 ok_Sc_readSeed (show _ = some 0 by decide +kernel) (ks_sc hA) rfl (by decide) (by omega) (Nat.le_of_ble_eq_true rfl) (ct_Sc_readSeed hA hrb hr ht hst h0 hd.1) ?_
    intro r7 M7 hw
    have hO : lnO b K I L P n t r7 M7 := (hSd z7 _ _ hw)
    obtain ⟨I7, b7, e7, m7, -⟩ := id hO
    subst e7 m7
    exact pq_zret rfl (bI_z _) (by decide +kernel) hO
  · have z7 : X0 = nI 6 := ej
    refine pw_tableIn (tgt := 78) hsw (by rw [z7]; decide) (by rw [z7]; decide) (by rw [z7]; rfl) (by decide) ?_
    refine pw_aload_n (k4 := 0) rfl (by decide +kernel) ?_
    refine pq_callV (ν := m_Sc_readLaw) (d' := 125) (av := []) (c := 4) (by decide +kernel) lm_Sc_83 ok_Sc_readLaw (show _ = some 0 by decide +kernel) (ks_sc hA) rfl (by decide) (by omega) (Nat.le_of_ble_eq_true rfl) (ct_Sc_readLaw hA hrb hr ht hst h0 hp hd hc (hcs.2.2.2.2.2.2.1 (hX0.trans z7))) ?_
    intro r7 M7 hw
    have hO : lnO b K I L P n t r7 M7 := hw
    obtain ⟨I7, b7, e7, m7, -⟩ := id hO
    subst e7 m7
    exact pq_zret rfl (bI_z _) (by decide +kernel) hO

