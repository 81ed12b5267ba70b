/-! ===== the fault's fields while lines are read ===== -/
def k45 (J I : Nat → Nat → Int32) : Prop := J 134 4 = I 134 4 ∧ J 134 5 = I 134 5
theorem k45.rf (I : Nat → Nat → Int32) : k45 I I := ⟨rfl, rfl⟩
theorem k45.tr {I J K : Nat → Nat → Int32} (h1 : k45 K J) (h2 : k45 J I) : k45 K I := ⟨h1.1.trans h2.1, h1.2.trans h2.2⟩
theorem k45_tok {J I : Nat → Nat → Int32} (h : k45 J I) : k45 (yTok J) I := h
theorem k45_st {J I : Nat → Nat → Int32} {a k : Nat} {x : Int32} (ha : 134 ≠ a) (h : k45 J I) : k45 (sI J a k x) I := by
  unfold k45; rw [sI_ne ha]; exact h
theorem k45_set {J I : Nat → Nat → Int32} {k : Nat} {x : Int32} (h4 : 4 ≠ k) (h5 : 5 ≠ k) (h : k45 J I) : k45 (sI J 134 k x) I := by
  unfold k45; rw [sI_rd h4, sI_rd h5]; exact h
def qk (I : Nat → Nat → Int32) (q : Bool × (Nat → Nat → Int32)) : Prop := q.1 = true → k45 q.2 I
theorem qk_f (I Z : Nat → Nat → Int32) : qk I (false, Z) := fun h => by cases h
theorem qk_t {I Z : Nat → Nat → Int32} (h : k45 Z I) : qk I (true, Z) := fun _ => h
theorem qk_if {I : Nat → Nat → Int32} {c : Prop} [Decidable c] {a b : Bool × (Nat → Nat → Int32)} (ha : qk I a) (hb : qk I b) : qk I (if c then a else b) := by
  by_cases h : c
  · rw [if_pos h]; exact ha
  · rw [if_neg h]; exact hb
theorem qk_B {I : Nat → Nat → Int32} {q : Bool × (Nat → Nat → Int32)} {f : (Nat → Nat → Int32) → Bool × (Nat → Nat → Int32)} (hq : qk I q) (hf : ∀ K, k45 K I → qk I (f K)) : qk I (yB q f) := by
  unfold yB
  by_cases h : q.1 = true
  · rw [if_pos h]; exact hf _ (hq h)
  · rw [if_neg h]; exact hq
theorem qk_num {I G : Nat → Nat → Int32} {lo hi : Int32} (h : k45 G I) : qk I (yNum G lo hi) := by
  unfold yNum
  exact qk_if (qk_f _ _) (qk_if (qk_f _ _) (qk_t (k45_tok (k45_set (by decide) (by decide) h))))
theorem qk_pick {I G : Nat → Nat → Int32} {lo hi : Int32} (h : k45 G I) : qk I (yPick G lo hi) := by
  unfold yPick
  exact qk_if (qk_f _ _) (qk_if (qk_f _ _) (qk_if (qk_f _ _) (qk_t (k45_set (by decide) (by decide) (k45_tok h)))))
theorem qk_per {I G : Nat → Nat → Int32} {pr : Nat} (h : k45 G I) : qk I (yPer G pr) := by
  unfold yPer
  exact qk_if (qk_f _ _) (qk_if (qk_f _ _) (qk_t (k45_set (by decide) (by decide) (k45_tok h))))
theorem qk_PL (pr : Nat) (I : Nat → Nat → Int32) : qk I (yPL pr I) := by unfold yPL; repeat (first | with_reducible exact qk_f _ _ | with_reducible exact k45.rf _ | with_reducible assumption | with_reducible refine qk_if ?_ ?_ | with_reducible refine qk_B ?_ (fun K hK => ?_) | with_reducible refine qk_num ?_ | with_reducible refine qk_pick ?_ | with_reducible refine qk_per ?_ | with_reducible refine qk_t ?_ | with_reducible refine k45_set (by decide) (by decide) ?_ | with_reducible refine k45_st (by decide) ?_ | with_reducible refine k45_tok ?_ | dsimp only)
theorem qk_SL (pr sr : Nat) (I : Nat → Nat → Int32) : qk I (ySL pr sr I) := by unfold ySL; repeat (first | with_reducible exact qk_f _ _ | with_reducible exact k45.rf _ | with_reducible assumption | with_reducible refine qk_if ?_ ?_ | with_reducible refine qk_B ?_ (fun K hK => ?_) | with_reducible refine qk_num ?_ | with_reducible refine qk_pick ?_ | with_reducible refine qk_per ?_ | with_reducible refine qk_t ?_ | with_reducible refine k45_set (by decide) (by decide) ?_ | with_reducible refine k45_st (by decide) ?_ | with_reducible refine k45_tok ?_ | dsimp only)
theorem qk_DL (pr dr : Nat) (I : Nat → Nat → Int32) : qk I (yDL pr dr I) := by unfold yDL; repeat (first | with_reducible exact qk_f _ _ | with_reducible exact k45.rf _ | with_reducible assumption | with_reducible refine qk_if ?_ ?_ | with_reducible refine qk_B ?_ (fun K hK => ?_) | with_reducible refine qk_num ?_ | with_reducible refine qk_pick ?_ | with_reducible refine qk_per ?_ | with_reducible refine qk_t ?_ | with_reducible refine k45_set (by decide) (by decide) ?_ | with_reducible refine k45_st (by decide) ?_ | with_reducible refine k45_tok ?_ | dsimp only)
theorem qk_CL (pr : Nat) (I : Nat → Nat → Int32) : qk I (yCL pr I) := by unfold yCL; repeat (first | with_reducible exact qk_f _ _ | with_reducible exact k45.rf _ | with_reducible assumption | with_reducible refine qk_if ?_ ?_ | with_reducible refine qk_B ?_ (fun K hK => ?_) | with_reducible refine qk_num ?_ | with_reducible refine qk_pick ?_ | with_reducible refine qk_per ?_ | with_reducible refine qk_t ?_ | with_reducible refine k45_set (by decide) (by decide) ?_ | with_reducible refine k45_st (by decide) ?_ | with_reducible refine k45_tok ?_ | dsimp only)
theorem qk_RL (rr : Nat) (I : Nat → Nat → Int32) : qk I (yRL rr I) := by unfold yRL; repeat (first | with_reducible exact qk_f _ _ | with_reducible exact k45.rf _ | with_reducible assumption | with_reducible refine qk_if ?_ ?_ | with_reducible refine qk_B ?_ (fun K hK => ?_) | with_reducible refine qk_num ?_ | with_reducible refine qk_pick ?_ | with_reducible refine qk_per ?_ | with_reducible refine qk_t ?_ | with_reducible refine k45_set (by decide) (by decide) ?_ | with_reducible refine k45_st (by decide) ?_ | with_reducible refine k45_tok ?_ | dsimp only)
theorem yEnd_45 {I J : Nat → Nat → Int32} {q : Bool × (Nat → Nat → Int32)} (hq : qk I q) (h : (true, J) = yEnd q) : k45 J I := by
  obtain ⟨h1, h2, -, -⟩ := yEnd_ok h
  rw [h2]
  exact k45_tok (hq h1)
theorem sumA_45 : ∀ (c : Nat) (E : List (Nat × Nat)) (W : List Nat) (wn mn : Bool) (br cn : Nat) (G : Nat → Nat → Int32) {E' : List (Nat × Nat)} {W' : List Nat} {wn' mn' : Bool} {br' cn' : Nat} {G' : Nat → Nat → Int32}, sumA c E W wn mn br cn G = (0, E', W', wn', mn', br', cn', G') → k45 G' G
  | 0, E, W, wn, mn, br, cn, G, E', W', wn', mn', br', cn', G', h => by unfold sumA at h; cases h
  | c + 1, E, W, wn, mn, br, cn, G, E', W', wn', mn', br', cn', G', h => by
    unfold sumA at h
    by_cases hd : (G 134 8 = 4 ∧ G 134 9 = 59) ∧ wn = false ∧ br = 0
    · rw [if_pos hd] at h; cases h; exact k45.rf _
    · rw [if_neg hd] at h
      obtain ⟨f, E1, W1, wn1, mn1, br1, cn1, G1, hX⟩ : ∃ f E1 W1 wn1 mn1 br1 cn1 G1, (if wn = true then leafA E W true mn br cn G else signsA E W false mn br cn G) = (f, E1, W1, wn1, mn1, br1, cn1, G1) := ⟨_, _, _, _, _, _, _, _, rfl⟩
      rw [hX] at h
      dsimp only at h
      by_cases hf : f = 0
      · rw [if_pos hf] at h
        subst hf
        have hG : G1 = yTok G := by
          cases wn with
          | true => exact (leafA_G hX).1
          | false => exact (signsA_G hX).1
        subst hG
        exact (sumA_45 c E1 W1 wn1 mn1 br1 cn1 (yTok G) h).tr (k45_tok (k45.rf G))
      · rw [if_neg hf] at h; cases h; exact absurd rfl hf
theorem lnR_45 {I J : Nat → Nat → Int32} {pr sr dr rr kr : Nat} (h : lnR I pr sr dr rr kr true J) : k45 J I := by
  unfold lnR at h
  by_cases hk : I 134 8 = 1
  · rw [if_neg (fun w => w hk)] at h
    by_cases h6 : 6 < I 134 9
    · rw [if_pos h6] at h; cases h
    rw [if_neg h6] at h
    by_cases c0 : I 134 9 = 0
    · rw [if_pos c0] at h; exact yEnd_45 (qk_PL _ _) h
    rw [if_neg c0] at h
    by_cases c1 : I 134 9 = 1
    · rw [if_pos c1] at h; exact yEnd_45 (qk_SL _ _ _) h
    rw [if_neg c1] at h
    by_cases c2 : I 134 9 = 2
    · rw [if_pos c2] at h; exact yEnd_45 (qk_DL _ _ _) h
    rw [if_neg c2] at h
    by_cases c3 : I 134 9 = 3
    · rw [if_pos c3] at h; exact yEnd_45 (qk_CL _ _) h
    rw [if_neg c3] at h
    by_cases c4 : I 134 9 = 4
    · rw [if_pos c4] at h; exact yEnd_45 (qk_RL _ _) h
    rw [if_neg c4] at h
    by_cases c5 : I 134 9 = 5
    · rw [if_pos c5] at h
      by_cases hs : I 134 22 = 0
      · rw [if_pos hs] at h
        exact yEnd_45 (qk_num (k45_tok (k45_set (by decide) (by decide) (k45.rf I)))) h
      · rw [if_neg hs] at h; cases h
    rw [if_neg c5] at h
    unfold lnL at h
    dsimp only at h
    by_cases k1 : yTok I 134 8 = 1
    · rw [if_neg (fun w => w k1)] at h
      by_cases k2 : yTok I 134 9 < 13
      · rw [if_pos k2] at h; cases h
      rw [if_neg k2] at h
      by_cases k3 : 15 < yTok I 134 9
      · rw [if_pos k3] at h; cases h
      rw [if_neg k3] at h
      obtain ⟨kk, hkk⟩ : ∃ kk, kk = 3 + ixn (yTok I 134 9) - 13 := ⟨_, rfl⟩
      rw [← hkk] at h
      by_cases k4 : yTok I 152 kk = 0
      · rw [if_neg (fun w => w k4)] at h
        obtain ⟨f, E, W, wn, mn, br, cn, G, J4, hX, ⟨w1, w2, w3, w4⟩, h⟩ := h
        obtain ⟨q1, q2, -, -⟩ := yEnd_ok h
        have hf : f = 0 := of_decide_eq_true q1
        subst hf
        obtain ⟨-, -, -, -, q5, -⟩ := w3 rfl
        have e := sumA_45 _ _ _ _ _ _ _ _ hX
        rw [q2]
        have t1 : k45 J4 G := ⟨q5.2.2 4 (by decide) (by decide), q5.2.2 5 (by decide) (by decide)⟩
        have t2 : k45 (sI (yTok (sI (yTok I) 152 kk 1)) 153 kk (nI kr)) I := k45_st (by decide) (k45_tok (k45_st (by decide) (k45_tok (k45.rf I))))
        exact k45_tok (k45_st (by decide) (t1.tr (e.tr t2)))
      · rw [if_pos k4] at h; cases h
    · rw [if_pos k1] at h; cases h
  · rw [if_pos hk] at h; cases h
theorem txC_45 : ∀ {m : Nat} {I J : Nat → Nat → Int32}, txC m I J → k45 J I
  | 0, I, J, h => by
    have e : J = I := h
    subst e
    exact k45.rf _
  | m + 1, I, J, h => by
    obtain ⟨K, _, _, _, _, _, _, _, k3, k4⟩ := h
    exact (txC_45 k4).tr (lnR_45 k3)
