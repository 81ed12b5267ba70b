/-! ===== a text that is refused: what stands stays ===== -/
def hfN (a : Nat) : Nat := if a ≤ 141 then 5 else if a ≤ 146 then 16 else if a ≤ 150 then 8 else if a = 151 then 32 else if a ≤ 154 then 3 else if a ≤ 157 then 64 else 0
def hfK (k : Nat) : Bool := (decide (12 ≤ k) && decide (k ≤ 16)) || decide (51 < k)
/-- what reading a text leaves of the reference's memory -/
def hlf (J I : Nat → Nat → Int32) : Prop := (∀ a, a < 134 ∨ a = 135 ∨ a = 136 ∨ 159 < a → J a = I a) ∧ (∀ a k, 137 ≤ a → a ≤ 157 → k < hfN a → J a k = I a k) ∧ ∀ k, hfK k = true → J 134 k = I 134 k
theorem hlf.rf (I : Nat → Nat → Int32) : hlf I I := ⟨fun _ _ => rfl, fun _ _ _ _ _ => rfl, fun _ _ => rfl⟩
theorem hlf.tr {I J K : Nat → Nat → Int32} (h1 : hlf K J) (h2 : hlf J I) : hlf K I := ⟨fun a h => (h1.1 a h).trans (h2.1 a h), fun a k x y z => (h1.2.1 a k x y z).trans (h2.2.1 a k x y z), fun k h => (h1.2.2 k h).trans (h2.2.2 k h)⟩
theorem hfK_iff (k : Nat) : hfK k = true ↔ (12 ≤ k ∧ k ≤ 16) ∨ 51 < k := by
  unfold hfK
  simp
theorem hlf_st {J I : Nat → Nat → Int32} {a k : Nat} {x : Int32} (h1 : 137 ≤ a) (h2 : a ≤ 159) (hk : hfN a ≤ k) (h : hlf J I) : hlf (sI J a k x) I := by
  refine ⟨fun b hb => by rw [sI_ne (by omega)]; exact h.1 b hb, fun b j x1 x2 x3 => ?_, fun j hj => by rw [sI_ne (by omega)]; exact h.2.2 j hj⟩
  by_cases e : b = a
  · subst e; rw [sI_rd (by omega)]; exact h.2.1 b j x1 x2 x3
  · rw [sI_ne e]; exact h.2.1 b j x1 x2 x3
theorem hlf_s5 {J I : Nat → Nat → Int32} {a k : Nat} {x : Int32} (h1 : 137 ≤ a) (h2 : a ≤ 141) (hk : 5 ≤ k) (h : hlf J I) : hlf (sI J a k x) I := hlf_st h1 (by omega) (by unfold hfN; rw [if_pos h2]; exact hk) h
theorem hlf_s16 {J I : Nat → Nat → Int32} {a k : Nat} {x : Int32} (h1 : 142 ≤ a) (h2 : a ≤ 146) (hk : 16 ≤ k) (h : hlf J I) : hlf (sI J a k x) I := hlf_st (by omega) (by omega) (by unfold hfN; rw [if_neg (by omega), if_pos h2]; exact hk) h
theorem hlf_s8 {J I : Nat → Nat → Int32} {a k : Nat} {x : Int32} (h1 : 147 ≤ a) (h2 : a ≤ 150) (hk : 8 ≤ k) (h : hlf J I) : hlf (sI J a k x) I := hlf_st (by omega) (by omega) (by unfold hfN; rw [if_neg (by omega), if_neg (by omega), if_pos h2]; exact hk) h
theorem hlf_s32 {J I : Nat → Nat → Int32} {k : Nat} {x : Int32} (hk : 32 ≤ k) (h : hlf J I) : hlf (sI J 151 k x) I := hlf_st (by decide) (by decide) (by show 32 ≤ k; exact hk) h
theorem hlf_set {J I : Nat → Nat → Int32} {k : Nat} {x : Int32} (hk : hfK k = false) (h : hlf J I) : hlf (sI J 134 k x) I := by
  refine ⟨fun b hb => by rw [sI_ne (by omega)]; exact h.1 b hb, fun b j x1 x2 x3 => by rw [sI_ne (by omega)]; exact h.2.1 b j x1 x2 x3, fun j hj => ?_⟩
  rw [sI_rd (fun e => by rw [e, hk] at hj; cases hj)]; exact h.2.2 j hj
theorem hlf_pf {J I : Nat → Nat → Int32} (f : prF J I) : hlf J I := ⟨fun a ha => f.1 a (by omega), fun a k h1 _ _ => by rw [f.1 a (by omega)], fun k hk => f.2 k (fun w => by
  rw [hfK_iff] at hk
  simp at w
  omega)⟩
theorem hlf_tok {J I : Nat → Nat → Int32} (h : hlf J I) : hlf (yTok J) I := (hlf_pf (prF_tok J)).tr h
theorem hlf_wr {J I : Nat → Nat → Int32} {q : Int32} (h : hlf J I) : hlf (yWr J q) I := hlf_set rfl (hlf_set rfl h)
def hfq (I : Nat → Nat → Int32) (q : Bool × (Nat → Nat → Int32)) : Prop := hlf q.2 I
theorem hfq_p {I Z : Nat → Nat → Int32} {b : Bool} (h : hlf Z I) : hfq I (b, Z) := h
theorem hfq_if {I : Nat → Nat → Int32} {c : Prop} [Decidable c] {a b : Bool × (Nat → Nat → Int32)} (ha : hfq I a) (hb : hfq I b) : hfq I (if c then a else b) := by
  by_cases h : c
  · rw [if_pos h]; exact ha
  · rw [if_neg h]; exact hb
theorem hfq_B {I : Nat → Nat → Int32} {q : Bool × (Nat → Nat → Int32)} {f : (Nat → Nat → Int32) → Bool × (Nat → Nat → Int32)} (hq1 : hfq I q) (hf : ∀ K, hlf K I → hfq I (f K)) : hfq I (yB q f) := by
  unfold yB
  by_cases h : q.1 = true
  · rw [if_pos h]; exact hf _ hq1
  · rw [if_neg h]; exact hq1
theorem hfq_num {I G : Nat → Nat → Int32} {lo hi : Int32} (h : hlf G I) : hfq I (yNum G lo hi) := by
  unfold yNum
  exact hfq_if (hfq_p (hlf_wr h)) (hfq_if (hfq_p (hlf_wr h)) (hfq_p (hlf_tok (hlf_set rfl h))))
theorem hfq_pick {I G : Nat → Nat → Int32} {lo hi : Int32} (h : hlf G I) : hfq I (yPick G lo hi) := by
  unfold yPick
  exact hfq_if (hfq_p (hlf_wr h)) (hfq_if (hfq_p (hlf_wr h)) (hfq_if (hfq_p (hlf_wr h)) (hfq_p (hlf_set rfl (hlf_tok h)))))
theorem hfq_per {I G : Nat → Nat → Int32} {pr : Nat} (h : hlf G I) : hfq I (yPer G pr) := by
  unfold yPer
  exact hfq_if (hfq_p (hlf_wr h)) (hfq_if (hfq_p (hlf_wr h)) (hfq_p (hlf_set rfl (hlf_tok h))))
theorem hfq_PL (pr : Nat) (I : Nat → Nat → Int32) : hfq I (yPL pr I) := by
  unfold yPL
  repeat (first | with_reducible exact hlf.rf _ | with_reducible assumption | with_reducible refine hfq_if ?_ ?_ | with_reducible refine hfq_B ?_ (fun K hK => ?_) | with_reducible refine hfq_num ?_ | with_reducible refine hfq_pick ?_ | with_reducible refine hfq_per ?_ | with_reducible refine hfq_p ?_ | with_reducible refine hlf_wr ?_ | with_reducible refine hlf_set (by decide) ?_ | with_reducible refine hlf_s5 (by decide) (by decide) (by omega) ?_ | with_reducible refine hlf_s16 (by decide) (by decide) (by omega) ?_ | with_reducible refine hlf_s8 (by decide) (by decide) (by omega) ?_ | with_reducible refine hlf_s32 (by omega) ?_ | with_reducible refine hlf_tok ?_ | dsimp only)
theorem hfq_SL (pr sr : Nat) (I : Nat → Nat → Int32) : hfq I (ySL pr sr I) := by
  unfold ySL
  repeat (first | with_reducible exact hlf.rf _ | with_reducible assumption | with_reducible refine hfq_if ?_ ?_ | with_reducible refine hfq_B ?_ (fun K hK => ?_) | with_reducible refine hfq_num ?_ | with_reducible refine hfq_pick ?_ | with_reducible refine hfq_per ?_ | with_reducible refine hfq_p ?_ | with_reducible refine hlf_wr ?_ | with_reducible refine hlf_set (by decide) ?_ | with_reducible refine hlf_s5 (by decide) (by decide) (by omega) ?_ | with_reducible refine hlf_s16 (by decide) (by decide) (by omega) ?_ | with_reducible refine hlf_s8 (by decide) (by decide) (by omega) ?_ | with_reducible refine hlf_s32 (by omega) ?_ | with_reducible refine hlf_tok ?_ | dsimp only)
theorem hfq_DL (pr dr : Nat) (I : Nat → Nat → Int32) : hfq I (yDL pr dr I) := by
  unfold yDL
  repeat (first | with_reducible exact hlf.rf _ | with_reducible assumption | with_reducible refine hfq_if ?_ ?_ | with_reducible refine hfq_B ?_ (fun K hK => ?_) | with_reducible refine hfq_num ?_ | with_reducible refine hfq_pick ?_ | with_reducible refine hfq_per ?_ | with_reducible refine hfq_p ?_ | with_reducible refine hlf_wr ?_ | with_reducible refine hlf_set (by decide) ?_ | with_reducible refine hlf_s5 (by decide) (by decide) (by omega) ?_ | with_reducible refine hlf_s16 (by decide) (by decide) (by omega) ?_ | with_reducible refine hlf_s8 (by decide) (by decide) (by omega) ?_ | with_reducible refine hlf_s32 (by omega) ?_ | with_reducible refine hlf_tok ?_ | dsimp only)
theorem hfq_CL (pr : Nat) (I : Nat → Nat → Int32) : hfq I (yCL pr I) := by
  unfold yCL
  repeat (first | with_reducible exact hlf.rf _ | with_reducible assumption | with_reducible refine hfq_if ?_ ?_ | with_reducible refine hfq_B ?_ (fun K hK => ?_) | with_reducible refine hfq_num ?_ | with_reducible refine hfq_pick ?_ | with_reducible refine hfq_per ?_ | with_reducible refine hfq_p ?_ | with_reducible refine hlf_wr ?_ | with_reducible refine hlf_set (by decide) ?_ | with_reducible refine hlf_s5 (by decide) (by decide) (by omega) ?_ | with_reducible refine hlf_s16 (by decide) (by decide) (by omega) ?_ | with_reducible refine hlf_s8 (by decide) (by decide) (by omega) ?_ | with_reducible refine hlf_s32 (by omega) ?_ | with_reducible refine hlf_tok ?_ | dsimp only)
theorem hfq_RL (rr : Nat) (I : Nat → Nat → Int32) : hfq I (yRL rr I) := by
  unfold yRL
  repeat (first | with_reducible exact hlf.rf _ | with_reducible assumption | with_reducible refine hfq_if ?_ ?_ | with_reducible refine hfq_B ?_ (fun K hK => ?_) | with_reducible refine hfq_num ?_ | with_reducible refine hfq_pick ?_ | with_reducible refine hfq_per ?_ | with_reducible refine hfq_p ?_ | with_reducible refine hlf_wr ?_ | with_reducible refine hlf_set (by decide) ?_ | with_reducible refine hlf_s5 (by decide) (by decide) (by omega) ?_ | with_reducible refine hlf_s16 (by decide) (by decide) (by omega) ?_ | with_reducible refine hlf_s8 (by decide) (by decide) (by omega) ?_ | with_reducible refine hlf_s32 (by omega) ?_ | with_reducible refine hlf_tok ?_ | dsimp only)
theorem hfq_end {I : Nat → Nat → Int32} {q : Bool × (Nat → Nat → Int32)} (h : hfq I q) : hfq I (yEnd q) := by
  unfold yEnd
  exact hfq_if (hfq_if (hfq_p (hlf_tok h)) (hfq_p (hlf_wr h))) h
theorem pr_hlf {I J : Nat → Nat → Int32} {b : Bool} {q : Bool × (Nat → Nat → Int32)} (h : (b, J) = q) (hh : hfq I q) : hlf J I := by
  rw [← h] at hh; exact hh
theorem lnR_h {I J : Nat → Nat → Int32} {pr sr dr rr kr : Nat} {b : Bool} (hp : prI I) (h : lnR I pr sr dr rr kr b J) : hlf J I := by
  unfold lnR at h
  by_cases hk : I 134 8 = 1
  · rw [if_neg (fun w => w hk)] at h
    by_cases h6 : 6 < I 134 9
    · rw [if_pos h6] at h; exact pr_hlf h (hfq_p (hlf_wr (hlf.rf I)))
    rw [if_neg h6] at h
    by_cases c0 : I 134 9 = 0
    · rw [if_pos c0] at h; exact pr_hlf h (hfq_end (hfq_PL _ _))
    rw [if_neg c0] at h
    by_cases c1 : I 134 9 = 1
    · rw [if_pos c1] at h; exact pr_hlf h (hfq_end (hfq_SL _ _ _))
    rw [if_neg c1] at h
    by_cases c2 : I 134 9 = 2
    · rw [if_pos c2] at h; exact pr_hlf h (hfq_end (hfq_DL _ _ _))
    rw [if_neg c2] at h
    by_cases c3 : I 134 9 = 3
    · rw [if_pos c3] at h; exact pr_hlf h (hfq_end (hfq_CL _ _))
    rw [if_neg c3] at h
    by_cases c4 : I 134 9 = 4
    · rw [if_pos c4] at h; exact pr_hlf h (hfq_end (hfq_RL _ _))
    rw [if_neg c4] at h
    by_cases c5 : I 134 9 = 5
    · rw [if_pos c5] at h
      by_cases hs : I 134 22 = 0
      · rw [if_pos hs] at h
        exact pr_hlf h (hfq_end (hfq_num (hlf_tok (hlf_set rfl (hlf.rf I)))))
      · rw [if_neg hs] at h; exact pr_hlf h (hfq_p (hlf_wr (hlf.rf I)))
    rw [if_neg c5] at h
    unfold lnL at h
    dsimp only at h
    have t1 : hlf (yTok I) I := hlf_tok (hlf.rf I)
    by_cases k1 : yTok I 134 8 = 1
    · rw [if_neg (fun w => w k1)] at h
      by_cases k2 : yTok I 134 9 < 13
      · rw [if_pos k2] at h; exact pr_hlf h (hfq_p (hlf_wr t1))
      rw [if_neg k2] at h
      by_cases k3 : 15 < yTok I 134 9
      · rw [if_pos k3] at h; exact pr_hlf h (hfq_p (hlf_wr t1))
      rw [if_neg k3] at h
      obtain ⟨v, v25, hv⟩ := (tkI_tok hp).2.1 k1
      obtain ⟨kk, hkk⟩ : ∃ kk, kk = 3 + ixn (yTok I 134 9) - 13 := ⟨_, rfl⟩
      rw [← hkk] at h
      have hk3 : 3 ≤ kk := by
        rw [hkk, hv, ixn_nI (by omega)]
        rw [hv] at k2
        have := mt (nI_ltI (a := v) (b := 13) (by omega) (by decide)).mpr k2
        omega
      by_cases k4 : yTok I 152 kk = 0
      · rw [if_neg (fun w => w k4)] at h
        obtain ⟨f, E, W, wn, mn, br, cn, G, J4, hX, ⟨w1, w2, w3, w4⟩, h⟩ := h
        have t3 : hlf (sI (yTok (sI (yTok I) 152 kk 1)) 153 kk (nI kr)) I := hlf_st (by decide) (by decide) (show 3 ≤ kk from hk3) (hlf_tok (hlf_st (by decide) (by decide) (show 3 ≤ kk from hk3) t1))
        have t4 : hlf J4 (sI (yTok (sI (yTok I) 152 kk 1)) 153 kk (nI kr)) := by
          refine ⟨fun a ha => w2.1 a (by simp; omega), fun a k x1 x2 x3 => ?_, fun k hk => w2.2.1 k (fun w => by rw [hfK_iff] at hk; simp at w; omega)⟩
          by_cases e : a ≤ 154
          · rw [w2.1 a (by simp; omega)]
          · have e3 : a = 155 ∨ a = 156 ∨ a = 157 := by omega
            rcases e3 with rfl | rfl | rfl
            · exact (w2.2.2 k (Nat.lt_of_lt_of_le x3 (by show 64 ≤ 64 + kr; omega))).1
            · exact (w2.2.2 k (Nat.lt_of_lt_of_le x3 (by show 64 ≤ 64 + kr; omega))).2.1
            · exact (w2.2.2 k (Nat.lt_of_lt_of_le x3 (by show 64 ≤ 64 + kr; omega))).2.2
        exact pr_hlf h (hfq_end (hfq_p (hlf_st (by decide) (by decide) (show 3 ≤ kk from hk3) (t4.tr t3))))
      · rw [if_pos k4] at h; exact pr_hlf h (hfq_p (hlf_wr t1))
    · rw [if_pos k1] at h; exact pr_hlf h (hfq_p (hlf_wr t1))
  · rw [if_pos hk] at h; exact pr_hlf h (hfq_p (hlf_wr (hlf.rf I)))
theorem txC_h : ∀ {m : Nat} {I J : Nat → Nat → Int32}, txC m I J → hlf J I
  | 0, I, J, h => by
    have e : J = I := h
    subst e
    exact hlf.rf _
  | m + 1, I, J, h => by
    obtain ⟨K, _, _, _, _, _, k1, _, k3, k4⟩ := h
    exact (txC_h k4).tr (lnR_h k1.1 k3)
theorem yT0_h (I : Nat → Nat → Int32) (q : Int32) : hlf (yT0 I q) I := by
  unfold yT0
  refine hlf_tok ?_
  have e : ∀ Z : Nat → Nat → Int32, hlf (yPlain Z) Z := fun Z => by
    refine ⟨fun a ha => ?_, fun a k x1 x2 x3 => ?_, fun k hk => ?_⟩
    · unfold yPlain yPl7
      (repeat first | rw [aU_ne (by omega)] | rw [sI_ne (by omega)])
    · by_cases e1 : a = 141
      · subst e1
        show rng (-1) (Z 141) 5 10 k = _
        exact if_neg (fun w => absurd (show k < 5 from x3) (by omega))
      · by_cases e2 : a = 152
        · subst e2
          show rng 0 (Z 152) 3 6 k = _
          exact if_neg (fun w => absurd (show k < 3 from x3) (by omega))
        · unfold yPlain yPl7
          (repeat first | rw [aU_ne (by omega)] | rw [sI_ne (by omega)])
    · rw [hfK_iff] at hk
      unfold yPlain yPl7
      rw [aU_ne (by decide), aU_ne (by decide)]
      (repeat rw [sI_rd (by omega)])
  exact (e _).tr (hlf_set rfl (hlf_set rfl (hlf_set rfl (hlf_set rfl (hlf_set rfl (hlf_set rfl (hlf.rf I)))))))
theorem kW_cg {kn pt ot kn' pt' ot' : Nat → Int32} : ∀ (c i : Nat) (S : List Nat), (∀ j, i ≤ j → j < i + c → kn' j = kn j ∧ pt' j = pt j ∧ ot' j = ot j) → kW kn pt ot c i S → kW kn' pt' ot' c i S
  | 0, i, S, _, h => h
  | c + 1, i, S, hc, h => by
    obtain ⟨e1, e2, e3⟩ := hc i (Nat.le_refl _) (by omega)
    have ih := fun S' => kW_cg (kn := kn) (pt := pt) (ot := ot) (kn' := kn') (pt' := pt') (ot' := ot') c (i + 1) S' (fun j h1 h2 => hc j (by omega) (by omega))
    unfold kW at h ⊢
    rw [e1, e2, e3]
    rcases h with ⟨a, b⟩ | ⟨a, b, d⟩ | ⟨a, x, s, b, d, e⟩ | ⟨q, a, b, d, x, y, s, e, f, g, k⟩
    · exact Or.inl ⟨a, ih _ b⟩
    · exact Or.inr (Or.inl ⟨a, b, ih _ d⟩)
    · exact Or.inr (Or.inr (Or.inl ⟨a, x, s, b, d, ih _ e⟩))
    · exact Or.inr (Or.inr (Or.inr ⟨q, a, b, d, x, y, s, e, f, g, ih _ k⟩))
/-- what stands is told by the first halves alone -/
theorem gR_h {X Y X' Y' : Nat → Nat → Int32} {t np ns nd nx sz : Nat} (h : gR X Y t np ns nd nx sz) (hy : hlf Y' Y) (hx : ∀ a, (t ≤ a ∧ a < t + 27) ∨ (62 ≤ a ∧ a < 134) → X' a = X a) (h10 : X' 1 10 = X 1 10) (htp : tpR X' Y') (h5 : X' 1 5 = Y' 134 4) (h6 : X' 1 6 = Y' 134 5) : gR X' Y' t np ns nd nx sz := by
  obtain ⟨⟨⟨⟨t1, t2, t3, t4, t5, t6⟩, wf, zk, db⟩, wr, mi, y64, um⟩, g2, g3, g4, g5, g6, ⟨o1, o2, o3, o4, -, -, -, o8⟩, ht⟩ := h
  obtain ⟨ha, hh, hk⟩ := hy
  have hp5 := t2.2.1
  have hs16 := t2.2.2.2.1
  have hd8 := t2.2.2.2.2.2
  have yf : ∀ k, (12 ≤ k ∧ k ≤ 16) ∨ 51 < k → Y' 134 k = Y 134 k := fun k q => hk k ((hfK_iff k).mpr q)
  have y5 : ∀ a k, 137 ≤ a → a ≤ 141 → k < 5 → Y' a k = Y a k := fun a k q1 q2 q3 => hh a k q1 (by omega) (by unfold hfN; rw [if_pos q2]; exact q3)
  have y16 : ∀ a k, 142 ≤ a → a ≤ 146 → k < 16 → Y' a k = Y a k := fun a k q1 q2 q3 => hh a k (by omega) (by omega) (by unfold hfN; rw [if_neg (by omega), if_pos q2]; exact q3)
  have y8 : ∀ a k, 147 ≤ a → a ≤ 150 → k < 8 → Y' a k = Y a k := fun a k q1 q2 q3 => hh a k (by omega) (by omega) (by unfold hfN; rw [if_neg (by omega), if_neg (by omega), if_pos q2]; exact q3)
  have y32 : ∀ k, k < 32 → Y' 151 k = Y 151 k := fun k q => hh 151 k (by omega) (by omega) q
  have y3 : ∀ a k, 152 ≤ a → a ≤ 154 → k < 3 → Y' a k = Y a k := fun a k q1 q2 q3 => hh a k (by omega) (by omega) (by unfold hfN; rw [if_neg (by omega), if_neg (by omega), if_neg (by omega), if_neg (by omega), if_pos q2]; exact q3)
  have y64' : ∀ a k, 155 ≤ a → a ≤ 157 → k < 64 → Y' a k = Y a k := fun a k q1 q2 q3 => hh a k (by omega) (by omega) (by unfold hfN; rw [if_neg (by omega), if_neg (by omega), if_neg (by omega), if_neg (by omega), if_neg (by omega), if_pos q2]; exact q3)
  have yo : ∀ a, 159 < a → Y' a = Y a := fun a q => ha a (by omega)
  have xt : ∀ k, k < 27 → X' (t + k) = X (t + k) := fun k q => hx _ (by omega)
  have x0 : X' t = X t := hx t (by omega)
  have xw : ∀ a, 62 ≤ a → a < 134 → X' a = X a := fun a q1 q2 => hx a (by omega)
  have hlaw : lawR X' Y' t := fun r hr => by
    have l3 := lr_3 r hr
    rw [xt 24 (by omega), xt 22 (by omega), xt 23 (by omega), xt 20 (by omega), xt 21 (by omega), y3 152 _ (by omega) (by omega) l3, y3 153 _ (by omega) (by omega) l3, y3 154 _ (by omega) (by omega) l3]
    refine ⟨(t6 r hr).1, fun w => ?_⟩
    obtain ⟨q1, q2, q3⟩ := (t6 r hr).2 w
    obtain ⟨b, e, w1, w2, w3, w4, -⟩ := wf (lr r) l3 w
    refine ⟨q1, q2, fun i i1 i2 => ?_⟩
    have i64 : i < 64 := by rw [w2, ixn_nI (by omega)] at i2; omega
    rw [y64' 155 i (by omega) (by omega) i64, y64' 156 i (by omega) (by omega) i64]
    exact q3 i i1 i2
  refine ⟨⟨⟨⟨by unfold tOK; rw [x0]; exact t1, ?_, fun p hp => ?_, fun s hs => ?_, fun d hd => ?_, hlaw⟩, fun r hr w => ?_, ⟨fun s hs => ?_, fun p hp => ?_⟩, fun d hd => ?_⟩, ?_, mI_cgY mi (fun a q1 q2 => yo a (by omega)), by rw [yf 64 (by omega)]; exact y64, ?_⟩, by rw [xw 62 (by omega) (by omega)]; exact g2, by rw [yf 62 (by omega), yf 63 (by omega)]; exact g3, fun d hd => ?_, by rw [yo 167 (by omega)]; exact g5, ?_, ⟨?_, ?_, ?_, ?_, htp, h5, h6, by rw [xt 19 (by omega), yf 16 (by omega)]; exact o8⟩, ht⟩
  · unfold mOK; rw [yf 12 (by omega), yf 13 (by omega), yf 14 (by omega)]; exact t2
  · rw [xt 1 (by omega), xt 2 (by omega), xt 3 (by omega), xt 4 (by omega), y5 137 p (by omega) (by omega) (by omega), y5 138 p (by omega) (by omega) (by omega), y5 139 p (by omega) (by omega) (by omega), y5 140 p (by omega) (by omega) (by omega)]; exact t3 p hp
  · rw [xt 6 (by omega), xt 7 (by omega), xt 9 (by omega), y16 142 s (by omega) (by omega) (by omega), y16 143 s (by omega) (by omega) (by omega), y16 145 s (by omega) (by omega) (by omega)]; exact t4 s hs
  · rw [xt 11 (by omega), xt 12 (by omega), xt 13 (by omega), xt 14 (by omega), y8 147 d (by omega) (by omega) (by omega), y8 148 d (by omega) (by omega) (by omega), y8 149 d (by omega) (by omega) (by omega), y8 150 d (by omega) (by omega) (by omega)]; exact t5 d hd
  · rw [y3 152 r (by omega) (by omega) hr] at w
    obtain ⟨b, e, w1, w2, w3, w4, w5⟩ := wf r hr w
    rw [y3 153 r (by omega) (by omega) hr, y3 154 r (by omega) (by omega) hr]
    exact ⟨b, e, w1, w2, w3, w4, kW_cg _ _ _ (fun j j1 j2 => ⟨y64' 155 j (by omega) (by omega) (by omega), y64' 156 j (by omega) (by omega) (by omega), y64' 157 j (by omega) (by omega) (by omega)⟩) w5⟩
  · rw [y16 143 s (by omega) (by omega) (by omega)]; exact zk.1 s hs
  · rw [y5 139 p (by omega) (by omega) (by omega)]; exact zk.2 p hp
  · rw [y8 147 d (by omega) (by omega) (by omega), y8 148 d (by omega) (by omega) (by omega), y8 149 d (by omega) (by omega) (by omega)]; exact db d hd
  · obtain ⟨w1, w2, w3, w4, w5, w6⟩ := wr
    refine ⟨fun s hs => ?_, fun p hp => ?_, fun d hd => ?_, by rw [xw 62 (by omega) (by omega), yo 167 (by omega)]; exact w4, by rw [xw 62 (by omega) (by omega), yf 62 (by omega)]; exact w5, by rw [xw 62 (by omega) (by omega), yf 63 (by omega)]; exact w6⟩
    · unfold ySide
      rw [xw (62 + 1) (by omega) (by omega), xw (62 + 2) (by omega) (by omega), xw (62 + 3) (by omega) (by omega), yf 64 (by omega), yo 162 (by omega), yo 163 (by omega), y16 142 s (by omega) (by omega) (by omega)]
      exact w1 s hs
    · rw [xw (62 + 4) (by omega) (by omega), yo 164 (by omega), yo 165 (by omega)]; exact w2 p hp
    · rw [xw (62 + 5) (by omega) (by omega), yo 166 (by omega)]; exact w3 d hd
  · unfold uM; rw [yo 163 (by omega), yo 162 (by omega)]; exact um
  · rw [y8 150 d (by omega) (by omega) (by omega), yo 166 (by omega), yo 167 (by omega)]; exact g4 d hd
  · obtain ⟨q1, q2, q3, q4, q5, q6⟩ := g6
    refine ⟨by rw [xw 80 (by omega) (by omega)]; exact q1, q2, by rw [xw 80 (by omega) (by omega)]; exact q3, q4, by rw [yf 86 (by omega)]; exact q5, fun k hk => ?_⟩
    rw [xw (82 + (nx + 20 - sz + k) % 20) (by omega) (by omega), xw (103 + (nx + 20 - sz + k) % 20) (by omega) (by omega), yo 162 (by omega), show en Y' k = en Y k from by unfold en; rw [yo 181 (by omega)]]
    exact q6 k hk
  · rcases o1 with ⟨q1, q2⟩ | ⟨q1, q2, q3, q4, q5, q6, q7, q8, q9, q10, q11⟩
    · exact Or.inl ⟨by rw [h10]; exact q1, by rw [yf 88 (by omega)]; exact q2⟩
    · refine Or.inr ⟨by rw [h10]; exact q1, by rw [yf 88 (by omega)]; exact q2, fun s hs => ?_, by rw [xw 71 (by omega) (by omega), xw 72 (by omega) (by omega), yo 182 (by omega)]; exact q4, fun d hd => ?_, by rw [xw 68 (by omega) (by omega), yf 92 (by omega)]; exact q6, by rw [xw 68 (by omega) (by omega)]; exact q7, by rw [xw 68 (by omega) (by omega)]; exact q8, by rw [yo 182 (by omega), yo 183 (by omega)]; exact q9, fun d hd => ?_, by rw [yf 92 (by omega)]; exact q11⟩
      · rw [xw 69 (by omega) (by omega), xw 70 (by omega) (by omega), y16 142 s (by omega) (by omega) (by omega), yo 183 (by omega)]; exact q3 s hs
      · rw [xw 73 (by omega) (by omega), yo 184 (by omega)]; exact q5 d hd
      · rw [y8 150 d (by omega) (by omega) (by omega), yf 92 (by omega), yo 184 (by omega)]; exact q10 d hd
  · obtain ⟨tk, q1, q2, q3, q4, q5, q6, q7⟩ := o2
    refine ⟨tk, q1, by rw [xw 123 (by omega) (by omega)]; exact q2, by rw [yf 80 (by omega)]; exact q3, by unfold tkM; rw [yo 178 (by omega)]; exact q4, by rw [xw 123 (by omega) (by omega), yf 81 (by omega)]; exact q5, by rw [yf 81 (by omega)]; exact q6, ?_⟩
    rw [xw 124 (by omega) (by omega), xw 125 (by omega) (by omega), yo 178 (by omega)]; exact q7
  · obtain ⟨c, ⟨c1, c2, c3⟩, q2⟩ := o3
    refine ⟨c, ⟨fun p hp => ?_, c2, c3⟩, by rw [xt 5 (by omega)]; exact q2⟩
    rw [y5 141 p (by omega) (by omega) (by omega)]; exact c1 p hp
  · obtain ⟨nr, q1, q2, q3, q4, q5, q6⟩ := o4
    refine ⟨nr, q1, by rw [xt 15 (by omega)]; exact q2, by rw [yf 15 (by omega)]; exact q3, fun k hk => ?_, fun a b ha hb hn => ?_, fun k k' hk hk' => ?_⟩
    · rw [xt 16 (by omega), xt 17 (by omega), y32 _ (by omega), y32 _ (by omega), y32 _ (by omega), y32 _ (by omega)]; exact q4 k hk
    · rw [xt 17 (by omega)]
      refine q5 a b ha hb (fun k hk w => hn k hk ?_)
      rw [y32 _ (by omega), y32 _ (by omega)]; exact w
    · rw [y32 _ (by omega), y32 _ (by omega), y32 _ (by omega), y32 _ (by omega)]; exact q6 k k' hk hk'
