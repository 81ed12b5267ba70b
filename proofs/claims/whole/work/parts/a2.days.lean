/-! ===== class and reference: moves, hands, wear, debts, days ===== -/
/-- what is told: nothing of it changes but by a text -/
def sT (X Y : Nat → Nat → Int32) (t np ns nd : Nat) : Prop := tR X Y t np ns nd ∧ wfL Y ∧ zOK Y np ns ∧ dbM Y np nd
/-- of the reference: what is told is the same -/
def txY (K J : Nat → Nat → Int32) : Prop := (∀ a, 135 ≤ a → a < 158 → K a = J a) ∧ K 134 12 = J 134 12 ∧ K 134 13 = J 134 13 ∧ K 134 14 = J 134 14
theorem lawR_cg {X Y X' Y' : Nat → Nat → Int32} {t : Nat} (h : lawR X Y t) (hX : ∀ a, t ≤ a → a ≤ t + 26 → a ≠ t + 18 → X' a = X a) (hY : ∀ a, 135 ≤ a → a < 158 → Y' a = Y a) : lawR X' Y' t := by
  intro r hr
  have h0 := h r hr
  rw [hX (t + 24) (by omega) (by omega) (by omega), hX (t + 22) (by omega) (by omega) (by omega), hX (t + 23) (by omega) (by omega) (by omega), hX (t + 20) (by omega) (by omega) (by omega), hX (t + 21) (by omega) (by omega) (by omega), hY 152 (by omega) (by omega), hY 153 (by omega) (by omega), hY 154 (by omega) (by omega), hY 155 (by omega) (by omega), hY 156 (by omega) (by omega)]
  exact h0
theorem tR_cg {X Y X' Y' : Nat → Nat → Int32} {t np ns nd : Nat} (h : tR X Y t np ns nd) (hX : ∀ a, t ≤ a → a ≤ t + 26 → a ≠ t + 18 → X' a = X a) (hY : txY Y' Y) : tR X' Y' t np ns nd := by
  obtain ⟨h1, h2, h3, h4, h5, h6⟩ := h
  have y := hY.1
  refine ⟨?_, ?_, fun p hp => ?_, fun s hs => ?_, fun d hd => ?_, lawR_cg h6 hX y⟩
  · unfold tOK at h1 ⊢
    rw [hX t (by omega) (by omega) (by omega)]
    exact h1
  · unfold mOK at h2 ⊢
    rw [hY.2.1, hY.2.2.1, hY.2.2.2]
    exact h2
  · rw [hX (t + 1) (by omega) (by omega) (by omega), hX (t + 2) (by omega) (by omega) (by omega), hX (t + 3) (by omega) (by omega) (by omega), hX (t + 4) (by omega) (by omega) (by omega), y 137 (by omega) (by omega), y 138 (by omega) (by omega), y 139 (by omega) (by omega), y 140 (by omega) (by omega)]
    exact h3 p hp
  · rw [hX (t + 6) (by omega) (by omega) (by omega), hX (t + 7) (by omega) (by omega) (by omega), hX (t + 9) (by omega) (by omega) (by omega), y 142 (by omega) (by omega), y 143 (by omega) (by omega), y 145 (by omega) (by omega)]
    exact h4 s hs
  · rw [hX (t + 11) (by omega) (by omega) (by omega), hX (t + 12) (by omega) (by omega) (by omega), hX (t + 13) (by omega) (by omega) (by omega), hX (t + 14) (by omega) (by omega) (by omega), y 147 (by omega) (by omega), y 148 (by omega) (by omega), y 149 (by omega) (by omega), y 150 (by omega) (by omega)]
    exact h5 d hd
theorem sT_cg {X Y X' Y' : Nat → Nat → Int32} {t np ns nd : Nat} (h : sT X Y t np ns nd) (hX : ∀ a, t ≤ a → a ≤ t + 26 → a ≠ t + 18 → X' a = X a) (hY : txY Y' Y) : sT X' Y' t np ns nd := by
  obtain ⟨h1, h2, h3, h4⟩ := h
  have y := hY.1
  refine ⟨tR_cg h1 hX hY, ?_, ?_, ?_⟩
  · unfold wfL at h2 ⊢
    rw [y 152 (by omega) (by omega), y 153 (by omega) (by omega), y 154 (by omega) (by omega), y 155 (by omega) (by omega), y 156 (by omega) (by omega), y 157 (by omega) (by omega)]
    exact h2
  · unfold zOK at h3 ⊢
    rw [y 143 (by omega) (by omega), y 139 (by omega) (by omega)]
    exact h3
  · unfold dbM at h4 ⊢
    rw [y 147 (by omega) (by omega), y 148 (by omega) (by omega), y 149 (by omega) (by omega)]
    exact h4
theorem txY_of {K J : Nat → Nat → Int32} (h : ∀ a, a < 162 → K a = J a) : txY K J := ⟨fun a _ ha => h a (by omega), by rw [h 134 (by omega)], by rw [h 134 (by omega)], by rw [h 134 (by omega)]⟩
/-- who wears a shoe owns it -/
def ftO (Y : Nat → Nat → Int32) (b np j : Nat) : Prop := ∀ p, p < np → (Y 164 (5 * b + p) = nI j ∨ Y 165 (5 * b + p) = nI j) → Y 163 (16 * b + j) = nI p
theorem ftO_of {Y : Nat → Nat → Int32} {b np ns j : Nat} (hi : mI Y b np ns) (hj : j < ns) (hns : ns ≤ 16) : ftO Y b np j := by
  intro p hp h
  have key : ∀ x, ftOK Y b ns p x → x = nI j → Y 163 (16 * b + j) = nI p := by
    rintro x (rfl | ⟨i, hi, rfl, ho, -⟩) hx
    · exact absurd hx (fun e => by
        have := congrArg Int32.toInt e
        rw [nI_toInt (by omega)] at this
        have e1 : (-1 : Int32).toInt = -1 := rfl
        omega)
    · have : i = j := (nI_eq (by omega) (by omega)).mp hx
      subst this
      exact ho
  rcases h with h | h
  · exact key _ (hi.2 p hp).1 h
  · exact key _ (hi.2 p hp).2 h
theorem worn_y {X Y : Nat → Nat → Int32} {t w b np ns nd j : Nat} (hT : tR X Y t np ns nd) (hW : wR X Y w b np ns nd) (hi : mI Y b np ns) (hj : j < ns) : xWorn X t w j ↔ yWornA Y b (nI j) np := by
  have hns := hT.2.1.2.2.2.1
  have hnp := hT.2.1.2.1
  unfold xWorn yWornA
  rw [yWo_iff, (hW.1 j hj).2.2]
  constructor
  · rintro ⟨hP, h⟩
    obtain ⟨p1, p2⟩ := hT.P ((hT.hasP _).mp hP)
    refine ⟨ixn (Y 163 (16 * b + j)), p1, ?_⟩
    rw [(hW.2.1 _ p1).1, (hW.2.1 _ p1).2] at h
    exact h
  · rintro ⟨p, hp, h⟩
    have ho := ftO_of hi hj hns p hp h
    rw [ho, ixn_nI (by omega), (hW.2.1 p hp).1, (hW.2.1 p hp).2]
    exact ⟨(hT.hasP _).mpr (hT.ofP hp), h⟩
theorem sI_at (I : Nat → Nat → Int32) (a k j : Nat) (x : Int32) : sI I a k x a j = if j = k then x else I a j := by
  rw [sI_eq]
  rfl
theorem wR_goes {X Y : Nat → Nat → Int32} {t w b np ns nd j : Nat} {to : Int32} (hT : tR X Y t np ns nd) (hW : wR X Y w b np ns nd) (hf : ftO Y b np j) (hj : j < ns) : wR (xMove X t w j to) (yGoes Y b j np to) w b np ns nd := by
  have hns := hT.2.1.2.2.2.1
  have hnp := hT.2.1.2.1
  obtain ⟨h1, h2, h3, h4, h5⟩ := hW
  refine ⟨fun s hs => ⟨?_, ?_, ?_⟩, fun p hp => ?_, fun d hd => ?_, ?_, ?_⟩
  · rw [xMove_ne (by omega) (by omega)]; exact (h1 s hs).1
  · rw [xMove_ne (by omega) (by omega)]; exact (h1 s hs).2.1
  · unfold xMove yGoes
    rw [sI_at, sI_at, aU_ne (by omega)]
    show (if s = j then to else X (w + 3) s) = if 16 * b + s = 16 * b + j then to else Y 163 (16 * b + s)
    by_cases e : s = j
    · rw [if_pos e, if_pos (by omega)]
    · rw [if_neg e, if_neg (by omega)]; exact (h1 s hs).2.2
  · have key : ∀ (i : Nat) (g : Nat → Int32), (i = 2 * p ∨ i = 2 * p + 1) → X (w + 4) i = g (5 * b + p) → (g (5 * b + p) = nI j → Y 163 (16 * b + j) = nI p) → xOff (X (w + 4)) (X (w + 3) j) (X t 0) (nI j) i = yOff g b np (nI j) (5 * b + p) := by
      intro i g hi he ho
      unfold xOff yOff
      by_cases z : g (5 * b + p) = nI j
      · have hop := ho z
        have c1 : (0 ≤ X (w + 3) j ∧ X (w + 3) j < X t 0) ∧ (i = 2 * ixn (X (w + 3) j) ∨ i = 2 * ixn (X (w + 3) j) + 1) ∧ X (w + 4) i = nI j := by
          rw [(h1 j hj).2.2, hop, ixn_nI (by omega)]
          exact ⟨(hT.hasP _).mpr (hT.ofP hp), hi, he.trans z⟩
        rw [if_pos c1, if_pos ⟨by omega, by omega, z⟩]
      · rw [if_neg (fun q => z (he.symm.trans q.2.2)), if_neg (fun q => z q.2.2), he]
    have e4 : xMove X t w j to (w + 4) = xOff (X (w + 4)) (X (w + 3) j) (X t 0) (nI j) := by
      unfold xMove
      rw [sI_ne (by omega), aU_eq]
    rw [e4]
    exact ⟨key _ (Y 164) (Or.inl rfl) (h2 p hp).1 (fun z => hf p hp (Or.inl z)), key _ (Y 165) (Or.inr rfl) (h2 p hp).2 (fun z => hf p hp (Or.inr z))⟩
  · rw [xMove_ne (by omega) (by omega)]; exact h3 d hd
  · rw [xMove_ne (by omega) (by omega)]; exact h4
  · rw [xMove_ne (by omega) (by omega)]; exact h5
theorem wR_used {X Y : Nat → Nat → Int32} {w b np ns nd j : Nat} {v : Int32} (hW : wR X Y w b np ns nd) : wR (sI X (w + 2) j v) (sI Y 162 (16 * b + j) v) w b np ns nd := by
  obtain ⟨h1, h2, h3, h4, h5⟩ := hW
  refine ⟨fun s hs => ⟨?_, ?_, ?_⟩, fun p hp => ?_, fun d hd => ?_, ?_, ?_⟩
  · rw [sI_ne (by omega)]; exact (h1 s hs).1
  · rw [sI_at, sI_at]
    by_cases e : s = j
    · rw [if_pos e, if_pos (by omega)]
    · rw [if_neg e, if_neg (by omega)]; exact (h1 s hs).2.1
  · rw [sI_ne (by omega)]; exact (h1 s hs).2.2
  · rw [sI_ne (by omega)]; exact h2 p hp
  · rw [sI_ne (by omega)]; exact h3 d hd
  · rw [sI_ne (by omega)]; exact h4
  · rw [sI_ne (by omega)]; exact h5
theorem wR_debt {X Y : Nat → Nat → Int32} {w b np ns nd j : Nat} {v : Int32} (hW : wR X Y w b np ns nd) : wR (sI X (w + 5) j v) (sI Y 166 (8 * b + j) v) w b np ns nd := by
  obtain ⟨h1, h2, h3, h4, h5⟩ := hW
  refine ⟨fun s hs => ⟨?_, ?_, ?_⟩, fun p hp => ?_, fun d hd => ?_, ?_, ?_⟩
  · rw [sI_ne (by omega)]; exact (h1 s hs).1
  · rw [sI_ne (by omega)]; exact (h1 s hs).2.1
  · rw [sI_ne (by omega)]; exact (h1 s hs).2.2
  · rw [sI_ne (by omega)]; exact h2 p hp
  · rw [sI_at, sI_at]
    by_cases e : d = j
    · rw [if_pos e, if_pos (by omega)]
    · rw [if_neg e, if_neg (by omega)]; exact h3 d hd
  · rw [sI_ne (by omega)]; exact h4
  · rw [sI_ne (by omega)]; exact h5
theorem wR_day {X Y : Nat → Nat → Int32} {w b np ns nd : Nat} {v : Int32} (hW : wR X Y w b np ns nd) : wR (sI X w 1 v) (sI Y 167 b v) w b np ns nd := by
  obtain ⟨h1, h2, h3, h4, h5, h6⟩ := hW
  refine ⟨fun s hs => ⟨?_, ?_, ?_⟩, fun p hp => ?_, fun d hd => ?_, ?_, ?_, ?_⟩
  · rw [sI_ne (by omega)]; exact (h1 s hs).1
  · rw [sI_ne (by omega)]; exact (h1 s hs).2.1
  · rw [sI_ne (by omega)]; exact (h1 s hs).2.2
  · rw [sI_ne (by omega)]; exact h2 p hp
  · rw [sI_ne (by omega)]; exact h3 d hd
  · rw [sI_at, sI_at, if_pos rfl, if_pos rfl]
  · rw [sI_at, if_neg (by decide)]; exact h5
  · rw [sI_at, if_neg (by decide)]; exact h6

theorem wR_hand {X Y : Nat → Nat → Int32} {t w b np ns nd : Nat} {v to : Int32} (hT : tR X Y t np ns nd) (htw : t + 26 < w) (hW : wR X Y w b np ns nd) (hi : mI Y b np ns) (hto : to = -2 ∨ to = -1 ∨ ∃ p, p < np ∧ to = nI p) : ∀ n, n ≤ ns → wR (xHand X t w v to n) (yHand Y b np v to n) w b np ns nd
  | 0, _ => hW
  | n + 1, hn => by
    have hns := hT.2.1.2.2.2.1
    have ih := wR_hand (v := v) hT htw hW hi hto n (by omega)
    have hm := mI_hand (v := v) hi hns hto n (by omega)
    have hT' : tR (xHand X t w v to n) (yHand Y b np v to n) t np ns nd := tR_cg hT (fun a h1 h2 _ => xHand_ne (by omega) (by omega) n) (txY_of fun a ha => yHand_fr (by omega) (by omega) (by omega) n)
    show wR (if xBit v n then xMove (xHand X t w v to n) t w n to else xHand X t w v to n) (yHand Y b np v to (n + 1)) w b np ns nd
    by_cases z : xBit v n
    · rw [if_pos z, yHand_y z]
      exact wR_goes hT' ih (ftO_of hm (by omega) hns) (by omega)
    · rw [if_neg z, yHand_n z]
      exact ih
theorem dpR_cg {f g : Nat → Nat} {q : Nat} : ∀ (k s : Nat), (∀ i, i < k → f i = g i) → dpR f q k s = dpR g q k s
  | 0, _, _ => rfl
  | k + 1, s, h => by
    have e := h k (by omega)
    have ih : ∀ s, dpR f q k s = dpR g q k s := fun s => dpR_cg k s (fun i hi => h i (by omega))
    unfold dpR
    rw [e, ih s, ih (s - g k)]
theorem dpR_pad {f : Nat → Nat} {q n : Nat} (h : ∀ i, n ≤ i → f i = 0) : ∀ (k s : Nat), dpR f q (n + k) s = dpR f q n s
  | 0, _ => rfl
  | k + 1, s => by
    have e := h (n + k) (by omega)
    show dpR f q (n + k + 1) s = _
    conv => lhs; unfold dpR
    rw [if_pos (Or.inl e)]
    exact dpR_pad h k s
/-- the fewest shoes that make a sum -/
theorem for_y {X Y : Nat → Nat → Int32} {t w b np ns nd : Nat} (hS : sT X Y t np ns nd) (hW : wR X Y w b np ns nd) (hi : mI Y b np ns) {p : Int32} (hp : ¬ p = -2) (q : Nat) : (selB (yWt Y b ns p) q < 0 ∧ xFor X t w ns p q = -2) ∨ (¬ selB (yWt Y b ns p) q < 0 ∧ xFor X t w ns p q = selB (yWt Y b ns p) q ∧ ∃ v, v < 65536 ∧ selB (yWt Y b ns p) q = nI v) := by
  have hns := hS.1.2.1.2.2.2.1
  have e1 : dpR (xWt X t w p) q ns q = dpR (yWt Y b ns p) q ns q := by
    refine dpR_cg ns q fun k hk => ?_
    unfold xWt yWt
    rw [(hW.1 k hk).2.2]
    by_cases z : Y 163 (16 * b + k) = p
    · have hg : ¬ Y 163 (16 * b + k) = -2 := by rw [z]; exact hp
      rw [if_pos z, if_pos ⟨hk, z⟩, worth_y hS.1 hW hS.2.1 hi hk _ _ hg, (hW.1 k hk).2.1, hW.2.2.2.1]
      rfl
    · rw [if_neg z, if_neg (fun h => z h.2)]
  have e2 : dpR (yWt Y b ns p) q 16 q = dpR (yWt Y b ns p) q ns q := by
    have := dpR_pad (f := yWt Y b ns p) (q := q) (n := ns) (fun i hi => if_neg (fun h => by omega)) (16 - ns) q
    rwa [show ns + (16 - ns) = 16 by omega] at this
  unfold xFor selB
  rw [e1, e2]
  by_cases z : dpR (yWt Y b ns p) q ns q = INF
  · rw [if_pos z, if_pos z]
    exact Or.inl ⟨by decide, rfl⟩
  · rw [if_neg z, if_neg z]
    have hl : dpR (yWt Y b ns p) q ns q % 65536 < 65536 := Nat.mod_lt _ (by decide)
    exact Or.inr ⟨fun h => by
      have := Int32.lt_iff_toInt_lt.mp h
      rw [nI_toInt (by omega)] at this
      have e0 : (0 : Int32).toInt = 0 := rfl
      omega, rfl, _, hl, rfl⟩
theorem wR_use {X Y : Nat → Nat → Int32} {t w b np ns nd j : Nat} {m : Int32} (hT : tR X Y t np ns nd) (htw : t + 26 < w) (hW : wR X Y w b np ns nd) (hf : ftO Y b np j) (hj : j < ns) : wR (xUse X t w j m) (yWears Y b np (nI j) m) w b np ns nd := by
  have hns := hT.2.1.2.2.2.1
  have hn : ¬ nI j < 0 := Int32.not_lt.mpr (hT.ofS hj).1
  unfold xUse yWears
  rw [if_neg hn, ixn_nI (by omega), sI_at, if_pos rfl, (hW.1 j hj).2.1]
  have hU := wR_used (j := j) (v := Y 162 (16 * b + j) + m) hW
  by_cases z : Y 162 (16 * b + j) + m < 50
  · rw [if_pos z, if_pos z]
    exact hU
  · rw [if_neg z, if_neg z]
    exact wR_goes (tR_cg hT (fun a h1 h2 _ => sI_ne (by omega)) (txY_of fun a ha => sI_ne (by omega))) hU hf hj
theorem wR_foot {X Y : Nat → Nat → Int32} {t w b np ns nd p c f : Nat} (hS : sT X Y t np ns nd) (htw : t + 26 < w) (hW : wR X Y w b np ns nd) (hi : mI Y b np ns) (hp : p < np) (hc : (c = 164 ∧ f = 2 * p) ∨ (c = 165 ∧ f = 2 * p + 1)) : wR (xStep X t w f) (yFt c Y b np p) w b np ns nd := by
  have hns := hS.1.2.1.2.2.2.1
  have hft : X (w + 4) f = Y c (5 * b + p) ∧ ftOK Y b ns p (Y c (5 * b + p)) := by
    rcases hc with ⟨rfl, rfl⟩ | ⟨rfl, rfl⟩
    · exact ⟨(hW.2.1 p hp).1, (hi.2 p hp).1⟩
    · exact ⟨(hW.2.1 p hp).2, (hi.2 p hp).2⟩
  unfold xStep yFt
  rw [hft.1]
  rcases hft.2 with z | ⟨j, hj, z, ho, -⟩
  · rw [z, if_pos (show (-1 : Int32) < 0 by decide), if_neg (fun q => absurd q.1 (by decide))]
    exact hW
  · have hh : xHasS X t (nI j) := (hS.1.hasS _).mpr (hS.1.ofS hj)
    rw [z, if_pos hh, if_neg (Int32.not_lt.mpr (hS.1.ofS hj).1)]
    unfold xUseS
    rw [if_pos hh, ixn_nI (by omega), wear_y hS.1 hW hS.2.1 hi hj hp ho, (hW.1 j hj).2.1, hW.2.2.2.1]
    exact wR_use hS.1 htw hW (ftO_of hi hj hns) hj
theorem wR_walk {X Y : Nat → Nat → Int32} {t w b np ns nd : Nat} (hS : sT X Y t np ns nd) (htw : t + 26 < w) (hW : wR X Y w b np ns nd) (hi : mI Y b np ns) : ∀ n, n ≤ np → wR (xWalk X t w (2 * n)) (yWk Y b np n) w b np ns nd
  | 0, _ => hW
  | n + 1, hn => by
    have hns := hS.1.2.1.2.2.2.1
    have hnp := hS.1.2.1.2.1
    have ih := wR_walk hS htw hW hi n (by omega)
    have m1 := mI_wk hi hS.2.2.1 hnp hns n (by omega)
    have s1 : sT (xWalk X t w (2 * n)) (yWk Y b np n) t np ns nd := sT_cg hS (fun a h1 h2 _ => xWalk_ne (by omega) (by omega) (by omega) _) (txY_of fun a ha => yWk_fr (Or.inl ha) n)
    have r1 := wR_foot (c := 164) s1 htw ih m1 (show n < np by omega) (Or.inl ⟨rfl, rfl⟩)
    have m2 := mI_ft (c := 164) (Or.inl rfl) m1 s1.2.2.1 hnp hns (show n < np by omega)
    have s2 : sT (xStep (xWalk X t w (2 * n)) t w (2 * n)) (yFt 164 (yWk Y b np n) b np n) t np ns nd := sT_cg s1 (fun a h1 h2 _ => xStep_ne (by omega) (by omega) (by omega)) (txY_of fun a ha => yFt_fr (Or.inl ha))
    exact wR_foot (c := 165) s2 htw r1 m2 (show n < np by omega) (Or.inr ⟨rfl, rfl⟩)

theorem yGoes_166 {Y : Nat → Nat → Int32} {b j np k : Nat} {to x : Int32} : yGoes (sI Y 166 k x) b j np to = sI (yGoes Y b j np to) 166 k x := by
  funext a
  by_cases e : a = 166
  · subst e
    rw [sI_eq, yGoes_fr (by decide) (by decide) (by decide), sI_eq, yGoes_fr (by decide) (by decide) (by decide)]
  · rw [sI_ne e]
    by_cases e3 : a = 163
    · subst e3; rfl
    · by_cases e4 : a = 164
      · subst e4; rfl
      · by_cases e5 : a = 165
        · subst e5; rfl
        · rw [yGoes_fr e3 e4 e5, yGoes_fr e3 e4 e5, sI_ne e]
theorem yHand_166 {Y : Nat → Nat → Int32} {b np k : Nat} {v to x : Int32} : ∀ n, yHand (sI Y 166 k x) b np v to n = sI (yHand Y b np v to n) 166 k x
  | 0 => rfl
  | n + 1 => by
    by_cases z : xBit v n
    · rw [yHand_y z, yHand_y z, yHand_166 n, yGoes_166]
    · rw [yHand_n z, yHand_n z, yHand_166 n]
theorem wR_db {X Y : Nat → Nat → Int32} {t w b np ns nd d : Nat} (hS : sT X Y t np ns nd) (htw : t + 26 < w) (hW : wR X Y w b np ns nd) (hi : mI Y b np ns) (hd : d < nd) (h0 : Y 150 d = Y 167 b → Y 166 (8 * b + d) = 0) : wR (xDebt X t w ns d) (yDb Y b np ns d) w b np ns nd := by
  obtain ⟨d1, d2, d3, d4⟩ := hS.1.2.2.2.2.1 d hd
  obtain ⟨⟨p, hp, ep⟩, ⟨p2, hp2, ep2⟩, q, hq, hq1, eq⟩ := hS.2.2.2 d hd
  have hnp := hS.1.2.1.2.1
  unfold xDebt yDb
  rw [d1, d2, d3, d4, hW.2.2.2.1, hW.2.2.1 d hd]
  by_cases z : Y 150 d = Y 167 b
  · rw [if_pos ⟨z, h0 z⟩, if_pos z]
    have hne : ¬ Y 147 d = -2 := by
      rw [ep]
      intro e
      have := congrArg Int32.toInt e
      rw [nI_toInt (by omega)] at this
      have e1 : (-2 : Int32).toInt = -2 := rfl
      omega
    rcases for_y hS hW hi hne (ixn (Y 149 d)) with ⟨k1, k2⟩ | ⟨k1, k2, v, hv, k3⟩
    · rw [if_pos k2, if_pos k1]
      unfold yPaid
      rw [if_pos k1]
      exact wR_debt hW
    · have k4 : ¬ xFor X t w ns (Y 147 d) (ixn (Y 149 d)) = -2 := by
        rw [k2, k3]
        intro e
        have := congrArg Int32.toInt e
        rw [nI_toInt (by omega)] at this
        have e1 : (-2 : Int32).toInt = -2 := rfl
        omega
      rw [if_neg k4, if_neg k1]
      unfold yPaid
      rw [if_neg k1, ← yHand_166, k2]
      exact wR_hand (tR_cg hS.1 (fun a h1 h2 _ => sI_ne (by omega)) (txY_of fun a ha => sI_ne (by omega))) htw (wR_debt hW) (mI_166 hi) (Or.inr (Or.inr ⟨p2, hp2, ep2⟩)) ns (Nat.le_refl _)
  · rw [if_neg (fun h => z h.1), if_neg z]
    exact hW
theorem yDb_166 {Y : Nat → Nat → Int32} {b np ns d e : Nat} (h : e ≠ d ∨ ¬ Y 150 d = Y 167 b) : yDb Y b np ns d 166 (8 * b + e) = Y 166 (8 * b + e) := by
  unfold yDb
  by_cases z : Y 150 d = Y 167 b
  · rw [if_pos z, sI_at, if_neg (by rcases h with h | h; omega; exact absurd z h)]
    unfold yPaid
    split
    · rfl
    · rw [yHand_fr (by decide) (by decide) (by decide)]
  · rw [if_neg z]
theorem yDb_fr2 {Y : Nat → Nat → Int32} {b np ns d a : Nat} (h : a < 163 ∨ 166 < a) : yDb Y b np ns d a = Y a := by
  unfold yDb
  split
  · rw [sI_ne (by omega)]
    unfold yPaid
    split
    · rfl
    · rw [yHand_fr (by omega) (by omega) (by omega)]
  · rfl
theorem yDbs_fr2 {Y : Nat → Nat → Int32} {b np ns a : Nat} (h : a < 163 ∨ 166 < a) : ∀ n, yDbs Y b np ns n a = Y a
  | 0 => rfl
  | n + 1 => (yDb_fr2 h).trans (yDbs_fr2 h n)
theorem yDbs_166 {Y : Nat → Nat → Int32} {b np ns e : Nat} : ∀ n, (n ≤ e ∨ ¬ Y 150 e = Y 167 b) → yDbs Y b np ns n 166 (8 * b + e) = Y 166 (8 * b + e)
  | 0, _ => rfl
  | n + 1, h => by
    show yDb (yDbs Y b np ns n) b np ns n 166 (8 * b + e) = _
    rw [yDb_166, yDbs_166 n (by rcases h with h | h; exact Or.inl (by omega); exact Or.inr h)]
    rcases h with h | h
    · exact Or.inl (by omega)
    · by_cases q : e = n
      · subst q
        exact Or.inr (by rw [yDbs_fr2 (Or.inl (by decide)), yDbs_fr2 (Or.inr (by decide))]; exact h)
      · exact Or.inl q
theorem wR_dbs {X Y : Nat → Nat → Int32} {t w b np ns nd : Nat} (hS : sT X Y t np ns nd) (htw : t + 26 < w) (hW : wR X Y w b np ns nd) (hi : mI Y b np ns) (h0 : ∀ d, d < nd → Y 150 d = Y 167 b → Y 166 (8 * b + d) = 0) : ∀ n, n ≤ nd → wR (xDebts X t w ns n) (yDbs Y b np ns n) w b np ns nd
  | 0, _ => hW
  | n + 1, hn => by
    have hns := hS.1.2.1.2.2.2.1
    have ih := wR_dbs hS htw hW hi h0 n (by omega)
    have m1 := mI_dbs hi hS.2.2.2 hns n (by omega)
    have s1 : sT (xDebts X t w ns n) (yDbs Y b np ns n) t np ns nd := sT_cg hS (fun a h1 h2 _ => xDebts_ne (by omega) (by omega) (by omega) _) (txY_of fun a ha => yDbs_fr2 (Or.inl (by omega)) n)
    refine wR_db s1 htw ih m1 (by omega) ?_
    rw [yDbs_fr2 (Or.inl (by decide)), yDbs_fr2 (Or.inr (by decide)), yDbs_166 n (Or.inl (Nat.le_refl _))]
    exact h0 n (by omega)
/-- a debt whose day has not come is open -/
def dvM (Y : Nat → Nat → Int32) (b nd : Nat) : Prop := ∀ d, d < nd → ¬ Y 150 d < Y 167 b → Y 166 (8 * b + d) = 0
theorem wR_aDay {X Y : Nat → Nat → Int32} {t w b np ns nd : Nat} (hS : sT X Y t np ns nd) (htw : t + 26 < w) (hW : wR X Y w b np ns nd) (hi : mI Y b np ns) (hv : dvM Y b nd) : wR (xDay X t w np ns nd) (yDay Y b np ns nd) w b np ns nd := by
  have hns := hS.1.2.1.2.2.2.1
  have hnp := hS.1.2.1.2.1
  have w1 : wR (if X w 2 = 0 then X else xWalk X t w (2 * np)) (yWlk Y b np) w b np ns nd := by
    unfold yWlk
    by_cases z : Y 134 62 = 0
    · rw [if_pos z, if_neg (fun h => (hW.2.2.2.2.1.mp h) z)]
      exact wR_walk hS htw hW hi np (Nat.le_refl _)
    · rw [if_neg z, if_pos (hW.2.2.2.2.1.mpr z)]
      exact hW
  have i1 : mI (yWlk Y b np) b np ns := by
    unfold yWlk
    split
    · exact mI_wk hi hS.2.2.1 hnp hns np (Nat.le_refl _)
    · exact hi
  have s1 : sT (if X w 2 = 0 then X else xWalk X t w (2 * np)) (yWlk Y b np) t np ns nd := sT_cg hS (fun a h1 h2 _ => by
    split
    · rfl
    · exact xWalk_ne (by omega) (by omega) (by omega) _) (txY_of fun a ha => yWlk_fr (Or.inl ha))
  have x3 : (if X w 2 = 0 then X else xWalk X t w (2 * np)) w = X w := by
    split
    · rfl
    · exact xWalk_ne (by omega) (by omega) (by omega) _
  have w2 : wR (if X w 3 = 0 then (if X w 2 = 0 then X else xWalk X t w (2 * np)) else xDebts (if X w 2 = 0 then X else xWalk X t w (2 * np)) t w ns nd) (yOwe (yWlk Y b np) b np ns nd) w b np ns nd := by
    unfold yOwe
    have e : yWlk Y b np 134 63 = Y 134 63 := by rw [yWlk_fr (Or.inl (by decide))]
    rw [e]
    by_cases z : Y 134 63 = 0
    · rw [if_pos z, if_neg (fun h => (hW.2.2.2.2.2.mp h) z)]
      refine wR_dbs s1 htw w1 i1 (fun d hd => ?_) nd (Nat.le_refl _)
      rw [yWlk_fr (Or.inl (by decide)), yWlk_fr (Or.inr (by decide)), yWlk_fr (Or.inr (by decide))]
      exact fun q => hv d hd (by rw [q]; exact Int32.lt_irrefl)
    · rw [if_neg z, if_pos (hW.2.2.2.2.2.mpr z)]
      exact w1
  unfold xDay yDay yNext
  dsimp only
  have e := w2.2.2.2.1
  rw [e]
  exact wR_day w2
theorem dvM_day {Y : Nat → Nat → Int32} {b np ns nd dd : Nat} (hv : dvM Y b nd) (hd : Y 167 b = nI dd) (hl : dd < 2000) : dvM (yDay Y b np ns nd) b nd ∧ yDay Y b np ns nd 167 b = nI (dd + 1) := by
  have e1 : yOwe (yWlk Y b np) b np ns nd 167 = Y 167 := by
    unfold yOwe
    split
    · rw [yDbs_fr2 (Or.inr (by decide)), yWlk_fr (Or.inr (by decide))]
    · rw [yWlk_fr (Or.inr (by decide))]
  have e2 : yOwe (yWlk Y b np) b np ns nd 150 = Y 150 := by
    unfold yOwe
    split
    · rw [yDbs_fr2 (Or.inl (by decide)), yWlk_fr (Or.inl (by decide))]
    · rw [yWlk_fr (Or.inl (by decide))]
  have e3 : yDay Y b np ns nd 167 b = nI (dd + 1) := by
    unfold yDay yNext
    rw [sI_at, if_pos rfl, e1, hd, nI_1]
  refine ⟨fun d hdn hn => ?_, e3⟩
  rw [e3] at hn
  have e4 : yDay Y b np ns nd 150 = Y 150 := by
    unfold yDay yNext
    rw [sI_ne (by decide), e2]
  rw [e4] at hn
  have lt1 : nI dd < nI (dd + 1) := (nI_ltI (by omega) (by omega)).mpr (by omega)
  have n1 : ¬ Y 150 d < Y 167 b := by
    rw [hd]
    exact fun q => hn (Int32.lt_trans q lt1)
  have n2 : ¬ Y 150 d = Y 167 b := by
    rw [hd]
    exact fun q => hn (by rw [q]; exact lt1)
  unfold yDay yNext
  rw [sI_ne (by decide)]
  unfold yOwe
  split
  · rw [yDbs_166 nd (Or.inr (by rw [yWlk_fr (Or.inl (by decide)), yWlk_fr (Or.inr (by decide))]; exact n2)), yWlk_fr (Or.inr (by decide))]
    exact hv d hdn n1
  · rw [yWlk_fr (Or.inr (by decide))]
    exact hv d hdn n1
/-- a shoe that is not in the grave is not worn out -/
def uM (Y : Nat → Nat → Int32) (b ns : Nat) : Prop := ∀ s, s < ns → ¬ Y 163 (16 * b + s) = -2 → ∃ u, u < 50 ∧ Y 162 (16 * b + s) = nI u
theorem uM_goes {Y : Nat → Nat → Int32} {b np ns j : Nat} {to : Int32} (h : uM Y b ns) (hj : j < ns) (ht : to = -2 ∨ ¬ Y 163 (16 * b + j) = -2) : uM (yGoes Y b j np to) b ns := by
  intro s hs hn
  have e : yGoes Y b j np to 163 (16 * b + s) = if 16 * b + s = 16 * b + j then to else Y 163 (16 * b + s) := by
    unfold yGoes
    rw [sI_at]
    rfl
  rw [yGoes_fr (by decide) (by decide) (by decide)]
  by_cases z : s = j
  · subst z
    rw [e, if_pos rfl] at hn
    rcases ht with q | q
    · exact absurd q hn
    · exact h s hs q
  · rw [e, if_neg (by omega)] at hn
    exact h s hs hn
theorem uM_wears {Y : Nat → Nat → Int32} {b np ns j m : Nat} (h : uM Y b ns) (hns : ns ≤ 16) (hj : j < ns) (hu : ∃ u, u < 50 ∧ Y 162 (16 * b + j) = nI u) (hm : m ≤ 50) : uM (yWears Y b np (nI j) (nI m)) b ns := by
  obtain ⟨u, hu, hue⟩ := hu
  have key : ∀ x : Int32, ∀ s, s < ns → s ≠ j → ¬ sI Y 162 (16 * b + j) x 163 (16 * b + s) = -2 → ∃ u, u < 50 ∧ sI Y 162 (16 * b + j) x 162 (16 * b + s) = nI u := by
    intro x s hs hsj hn
    rw [sI_at, if_neg (by omega)]
    exact h s hs hn
  unfold yWears
  rw [if_neg (nI_pos (by omega)), ixn_nI (by omega), hue, nI_add]
  by_cases q : nI (u + m) < 50
  · rw [if_pos q]
    intro s hs hn
    by_cases z : s = j
    · subst z
      exact ⟨u + m, (cLt rfl (show (50 : Int32) = nI 50 from rfl) (by omega) (by decide)).mp q, by rw [sI_at, if_pos rfl]⟩
    · exact key _ s hs z hn
  · rw [if_neg q]
    intro s hs hn
    have e : yGoes (sI Y 162 (16 * b + j) (nI (u + m))) b j np (-2) 163 (16 * b + s) = if 16 * b + s = 16 * b + j then -2 else Y 163 (16 * b + s) := by
      unfold yGoes
      rw [sI_at]
      rfl
    rw [yGoes_fr (by decide) (by decide) (by decide)]
    by_cases z : s = j
    · subst z
      rw [e, if_pos rfl] at hn
      exact absurd rfl hn
    · rw [e, if_neg (by omega)] at hn
      exact key _ s hs z hn
theorem yHand_163 {Y : Nat → Nat → Int32} {b np k : Nat} {v to : Int32} : ∀ n, n ≤ k → yHand Y b np v to n 163 (16 * b + k) = Y 163 (16 * b + k)
  | 0, _ => rfl
  | n + 1, hn => by
    by_cases z : xBit v n
    · rw [yHand_y z]
      unfold yGoes
      rw [sI_at, if_neg (by omega)]
      exact yHand_163 n (by omega)
    · rw [yHand_n z]
      exact yHand_163 n (by omega)
theorem uM_hand {Y : Nat → Nat → Int32} {b np ns : Nat} {v to : Int32} (h : uM Y b ns) (hv : ∀ k, k < ns → xBit v k → ¬ Y 163 (16 * b + k) = -2) : ∀ n, n ≤ ns → uM (yHand Y b np v to n) b ns
  | 0, _ => h
  | n + 1, hn => by
    have ih := uM_hand (np := np) (to := to) h hv n (by omega)
    by_cases z : xBit v n
    · rw [yHand_y z]
      exact uM_goes ih (by omega) (Or.inr (by rw [yHand_163 n (Nat.le_refl _)]; exact hv n (by omega) z))
    · rw [yHand_n z]
      exact ih
theorem selB_bit {wt : Nat → Nat} {q k : Nat} (h : ¬ selB wt q < 0) (hk : k < 16) (hb : xBit (selB wt q) k) : ¬ wt k = 0 := by
  unfold selB at h hb
  by_cases z : dpR wt q 16 q = INF
  · rw [if_pos z] at h
    exact absurd (by decide) h
  · rw [if_neg z] at hb
    obtain ⟨S, hS, e⟩ := dpR_fea (by decide) z
    have l16 : S < 65536 := hS.1
    have e2 : dpR wt q 16 q % 65536 = S := by rw [e]; omega
    rw [e2] at hb
    exact hS.2.1 k hk ((nbit_1 (by omega) (by omega)).mp hb)
theorem yWt_ne {Y : Nat → Nat → Int32} {b ns k : Nat} {p : Int32} (h : ¬ yWt Y b ns p k = 0) : k < ns ∧ Y 163 (16 * b + k) = p := by
  unfold yWt at h
  by_cases z : k < ns ∧ Y 163 (16 * b + k) = p
  · exact z
  · rw [if_neg z] at h
    exact absurd rfl h
theorem uM_paid {Y : Nat → Nat → Int32} {b np ns q : Nat} {p to : Int32} (h : uM Y b ns) (hns : ns ≤ 16) (hp : ¬ p = -2) : uM (yPaid Y b np ns p to q) b ns := by
  unfold yPaid
  split
  · exact h
  · rename_i z
    exact uM_hand h (fun k hk hb => by rw [(yWt_ne (selB_bit z (by omega) hb)).2]; exact hp) ns (Nat.le_refl _)
theorem uM_ft {c : Nat} {Y : Nat → Nat → Int32} {b np ns p : Nat} (hc : c = 164 ∨ c = 165) (h : uM Y b ns) (hi : mI Y b np ns) (hz : zOK Y np ns) (hns : ns ≤ 16) (hp : p < np) : uM (yFt c Y b np p) b ns := by
  unfold yFt
  split
  · exact h
  · rename_i hx
    have hf : ftOK Y b ns p (Y c (5 * b + p)) := by rcases hc with rfl | rfl; exact (hi.2 p hp).1; exact (hi.2 p hp).2
    rcases hf with hf | ⟨j, hj, hje, _, hu⟩
    · rw [hf] at hx; exact absurd (by decide) hx
    · rw [hje, ixn_nI (by omega)]
      obtain ⟨v, hv, hve⟩ := yWearB_in hz hp j (Y 162 (16 * b + j)) (Y 167 b)
      rw [hve]
      exact uM_wears h hns hj hu hv
theorem uM_wk {Y : Nat → Nat → Int32} {b np ns : Nat} (h : uM Y b ns) (hi : mI Y b np ns) (hz : zOK Y np ns) (hnp : np ≤ 5) (hns : ns ≤ 16) : ∀ n, n ≤ np → uM (yWk Y b np n) b ns
  | 0, _ => h
  | n + 1, hn => by
    unfold yWk
    have h1 := uM_wk h hi hz hnp hns n (by omega)
    have i1 := mI_wk hi hz hnp hns n (by omega)
    have s1 : sameT (yWk Y b np n) Y := fun a ha => yWk_fr (Or.inl ha) n
    have h2 := uM_ft (p := n) (Or.inl rfl) h1 i1 (s1.zOK hz) hns (by omega)
    have i2 := mI_ft (p := n) (Or.inl rfl) i1 (s1.zOK hz) hnp hns (by omega)
    have s2 : sameT (yFt 164 (yWk Y b np n) b np n) Y := fun a ha => (yFt_fr (Or.inl ha)).trans (s1 a ha)
    exact uM_ft (Or.inr rfl) h2 i2 (s2.zOK hz) hns (by omega)
theorem nI_ne2 {p : Nat} (h : p < 100) : ¬ nI p = -2 := by
  intro e
  have := congrArg Int32.toInt e
  rw [nI_toInt (by omega)] at this
  have e1 : (-2 : Int32).toInt = -2 := rfl
  omega
theorem uM_dbs {Y : Nat → Nat → Int32} {b np ns nd : Nat} (h : uM Y b ns) (hdb : dbM Y np nd) (hnp : np ≤ 5) (hns : ns ≤ 16) : ∀ n, n ≤ nd → uM (yDbs Y b np ns n) b ns
  | 0, _ => h
  | n + 1, hn => by
    have ih := uM_dbs h hdb hnp hns n (by omega)
    show uM (yDb (yDbs Y b np ns n) b np ns n) b ns
    unfold yDb
    split
    · obtain ⟨p, hp, e⟩ := (hdb n (by omega)).1
      exact uM_paid (q := ixn (yDbs Y b np ns n 149 n)) (to := yDbs Y b np ns n 148 n) ih hns (by rw [yDbs_fr2 (Or.inl (by decide)), e]; exact nI_ne2 (by omega))
    · exact ih
theorem uM_day {Y : Nat → Nat → Int32} {b np ns nd : Nat} (h : uM Y b ns) (hi : mI Y b np ns) (hz : zOK Y np ns) (hdb : dbM Y np nd) (hnp : np ≤ 5) (hns : ns ≤ 16) : uM (yDay Y b np ns nd) b ns := by
  have h1 : uM (yWlk Y b np) b ns := by
    unfold yWlk
    split
    · exact uM_wk h hi hz hnp hns np (Nat.le_refl _)
    · exact h
  have h2 : uM (yOwe (yWlk Y b np) b np ns nd) b ns := by
    unfold yOwe
    split
    · exact uM_dbs h1 (sameT.dbM (fun a ha => yWlk_fr (Or.inl ha)) hdb) hnp hns nd (Nat.le_refl _)
    · exact h1
  exact h2
/-- days of both -/
theorem wR_days {X Y : Nat → Nat → Int32} {t w b np ns nd dd : Nat} (hS : sT X Y t np ns nd) (htw : t + 26 < w) (hW : wR X Y w b np ns nd) (hi : mI Y b np ns) (hv : dvM Y b nd) (hd : Y 167 b = nI dd) : ∀ n, dd + n ≤ 1999 → wR (xDays X t w np ns nd n) (yDays Y b np ns nd n) w b np ns nd ∧ sT (xDays X t w np ns nd n) (yDays Y b np ns nd n) t np ns nd ∧ dvM (yDays Y b np ns nd n) b nd ∧ yDays Y b np ns nd n 167 b = nI (dd + n)
  | 0, _ => ⟨hW, hS, hv, hd⟩
  | n + 1, hn => by
    have hns := hS.1.2.1.2.2.2.1
    have hnp := hS.1.2.1.2.1
    obtain ⟨r1, r2, r3, r4⟩ := wR_days hS htw hW hi hv hd n (by omega)
    have m1 := mI_days hi hS.2.2.1 hS.2.2.2 hnp hns n
    obtain ⟨d1, d2⟩ := dvM_day (np := np) (ns := ns) r3 r4 (by omega)
    exact ⟨wR_aDay r2 htw r1 m1 r3, sT_cg r2 (fun a h1 h2 _ => xDay_ne (by omega)) (txY_of fun a ha => yDay_fr (Or.inl ha)), d1, d2⟩
theorem uM_days {Y : Nat → Nat → Int32} {b np ns nd : Nat} (h : uM Y b ns) (hi : mI Y b np ns) (hz : zOK Y np ns) (hdb : dbM Y np nd) (hnp : np ≤ 5) (hns : ns ≤ 16) : ∀ n, uM (yDays Y b np ns nd n) b ns
  | 0 => h
  | n + 1 => by
    have s : sameT (yDays Y b np ns nd n) Y := fun a ha => yDays_fr (Or.inl ha) n
    exact uM_day (uM_days h hi hz hdb hnp hns n) (mI_days hi hz hdb hnp hns n) (s.zOK hz) (s.dbM hdb) hnp hns
