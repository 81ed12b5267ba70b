/-! ===== the reference: what is always so of a text that is being read ===== -/
def drP (J : Nat → Nat → Int32) (pr : Nat) : Prop := ∀ p, p < pr → (∃ f, 1 ≤ f ∧ f ≤ 20 ∧ J 138 (5 + p) = nI f) ∧ (∃ s, s ≤ 99 ∧ J 139 (5 + p) = nI s) ∧ ∃ c, c ≤ 99 ∧ J 140 (5 + p) = nI c
def drC (J : Nat → Nat → Int32) (pr : Nat) : Prop := ∀ p, p < 5 → J 141 (5 + p) = -1 ∨ (p < pr ∧ ∃ v, 1 ≤ v ∧ v ≤ 9 ∧ J 141 (5 + p) = nI v)
def drS (J : Nat → Nat → Int32) (pr sr : Nat) : Prop := ∀ s, s < sr → (∃ a, a ≤ 1 ∧ J 142 (16 + s) = nI a) ∧ (∃ b, 1 ≤ b ∧ b ≤ 20 ∧ J 143 (16 + s) = nI b) ∧ (∃ c, c ≤ 49 ∧ J 144 (16 + s) = nI c) ∧ (∃ d, d ≤ 2 ∧ J 145 (16 + s) = nI d) ∧ (J 146 (16 + s) = -1 ∨ ∃ p, p < pr ∧ J 146 (16 + s) = nI p)
def drD (J : Nat → Nat → Int32) (pr dr : Nat) : Prop := ∀ d, d < dr → (∃ x y, x < pr ∧ y < pr ∧ ¬ nI y = nI x ∧ J 147 (8 + d) = nI x ∧ J 148 (8 + d) = nI y) ∧ (∃ u, 1 ≤ u ∧ u ≤ 999 ∧ J 149 (8 + d) = nI u) ∧ ∃ v, v ≤ 99 ∧ J 150 (8 + d) = nI v
def drR (J : Nat → Nat → Int32) (rr : Nat) : Prop := ∀ k, k < rr → (∃ a b, a < 6 ∧ b < 6 ∧ ¬ nI a = nI b ∧ J 151 (32 + 4 * k) = nI a ∧ J 151 (32 + 4 * k + 2) = nI b) ∧ (∃ x, 1 ≤ x ∧ x ≤ 99 ∧ J 151 (32 + 4 * k + 1) = nI x) ∧ ∃ y, 1 ≤ y ∧ y ≤ 99 ∧ J 151 (32 + 4 * k + 3) = nI y
/-- the laws that have been told: the knots from b on hold E, one value is held -/
def drL (J : Nat → Nat → Int32) (kr : Nat) : Prop := ∀ r, r < 3 → ¬ J 152 (3 + r) = 0 → ∃ (b : Nat) (E : List (Nat × Nat)) (x : Nat), J 153 (3 + r) = nI b ∧ J 154 (3 + r) = nI (b + E.length) ∧ b + E.length ≤ kr ∧ shE (fun j => J 155 (64 + j)) (fun j => J 156 (64 + j)) (fun j => J 157 (64 + j)) b E [x]
def drA (J : Nat → Nat → Int32) (pr sr dr rr kr : Nat) : Prop := drP J pr ∧ drC J pr ∧ drS J pr sr ∧ drD J pr dr ∧ drR J rr ∧ drL J kr
theorem drP_cg {I J : Nat → Nat → Int32} {pr : Nat} (h : ∀ a, 138 ≤ a → a ≤ 140 → J a = I a) (w : drP I pr) : drP J pr := by
  intro p hp
  rw [h 138 (by decide) (by decide), h 139 (by decide) (by decide), h 140 (by decide) (by decide)]
  exact w p hp
theorem drC_cg {I J : Nat → Nat → Int32} {pr pr' : Nat} (h : J 141 = I 141) (hp : pr ≤ pr') (w : drC I pr) : drC J pr' := by
  intro p h5
  rw [h]
  rcases w p h5 with e | ⟨e, f⟩
  · exact Or.inl e
  · exact Or.inr ⟨by omega, f⟩
theorem drS_cg {I J : Nat → Nat → Int32} {pr pr' sr : Nat} (h : ∀ a, 142 ≤ a → a ≤ 146 → J a = I a) (hp : pr ≤ pr') (w : drS I pr sr) : drS J pr' sr := by
  intro s hs
  rw [h 142 (by decide) (by decide), h 143 (by decide) (by decide), h 144 (by decide) (by decide), h 145 (by decide) (by decide), h 146 (by decide) (by decide)]
  obtain ⟨a, b, c, d, e⟩ := w s hs
  refine ⟨a, b, c, d, ?_⟩
  rcases e with e | ⟨p, e1, e2⟩
  · exact Or.inl e
  · exact Or.inr ⟨p, by omega, e2⟩
theorem drD_cg {I J : Nat → Nat → Int32} {pr pr' dr : Nat} (h : ∀ a, 147 ≤ a → a ≤ 150 → J a = I a) (hp : pr ≤ pr') (w : drD I pr dr) : drD J pr' dr := by
  intro d hd
  rw [h 147 (by decide) (by decide), h 148 (by decide) (by decide), h 149 (by decide) (by decide), h 150 (by decide) (by decide)]
  obtain ⟨⟨x, y, a, b, c⟩, e⟩ := w d hd
  exact ⟨⟨x, y, by omega, by omega, c⟩, e⟩
theorem drR_cg {I J : Nat → Nat → Int32} {rr : Nat} (h : J 151 = I 151) (w : drR I rr) : drR J rr := by
  intro k hk
  rw [h]
  exact w k hk
theorem drL_cg {I J : Nat → Nat → Int32} {kr : Nat} (h : ∀ a, 152 ≤ a → a ≤ 157 → J a = I a) (w : drL I kr) : drL J kr := by
  intro r hr
  rw [h 152 (by decide) (by decide), h 153 (by decide) (by decide), h 154 (by decide) (by decide), h 155 (by decide) (by decide), h 156 (by decide) (by decide), h 157 (by decide) (by decide)]
  exact w r hr
/-- tokens change nothing of this -/
theorem drA_cg {I J : Nat → Nat → Int32} {pr sr dr rr kr : Nat} (h : ∀ a, 138 ≤ a → a ≤ 157 → J a = I a) (w : drA I pr sr dr rr kr) : drA J pr sr dr rr kr :=
  ⟨drP_cg (fun a h1 h2 => h a h1 (by omega)) w.1, drC_cg (h 141 (by decide) (by decide)) (Nat.le_refl _) w.2.1, drS_cg (fun a h1 h2 => h a (by omega) (by omega)) (Nat.le_refl _) w.2.2.1, drD_cg (fun a h1 h2 => h a (by omega) (by omega)) (Nat.le_refl _) w.2.2.2.1, drR_cg (h 151 (by decide) (by decide)) w.2.2.2.2.1, drL_cg (fun a h1 h2 => h a (by omega) (by omega)) w.2.2.2.2.2⟩
theorem drA_PL {I J : Nat → Nat → Int32} {pr sr dr rr kr : Nat} (w : drA I pr sr dr rr kr) (h : yPL pr I = (true, J)) (hp : prI I) : drA J (pr + 1) sr dr rr kr := by
  obtain ⟨_, _, a3, _, _, nm, f, s, c, _, _, f1, f2, h138, s1, h139, c1, h140⟩ := yPL_ok h hp
  refine ⟨fun p hp => ?_, drC_cg (a3.1 141 (by decide)) (Nat.le_succ _) w.2.1, drS_cg (fun a h1 h2 => a3.1 a (by simp; omega)) (Nat.le_succ _) w.2.2.1, drD_cg (fun a h1 h2 => a3.1 a (by simp; omega)) (Nat.le_succ _) w.2.2.2.1, drR_cg (a3.1 151 (by decide)) w.2.2.2.2.1, drL_cg (fun a h1 h2 => a3.1 a (by simp; omega)) w.2.2.2.2.2⟩
  rw [h138, h139, h140]
  by_cases e : p = pr
  · subst e
    exact ⟨⟨f, f1, f2, upd_eq⟩, ⟨s, s1, upd_eq⟩, c, c1, upd_eq⟩
  · rw [upd_ne (by omega), upd_ne (by omega), upd_ne (by omega)]
    exact w.1 p (by omega)
theorem drA_SL {I J : Nat → Nat → Int32} {pr sr dr rr kr : Nat} (w : drA I pr sr dr rr kr) (h : ySL pr sr I = (true, J)) (hp : prI I) : drA J pr (sr + 1) dr rr kr := by
  obtain ⟨_, _, a3, _, _, a, b, c, d, v, a1, h142, b1, b2, h143, c1, h144, d1, h145, hv, h146⟩ := ySL_ok h hp
  refine ⟨drP_cg (fun a h1 h2 => a3.1 a (by simp; omega)) w.1, drC_cg (a3.1 141 (by decide)) (Nat.le_refl _) w.2.1, fun s hs => ?_, drD_cg (fun a h1 h2 => a3.1 a (by simp; omega)) (Nat.le_refl _) w.2.2.2.1, drR_cg (a3.1 151 (by decide)) w.2.2.2.2.1, drL_cg (fun a h1 h2 => a3.1 a (by simp; omega)) w.2.2.2.2.2⟩
  rw [h142, h143, h144, h145, h146]
  by_cases e : s = sr
  · subst e
    rw [upd_eq, upd_eq, upd_eq, upd_eq, upd_eq]
    exact ⟨⟨a, a1, rfl⟩, ⟨b, b1, b2, rfl⟩, ⟨c, c1, rfl⟩, ⟨d, d1, rfl⟩, hv⟩
  · rw [upd_ne (by omega), upd_ne (by omega), upd_ne (by omega), upd_ne (by omega), upd_ne (by omega)]
    exact w.2.2.1 s (by omega)
theorem drA_DL {I J : Nat → Nat → Int32} {pr sr dr rr kr : Nat} (w : drA I pr sr dr rr kr) (h : yDL pr dr I = (true, J)) (hp : prI I) : drA J pr sr (dr + 1) rr kr := by
  obtain ⟨_, _, a3, _, _, x, y, u, v, x1, h147, y1, y2, h148, u1, u2, h149, v1, h150⟩ := yDL_ok h hp
  refine ⟨drP_cg (fun a h1 h2 => a3.1 a (by simp; omega)) w.1, drC_cg (a3.1 141 (by decide)) (Nat.le_refl _) w.2.1, drS_cg (fun a h1 h2 => a3.1 a (by simp; omega)) (Nat.le_refl _) w.2.2.1, fun d hd => ?_, drR_cg (a3.1 151 (by decide)) w.2.2.2.2.1, drL_cg (fun a h1 h2 => a3.1 a (by simp; omega)) w.2.2.2.2.2⟩
  rw [h147, h148, h149, h150]
  by_cases e : d = dr
  · subst e
    rw [upd_eq, upd_eq, upd_eq, upd_eq]
    exact ⟨⟨x, y, x1, y1, y2, rfl, rfl⟩, ⟨u, u1, u2, rfl⟩, v, v1, rfl⟩
  · rw [upd_ne (by omega), upd_ne (by omega), upd_ne (by omega), upd_ne (by omega)]
    exact w.2.2.2.1 d (by omega)
theorem drA_CL {I J : Nat → Nat → Int32} {pr sr dr rr kr : Nat} (w : drA I pr sr dr rr kr) (hp5 : pr ≤ 5) (h : yCL pr I = (true, J)) (hp : prI I) : drA J pr sr dr rr kr := by
  obtain ⟨_, a3, _, p, v, p1, _, v1, v2, h141⟩ := yCL_ok hp5 h hp
  refine ⟨drP_cg (fun a h1 h2 => a3.1 a (by simp; omega)) w.1, fun q hq => ?_, drS_cg (fun a h1 h2 => a3.1 a (by simp; omega)) (Nat.le_refl _) w.2.2.1, drD_cg (fun a h1 h2 => a3.1 a (by simp; omega)) (Nat.le_refl _) w.2.2.2.1, drR_cg (a3.1 151 (by decide)) w.2.2.2.2.1, drL_cg (fun a h1 h2 => a3.1 a (by simp; omega)) w.2.2.2.2.2⟩
  rw [h141]
  by_cases e : q = p
  · subst e
    rw [upd_eq]
    exact Or.inr ⟨p1, v, v1, v2, rfl⟩
  · rw [upd_ne (by omega)]
    exact w.2.1 q hq
theorem drA_RL {I J : Nat → Nat → Int32} {pr sr dr rr kr : Nat} (w : drA I pr sr dr rr kr) (h : yRL rr I = (true, J)) (hp : prI I) : drA J pr sr dr (rr + 1) kr := by
  obtain ⟨_, _, a3, _, _, a, b, x, y, a1, b1, ab, x1, x2, y1, y2, h151, _⟩ := yRL_ok h hp
  refine ⟨drP_cg (fun a h1 h2 => a3.1 a (by simp; omega)) w.1, drC_cg (a3.1 141 (by decide)) (Nat.le_refl _) w.2.1, drS_cg (fun a h1 h2 => a3.1 a (by simp; omega)) (Nat.le_refl _) w.2.2.1, drD_cg (fun a h1 h2 => a3.1 a (by simp; omega)) (Nat.le_refl _) w.2.2.2.1, fun k hk => ?_, drL_cg (fun a h1 h2 => a3.1 a (by simp; omega)) w.2.2.2.2.2⟩
  rw [h151]
  by_cases e : k = rr
  · subst e
    refine ⟨⟨a, b, a1, b1, ab, ?_, ?_⟩, ⟨x, x1, x2, ?_⟩, y, y1, y2, ?_⟩
    · rw [upd_ne (by omega), upd_ne (by omega), upd_ne (by omega), upd_eq]
    · rw [upd_ne (by omega), upd_eq]
    · rw [upd_ne (by omega), upd_ne (by omega), upd_eq]
    · rw [upd_eq]
  · have f : ∀ i, i < 32 + 4 * rr → upd (upd (upd (upd (I 151) (32 + 4 * rr) (nI a)) ((32 + 4 * rr) + 1) (nI x)) ((32 + 4 * rr) + 2) (nI b)) ((32 + 4 * rr) + 3) (nI y) i = I 151 i := fun i hi => by
      rw [upd_ne (by omega), upd_ne (by omega), upd_ne (by omega), upd_ne (by omega)]
    rw [f _ (by omega), f _ (by omega), f _ (by omega), f _ (by omega)]
    exact w.2.2.2.2.1 k (by omega)
