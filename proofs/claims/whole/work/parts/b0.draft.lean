/-! ===== the draft of the class and the draft of the reference ===== -/
/-- the laws told so far -/
def dLw (X J : Nat → Nat → Int32) (t kr : Nat) : Prop := X (t + 19) 0 = nI kr ∧ X (t + 19) 1 = nI kr ∧ kr ≤ 64 ∧ ∀ r, r < 3 → (X (t + 24) r = 0 ∧ J 152 (3 + lr r) = 0) ∨ (X (t + 24) r = 1 ∧ J 152 (3 + lr r) = 1 ∧ ∃ b e, b ≤ e ∧ e ≤ kr ∧ X (t + 22) r = nI b ∧ J 153 (3 + lr r) = nI b ∧ X (t + 23) r = nI e ∧ J 154 (3 + lr r) = nI e ∧ ∀ i, b ≤ i → i < e → cdR (X (t + 20) i) (X (t + 21) i) (J 155 (64 + i)) (J 156 (64 + i)))
def dPe (X J : Nat → Nat → Int32) (t pr : Nat) : Prop := ∀ p, p < pr → X (t + 1) p = J 137 (5 + p) ∧ X (t + 2) p = J 138 (5 + p) ∧ X (t + 3) p = J 139 (5 + p) ∧ X (t + 4) p = J 140 (5 + p)
def dSh (X J : Nat → Nat → Int32) (t sr : Nat) : Prop := ∀ s, s < sr → X (t + 6) s = J 142 (16 + s) ∧ X (t + 7) s = J 143 (16 + s) ∧ X (t + 8) s = J 144 (16 + s) ∧ X (t + 9) s = J 145 (16 + s) ∧ X (t + 10) s = J 146 (16 + s)
def dDb (X J : Nat → Nat → Int32) (t dr : Nat) : Prop := ∀ d, d < dr → X (t + 11) d = J 147 (8 + d) ∧ X (t + 12) d = J 148 (8 + d) ∧ X (t + 13) d = J 149 (8 + d) ∧ X (t + 14) d = J 150 (8 + d)
/-- the class's draft X tells what the reference's draft J tells -/
def txD (X J : Nat → Nat → Int32) (t pr sr dr rr kr : Nat) : Prop := X 57 3 = J 134 22 ∧ tOK X t pr sr dr ∧ dPe X J t pr ∧ dSh X J t sr ∧ dDb X J t dr ∧ dC X J t ∧ dRt X J t rr ∧ dLw X J t kr
theorem dPe_cg {X J X' J' : Nat → Nat → Int32} {t pr : Nat} (hx : ∀ a, t < a → a < t + 5 → X' a = X a) (hj : ∀ a, 136 < a → a < 141 → J' a = J a) (h : dPe X J t pr) : dPe X' J' t pr := fun p hp => by
  rw [hx (t + 1) (by omega) (by omega), hx (t + 2) (by omega) (by omega), hx (t + 3) (by omega) (by omega), hx (t + 4) (by omega) (by omega), hj 137 (by decide) (by decide), hj 138 (by decide) (by decide), hj 139 (by decide) (by decide), hj 140 (by decide) (by decide)]
  exact h p hp
theorem dSh_cg {X J X' J' : Nat → Nat → Int32} {t sr : Nat} (hx : ∀ a, t + 5 < a → a < t + 11 → X' a = X a) (hj : ∀ a, 141 < a → a < 147 → J' a = J a) (h : dSh X J t sr) : dSh X' J' t sr := fun p hp => by
  rw [hx (t + 6) (by omega) (by omega), hx (t + 7) (by omega) (by omega), hx (t + 8) (by omega) (by omega), hx (t + 9) (by omega) (by omega), hx (t + 10) (by omega) (by omega), hj 142 (by decide) (by decide), hj 143 (by decide) (by decide), hj 144 (by decide) (by decide), hj 145 (by decide) (by decide), hj 146 (by decide) (by decide)]
  exact h p hp
theorem dDb_cg {X J X' J' : Nat → Nat → Int32} {t dr : Nat} (hx : ∀ a, t + 10 < a → a < t + 15 → X' a = X a) (hj : ∀ a, 146 < a → a < 151 → J' a = J a) (h : dDb X J t dr) : dDb X' J' t dr := fun p hp => by
  rw [hx (t + 11) (by omega) (by omega), hx (t + 12) (by omega) (by omega), hx (t + 13) (by omega) (by omega), hx (t + 14) (by omega) (by omega), hj 147 (by decide) (by decide), hj 148 (by decide) (by decide), hj 149 (by decide) (by decide), hj 150 (by decide) (by decide)]
  exact h p hp
theorem dC_cg {X J X' J' : Nat → Nat → Int32} {t : Nat} (hx : X' (t + 5) = X (t + 5)) (hj : J' 141 = J 141) (h : dC X J t) : dC X' J' t := fun p hp => by rw [hx, hj]; exact h p hp
theorem dRt_cg {X J X' J' : Nat → Nat → Int32} {t rr : Nat} (h15 : X' (t + 15) = X (t + 15)) (h16 : X' (t + 16) = X (t + 16)) (h17 : X' (t + 17) = X (t + 17)) (hj : J' 151 = J 151) (h : dRt X J t rr) : dRt X' J' t rr := by
  unfold dRt at h ⊢
  rw [h15, h16, h17, hj]; exact h
theorem dLw_cg {X J X' J' : Nat → Nat → Int32} {t kr : Nat} (hx : ∀ a, t + 18 < a → a < t + 25 → X' a = X a) (hj : ∀ a, 151 < a → a < 157 → J' a = J a) (h : dLw X J t kr) : dLw X' J' t kr := by
  unfold dLw at h ⊢
  rw [hx (t + 19) (by omega) (by omega), hx (t + 20) (by omega) (by omega), hx (t + 21) (by omega) (by omega), hx (t + 22) (by omega) (by omega), hx (t + 23) (by omega) (by omega), hx (t + 24) (by omega) (by omega), hj 152 (by decide) (by decide), hj 153 (by decide) (by decide), hj 154 (by decide) (by decide), hj 155 (by decide) (by decide), hj 156 (by decide) (by decide)]
  exact h
/-- tokens change nothing of this -/
theorem txD_cg {X J X' J' : Nat → Nat → Int32} {t pr sr dr rr kr : Nat} (hx : ∀ a, t ≤ a → a < t + 25 → X' a = X a) (h3 : X' 57 3 = X 57 3) (hj : ∀ a, 136 < a → a < 157 → J' a = J a) (h22 : J' 134 22 = J 134 22) (h : txD X J t pr sr dr rr kr) : txD X' J' t pr sr dr rr kr := by
  obtain ⟨a1, a2, a3, a4, a5, a6, a7, a8⟩ := h
  exact ⟨by rw [h3, h22]; exact a1, by unfold tOK; rw [hx t (by omega) (by omega)]; exact a2, dPe_cg (fun a _ _ => hx a (by omega) (by omega)) (fun a _ _ => hj a (by omega) (by omega)) a3, dSh_cg (fun a _ _ => hx a (by omega) (by omega)) (fun a _ _ => hj a (by omega) (by omega)) a4, dDb_cg (fun a _ _ => hx a (by omega) (by omega)) (fun a _ _ => hj a (by omega) (by omega)) a5, dC_cg (hx _ (by omega) (by omega)) (hj 141 (by decide) (by decide)) a6, dRt_cg (hx _ (by omega) (by omega)) (hx _ (by omega) (by omega)) (hx _ (by omega) (by omega)) (hj 151 (by decide) (by decide)) a7, dLw_cg (fun a _ _ => hx a (by omega) (by omega)) (fun a _ _ => hj a (by omega) (by omega)) a8⟩
theorem txD_pf {X J J' : Nat → Nat → Int32} {t pr sr dr rr kr : Nat} (f : prF J' J) (h : txD X J t pr sr dr rr kr) : txD X J' t pr sr dr rr kr := txD_cg (fun _ _ _ => rfl) rfl (fun a h1 _ => f.1 a (by omega)) (f.2 22 (by decide)) h
theorem upd_lt {f g f' g' : Nat → Int32} {n o : Nat} {x : Int32} (hf : f' = upd f n x) (hg : g' = upd g (o + n) x) (h : ∀ p, p < n → f p = g (o + p)) : ∀ p, p < n + 1 → f' p = g' (o + p) := fun p hp => by
  rw [hf, hg]
  by_cases e : p = n
  · rw [e, upd_eq, upd_eq]
  · rw [upd_ne e, upd_ne (by omega)]; exact h p (by omega)
/-- behind a person's line -/
theorem txD_PL {I J I' G : Nat → Nat → Int32} {t pr sr dr rr kr : Nat} (ht : t = 3 ∨ t = 30) (hp : prI J) (h : txD I J t pr sr dr rr kr) (hy : yPL pr J = (true, G)) (hT : tPe I t pr I' G) : txD I' G t (pr + 1) sr dr rr kr := by
  obtain ⟨a1, a2, a3, a4, a5, a6, a7, a8⟩ := h
  obtain ⟨b1, b2, b3, b4, b5, nm, f, s, c, g1, -, -, -, g2, -, g3, -, g4⟩ := yPL_ok hy hp
  obtain ⟨h57, hf⟩ := hT
  have k1 : I' (t + 1) = upd (I (t + 1)) pr nm := by rw [hf (t + 1) (by omega) (by omega)]; (repeat rw [sI_ne (by omega)]); rw [sI_eq, g1, upd_eq]
  have k2 : I' (t + 2) = upd (I (t + 2)) pr (nI f) := by rw [hf (t + 2) (by omega) (by omega)]; (repeat rw [sI_ne (by omega)]); rw [sI_eq, g2, upd_eq]; (repeat rw [sI_ne (by omega)])
  have k3 : I' (t + 3) = upd (I (t + 3)) pr (nI s) := by rw [hf (t + 3) (by omega) (by omega)]; (repeat rw [sI_ne (by omega)]); rw [sI_eq, g3, upd_eq]; (repeat rw [sI_ne (by omega)])
  have k4 : I' (t + 4) = upd (I (t + 4)) pr (nI c) := by rw [hf (t + 4) (by omega) (by omega)]; (repeat rw [sI_ne (by omega)]); rw [sI_eq, g4, upd_eq]; (repeat rw [sI_ne (by omega)])
  have k0 : I' t = upd (I t) 0 (nI (pr + 1)) := by rw [hf t (by omega) (by omega), sI_eq]; (repeat rw [sI_ne (by omega)])
  have kx : ∀ a, t + 4 < a → a < t + 25 → I' a = I a := fun a _ _ => by rw [hf a (by omega) (by omega)]; (repeat rw [sI_ne (by omega)])
  have kj : ∀ a, a ∉ [134, 137, 138, 139, 140] → G a = J a := fun a ha => b3.1 a ha
  have e1 := upd_lt (o := 5) k1 g1 (fun p hp => (a3 p hp).1)
  have e2 := upd_lt (o := 5) k2 g2 (fun p hp => (a3 p hp).2.1)
  have e3 := upd_lt (o := 5) k3 g3 (fun p hp => (a3 p hp).2.2.1)
  have e4 := upd_lt (o := 5) k4 g4 (fun p hp => (a3 p hp).2.2.2)
  refine ⟨by rw [h57, b3.2 22 (by decide)]; exact a1, ⟨by rw [k0, upd_eq], by have := a2.2.1; omega, by rw [k0, upd_ne (by decide)]; exact a2.2.2.1, a2.2.2.2.1, by rw [k0, upd_ne (by decide)]; exact a2.2.2.2.2.1, a2.2.2.2.2.2⟩, fun p hp => ⟨e1 p hp, e2 p hp, e3 p hp, e4 p hp⟩, dSh_cg (fun a _ _ => kx a (by omega) (by omega)) (fun a _ _ => kj a (by simp; omega)) a4, dDb_cg (fun a _ _ => kx a (by omega) (by omega)) (fun a _ _ => kj a (by simp; omega)) a5, dC_cg (kx _ (by omega) (by omega)) (kj 141 (by decide)) a6, dRt_cg (kx _ (by omega) (by omega)) (kx _ (by omega) (by omega)) (kx _ (by omega) (by omega)) (kj 151 (by decide)) a7, dLw_cg (fun a _ _ => kx a (by omega) (by omega)) (fun a _ _ => kj a (by simp; omega)) a8⟩
/-- behind a shoe's line -/
theorem txD_SL {I J I' G : Nat → Nat → Int32} {t pr sr dr rr kr : Nat} (ht : t = 3 ∨ t = 30) (hp : prI J) (h : txD I J t pr sr dr rr kr) (hy : ySL pr sr J = (true, G)) (hT : tSh I t sr I' G) : txD I' G t pr (sr + 1) dr rr kr := by
  obtain ⟨a1, a2, a3, a4, a5, a6, a7, a8⟩ := h
  obtain ⟨b1, b2, b3, b4, b5, a, b, c, d, w, -, g1, -, -, g2, -, g3, -, g4, -, g5⟩ := ySL_ok hy hp
  obtain ⟨h57, hf⟩ := hT
  have k1 : I' (t + 6) = upd (I (t + 6)) sr (nI a) := by rw [hf (t + 6) (by omega) (by omega)]; (repeat rw [sI_ne (by omega)]); rw [sI_eq, g1, upd_eq]
  have k2 : I' (t + 7) = upd (I (t + 7)) sr (nI b) := by rw [hf (t + 7) (by omega) (by omega)]; (repeat rw [sI_ne (by omega)]); rw [sI_eq, g2, upd_eq]; (repeat rw [sI_ne (by omega)])
  have k3 : I' (t + 8) = upd (I (t + 8)) sr (nI c) := by rw [hf (t + 8) (by omega) (by omega)]; (repeat rw [sI_ne (by omega)]); rw [sI_eq, g3, upd_eq]; (repeat rw [sI_ne (by omega)])
  have k4 : I' (t + 9) = upd (I (t + 9)) sr (nI d) := by rw [hf (t + 9) (by omega) (by omega)]; (repeat rw [sI_ne (by omega)]); rw [sI_eq, g4, upd_eq]; (repeat rw [sI_ne (by omega)])
  have k5 : I' (t + 10) = upd (I (t + 10)) sr w := by rw [hf (t + 10) (by omega) (by omega)]; (repeat rw [sI_ne (by omega)]); rw [sI_eq, g5, upd_eq]; (repeat rw [sI_ne (by omega)])
  have k0 : I' t = upd (I t) 6 (nI (sr + 1)) := by rw [hf t (by omega) (by omega), sI_eq]; (repeat rw [sI_ne (by omega)])
  have kx : ∀ a, (t < a ∧ a < t + 6) ∨ (t + 10 < a ∧ a < t + 25) → I' a = I a := fun a _ => by rw [hf a (by omega) (by omega)]; (repeat rw [sI_ne (by omega)])
  have kj : ∀ a, a ∉ [134, 142, 143, 144, 145, 146] → G a = J a := fun a ha => b3.1 a ha
  have e1 := upd_lt (o := 16) k1 g1 (fun p hp => (a4 p hp).1)
  have e2 := upd_lt (o := 16) k2 g2 (fun p hp => (a4 p hp).2.1)
  have e3 := upd_lt (o := 16) k3 g3 (fun p hp => (a4 p hp).2.2.1)
  have e4 := upd_lt (o := 16) k4 g4 (fun p hp => (a4 p hp).2.2.2.1)
  have e5 := upd_lt (o := 16) k5 g5 (fun p hp => (a4 p hp).2.2.2.2)
  refine ⟨by rw [h57, b3.2 22 (by decide)]; exact a1, ⟨by rw [k0, upd_ne (by decide)]; exact a2.1, a2.2.1, by rw [k0, upd_eq], by have := a2.2.2.2.1; omega, by rw [k0, upd_ne (by decide)]; exact a2.2.2.2.2.1, a2.2.2.2.2.2⟩, dPe_cg (fun a _ _ => kx a (by omega)) (fun a _ _ => kj a (by simp; omega)) a3, fun p hp => ⟨e1 p hp, e2 p hp, e3 p hp, e4 p hp, e5 p hp⟩, dDb_cg (fun a _ _ => kx a (by omega)) (fun a _ _ => kj a (by simp; omega)) a5, dC_cg (kx _ (by omega)) (kj 141 (by decide)) a6, dRt_cg (kx _ (by omega)) (kx _ (by omega)) (kx _ (by omega)) (kj 151 (by decide)) a7, dLw_cg (fun a _ _ => kx a (by omega)) (fun a _ _ => kj a (by simp; omega)) a8⟩
/-- behind a debt's line -/
theorem txD_DL {I J I' G : Nat → Nat → Int32} {t pr sr dr rr kr : Nat} (ht : t = 3 ∨ t = 30) (hp : prI J) (h : txD I J t pr sr dr rr kr) (hy : yDL pr dr J = (true, G)) (hT : tDb I t dr I' G) : txD I' G t pr sr (dr + 1) rr kr := by
  obtain ⟨a1, a2, a3, a4, a5, a6, a7, a8⟩ := h
  obtain ⟨b1, b2, b3, b4, b5, x, y, u, v, -, g1, -, -, g2, -, -, g3, -, g4⟩ := yDL_ok hy hp
  obtain ⟨h57, hf⟩ := hT
  have k1 : I' (t + 11) = upd (I (t + 11)) dr (nI x) := by rw [hf (t + 11) (by omega) (by omega)]; (repeat rw [sI_ne (by omega)]); rw [sI_eq, g1, upd_eq]
  have k2 : I' (t + 12) = upd (I (t + 12)) dr (nI y) := by rw [hf (t + 12) (by omega) (by omega)]; (repeat rw [sI_ne (by omega)]); rw [sI_eq, g2, upd_eq]; (repeat rw [sI_ne (by omega)])
  have k3 : I' (t + 13) = upd (I (t + 13)) dr (nI u) := by rw [hf (t + 13) (by omega) (by omega)]; (repeat rw [sI_ne (by omega)]); rw [sI_eq, g3, upd_eq]; (repeat rw [sI_ne (by omega)])
  have k4 : I' (t + 14) = upd (I (t + 14)) dr (nI v) := by rw [hf (t + 14) (by omega) (by omega)]; (repeat rw [sI_ne (by omega)]); rw [sI_eq, g4, upd_eq]; (repeat rw [sI_ne (by omega)])
  have k0 : I' t = upd (I t) 12 (nI (dr + 1)) := by rw [hf t (by omega) (by omega), sI_eq]; (repeat rw [sI_ne (by omega)])
  have kx : ∀ a, (t < a ∧ a < t + 11) ∨ (t + 14 < a ∧ a < t + 25) → I' a = I a := fun a _ => by rw [hf a (by omega) (by omega)]; (repeat rw [sI_ne (by omega)])
  have kj : ∀ a, a ∉ [134, 147, 148, 149, 150] → G a = J a := fun a ha => b3.1 a ha
  have e1 := upd_lt (o := 8) k1 g1 (fun p hp => (a5 p hp).1)
  have e2 := upd_lt (o := 8) k2 g2 (fun p hp => (a5 p hp).2.1)
  have e3 := upd_lt (o := 8) k3 g3 (fun p hp => (a5 p hp).2.2.1)
  have e4 := upd_lt (o := 8) k4 g4 (fun p hp => (a5 p hp).2.2.2)
  refine ⟨by rw [h57, b3.2 22 (by decide)]; exact a1, ⟨by rw [k0, upd_ne (by decide)]; exact a2.1, a2.2.1, by rw [k0, upd_ne (by decide)]; exact a2.2.2.1, a2.2.2.2.1, by rw [k0, upd_eq], by have := a2.2.2.2.2.2; omega⟩, dPe_cg (fun a _ _ => kx a (by omega)) (fun a _ _ => kj a (by simp; omega)) a3, dSh_cg (fun a _ _ => kx a (by omega)) (fun a _ _ => kj a (by simp; omega)) a4, fun p hp => ⟨e1 p hp, e2 p hp, e3 p hp, e4 p hp⟩, dC_cg (kx _ (by omega)) (kj 141 (by decide)) a6, dRt_cg (kx _ (by omega)) (kx _ (by omega)) (kx _ (by omega)) (kj 151 (by decide)) a7, dLw_cg (fun a _ _ => kx a (by omega)) (fun a _ _ => kj a (by simp; omega)) a8⟩
def tCk (I : Nat → Nat → Int32) (t pr : Nat) (I' J' : Nat → Nat → Int32) : Prop := I' 57 = I 57 ∧ ∃ p, p < pr ∧ I (t + 5) p ≤ 0 ∧ (∃ v, 1 ≤ v ∧ v ≤ 9 ∧ J' 141 (5 + p) = nI v) ∧ frE I' (sI I (t + 5) p (J' 141 (5 + p)))
set_option maxHeartbeats 4000000 in
theorem gt_readClaim {sh : List pSh} {I : Nat → Nat → Int32} {L : Nat → Nat → Int64} {P : Nat → Nat → Option Nat} (hA : kA sh P) (hrb : P 58 3 = some 2) {J : Nat → Nat → Int32} {n : Nat} (hr : rdR I J n) {t : Nat} (ht : t = 3 ∨ t = 30) (hst : P 57 5 = some t) (h0 : I 57 1 = 0) {pr sr dr : Nat} (hn : tOK I t pr sr dr) (hnm : ∀ p, p < pr → I (t + 1) p = J 137 (5 + p)) (hcl : dC I J t) : pCn m_Sc_readClaim 4 [.ref 57] sh (I, L, P) (lnQ (yCL pr J) (tCk I t pr) I L P n t) := by
  refine pCn_of (by decide +kernel) (Nat.le_of_ble_eq_true rfl) ?_
  obtain ⟨X, hX⟩ : ∃ X, X = yCL pr J := ⟨_, rfl⟩
  rw [← hX]
  unfold yCL at hX
  have fe0 : frE I I := frE.rf I
  have fo0 : frO t I I := frO.rf t I
  have hz0 : I 57 = I 57 := rfl
  have hc0 : J 137 = J 137 := rfl
  have h5 := hn.2.1
  refine pw_aload_n (k4 := 0) rfl (by decide +kernel) ?_
  refine pq_getP (c := 4) (k := 4) (ks_sc hA) (by decide) (by decide) (kp_sc_reader hA) lf_Sc_12 (by decide +kernel) ?_
  refine pq_callV (ν := m_Re_advance) (d' := 2) (av := []) (c := 3) (by decide +kernel) lm_Sc_62 ok_Re_advance (show _ = some 0 by decide +kernel) (ks_re hA) rfl (by decide) (by omega) (Nat.le_of_ble_eq_true rfl) (gt_advance hA hrb hr) ?_
  rintro _ _ ⟨rfl, I4, rfl, hr4, hf4⟩
  have pf4 : prF (yTok J) J := prF_tok _
  generalize yTok J = G4 at hX hr4 pf4
  try dsimp only at hX
  have fe4 : frE I4 (I) := fun a h1 h2 => (hf4 a h2).trans (fe0 a h1 h2)
  have fo4 : frO t I I4 := fun a h1 h2 h3 => (hf4 a h2).trans (fo0 a h1 h2 h3)
  have hz4 : I4 57 = I 57 := (hf4 57 (by decide)).trans hz0
  have c4 : G4 137 = J 137 := (pf4.1 137 (by decide)).trans hc0
  refine pw_aload_n (k4 := 0) rfl (by decide +kernel) ?_
  have eT8 : I4 t = I t := by rw [fe4 t (by omega) (by omega)]; (repeat rw [sI_ne (by omega)])
  have eN8 : I4 (t + 1) = I (t + 1) := by rw [fe4 (t + 1) (by omega) (by omega)]; (repeat rw [sI_ne (by omega)])
  have eG8 : G4 137 = J 137 := c4
  refine pq_callV (ν := m_Sc_lookAtPerson) (d' := 1) (av := []) (c := 4) (by decide +kernel) lm_Sc_136 ok_Sc_lookAtPerson (show _ = some 0 by decide +kernel) (ks_sc hA) rfl (by decide) (by omega) (Nat.le_of_ble_eq_true rfl) (ct_Sc_lookAtPerson hA hrb hr4 ht hst (pr := pr) (sr := sr) (dr := dr) (by unfold tOK; rw [eT8]; exact hn) (fun p hp => by rw [eN8, eG8]; exact hnm p hp)) ?_
  rintro _ _ ⟨I8, v8, rfl, rfl, hT8, hF8⟩
  have fr8 : ∀ a, a ≠ 57 → a ≠ 58 → I8 a = I4 a := by
    cases e : (yPer G4 pr).1 with
    | true => intro a _ _; rw [← (hT8 e).1]
    | false => exact (hF8 e).2.2.2
  have fe8 : frE I8 (I) := fun a h1 h2 => (fr8 a h1 h2).trans (fe4 a h1 h2)
  have fo8 : frO t I I8 := fun a h1 h2 h3 => (fr8 a h1 h2).trans (fo4 a h1 h2 h3)
  refine pq_istore_n (k4 := 1) (Nat.le_of_ble_eq_true rfl) rfl (by decide +kernel) ?_
  refine pw_iload_n (k4 := 1) rfl (by decide +kernel) ?_
  refine pw_if_ge (off := 5) (tgt := 18) (by decide +kernel) (by decide +kernel) (fun z13 => ?_) (fun z13 => ?_)
  · have hq8 : (yPer G4 pr).1 = true := by
      cases e : (yPer G4 pr).1 with
      | true => rfl
      | false => rw [(hF8 e).1] at z13; exact absurd z13 (by decide)
    obtain ⟨K8, hK8⟩ : ∃ K, yPer G4 pr = (true, K) := ⟨_, Prod.ext hq8 rfl⟩
    obtain ⟨eI8, eK8, j8, lj8, ej8⟩ := hT8 hq8
    rw [show yPer G4 pr = (true, sI (yTok G4) 134 11 v8) from eK8, yB_t] at hX
    try dsimp only at hX
    have hz8 : I8 57 = I 57 := by rw [← eI8]; exact hz4
    have hr8 : rdR I8 G4 n := by rw [← eI8]; exact hr4
    subst ej8
    rw [show (sI (yTok G4) 134 11 (nI j8)) 134 11 = nI j8 from sI_rs, ixn_nI (by omega)] at hX
    try dsimp only at hX
    have e141 : (sI (yTok G4) 134 11 (nI j8)) 141 (5 + j8) = J 141 (5 + j8) := by rw [sI_ne (by decide), (prF_tok G4).1 141 (by decide), pf4.1 141 (by decide)]
    have eCl : I8 (t + 5) j8 = I (t + 5) j8 := by rw [fe8 (t + 5) (by omega) (by omega)]
    rw [e141] at hX
    refine pw_aload_n (k4 := 0) rfl (by decide +kernel) ?_
    refine pq_getP (c := 4) (k := 5) (ks_sc hA) (by decide) (by decide) hst lf_Sc_18 (by decide +kernel) ?_
    refine pq_getP (c := 7) (k := 5) (ks_t hA ht) (by decide) (by decide) (kp_t_claim hA ht) lf_Sc_155 (by decide +kernel) ?_
    refine pw_iload_n (k4 := 1) rfl (by decide +kernel) ?_
    refine pq_iald j8 rfl (by omega) (by decide) (ks_t_claim hA ht) (by decide +kernel) ?_
    refine pw_if_le (off := 9) (tgt := 36) (by decide +kernel) (by decide +kernel) (fun z27 => ?_) (fun z27 => ?_)
    · rw [eCl] at z27
      rw [if_neg (fun w => by
        rcases hcl j8 (by omega) with ⟨q1, q2⟩ | ⟨c, c1, c2, c3, c4⟩
        · exact w q1
        · rw [c4] at z27; exact absurd ((nI_leI (b := 0) (by omega) (by decide)).mp z27) (by omega))] at hX
      refine pw_aload_n (k4 := 0) rfl (by decide +kernel) ?_
      refine pq_getP (c := 4) (k := 4) (ks_sc hA) (by decide) (by decide) (kp_sc_reader hA) lf_Sc_12 (by decide +kernel) ?_
      refine pq_callV (ν := m_Re_advance) (d' := 2) (av := []) (c := 3) (by decide +kernel) lm_Sc_62 ok_Re_advance (show _ = some 0 by decide +kernel) (ks_re hA) rfl (by decide) (by omega) (Nat.le_of_ble_eq_true rfl) (gt_advance hA hrb hr8) ?_
      rintro _ _ ⟨rfl, I40, rfl, hr40, hf40⟩
      have pf40 : prF (yTok G4) G4 := prF_tok _
      generalize yTok G4 = G40 at hX hr40 pf40
      try dsimp only at hX
      have fe40 : frE I40 (I) := fun a h1 h2 => (hf40 a h2).trans (fe8 a h1 h2)
      have fo40 : frO t I I40 := fun a h1 h2 h3 => (hf40 a h2).trans (fo8 a h1 h2 h3)
      have hz40 : I40 57 = I 57 := (hf40 57 (by decide)).trans hz8
      have c40 : G40 137 = J 137 := (pf40.1 137 (by decide)).trans c4
      obtain ⟨H40_0, hH40_0⟩ : ∃ Z, Z = sI G40 134 (11) (nI j8) := ⟨_, rfl⟩
      rw [← hH40_0] at hX
      have hrH40_0 : rdR I40 H40_0 n := by rw [hH40_0]; exact rdR_sJ4 hr40 (by decide) _
      have c40g0 : H40_0 137 = J 137 := by rw [hH40_0, sI_ne (by decide)]; exact c40
      have x40n0_0 : H40_0 134 11 = nI j8 := by rw [hH40_0, sI_rs]
      refine pw_aload_n (k4 := 0) rfl (by decide +kernel) ?_
      refine pq_getP (c := 4) (k := 5) (ks_sc hA) (by decide) (by decide) hst lf_Sc_18 (by decide +kernel) ?_
      refine pq_getP (c := 7) (k := 5) (ks_t hA ht) (by decide) (by decide) (kp_t_claim hA ht) lf_Sc_155 (by decide +kernel) ?_
      refine pw_iload_n (k4 := 1) rfl (by decide +kernel) ?_
      refine pw_aload_n (k4 := 0) rfl (by decide +kernel) ?_
      refine pw_iconst (n := 1) (v := 1) (by decide) (by decide +kernel) ?_
      refine pw_bipush (n := 9) (v := 9) (by decide) (by decide +kernel) ?_
      refine pq_callV (ν := m_Sc_takeNumber) (d' := 3) (av := [_, _]) (c := 4) (by decide +kernel) lm_Sc_107 ok_Sc_takeNumber (show _ = some 2 by decide +kernel) (ks_sc hA) rfl (by decide) (by omega) (Nat.le_of_ble_eq_true rfl) (gt_takeNumber hA hrb hrH40_0 1 9 (by decide) (by decide)) ?_
      rintro _ _ ⟨I55, v55, rfl, rfl, hs55, hv55, hw55⟩
      have fe55 : frE I55 (I) := fun a h1 h2 => (hs55.2.2 a h1 h2).trans (fe40 a h1 h2)
      have fo55 : frO t I I55 := fun a h1 h2 h3 => (hs55.2.2 a h1 h2).trans (fo40 a h1 h2 h3)
      refine pq_iast j8 rfl (by omega) (by decide) (ks_t_claim hA ht) (by decide +kernel) ?_
      obtain ⟨I58, hI58⟩ : ∃ Z, Z = sI I55 (t + 5) j8 (v55) := ⟨_, rfl⟩
      rw [← hI58]
      have fe58 : frE I58 (sI (I) (t + 5) j8 (v55)) := by rw [hI58]; exact fe55.st
      have fo58 : frO t I I58 := by rw [hI58]; exact fo55.st (by omega)
      have e57_58 : I58 57 = I55 57 := by rw [hI58, sI_ne (by omega)]
      refine pw_aload_n (k4 := 0) rfl (by decide +kernel) ?_
      refine pq_getI (c := 4) (k := 1) (ks_sc hA) (by decide) (by decide) lf_Sc_35 (by decide +kernel) ?_
      refine pw_if_ne (off := 7) (tgt := 70) (by decide +kernel) (by decide +kernel) (fun z63 => ?_) (fun z63 => ?_)
      · have hb55 : (I55 57 1 = 0 ↔ (yNum H40_0 (nI 1) (nI 9)).1 = true) := sbR_in hs55 (by rw [hz40]; exact h0)
        have hq55 : (yNum H40_0 (nI 1) (nI 9)).1 = false := by
          cases e : (yNum H40_0 (nI 1) (nI 9)).1 with
          | false => rfl
          | true => exact absurd (hb55.mpr e) (by rw [← e57_58]; exact z63)
        have hXf55 : X = yNum H40_0 (nI 1) (nI 9) := by rw [hX]; exact yB_q hq55
        have ff55 : scF X I55 := by rw [hXf55]; exact ⟨hq55, hs55.2.1 hq55⟩
        have fc55 : scF X I58 := ff55.cg e57_58
        refine pw_iconst (n := 0) (v := 0) (by decide) (by decide +kernel) ?_
        exact pq_zret rfl (by decide) (by decide +kernel) (lnQ_f fc55 fo58)
      · have hb55 : (I55 57 1 = 0 ↔ (yNum H40_0 (nI 1) (nI 9)).1 = true) := sbR_in hs55 (by rw [hz40]; exact h0)
        have hq55 : (yNum H40_0 (nI 1) (nI 9)).1 = true := hb55.mp (by rw [← e57_58]; exact z63)
        obtain ⟨K55, hK55⟩ : ∃ K, yNum H40_0 (nI 1) (nI 9) = (true, K) := ⟨_, Prod.ext hq55 rfl⟩
        rw [show yNum H40_0 1 9 = (true, K55) from hK55, yB_t] at hX
        try dsimp only at hX
        have pf55 : prF K55 H40_0 := num_pf hK55
        have hr55 : rdR I55 K55 n := by have := (hs55.1 hq55).1; rw [hK55] at this; exact this
        have hz55 : I55 57 = I 57 := (hs55.1 hq55).2.trans hz40
        have hu55 : v55 = K55 134 11 := by have := hv55 hq55; rw [hK55] at this; exact this
        have c55 : K55 137 = J 137 := (pf55.1 137 (by decide)).trans c40g0
        have hzc55 : I58 57 = I 57 := e57_58.trans hz55
        have hrc55 : rdR I58 K55 n := by rw [hI58]; exact rdR_sX (hr55) (by omega) _ _
        obtain ⟨H55_0, hH55_0⟩ : ∃ Z, Z = sI K55 141 (5 + j8) (K55 134 11) := ⟨_, rfl⟩
        rw [← hH55_0] at hX
        have hrH55_0 : rdR I58 H55_0 n := by rw [hH55_0]; exact rdR_sJ hrc55 (by decide) _ _
        have c55g0 : H55_0 137 = J 137 := by rw [hH55_0, sI_ne (by decide)]; exact c55
        have x55n0_0 : H55_0 141 (5 + j8) = K55 134 11 := by rw [hH55_0, sI_rs]
        refine pw_iconst (n := 1) (v := 1) (by decide) (by decide +kernel) ?_
        refine pw_goto (off := 4) (tgt := 71) (by decide +kernel) (by decide +kernel) ?_
        exact pq_zret rfl (by decide) (by decide +kernel) (lnQ_t hX hrH55_0 fo58 ⟨hzc55, j8, by omega, z27, by rw [show H55_0 141 (5 + j8) = _ from x55n0_0]; exact num_bd (by decide) (by decide) hK55, by rw [show H55_0 141 (5 + j8) = _ from x55n0_0.trans hu55.symm]; exact fe58⟩)
    · rw [eCl] at z27
      rw [if_pos (fun w => by
        rcases hcl j8 (by omega) with ⟨q1, q2⟩ | ⟨c, c1, c2, c3, c4⟩
        · rw [q2] at z27; exact absurd (by decide) z27
        · rw [c3] at w; exact absurd w (nI_pos (by omega)))] at hX
      refine pw_aload_n (k4 := 0) rfl (by decide +kernel) ?_
      refine pw_iconst (n := 3) (v := 3) (by decide) (by decide +kernel) ?_
      refine pq_callV (ν := m_Sc_refuse) (d' := 0) (av := [_]) (c := 4) (by decide +kernel) lm_Sc_59 ok_Sc_refuse (show _ = some 1 by decide +kernel) (ks_sc hA) rfl (by decide) (by omega) (Nat.le_of_ble_eq_true rfl) (ct_Sc_refuse hA _) ?_
      rintro _ _ ⟨rfl, rfl⟩
      exact pq_zret rfl (Or.inl rfl) (by decide +kernel) (lnQ_r hX (hr8.2.1) (by decide) fo8)
  · have hq8 : (yPer G4 pr).1 = false := by
      cases e : (yPer G4 pr).1 with
      | false => rfl
      | true => obtain ⟨-, -, j, hj, ej⟩ := hT8 e; rw [ej] at z13; exact absurd (Int32.not_lt.mp (nI_pos (by omega))) z13
    have hXf8 : X = yPer G4 pr := by rw [hX]; exact yB_q hq8
    have ff8 : scF X I8 := by rw [hXf8]; exact ⟨hq8, (hF8 hq8).2.2.1 hq8⟩
    refine pw_iconst (n := 0) (v := 0) (by decide) (by decide +kernel) ?_
    exact pq_zret rfl (by decide) (by decide +kernel) (lnQ_f ff8 fo8)
/-- behind a claim's line -/
theorem txD_CL {I J I' G : Nat → Nat → Int32} {t pr sr dr rr kr : Nat} (ht : t = 3 ∨ t = 30) (hp : prI J) (h : txD I J t pr sr dr rr kr) (hy : yCL pr J = (true, G)) (hT : tCk I t pr I' G) : txD I' G t pr sr dr rr kr := by
  obtain ⟨a1, a2, a3, a4, a5, a6, a7, a8⟩ := h
  obtain ⟨b2, b3, b4, q, v, hq, hn, v1, v9, g1⟩ := yCL_ok a2.2.1 hy hp
  obtain ⟨h57, p, hpp, hle, ⟨v', w1, w9, w2⟩, hf⟩ := hT
  have k1 : I' (t + 5) = upd (I (t + 5)) p (G 141 (5 + p)) := by rw [hf (t + 5) (by omega) (by omega), sI_eq]
  have kx : ∀ a, (t ≤ a ∧ a < t + 5) ∨ (t + 5 < a ∧ a < t + 25) → I' a = I a := fun a _ => by rw [hf a (by omega) (by omega), sI_ne (by omega)]
  have kj : ∀ a, a ∉ [134, 141] → G a = J a := fun a ha => b3.1 a ha
  have hp5 := a2.2.1
  have hpq : p = q := by
    apply Classical.byContradiction
    intro hne
    rw [g1, upd_ne (by omega)] at w2
    rcases a6 p (by omega) with ⟨c1, c2⟩ | ⟨c, c1, c2, c3, c4⟩
    · rw [w2] at c1; exact absurd c1 (nI_pos (by omega))
    · rw [c4] at hle; exact absurd ((nI_leI (b := 0) (by omega) (by decide)).mp hle) (by omega)
  subst hpq
  refine ⟨by rw [h57, b3.2 22 (by decide)]; exact a1, by unfold tOK; rw [kx t (by omega)]; exact a2, dPe_cg (fun a _ _ => kx a (by omega)) (fun a _ _ => kj a (by simp; omega)) a3, dSh_cg (fun a _ _ => kx a (by omega)) (fun a _ _ => kj a (by simp; omega)) a4, dDb_cg (fun a _ _ => kx a (by omega)) (fun a _ _ => kj a (by simp; omega)) a5, fun j hj => ?_, dRt_cg (kx _ (by omega)) (kx _ (by omega)) (kx _ (by omega)) (kj 151 (by decide)) a7, dLw_cg (fun a _ _ => kx a (by omega)) (fun a _ _ => kj a (by simp; omega)) a8⟩
  rw [k1, w2]
  by_cases e : j = p
  · subst e
    exact Or.inr ⟨v', w1, w9, w2, upd_eq⟩
  · rw [upd_ne e, g1, upd_ne (by omega)]; exact a6 j hj
/-- behind a rate's line -/
theorem txD_RL {I J I' G : Nat → Nat → Int32} {t pr sr dr rr kr : Nat} (ht : t = 3 ∨ t = 30) (hp : prI J) (h : txD I J t pr sr dr rr kr) (hy : yRL rr J = (true, G)) (hT : tRt I J t rr I' G) : txD I' G t pr sr dr (rr + 1) kr := by
  obtain ⟨a1, a2, a3, a4, a5, a6, a7, a8⟩ := h
  obtain ⟨b1, b2, b3, b4, b5, -⟩ := yRL_ok hy hp
  obtain ⟨h57, a, b, u, v, ha, hb, hab, u1, u9, v1, v9, g0, g1, g2, g3, hno, hlow, hf⟩ := hT
  have k15 : I' (t + 15) = upd (I (t + 15)) 0 (nI (rr + 1)) := by rw [hf (t + 15) (by omega) (by omega), sI_eq]; (repeat rw [sI_ne (by omega)])
  have k16 : I' (t + 16) = upd (I (t + 16)) (a * 6 + b) (nI u) := by rw [hf (t + 16) (by omega) (by omega)]; (repeat rw [sI_ne (by omega)]); rw [sI_eq]
  have k17 : I' (t + 17) = upd (I (t + 17)) (a * 6 + b) (nI v) := by rw [hf (t + 17) (by omega) (by omega)]; (repeat rw [sI_ne (by omega)]); rw [sI_eq]; (repeat rw [sI_ne (by omega)])
  have kx : ∀ a, (t ≤ a ∧ a < t + 15) ∨ (t + 17 < a ∧ a < t + 25) → I' a = I a := fun a _ => by rw [hf a (by omega) (by omega)]; (repeat rw [sI_ne (by omega)])
  have kj : ∀ a, a ∉ [134, 151] → G a = J a := fun a ha => b3.1 a ha
  obtain ⟨c1, c2, c3, c4, c5⟩ := a7
  have old : ∀ k, k < rr → G 151 (32 + 4 * k) = J 151 (32 + 4 * k) ∧ G 151 (32 + 4 * k + 1) = J 151 (32 + 4 * k + 1) ∧ G 151 (32 + 4 * k + 2) = J 151 (32 + 4 * k + 2) ∧ G 151 (32 + 4 * k + 3) = J 151 (32 + 4 * k + 3) := fun k hk => ⟨hlow _ (by omega), hlow _ (by omega), hlow _ (by omega), hlow _ (by omega)⟩
  have inj : ∀ {x y : Nat}, x < 6 → y < 6 → nI x = nI y → x = y := fun hx hy e => (nI_eq (by omega) (by omega)).mp e
  refine ⟨by rw [h57, b3.2 22 (by decide)]; exact a1, by unfold tOK; rw [kx t (by omega)]; exact a2, dPe_cg (fun a _ _ => kx a (by omega)) (fun a _ _ => kj a (by simp; omega)) a3, dSh_cg (fun a _ _ => kx a (by omega)) (fun a _ _ => kj a (by simp; omega)) a4, dDb_cg (fun a _ _ => kx a (by omega)) (fun a _ _ => kj a (by simp; omega)) a5, dC_cg (kx _ (by omega)) (kj 141 (by decide)) a6, ⟨by rw [k15, upd_eq], by omega, fun k hk => ?_, fun x y hx hy hn => ?_, fun k k' hk hk' e1 e2 => ?_⟩, dLw_cg (fun a _ _ => kx a (by omega)) (fun a _ _ => kj a (by simp; omega)) a8⟩
  · rw [k16, k17]
    by_cases e : k = rr
    · subst e
      exact ⟨a, b, u, v, ha, hb, hab, u1, u9, v1, v9, g0, g1, g2, g3, upd_eq, upd_eq⟩
    · have hkr : k < rr := by omega
      obtain ⟨a', b', u', v', p1, p2, p3, p4, p5, p6, p7, q0, q1, q2, q3, q4, q5⟩ := c3 k hkr
      obtain ⟨o0, o1, o2, o3⟩ := old k hkr
      have hne : a' * 6 + b' ≠ a * 6 + b := fun w => hno k hkr ⟨by rw [q0, show a' = a by omega], by rw [q2, show b' = b by omega]⟩
      exact ⟨a', b', u', v', p1, p2, p3, p4, p5, p6, p7, by rw [o0]; exact q0, by rw [o1]; exact q1, by rw [o2]; exact q2, by rw [o3]; exact q3, by rw [upd_ne hne]; exact q4, by rw [upd_ne hne]; exact q5⟩
  · have hne : x * 6 + y ≠ a * 6 + b := fun w => hn rr (by omega) ⟨by rw [g0, show x = a by omega], by rw [g2, show y = b by omega]⟩
    rw [k17, upd_ne hne]
    exact c4 x y hx hy (fun k hk w => hn k (by omega) ⟨by rw [(old k hk).1]; exact w.1, by rw [(old k hk).2.2.1]; exact w.2⟩)
  · by_cases z : k = rr
    · by_cases z' : k' = rr
      · omega
      · subst z
        have hkr : k' < k := by omega
        rw [(old k' hkr).1, g0] at e1
        rw [(old k' hkr).2.2.1, g2] at e2
        exact absurd ⟨e1.symm, e2.symm⟩ (hno k' hkr)
    · by_cases z' : k' = rr
      · subst z'
        have hkr : k < k' := by omega
        rw [(old k hkr).1, g0] at e1
        rw [(old k hkr).2.2.1, g2] at e2
        exact absurd ⟨e1, e2⟩ (hno k hkr)
      · have h1 : k < rr := by omega
        have h2 : k' < rr := by omega
        rw [(old k h1).1, (old k' h2).1] at e1
        rw [(old k h1).2.2.1, (old k' h2).2.2.1] at e2
        exact c5 k k' h1 h2 e1 e2
/-- behind a seed's line -/
theorem txD_Sd {I J I' G : Nat → Nat → Int32} {t pr sr dr rr kr : Nat} (ht : t = 3 ∨ t = 30) (h : txD I J t pr sr dr rr kr) (hy : ySd J = (true, G)) (hT : tSd I I' G) : txD I' G t pr sr dr rr kr := by
  obtain ⟨h57, hf⟩ := hT
  unfold ySd at hy
  by_cases hs : J 134 22 = 0
  · rw [if_pos hs] at hy
    have f1 : prF G (yTok (sI J 134 22 1)) := num_pf hy
    have f2 := prF_tok (sI J 134 22 1)
    have e : ∀ a, a ≠ 134 → G a = J a := fun a ha => by rw [f1.1 a ha, f2.1 a ha, sI_ne ha]
    have e22 : G 134 22 = 1 := by rw [f1.2 22 (by decide), f2.2 22 (by decide), sI_rs]
    have key := txD_cg (X' := sI I' 57 3 (I 57 3)) (J' := sI G 134 22 (J 134 22)) (fun a _ _ => by rw [sI_ne (by omega), hf a (by omega) (by omega)]) sI_rs (fun a _ _ => by rw [sI_ne (by omega), e a (by omega)]) sI_rs h
    obtain ⟨-, b2, b3, b4, b5, b6, b7, b8⟩ := key
    have x : ∀ a, t ≤ a → a < t + 25 → I' a = sI I' 57 3 (I 57 3) a := fun a _ _ => (sI_ne (by omega)).symm
    have y : ∀ a, 136 < a → a < 157 → G a = sI G 134 22 (J 134 22) a := fun a _ _ => (sI_ne (by omega)).symm
    exact ⟨by rw [h57, upd_eq, e22], by unfold tOK; rw [x t (by omega) (by omega)]; exact b2, dPe_cg (fun a _ _ => x a (by omega) (by omega)) (fun a _ _ => y a (by omega) (by omega)) b3, dSh_cg (fun a _ _ => x a (by omega) (by omega)) (fun a _ _ => y a (by omega) (by omega)) b4, dDb_cg (fun a _ _ => x a (by omega) (by omega)) (fun a _ _ => y a (by omega) (by omega)) b5, dC_cg (x _ (by omega) (by omega)) (y _ (by decide) (by decide)) b6, dRt_cg (x _ (by omega) (by omega)) (x _ (by omega) (by omega)) (x _ (by omega) (by omega)) (y _ (by decide) (by decide)) b7, dLw_cg (fun a _ _ => x a (by omega) (by omega)) (fun a _ _ => y a (by omega) (by omega)) b8⟩
  · rw [if_neg hs] at hy; cases hy
