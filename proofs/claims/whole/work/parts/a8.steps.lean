/-! ===== class and reference: on, off, days, undo, images ===== -/
section
variable {X Y : Nat → Nat → Int32} {t np ns nd nx sz j : Nat}
theorem nI_neg1 {p : Nat} (h : p < 100) : ¬ nI p = -1 := by
  intro e
  have := congrArg Int32.toInt e
  rw [nI_toInt (by omega)] at this
  have e1 : (-1 : Int32).toInt = -1 := rfl
  omega
theorem gR_on {p d : Nat} (h : gR X Y t np ns nd nx sz) (hj : j < ns) (hp : p < np) (hd : d < 2) (ho : Y 163 j = nI p) : gR (sI X 66 (2 * p + d) (nI j)) (sI Y (if d = 0 then 164 else 165) p (nI j)) t np ns nd nx sz := by
  have ht := h.2.2.2.2.2.2.2
  have hns := h.1.lns
  have hnp := h.1.lnp
  have hc : (if d = 0 then 164 else 165) = 164 ∨ (if d = 0 then 164 else 165) = 165 := by split <;> simp
  have hx : ∀ a, a ≠ 66 → sI X 66 (2 * p + d) (nI j) a = X a := fun a q => sI_ne q
  have hy : ∀ a, a ≠ 164 → a ≠ 165 → sI Y (if d = 0 then 164 else 165) p (nI j) a = Y a := fun a q1 q2 => sI_ne (by omega)
  have u50 : ∃ u, u < 50 ∧ Y 162 (16 * 0 + j) = nI u := h.1.2.2.2.2 j hj (by rw [Nat.mul_zero, Nat.zero_add, ho]; exact nI_ne2 (by omega))
  obtain ⟨w1, w2, w3, w4, w5⟩ := h.1.2.1
  have y4 : ∀ q, sI Y (if d = 0 then 164 else 165) p (nI j) 164 q = if d = 0 ∧ q = p then nI j else Y 164 q := by
    intro q
    by_cases z : d = 0
    · rw [if_pos z, sI_at]
      by_cases e : q = p
      · rw [if_pos e, if_pos ⟨z, e⟩]
      · rw [if_neg e, if_neg (fun k => e k.2)]
    · rw [if_neg z, sI_ne (by decide), if_neg (fun k => z k.1)]
  have y5 : ∀ q, sI Y (if d = 0 then 164 else 165) p (nI j) 165 q = if d = 1 ∧ q = p then nI j else Y 165 q := by
    intro q
    by_cases z : d = 0
    · rw [if_pos z, sI_ne (by decide), if_neg (fun k => by omega)]
    · rw [if_neg z, sI_at]
      by_cases e : q = p
      · rw [if_pos e, if_pos ⟨by omega, e⟩]
      · rw [if_neg e, if_neg (fun k => e k.2)]
  have ft : ∀ q x, ftOK Y 0 ns q x → ftOK (sI Y (if d = 0 then 164 else 165) p (nI j)) 0 ns q x := by
    intro q x k
    unfold ftOK at *
    rw [hy 163 (by omega) (by omega), hy 162 (by omega) (by omega)]
    exact k
  refine gR_of h (fun a q => hx a (by omega)) (fun a q1 q2 => hy a (by omega) (by omega)) ?_ (by rw [hx 62 (by omega)]; exact h.2.1) ?_ (by rw [hy 167 (by omega) (by omega)]; exact h.2.2.2.2.1) (fun s _ => by rw [hy 162 (by omega) (by omega)])
  · refine hR_of h.1 ht (fun a q => hx a (by omega)) (fun a q _ => hy a (by omega) (by omega)) ⟨fun s hs => ?_, fun q hq => ?_, fun e he => ?_, ?_, ?_⟩ ⟨fun s hs => ?_, fun q hq => ?_⟩ ?_
    · rw [hx (62 + 1) (by omega), hx (62 + 2) (by omega), hx (62 + 3) (by omega), hy 162 (by omega) (by omega), hy 163 (by omega) (by omega)]
      unfold ySide
      rw [hy 134 (by omega) (by omega), hy 142 (by omega) (by omega)]
      exact w1 s hs
    · rw [y4, y5, sI_at, sI_at, Nat.mul_zero, Nat.zero_add]
      have := w2 q hq
      rw [Nat.mul_zero, Nat.zero_add] at this
      constructor
      · by_cases z : d = 0 ∧ q = p
        · rw [if_pos z, if_pos (by omega)]
        · rw [if_neg z, if_neg (by omega)]; exact this.1
      · by_cases z : d = 1 ∧ q = p
        · rw [if_pos z, if_pos (by omega)]
        · rw [if_neg z, if_neg (by omega)]; exact this.2
    · rw [hx (62 + 5) (by omega), hy 166 (by omega) (by omega)]; exact w3 e he
    · rw [hx 62 (by omega), hy 167 (by omega) (by omega)]; exact w4
    · rw [hx 62 (by omega), hy 134 (by omega) (by omega)]; exact w5
    · rw [hy 163 (by omega) (by omega), hy 162 (by omega) (by omega)]; exact h.1.2.2.1.1 s hs
    · rw [y4, y5]
      have hf := h.1.2.2.1.2 q hq
      have new : q = p → ftOK (sI Y (if d = 0 then 164 else 165) p (nI j)) 0 ns q (nI j) := by
        rintro rfl
        refine ft q _ (Or.inr ⟨j, hj, rfl, ?_, u50⟩)
        rw [Nat.mul_zero, Nat.zero_add]; exact ho
      constructor
      · by_cases z : d = 0 ∧ 5 * 0 + q = p
        · rw [if_pos z]; exact new (by omega)
        · rw [if_neg z]; exact ft q _ hf.1
      · by_cases z : d = 1 ∧ 5 * 0 + q = p
        · rw [if_pos z]; exact new (by omega)
        · rw [if_neg z]; exact ft q _ hf.2
    · exact uM_cgY h.1.2.2.2.2 (fun a q1 q2 => hy a (by omega) (by omega))
  · unfold dvM
    rw [hy 150 (by omega) (by omega), hy 166 (by omega) (by omega), hy 167 (by omega) (by omega)]
    exact h.2.2.2.1
theorem on_y (h : gR X Y t np ns nd nx sz) (s : Int32) :
    ((xThere X t 62 s ∧ X (62 + 3) (ixn s) ≠ -1 ∧ ¬ xWorn X t 62 (ixn s)) ↔ (yThere Y s ∧ ¬ Y 163 (ixn s) < 0 ∧ ¬ yWornA Y 0 s np)) ∧
    (yThere Y s ∧ ¬ Y 163 (ixn s) < 0 ∧ ¬ yWornA Y 0 s np → gR (sI (xNote X 62 nx sz) (62 + 4) (2 * ixn (X (62 + 3) (ixn s)) + ixn (X (62 + 1) (ixn s))) s) (sI (yRem (sI Y 134 2 0) sz) (if Y 142 (ixn s) = 0 then 164 else 165) (ixn (Y 163 (ixn s))) s) t np ns nd ((nx + 1) % 20) (min 20 (sz + 1))) := by
  have hnp := h.1.lnp
  refine ⟨?_, fun hc => ?_⟩
  · rw [h.1.there]
    refine and_congr_right fun h1 => ?_
    obtain ⟨hj, es⟩ := h.1.1.1.S h1.1
    rw [worn_y h.1.1.1 h.1.2.1 h.1.2.2.1 hj, ← es, h.1.w3 hj]
    refine and_congr_left fun _ => ?_
    have ho := (h.1.2.2.1.1 (ixn s) hj).1
    rw [Nat.mul_zero, Nat.zero_add] at ho
    rcases ho with z | z | ⟨p, hp, z⟩
    · exact absurd z h1.2
    · rw [z]; exact ⟨fun q => absurd rfl q, fun q => absurd (by decide) q⟩
    · rw [z]; exact ⟨fun _ => nI_pos (by omega), fun _ => nI_neg1 (by omega)⟩
  · obtain ⟨hj, es⟩ := h.1.1.1.S hc.1.1
    obtain ⟨d, hd, ed⟩ := (h.1.1.1.2.2.2.1 _ hj).2.2.2
    have ho := own_of h.1.2.2.1 hj
    rw [Nat.mul_zero, Nat.zero_add] at ho
    rcases ho with z | ⟨p, hp, z⟩
    · exact absurd z hc.2.1
    · rw [h.1.w3 hj, h.1.w1 hj, z, ed, ixn_nI (by omega), ixn_nI (by omega)]
      have e : (if nI d = 0 then 164 else 165) = (if d = 0 then 164 else 165) := by
        by_cases q : d = 0
        · rw [if_pos q, if_pos (by rw [q]; rfl)]
        · rw [if_neg q, if_neg (fun k => q ((nI_eq (by omega) (by decide)).mp (k.trans n0)))]
      rw [e]
      have g := gR_on (j := ixn s) (p := p) (d := d) (gR_note (gR_2 h 0)) hj hp hd (by rw [yRem_fr (by decide) (by decide), sI_ne (by decide)]; exact z)
      rw [← es] at g
      exact g
theorem gR_off (h : gR X Y t np ns nd nx sz) (hj : j < ns) : gR (aU X 66 (xOff (X 66) (X 65 j) (X t 0) (nI j))) (yTake Y 0 np (nI j)) t np ns nd nx sz := by
  have ht := h.2.2.2.2.2.2.2
  have hns := h.1.lns
  have hnp := h.1.lnp
  have hx : ∀ a, a ≠ 66 → aU X 66 (xOff (X 66) (X 65 j) (X t 0) (nI j)) a = X a := fun a q => aU_ne q
  have hy : ∀ a, a ≠ 164 → a ≠ 165 → yTake Y 0 np (nI j) a = Y a := fun a q1 q2 => by
    unfold yTake
    rw [aU_ne q2, aU_ne q1]
  have hg := gR_move h hj (to := Y 163 j) (by
    have := (h.1.2.2.1.1 j hj).1
    rwa [Nat.mul_zero, Nat.zero_add] at this) (by
    by_cases z : Y 163 j = -2
    · exact Or.inl z
    · exact Or.inr z)
  have ex : xMove X t 62 j (Y 163 j) = aU X 66 (xOff (X 66) (X 65 j) (X t 0) (nI j)) := by
    unfold xMove
    have e : X (62 + 3) j = Y 163 j := h.1.w3 hj
    have e2 : (aU X (62 + 4) (xOff (X (62 + 4)) (X (62 + 3) j) (X t 0) (nI j))) (62 + 3) j = Y 163 j := by rw [aU_ne (by decide)]; exact e
    conv => lhs; rw [← e2]
    exact sI_same _ _ _
  have ey : yGoes Y 0 j np (Y 163 j) = yTake Y 0 np (nI j) := by
    unfold yGoes
    have e2 : yTake Y 0 np (nI j) 163 (16 * 0 + j) = Y 163 j := by rw [hy 163 (by decide) (by decide), Nat.mul_zero, Nat.zero_add]
    conv => lhs; rw [← e2]
    exact sI_same _ _ _
  rw [ex, ey] at hg
  exact hg
theorem off_y (h : gR X Y t np ns nd nx sz) (s : Int32) :
    ((xThere X t 62 s ∧ xWorn X t 62 (ixn s)) ↔ (yHasS Y s ∧ yWornA Y 0 s np)) ∧
    (yHasS Y s ∧ yWornA Y 0 s np → gR (aU (xNote X 62 nx sz) (62 + 4) (xOff (X (62 + 4)) (X (62 + 3) (ixn s)) (X t 0) s)) (yTake (yRem (sI Y 134 2 0) sz) 0 np s) t np ns nd ((nx + 1) % 20) (min 20 (sz + 1))) := by
  have hnp := h.1.lnp
  have hnx := h.2.2.2.2.2.1.2.1
  have ht := h.2.2.2.2.2.2.2
  have hw : yHasS Y s → (xWorn X t 62 (ixn s) ↔ yWornA Y 0 s np) := fun h1 => by
    obtain ⟨hj, es⟩ := h.1.1.1.S h1
    rw [worn_y h.1.1.1 h.1.2.1 h.1.2.2.1 hj, ← es]
  refine ⟨?_, fun hc => ?_⟩
  · rw [h.1.there]
    constructor
    · rintro ⟨h1, h2⟩
      exact ⟨h1.1, (hw h1.1).mp h2⟩
    · rintro ⟨h1, h2⟩
      have h3 := (hw h1).mpr h2
      obtain ⟨hj, es⟩ := h.1.1.1.S h1
      refine ⟨⟨h1, ?_⟩, h3⟩
      have h4 := h3.1
      have e : X (62 + 3) (ixn s) = Y 163 (ixn s) := h.1.w3 hj
      rw [e] at h4
      exact hasP_ne ((h.1.1.1.hasP _).mp h4)
  · obtain ⟨hj, es⟩ := h.1.1.1.S hc.1
    have g := gR_off (gR_note (gR_2 h 0)) hj
    rw [← es, xNote_fr hnx (by omega), xNote_fr hnx (by omega), xNote_fr hnx (by omega)] at g
    exact g
theorem xDay_w {w i : Nat} (hi : i ≠ 1) : xDay X t w np ns nd w i = X w i := by
  unfold xDay
  dsimp only
  rw [sI_at, if_neg hi]
  have e : (if X w 2 = 0 then X else xWalk X t w (2 * np)) w = X w := by
    split
    · rfl
    · exact xWalk_ne (by omega) (by omega) (by omega) _
  split
  · rw [e]
  · rw [xDebts_ne (by omega) (by omega) (by omega), e]
theorem xDays_w {w i : Nat} (hi : i ≠ 1) : ∀ n, xDays X t w np ns nd n w i = X w i
  | 0 => rfl
  | n + 1 => (xDay_w hi).trans (xDays_w hi n)
theorem xDays_fr {w a : Nat} (h : a < w ∨ w + 6 ≤ a) : ∀ n, xDays X t w np ns nd n a = X a
  | 0 => rfl
  | n + 1 => (xDay_ne h).trans (xDays_fr h n)
/-- days(q) -/
theorem days_y (h : gR X Y t np ns nd nx sz) (q : Int32) :
    ((0 ≤ q ∧ q ≤ 50 ∧ X 62 1 + q ≤ 999) ↔ (0 ≤ q ∧ q ≤ 50 ∧ Y 167 0 + q ≤ 999)) ∧
    (0 ≤ q ∧ q ≤ 50 ∧ Y 167 0 + q ≤ 999 → xDays X t 62 np ns nd (ixn q) 62 1 = yDays Y 0 np ns nd (ixn q) 167 0 ∧
      ((ixn q = 0 ∧ gR X Y t np ns nd nx sz) ∨ (¬ ixn q = 0 ∧ gR (sI (sI (xDays X t 62 np ns nd (ixn q)) 80 0 0) 80 1 0) (sI (yDays Y 0 np ns nd (ixn q)) 134 86 0) t np ns nd 0 0))) := by
  have ht := h.2.2.2.2.2.2.2
  have hns := h.1.lns
  have hnp := h.1.lnp
  have e1 : X 62 1 = Y 167 0 := h.1.2.1.2.2.2.1
  refine ⟨by rw [e1], fun hc => ?_⟩
  obtain ⟨n, hn, eq⟩ := nI_of (Int32.not_lt.mpr hc.1)
  obtain ⟨dd, hdd, ed⟩ := h.2.2.2.2.1
  have n50 : n ≤ 50 := (cLe eq (show (50 : Int32) = nI 50 from rfl) hn (by decide)).mp hc.2.1
  have hs : dd + n ≤ 999 := by
    have := hc.2.2
    rw [ed, eq, nI_add] at this
    exact (cLe rfl (show (999 : Int32) = nI 999 from rfl) (by omega) (by decide)).mp this
  have en : ixn q = n := by rw [eq, ixn_nI (by omega)]
  rw [en]
  obtain ⟨r1, r2, r3, r4⟩ := wR_days h.1.1 (show t + 26 < 62 by omega) h.1.2.1 h.1.2.2.1 h.2.2.2.1 ed n (by omega)
  refine ⟨r1.2.2.2.1, ?_⟩
  by_cases z : n = 0
  · exact Or.inl ⟨z, h⟩
  · refine Or.inr ⟨z, ?_⟩
    have x80 : ∀ a, a ≠ 80 → sI (sI (xDays X t 62 np ns nd n) 80 0 0) 80 1 0 a = xDays X t 62 np ns nd n a := fun a q => by rw [sI_ne q, sI_ne q]
    have xo : ∀ a, a ≠ 80 → (a < 62 ∨ 68 ≤ a) → sI (sI (xDays X t 62 np ns nd n) 80 0 0) 80 1 0 a = X a := fun a q1 q2 => (x80 a q1).trans (xDays_fr q2 n)
    have ya : ∀ a, a ≠ 134 → sI (yDays Y 0 np ns nd n) 134 86 0 a = yDays Y 0 np ns nd n a := fun a q => sI_ne q
    have yo : ∀ a, a ≠ 134 → (a < 162 ∨ 167 < a) → sI (yDays Y 0 np ns nd n) 134 86 0 a = Y a := fun a q1 q2 => (ya a q1).trans (yDays_fr q2 n)
    have y4 : ∀ k, k ≠ 86 → sI (yDays Y 0 np ns nd n) 134 86 0 134 k = Y 134 k := fun k q => by rw [sI_at, if_neg q, yDays_fr (Or.inl (by decide))]
    refine ⟨⟨sT_cg h.1.1 (fun a q1 q2 _ => xo a (by omega) (by omega)) ⟨fun a q1 q2 => yo a (by omega) (by omega), y4 12 (by decide), y4 13 (by decide), y4 14 (by decide)⟩, wR_cg r1 (fun a q1 q2 => x80 a (by omega)) (fun a q1 q2 => ya a (by omega)) (ya 142 (by decide)) ?_ ?_ ?_, mI_cgY (mI_days h.1.2.2.1 h.1.1.2.2.1 h.1.1.2.2.2 hnp hns n) (fun a q1 q2 => ya a (by omega)), by rw [y4 64 (by decide)]; exact h.1.2.2.2.1, uM_cgY (uM_days h.1.2.2.2.2 h.1.2.2.1 h.1.1.2.2.1 h.1.1.2.2.2 hnp hns n) (fun a q1 q2 => ya a (by omega))⟩, ?_, by rw [y4 62 (by decide), y4 63 (by decide)]; exact h.2.2.1, ?_, ⟨dd + n, hs, by rw [ya 167 (by decide)]; exact r4⟩, ⟨by rw [sI_rs]; rfl, by decide, by rw [sI_rd (by decide), sI_rs]; rfl, by decide, by rw [sI_rs]; rfl, fun k hk => absurd hk (Nat.not_lt_zero _)⟩, oR_cg h.2.2.2.2.2.2.1 ht (fun a q => xo a (by omega) (by omega)) (fun a q => yo a (by omega) (by omega)) (fun k hk => y4 k ?_), ht⟩
    · rw [y4 62 (by decide), yDays_fr (Or.inl (by decide))]
    · rw [y4 63 (by decide), yDays_fr (Or.inl (by decide))]
    · rw [y4 64 (by decide), yDays_fr (Or.inl (by decide))]
    · rw [x80 62 (by decide), xDays_w (by decide), xDays_w (by decide)]; exact h.2.1
    · unfold dvM at *
      rw [ya 150 (by decide), ya 166 (by decide), ya 167 (by decide)]
      exact r3
    · simp only [o134, List.mem_cons, List.not_mem_nil, or_false] at hk
      omega
end
