/-! ===== class and reference: what is remembered ===== -/
def ftE (us wh : Nat → Int32) (ns p : Nat) (x : Int32) : Prop := x = -1 ∨ ∃ j, j < ns ∧ x = nI j ∧ wh j = nI p ∧ ∃ u, u < 50 ∧ us j = nI u
def mE (us wh lf rt : Nat → Int32) (np ns : Nat) : Prop := (∀ s, s < ns → (wh s = -2 ∨ wh s = -1 ∨ ∃ p, p < np ∧ wh s = nI p) ∧ ∃ u, u ≤ 200 ∧ us s = nI u) ∧ ∀ p, p < np → ftE us wh ns p (lf p) ∧ ftE us wh ns p (rt p)
theorem mI_mE {Y : Nat → Nat → Int32} {np ns : Nat} : mI Y 0 np ns ↔ mE (Y 162) (Y 163) (Y 164) (Y 165) np ns := by
  unfold mI mE ftOK ftE
  simp only [Nat.mul_zero, Nat.zero_add]
theorem mE_cg {us wh lf rt us' wh' lf' rt' : Nat → Int32} {np ns : Nat} (h : mE us wh lf rt np ns) (h1 : ∀ s, s < ns → us' s = us s) (h2 : ∀ s, s < ns → wh' s = wh s) (h3 : ∀ p, p < np → lf' p = lf p) (h4 : ∀ p, p < np → rt' p = rt p) : mE us' wh' lf' rt' np ns := by
  have key : ∀ p x, ftE us wh ns p x → ftE us' wh' ns p x := by
    rintro p x (z | ⟨j, hj, e1, e2, u, hu, e3⟩)
    · exact Or.inl z
    · exact Or.inr ⟨j, hj, e1, (h2 j hj).trans e2, u, hu, (h1 j hj).trans e3⟩
  refine ⟨fun s hs => ?_, fun p hp => ?_⟩
  · rw [h1 s hs, h2 s hs]
    exact h.1 s hs
  · rw [h3 p hp, h4 p hp]
    exact ⟨key _ _ (h.2 p hp).1, key _ _ (h.2 p hp).2⟩
/-- a row of the class and one of the reference hold the same -/
def snR (wx fx e : Nat → Int32) (np ns : Nat) : Prop := (∀ s, s < ns → wx s = e s) ∧ ∀ p, p < np → fx (2 * p) = e (16 + p) ∧ fx (2 * p + 1) = e (21 + p)
def enOK (us e : Nat → Int32) (np ns : Nat) : Prop := mE us e (fun p => e (16 + p)) (fun p => e (21 + p)) np ns ∧ ∀ s, s < ns → ¬ e s = -2 → ∃ u, u < 50 ∧ us s = nI u
def en (Y : Nat → Nat → Int32) (k : Nat) : Nat → Int32 := fun x => Y 181 (26 * k + x)
theorem snR_cg {wx fx e e' : Nat → Int32} {np ns : Nat} (hns : ns ≤ 16) (hnp : np ≤ 5) (h : snR wx fx e np ns) (he : ∀ x, x < 26 → e' x = e x) : snR wx fx e' np ns :=
  ⟨fun s hs => by rw [he s (by omega)]; exact h.1 s hs, fun p hp => by rw [he _ (by omega), he _ (by omega)]; exact h.2 p hp⟩
theorem enOK_cg {us us' e e' : Nat → Int32} {np ns : Nat} (hns : ns ≤ 16) (hnp : np ≤ 5) (h : enOK us e np ns) (hu : ∀ s, s < ns → us' s = us s) (he : ∀ x, x < 26 → e' x = e x) : enOK us' e' np ns :=
  ⟨mE_cg h.1 hu (fun s hs => he s (by omega)) (fun p hp => he _ (by omega)) (fun p hp => he _ (by omega)), fun s hs hn => by
    rw [hu s hs]
    exact h.2 s hs (by rw [← he s (by omega)]; exact hn)⟩
def hsN (X Y : Nat → Nat → Int32) (np ns nx sz : Nat) : Prop := X 80 1 = nI nx ∧ nx < 20 ∧ X 80 0 = nI sz ∧ sz ≤ 20 ∧ Y 134 86 = nI sz ∧ ∀ k, k < sz → snR (X (82 + (nx + 20 - sz + k) % 20)) (X (103 + (nx + 20 - sz + k) % 20)) (en Y k) np ns ∧ enOK (Y 162) (en Y k) np ns
theorem hsN_cg {X Y X' Y' : Nat → Nat → Int32} {np ns nx sz : Nat} (h : hsN X Y np ns nx sz) (hX : ∀ a, 80 ≤ a → a < 123 → X' a = X a) (hu : ∀ s, s < ns → Y' 162 s = Y 162 s) (h1 : Y' 181 = Y 181) (h2 : Y' 134 86 = Y 134 86) (hns : ns ≤ 16) (hnp : np ≤ 5) : hsN X' Y' np ns nx sz := by
  obtain ⟨a1, a2, a3, a4, a5, a6⟩ := h
  refine ⟨by rw [hX 80 (by omega) (by omega)]; exact a1, a2, by rw [hX 80 (by omega) (by omega)]; exact a3, a4, h2.trans a5, fun k hk => ?_⟩
  have hr : (nx + 20 - sz + k) % 20 < 20 := Nat.mod_lt _ (by decide)
  have e : en Y' k = en Y k := by unfold en; rw [h1]
  rw [hX _ (by omega) (by omega), hX _ (by omega) (by omega), e]
  exact ⟨(a6 k hk).1, enOK_cg hns hnp (a6 k hk).2 hu (fun _ _ => rfl)⟩
theorem en_new {Y : Nat → Nat → Int32} {u x : Nat} (hx : x < 26) : en (yRem Y u) (yUd u) x = if x < 16 then Y 163 x else if x < 21 then Y 164 (x - 16) else Y 165 (x - 21) := by
  show yPut (yUn (Y 181) u) (Y 163) (Y 164) (Y 165) (26 * yUd u) 16 5 (26 * yUd u + x) = _
  unfold yPut
  by_cases h1 : x < 16
  · rw [if_pos h1, if_pos (by omega), show 26 * yUd u + x - 26 * yUd u = x by omega]
  · rw [if_neg h1, if_neg (by omega)]
    by_cases h2 : x < 21
    · rw [if_pos h2, if_pos (by omega), show 26 * yUd u + x - (26 * yUd u + 16) = x - 16 by omega]
    · rw [if_neg h2, if_neg (by omega), if_pos (by omega), show 26 * yUd u + x - (26 * yUd u + 21) = x - 21 by omega]
theorem en_old {Y : Nat → Nat → Int32} {u k x : Nat} (hx : x < 26) (hk : k < yUd u) (hu : u ≤ 20) : en (yRem Y u) k x = en Y (if u = 20 then k + 1 else k) x := by
  show yPut (yUn (Y 181) u) (Y 163) (Y 164) (Y 165) (26 * yUd u) 16 5 (26 * k + x) = _
  unfold yPut
  rw [if_neg (by omega), if_neg (by omega), if_neg (by omega)]
  unfold yUn yUd at *
  by_cases z : u = 20
  · rw [if_pos z] at hk
    rw [if_pos z, if_pos z]
    show (if 26 * k + x < 494 then Y 181 (26 * k + x + 26) else Y 181 (26 * k + x)) = Y 181 (26 * (k + 1) + x)
    rw [if_pos (by omega), show 26 * k + x + 26 = 26 * (k + 1) + x by omega]
  · rw [if_neg z, if_neg z]
    rfl
theorem fil_lt {f g : Nat → Int32} {n i : Nat} (h : i < n) : fil f g n i = f i := if_pos h
theorem hs_note {X Y : Nat → Nat → Int32} {t w np ns nd nx sz : Nat} (h : hsN X Y np ns nx sz) (hH : hR X Y t w np ns nd) (hw : w + 5 < 80) : hsN (xNote X w nx sz) (yRem Y sz) np ns ((nx + 1) % 20) (min 20 (sz + 1)) := by
  obtain ⟨a1, a2, a3, a4, a5, a6⟩ := h
  have hns := hH.lns
  have hnp := hH.lnp
  have x80 : ∀ j, xNote X w nx sz 80 j = if j = 0 then nI (min 20 (sz + 1)) else if j = 1 then nI ((nx + 1) % 20) else X 80 j := by
    intro j
    unfold xNote
    rw [sI_at, sI_at, aU_ne (by omega), aU_ne (by omega)]
  have x82 : ∀ r, r < 20 → xNote X w nx sz (82 + r) = if r = nx then fil (X (w + 3)) (X (82 + nx)) 16 else X (82 + r) := by
    intro r hr
    unfold xNote
    rw [sI_ne (by omega), sI_ne (by omega), aU_ne (by omega)]
    by_cases e : r = nx
    · subst e
      rw [if_pos rfl, aU_eq]
    · rw [if_neg e, aU_ne (by omega)]
  have x103 : ∀ r, r < 20 → xNote X w nx sz (103 + r) = if r = nx then fil (X (w + 4)) (X (103 + nx)) 10 else X (103 + r) := by
    intro r hr
    unfold xNote
    rw [sI_ne (by omega), sI_ne (by omega)]
    by_cases e : r = nx
    · subst e
      rw [if_pos rfl, aU_eq]
    · rw [if_neg e, aU_ne (by omega), aU_ne (by omega)]
  have hud : yUd sz + 1 = min 20 (sz + 1) := by unfold yUd; split <;> omega
  refine ⟨by rw [x80]; rfl, Nat.mod_lt _ (by decide), by rw [x80]; rfl, by omega, ?_, fun k hk => ?_⟩
  · rw [← hud]
    show sI _ 134 86 _ 134 86 = _
    rw [sI_rs]
  · have hr : (((nx + 1) % 20) + 20 - min 20 (sz + 1) + k) % 20 < 20 := Nat.mod_lt _ (by decide)
    rw [x82 _ hr, x103 _ hr]
    by_cases e : k = yUd sz
    · have er : (((nx + 1) % 20) + 20 - min 20 (sz + 1) + k) % 20 = nx := by
        rw [e]; unfold yUd; split <;> omega
      rw [if_pos er, if_pos er, e]
      refine ⟨⟨fun s hs => ?_, fun p hp => ?_⟩, ?_⟩
      · rw [fil_lt (by omega), en_new (by omega), if_pos (by omega), hH.w3 hs]
      · rw [fil_lt (by omega), fil_lt (by omega), en_new (by omega), en_new (by omega), if_neg (by omega), if_pos (by omega), if_neg (by omega), if_neg (by omega), show 16 + p - 16 = p by omega, show 21 + p - 21 = p by omega]
        exact ⟨hH.f0 hp, hH.f1 hp⟩
      · refine ⟨mE_cg (mI_mE.mp hH.2.2.1) (fun s hs => rfl) (fun s hs => ?_) (fun p hp => ?_) (fun p hp => ?_), fun s hs hn => ?_⟩
        · rw [en_new (by omega), if_pos (by omega)]
        · rw [en_new (by omega), if_neg (by omega), if_pos (by omega), show 16 + p - 16 = p by omega]
        · rw [en_new (by omega), if_neg (by omega), if_neg (by omega), show 21 + p - 21 = p by omega]
        · rw [en_new (by omega), if_pos (by omega)] at hn
          have := hH.2.2.2.2 s hs
          rw [Nat.mul_zero, Nat.zero_add] at this
          exact this hn
    · have hk' : k < yUd sz := by omega
      have er : (((nx + 1) % 20) + 20 - min 20 (sz + 1) + k) % 20 = (nx + 20 - sz + (if sz = 20 then k + 1 else k)) % 20 ∧ (((nx + 1) % 20) + 20 - min 20 (sz + 1) + k) % 20 ≠ nx ∧ (if sz = 20 then k + 1 else k) < sz := by
        unfold yUd at hk'
        split at hk' <;> rename_i z
        · rw [if_pos z]; omega
        · rw [if_neg z]; omega
      rw [if_neg er.2.1, if_neg er.2.1, er.1]
      obtain ⟨b1, b2⟩ := a6 _ er.2.2
      exact ⟨snR_cg hns hnp b1 (fun x hx => en_old hx hk' a4), enOK_cg hns hnp b2 (fun s hs => rfl) (fun x hx => en_old hx hk' a4)⟩
theorem xNote_fr {X : Nat → Nat → Int32} {w nx sz a : Nat} (hnx : nx < 20) (h : a < 80 ∨ 122 < a) : xNote X w nx sz a = X a := by
  unfold xNote
  rw [sI_ne (by omega), sI_ne (by omega), aU_ne (by omega), aU_ne (by omega)]
theorem yRem_fr {Y : Nat → Nat → Int32} {u a : Nat} (h1 : a ≠ 134) (h2 : a ≠ 181) : yRem Y u a = Y a := by
  unfold yRem
  rw [sI_ne h1, aU_ne h2]
theorem yRem_134 {Y : Nat → Nat → Int32} {u k : Nat} (h : k ≠ 86) : yRem Y u 134 k = Y 134 k := by
  unfold yRem
  rw [sI_at, if_neg h, aU_ne (by decide)]
theorem wR_cg {X Y X' Y' : Nat → Nat → Int32} {w b np ns nd : Nat} (h : wR X Y w b np ns nd) (hX : ∀ a, w ≤ a → a ≤ w + 5 → X' a = X a) (hY : ∀ a, 162 ≤ a → a ≤ 167 → Y' a = Y a) (h142 : Y' 142 = Y 142) (h62 : Y' 134 62 = Y 134 62) (h63 : Y' 134 63 = Y 134 63) (h64 : Y' 134 64 = Y 134 64) : wR X' Y' w b np ns nd := by
  unfold wR ySide at *
  rw [hX (w + 1) (by omega) (by omega), hX (w + 2) (by omega) (by omega), hX (w + 3) (by omega) (by omega), hX (w + 4) (by omega) (by omega), hX (w + 5) (by omega) (by omega), hX w (by omega) (by omega), hY 162 (by omega) (by omega), hY 163 (by omega) (by omega), hY 164 (by omega) (by omega), hY 165 (by omega) (by omega), hY 166 (by omega) (by omega), hY 167 (by omega) (by omega), h142, h62, h63, h64]
  exact h
theorem mI_cgY {Y Y' : Nat → Nat → Int32} {b np ns : Nat} (h : mI Y b np ns) (hY : ∀ a, 162 ≤ a → a ≤ 165 → Y' a = Y a) : mI Y' b np ns := by
  unfold mI ftOK at *
  rw [hY 162 (by omega) (by omega), hY 163 (by omega) (by omega), hY 164 (by omega) (by omega), hY 165 (by omega) (by omega)]
  exact h
theorem uM_cgY {Y Y' : Nat → Nat → Int32} {b ns : Nat} (h : uM Y b ns) (hY : ∀ a, 162 ≤ a → a ≤ 163 → Y' a = Y a) : uM Y' b ns := by
  unfold uM at *
  rw [hY 162 (by omega) (by omega), hY 163 (by omega) (by omega)]
  exact h
theorem hR_note {X Y : Nat → Nat → Int32} {t w np ns nd nx sz : Nat} (hH : hR X Y t w np ns nd) (hw : w + 5 < 80) (ht : t + 26 < w) (hnx : nx < 20) : hR (xNote X w nx sz) (yRem Y sz) t w np ns nd :=
  ⟨sT_cg hH.1 (fun a h1 h2 _ => xNote_fr hnx (by omega)) ⟨fun a h1 h2 => yRem_fr (by omega) (by omega), yRem_134 (by decide), yRem_134 (by decide), yRem_134 (by decide)⟩,
   wR_cg hH.2.1 (fun a h1 h2 => xNote_fr hnx (by omega)) (fun a h1 h2 => yRem_fr (by omega) (by omega)) (yRem_fr (by decide) (by decide)) (yRem_134 (by decide)) (yRem_134 (by decide)) (yRem_134 (by decide)),
   mI_cgY hH.2.2.1 (fun a h1 h2 => yRem_fr (by omega) (by omega)), by rw [yRem_134 (by decide)]; exact hH.2.2.2.1, uM_cgY hH.2.2.2.2 (fun a h1 h2 => yRem_fr (by omega) (by omega))⟩
