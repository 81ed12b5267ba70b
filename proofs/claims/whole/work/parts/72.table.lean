/-! ===== the best matching by a table of column sets, row by row in place ===== -/
def dpS (ok : Nat → Nat → Prop) (w : Nat → Nat → Nat) (B : Nat) (F : Nat → Int32) : Prop := ∀ T, T < 256 → F T = -1 ∨ ∃ v, v ≤ B ∧ F T = nI v ∧ ∃ ps, mtG ok ps ∧ mtC ps = T ∧ mtW w ps = v
def rwI (ok : Nat → Nat → Prop) (w : Nat → Nat → Nat) (B : Nat) (F : Nat → Int32) (bv : Nat) : Prop :=
  dpS ok w B F ∧ (∀ ps, mtG ok ps → ∃ v, v ≤ B ∧ mtW w ps ≤ v ∧ F (mtC ps) = nI v) ∧ bv ≤ B ∧ (∃ ps, mtG ok ps ∧ mtW w ps = bv) ∧ ∀ T v, T < 256 → v ≤ B → F T = nI v → v ≤ bv
def rwF (ok0 ok1 : Nat → Nat → Prop) (cO : Nat → Prop) (i kc : Nat) : Prop := (∀ a b, ok0 a b → ok1 a b ∧ a ≠ i) ∧ (∀ a b, ok1 a b → a ≠ i → ok0 a b) ∧ (∀ k, k < kc → cO k → ok1 i k) ∧ (∀ k, ok1 i k → k < kc ∧ cO k) ∧ kc ≤ 8 ∧ ∀ a b, ok1 a b → b < 8
def psI (ok1 : Nat → Nat → Prop) (w : Nat → Nat → Nat) (cO : Nat → Prop) (i kc B : Nat) (F0 F : Nat → Int32) (bv x k : Nat) : Prop :=
  (∀ T, T < x → F T = F0 T) ∧ dpS ok1 w (B + 999) F ∧ (∀ T v, T < 256 → v ≤ B → F0 T = nI v → ∃ v', v' ≤ B + 999 ∧ v ≤ v' ∧ F T = nI v') ∧
  (∀ T k' v, (x ≤ T ∨ (T + 1 = x ∧ k' < k)) → T < 256 → k' < kc → cO k' → T.testBit k' = false → v ≤ B → F0 T = nI v → ∃ v', v' ≤ B + 999 ∧ v + w i k' ≤ v' ∧ F (T ||| 2 ^ k') = nI v') ∧
  bv ≤ B + 999 ∧ (∃ ps, mtG ok1 ps ∧ mtW w ps = bv) ∧ ∀ T v, T < 256 → v ≤ B + 999 → F T = nI v → v ≤ bv
theorem nI_m1 {v : Nat} (h : v < 2 ^ 31) : ¬ nI v = -1 := fun q => nI_pos h (by rw [q]; decide)
theorem dpS_up {ok ok' : Nat → Nat → Prop} {w : Nat → Nat → Nat} {B B' : Nat} {F : Nat → Int32} (h : dpS ok w B F) (hB : B ≤ B') (ho : ∀ a b, ok a b → ok' a b) : dpS ok' w B' F := fun T hT => by
  rcases h T hT with q | ⟨v, h1, h2, ps, h3, h4⟩
  · exact Or.inl q
  · exact Or.inr ⟨v, by omega, h2, ps, mtG_im h3 ho, h4⟩
theorem psI_begin {ok0 ok1 : Nat → Nat → Prop} {w : Nat → Nat → Nat} {cO : Nat → Prop} {i kc B bv : Nat} {F : Nat → Int32} (hB : B ≤ 20000) (hF : rwF ok0 ok1 cO i kc) (h : rwI ok0 w B F bv) : psI ok1 w cO i kc B F F bv 256 0 := by
  obtain ⟨h1, h2, h3, ⟨ps, h4, h5⟩, h6⟩ := h
  refine ⟨fun _ _ => rfl, dpS_up h1 (by omega) (fun a b q => (hF.1 a b q).1), fun T v _ hv e => ⟨v, by omega, Nat.le_refl _, e⟩, fun T k' v hd hT => by omega, by omega, ⟨ps, mtG_im h4 (fun a b q => (hF.1 a b q).1), h5⟩, fun T v hT hv e => ?_⟩
  rcases h1 T hT with q | ⟨u, u1, u2, _⟩
  · rw [q] at e; exact absurd e.symm (nI_m1 (by omega))
  · have : u = v := (nI_eq (by omega) (by omega)).mp (u2.symm.trans e)
    exact h6 T v hT (by omega) e
theorem psI_skip {ok1 : Nat → Nat → Prop} {w : Nat → Nat → Nat} {cO : Nat → Prop} {i kc B bv s k : Nat} {F0 F : Nat → Int32} (h : psI ok1 w cO i kc B F0 F bv (s + 1) k) (hn : s.testBit k = true ∨ ¬ cO k) : psI ok1 w cO i kc B F0 F bv (s + 1) (k + 1) := by
  obtain ⟨h1, h2, h3, h4, h5⟩ := h
  refine ⟨h1, h2, h3, fun T k' v hd hT hk hc hb hv e => ?_, h5⟩
  by_cases q : T = s ∧ k' = k
  · obtain ⟨rfl, rfl⟩ := q
    rcases hn with w | w
    · rw [w] at hb; cases hb
    · exact absurd hc w
  · exact h4 T k' v (by omega) hT hk hc hb hv e
theorem psI_next {ok1 : Nat → Nat → Prop} {w : Nat → Nat → Nat} {cO : Nat → Prop} {i kc B bv s k : Nat} {F0 F : Nat → Int32} (hB : B ≤ 20000) (h : psI ok1 w cO i kc B F0 F bv (s + 1) k) (hn : kc ≤ k ∨ F s < 0) : psI ok1 w cO i kc B F0 F bv s 0 := by
  obtain ⟨h1, h2, h3, h4, h5⟩ := h
  refine ⟨fun T hT => h1 T (by omega), h2, h3, fun T k' v hd hT hk hc hb hv e => ?_, h5⟩
  by_cases q : T = s
  · subst q
    rcases hn with w | w
    · exact h4 T k' v (by omega) hT hk hc hb hv e
    · rw [h1 T (by omega), e] at w
      exact absurd w (nI_pos (by omega))
  · exact h4 T k' v (by omega) hT hk hc hb hv e
theorem psI_v {ok1 : Nat → Nat → Prop} {w : Nat → Nat → Nat} {cO : Nat → Prop} {i kc B bv s k : Nat} {F0 F : Nat → Int32} {ok0 : Nat → Nat → Prop} (h0 : dpS ok0 w B F0) (h : psI ok1 w cO i kc B F0 F bv (s + 1) k) (hs : s < 256) (hn : ¬ F s < 0) : ∃ v, v ≤ B ∧ F s = nI v ∧ F0 s = nI v := by
  have e := h.1 s (by omega)
  rcases h0 s hs with q | ⟨v, h1, h2, _⟩
  · rw [e, q] at hn; exact absurd (by decide) hn
  · exact ⟨v, h1, e.trans h2, h2⟩
theorem psI_keep {ok1 : Nat → Nat → Prop} {w : Nat → Nat → Nat} {cO : Nat → Prop} {i kc B bv s k v : Nat} {F0 F : Nat → Int32} (hB : B ≤ 20000) (h : psI ok1 w cO i kc B F0 F bv (s + 1) k) (hk8 : k < 8) (hs : s < 256) (hv : v ≤ B) (hw : w i k ≤ 999) (e0 : F0 s = nI v) (hn : ¬ F (s ||| 2 ^ k) < nI (v + w i k)) : psI ok1 w cO i kc B F0 F bv (s + 1) (k + 1) := by
  obtain ⟨h1, h2, h3, h4, h5⟩ := h
  have hsk : s ||| 2 ^ k < 256 := Nat.or_lt_two_pow (n := 8) hs (Nat.pow_lt_pow_right (by decide) hk8)
  refine ⟨h1, h2, h3, fun T k' u hd hT hk hc hb hu e => ?_, h5⟩
  by_cases q : T = s ∧ k' = k
  · obtain ⟨rfl, rfl⟩ := q
    have huv : u = v := (nI_eq (by omega) (by omega)).mp (e.symm.trans e0)
    subst huv
    rcases h2 _ hsk with q | ⟨x, x1, x2, _⟩
    · rw [q] at hn
      exact absurd (Int32.lt_of_lt_of_le (show (-1 : Int32) < 0 by decide) (Int32.not_lt.mp (nI_pos (by omega)))) hn
    · rw [x2, nI_ltI (by omega) (by omega)] at hn
      exact ⟨x, x1, by omega, x2⟩
  · exact h4 T k' u (by omega) hT hk hc hb hu e
theorem psI_new {ok0 ok1 : Nat → Nat → Prop} {w : Nat → Nat → Nat} {cO : Nat → Prop} {i kc B bv bv' s k v : Nat} {F0 F : Nat → Int32} (hB : B ≤ 20000) (hF : rwF ok0 ok1 cO i kc) (h0 : dpS ok0 w B F0) (h : psI ok1 w cO i kc B F0 F bv (s + 1) k) (hkc : k < kc) (hco : cO k) (hsb : s.testBit k = false) (hs : s < 256) (hv : v ≤ B) (hw : w i k ≤ 999) (e0 : F0 s = nI v) (hn : F (s ||| 2 ^ k) < nI (v + w i k)) (hb1 : bv ≤ bv') (hb2 : v + w i k ≤ bv') (hb3 : bv' = bv ∨ bv' = v + w i k) : psI ok1 w cO i kc B F0 (upd F (s ||| 2 ^ k) (nI (v + w i k))) bv' (s + 1) (k + 1) := by
  obtain ⟨h1, h2, h3, h4, h5, h6, h7⟩ := h
  have hk8 : k < 8 := by have := hF.2.2.2.2.1; omega
  have hsk : s ||| 2 ^ k < 256 := Nat.or_lt_two_pow (n := 8) hs (Nat.pow_lt_pow_right (by decide) hk8)
  have hgt : s < s ||| 2 ^ k := by
    have hle : s ≤ s ||| 2 ^ k := Nat.left_le_or
    rcases Nat.lt_or_ge s (s ||| 2 ^ k) with q | q
    · exact q
    · have e : s ||| 2 ^ k = s := by omega
      have := fb_bit_set s k k
      rw [e, hsb] at this
      simp at this
  -- the new value's matching
  have hnew : ∃ ps, mtG ok1 ps ∧ mtC ps = s ||| 2 ^ k ∧ mtW w ps = v + w i k := by
    rcases h0 s hs with q | ⟨u, u1, u2, ps, u3, u4, u5⟩
    · rw [q] at e0; exact absurd e0.symm (nI_m1 (by omega))
    · have huv : u = v := (nI_eq (by omega) (by omega)).mp (u2.symm.trans e0)
      subst huv
      refine ⟨(i, k) :: ps, mtG_cons ⟨fun p hp => ?_, u3.2⟩ (hF.2.2.1 k hkc hco), ?_, ?_⟩
      · obtain ⟨q1, q2⟩ := hF.1 _ _ (u3.1 p hp)
        refine ⟨q1, q2, fun e => ?_⟩
        have : (mtC ps).testBit k = true := (mtC_tb ps k).mpr ⟨p, hp, e⟩
        rw [u4, hsb] at this
        cases this
      · show mtC ps ||| 2 ^ k = _
        rw [u4]
      · show w i k + mtW w ps = _
        omega
  have hmono : ∀ T u, T < 256 → u ≤ B + 999 → F T = nI u → ∃ u', u' ≤ B + 999 ∧ u ≤ u' ∧ upd F (s ||| 2 ^ k) (nI (v + w i k)) T = nI u' := fun T u hT hu e => by
    by_cases q : T = s ||| 2 ^ k
    · subst q
      rw [upd_eq]
      rw [e, nI_ltI (by omega) (by omega)] at hn
      exact ⟨_, by omega, by omega, rfl⟩
    · rw [upd_ne q]
      exact ⟨u, hu, Nat.le_refl _, e⟩
  refine ⟨fun T hT => ?_, fun T hT => ?_, fun T u hT hu e => ?_, fun T k' u hd hT hk hc hb hu e => ?_, by omega, ?_, fun T u hT hu e => ?_⟩
  · rw [upd_ne (by omega)]
    exact h1 T hT
  · by_cases q : T = s ||| 2 ^ k
    · subst q
      rw [upd_eq]
      exact Or.inr ⟨_, by omega, rfl, hnew⟩
    · rw [upd_ne q]
      exact h2 T hT
  · obtain ⟨u', q1, q2, q3⟩ := h3 T u hT hu e
    obtain ⟨u2, r1, r2, r3⟩ := hmono T u' hT q1 q3
    exact ⟨u2, r1, by omega, r3⟩
  · by_cases q : T = s ∧ k' = k
    · obtain ⟨rfl, rfl⟩ := q
      have huv : u = v := (nI_eq (by omega) (by omega)).mp (e.symm.trans e0)
      subst huv
      exact ⟨_, by omega, Nat.le_refl _, upd_eq⟩
    · obtain ⟨u', q1, q2, q3⟩ := h4 T k' u (by omega) hT hk hc hb hu e
      have hTk : T ||| 2 ^ k' < 256 := Nat.or_lt_two_pow (n := 8) hT (Nat.pow_lt_pow_right (by decide) (by have := hF.2.2.2.2.1; omega))
      obtain ⟨u2, r1, r2, r3⟩ := hmono _ u' hTk q1 q3
      exact ⟨u2, r1, by omega, r3⟩
  · rcases hb3 with e | e
    · rw [e]; exact h6
    · obtain ⟨ps, q1, _, q3⟩ := hnew
      exact ⟨ps, q1, q3.trans e.symm⟩
  · by_cases q : T = s ||| 2 ^ k
    · subst q
      rw [upd_eq] at e
      have := (nI_eq (by omega) (by omega)).mp e
      omega
    · rw [upd_ne q] at e
      have := h7 T u hT hu e
      omega
theorem psI_end {ok0 ok1 : Nat → Nat → Prop} {w : Nat → Nat → Nat} {cO : Nat → Prop} {i kc B bv bv0 : Nat} {F0 F : Nat → Int32} (hB : B ≤ 20000) (hF : rwF ok0 ok1 cO i kc) (h0 : rwI ok0 w B F0 bv0) (h : psI ok1 w cO i kc B F0 F bv 0 0) : rwI ok1 w (B + 999) F bv := by
  obtain ⟨h1, h2, h3, h4, h5, h6, h7⟩ := h
  refine ⟨h2, fun ps hp => ?_, h5, h6, h7⟩
  have hlt8 : ∀ {qs : List (Nat × Nat)}, mtG ok0 qs → mtC qs < 256 := fun {qs} hq => mtC_lt (n := 8) (ok := ok0) (fun a b q => hF.2.2.2.2.2 a b (hF.1 a b q).1) hq.1
  rcases mtG_split w i hp with q | ⟨k, qs, q1, q2, q3, q4⟩
  · have hq := mtG_im q (fun a b r => hF.2.1 a b r.1 r.2)
    obtain ⟨v, v1, v2, v3⟩ := h0.2.1 ps hq
    obtain ⟨v', w1, w2, w3⟩ := h3 _ v (hlt8 hq) v1 v3
    exact ⟨v', w1, by omega, w3⟩
  · have hq := mtG_im q2 (fun a b r => hF.2.1 a b r.1 r.2.1)
    obtain ⟨v, v1, v2, v3⟩ := h0.2.1 qs hq
    obtain ⟨r1, r2⟩ := hF.2.2.2.1 k q1
    have hb : (mtC qs).testBit k = false := by
      cases e : (mtC qs).testBit k with
      | false => rfl
      | true =>
        obtain ⟨p, p1, p2⟩ := (mtC_tb qs k).mp e
        exact absurd p2 (q2.1 p p1).2.2
    obtain ⟨v', w1, w2, w3⟩ := h4 (mtC qs) k v (Or.inl (Nat.zero_le _)) (hlt8 hq) r1 r2 hb v1 v3
    rw [q4]
    exact ⟨v', w1, by omega, w3⟩
theorem rwI_mx {ok : Nat → Nat → Prop} {w : Nat → Nat → Nat} {B bv : Nat} {F : Nat → Int32} (h8 : ∀ a b, ok a b → b < 8) (h : rwI ok w B F bv) : isMx ok w bv := by
  obtain ⟨h1, h2, h3, h4, h5⟩ := h
  refine ⟨h4, fun ps hp => ?_⟩
  obtain ⟨v, v1, v2, v3⟩ := h2 ps hp
  have := h5 _ v (mtC_lt (n := 8) h8 hp.1) v1 v3
  omega
theorem rwI_cg {ok ok' : Nat → Nat → Prop} {w : Nat → Nat → Nat} {B bv : Nat} {F : Nat → Int32} (ho : ∀ a b, ok a b ↔ ok' a b) (h : rwI ok w B F bv) : rwI ok' w B F bv := by
  have e : ok = ok' := by funext a b; exact propext (ho a b)
  rw [← e]
  exact h
theorem rwI_up {ok : Nat → Nat → Prop} {w : Nat → Nat → Nat} {B B' bv : Nat} {F : Nat → Int32} (hB : B ≤ B') (hb : B' ≤ 21000) (h : rwI ok w B F bv) : rwI ok w B' F bv := by
  obtain ⟨h1, h2, h3, h4, h5⟩ := h
  refine ⟨dpS_up h1 hB (fun _ _ q => q), fun ps hp => ?_, by omega, h4, fun T v hT hv e => ?_⟩
  · obtain ⟨v, v1, v2, v3⟩ := h2 ps hp
    exact ⟨v, by omega, v2, v3⟩
  · rcases h1 T hT with q | ⟨u, u1, u2, _⟩
    · rw [q] at e; exact absurd e.symm (nI_m1 (by omega))
    · have : u = v := (nI_eq (by omega) (by omega)).mp (u2.symm.trans e)
      exact h5 T v hT (by omega) e
theorem rwI_0 {ok : Nat → Nat → Prop} {w : Nat → Nat → Nat} {F : Nat → Int32} (hn : ∀ a b, ¬ ok a b) (h0 : F 0 = 0) (h1 : ∀ T, 0 < T → T < 256 → F T = -1) : rwI ok w 0 F 0 := by
  have hnil : ∀ ps, mtG ok ps → ps = [] := fun ps hp => by
    cases ps with
    | nil => rfl
    | cons p ps => exact absurd (hp.1 p List.mem_cons_self) (hn _ _)
  refine ⟨fun T hT => ?_, fun ps hp => ?_, Nat.le_refl _, ⟨[], mtG_nil _, rfl⟩, fun T v _ hv _ => hv⟩
  · rcases Nat.eq_zero_or_pos T with q | q
    · subst q; exact Or.inr ⟨0, Nat.le_refl _, h0, [], mtG_nil _, rfl, rfl⟩
    · exact Or.inl (h1 T q hT)
  · rw [hnil ps hp]
    exact ⟨0, Nat.le_refl _, Nat.le_refl _, h0⟩
