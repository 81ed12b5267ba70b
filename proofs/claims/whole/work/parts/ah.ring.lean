/-! ===== class and reference: rings, and the face of the class ===== -/
section
variable {gv gt : Nat → Int32}
theorem ring_L : ∀ (c : Nat) (f : Nat → Int32), c ≤ 5 → ((xRl gv gt c f).1 = -2 ∧ ∀ n, 7 - c ≤ n → n ≤ 6 → ∀ d, d < 6 ^ n → ¬ RGp gv gt (dig n d) n) ∨ ∃ n d, 7 - c ≤ n ∧ n ≤ 6 ∧ (xRl gv gt c f).1 = nI n ∧ d < 6 ^ n ∧ RGp gv gt (dig n d) n ∧ (∀ i, i < n → (xRl gv gt c f).2 i = nI (dig n d i)) ∧ (∀ d', d' < d → ¬ RGp gv gt (dig n d') n) ∧ ∀ n', 7 - c ≤ n' → n' < n → ∀ d', d' < 6 ^ n' → ¬ RGp gv gt (dig n' d') n'
  | 0, f, _ => Or.inl ⟨rfl, fun n h1 h2 => absurd h1 (by omega)⟩
  | c + 1, f, hc => by
    have fy := first_y (gv := gv) (gt := gt) (n := 6 - c) (by omega) (by omega) 6 f (Nat.le_refl _)
    have ex : xRl gv gt (c + 1) f = (fun q : Bool × (Nat → Int32) => if q.1 = true then (nI (6 - c), q.2) else xRl gv gt c q.2) (xRf gv gt (6 - c) 6 f) := rfl
    rw [ex]
    generalize xRf gv gt (6 - c) 6 f = Q at fy ⊢
    dsimp only
    by_cases z : Q.1 = true
    · rw [if_pos z]
      obtain ⟨d, d1, -, d3, d4, d5⟩ := fy.2 z
      refine Or.inr ⟨6 - c, d, by omega, by omega, rfl, d1, d3, d4, fun d' hd' => d5 d' hd' (by omega), fun n' h1 h2 => absurd h1 (by omega)⟩
    · rw [if_neg z]
      have zf : Q.1 = false := by cases e : Q.1 with | false => rfl | true => exact absurd e z
      have no : ∀ d, d < 6 ^ (6 - c) → ¬ RGp gv gt (dig (6 - c) d) (6 - c) := fun d hd => fy.1 zf d hd (by omega)
      rcases ring_L c Q.2 (by omega) with ⟨r1, r2⟩ | ⟨n, d, r1, r2, r3, r4, r5, r6, r7, r8⟩
      · refine Or.inl ⟨r1, fun n h1 h2 => ?_⟩
        by_cases e : n = 6 - c
        · subst e; exact no
        · exact r2 n (by omega) h2
      · refine Or.inr ⟨n, d, by omega, r2, r3, r4, r5, r6, r7, fun n' h1 h2 => ?_⟩
        by_cases e : n' = 6 - c
        · subst e; exact no
        · exact r8 n' (by omega) h2
end
theorem RT_of {X Y : Nat → Nat → Int32} {t : Nat} (h : rtR X Y t) : ∃ nr, nr ≤ 8 ∧ Y 134 15 = nI nr ∧ RT (X (t + 16)) (X (t + 17)) (Y 151) nr := by
  obtain ⟨nr, h8, -, h2, h3, h4, h5⟩ := h
  refine ⟨nr, h8, h2, fun a b ha hb => ?_⟩
  rcases rtF_is (Y 151) (nI a) (nI b) nr 0 with ⟨e, hno⟩ | ⟨j, j1, j2, e, m⟩
  · have z := h4 a b ha hb (fun k hk q => hno k (Nat.zero_le _) (by omega) q)
    exact ⟨fun q => absurd (by rw [z]; decide) q, fun _ => by rw [e]; decide⟩
  · obtain ⟨a', b', u, v, q1, q2, -, u1, u2, v1, v2, e0, e1, e2, e3, x1, x2⟩ := h3 j (by omega)
    have ea : a' = a := (nI_eq (by omega) (by omega)).mp (e0.symm.trans m.1)
    have eb : b' = b := (nI_eq (by omega) (by omega)).mp (e2.symm.trans m.2)
    subst ea eb
    refine ⟨fun _ => ⟨j, by omega, e, by rw [e3, x2], by rw [e1, x1], m.1⟩, fun q => ?_⟩
    rw [x2] at q
    exact absurd ((cLe rfl n0 (by omega) (by decide)).mp q) (by omega)
/-- ring and good: both find the same -/
theorem ring_y {X Y : Nat → Nat → Int32} {t nr : Nat} (h8 : nr ≤ 8) (hR : RT (X (t + 16)) (X (t + 17)) (Y 151) nr) {f f0 : Nat → Int32} {v : Int32} (hv : rgV Y nr f v) : (xRl (X (t + 16)) (X (t + 17)) 5 f0).1 = v ∧ ∀ k : Int32, 0 ≤ k → (if k < (xRl (X (t + 16)) (X (t + 17)) 5 f0).1 ∧ k < 6 then (xRl (X (t + 16)) (X (t + 17)) 5 f0).2 (ixn k) else -2) = (if v ≤ k then -2 else f (ixn k)) := by
  have iR : ∀ n c, isRg Y nr n c ↔ RGp (X (t + 16)) (X (t + 17)) (dig n c) n := fun n c => rgB_iff hR h8 (fun i => dig_6 n c i)
  have two : ∀ n c, 2 ≤ n → RGp (X (t + 16)) (X (t + 17)) (dig n c) n → 1 < nr := by
    intro n c hn h
    rcases Nat.lt_or_ge 1 nr with q | q
    · exact q
    · have s0 := h.1 0 (by omega)
      have s1 := h.1 1 (by omega)
      obtain ⟨j, j1, -, -, -, j2⟩ := (hR _ _ (dig_6 n c 0) (dig_6 n c _)).1 s0.2.2
      obtain ⟨i, i1, -, -, -, i2⟩ := (hR _ _ (dig_6 n c 1) (dig_6 n c _)).1 s1.2.2
      have e : j = i := by omega
      subst e
      have d0 := dig_6 n c 0
      have d1 := dig_6 n c 1
      exact absurd ((nI_eq (by omega) (by omega)).mp (j2.symm.trans i2)) (s1.1 0 (by omega))
  rcases ring_L (gv := X (t + 16)) (gt := X (t + 17)) 5 f0 (Nat.le_refl _) with ⟨r1, r2⟩ | ⟨n, d, r1, r2, r3, r4, r5, r6, r7, r8⟩
  · rcases hv with ⟨v1, -⟩ | ⟨n, c, ⟨q0, q1, q2, q3, q4, -⟩, v1, -⟩
    · refine ⟨r1.trans v1.symm, fun k hk => ?_⟩
      rw [r1, v1, if_neg (fun q => absurd (Int32.lt_of_le_of_lt hk q.1) (by decide)), if_pos (Int32.le_trans (by decide) hk)]
    · exact absurd ((iR n c).mp q4) (r2 n (by omega) q2 c q3)
  · have n1 := two n d (by omega) r5
    rcases hv with ⟨-, v2⟩ | ⟨m, c, ⟨q0, q1, q2, q3, q4, q5, q6⟩, v1, v2⟩
    · rcases v2 with q | q
      · omega
      · exact absurd ((iR n d).mpr r5) (q n (by omega) r2 d r4)
    · have em : n = m := by
        rcases Nat.lt_trichotomy n m with q | q | q
        · exact absurd ((iR n d).mpr r5) (q6 n (by omega) q d r4)
        · exact q
        · exact absurd ((iR m c).mp q4) (r8 m (by omega) q c q3)
      subst em
      have ec : d = c := by
        rcases Nat.lt_trichotomy d c with q | q | q
        · exact absurd ((iR n d).mpr r5) (q5 d q)
        · exact q
        · exact absurd ((iR n c).mp q4) (r7 c q)
      subst ec
      refine ⟨r3.trans v1.symm, fun k hk => ?_⟩
      obtain ⟨j, hj, rfl⟩ := nI_of (Int32.not_lt.mpr hk)
      rw [r3, v1, ixn_nI hj]
      by_cases z : j < n
      · rw [if_pos ⟨(nI_ltI hj (by omega)).mpr z, (nI_ltI (b := 6) hj (by decide)).mpr (by omega)⟩, if_neg (fun q => absurd ((nI_leI (by omega) hj).mp q) (by omega)), r6 j z, v2 j z]
      · rw [if_neg (fun q => z ((nI_ltI hj (by omega)).mp q.1)), if_pos ((nI_leI (by omega) hj).mpr (by omega))]
