/-! ===== what a line that is read leaves ===== -/
theorem yB_ok {q : Bool × (Nat → Nat → Int32)} {f : (Nat → Nat → Int32) → Bool × (Nat → Nat → Int32)} {J : Nat → Nat → Int32} (h : yB q f = (true, J)) : ∃ K, q = (true, K) ∧ f K = (true, J) := by
  obtain ⟨b, K⟩ := q
  cases b with
  | false => rw [yB_f] at h; cases h
  | true => exact ⟨K, rfl, h⟩
theorem muG_set {I : Nat → Nat → Int32} {k : Nat} (h : k < 6 ∨ 8 < k) (x : Int32) : muG (sI I 134 k x) = muG I := by
  unfold muG
  rw [sI_rd (by omega), sI_rd (by omega), sI_rd (by omega)]
theorem muG_st {I : Nat → Nat → Int32} {a k : Nat} (h : a ≠ 134) (x : Int32) : muG (sI I a k x) = muG I := by
  unfold muG
  rw [sI_ne (Ne.symm h)]
theorem muG_tq {I G : Nat → Nat → Int32} (h : tq I G) : muG I = muG G := by
  unfold muG
  rw [h.2.2 6 (by decide) (by decide), h.2.2 7 (by decide) (by decide), h.2.2 8 (by decide) (by decide)]
theorem muG_tle {G : Nat → Nat → Int32} (hp : prI G) : muG (yTok G) ≤ muG G := by
  by_cases hk : G 134 8 = 0
  · obtain ⟨h1, h2, n, p, h3, h4, h5, h6⟩ := hp
    have ha := tkA_le (b := bT G) h6
    have e6 : yTok G 134 6 = nI n := h3
    have e7 : yTok G 134 7 = nI (tkE (bT G) n (tkA (bT G) n p)) := by show nI (tkE (bT G) (ixn (G 134 6)) (tkA (bT G) (ixn (G 134 6)) (ixn (G 134 7)))) = _; rw [h3, h5, ixn_nI (by omega), ixn_nI (by omega)]
    have e8 : yTok G 134 8 = nI (tkK (bT G) n (tkA (bT G) n p)) := by show nI (tkK (bT G) (ixn (G 134 6)) (tkA (bT G) (ixn (G 134 6)) (ixn (G 134 7)))) = _; rw [h3, h5, ixn_nI (by omega), ixn_nI (by omega)]
    have he := tkE_le (b := bT G) ha.2
    unfold muG
    rw [e6, e7, e8, h3, h5, ixn_nI (by omega), ixn_nI (by omega), ixn_nI (by omega), if_pos hk]
    by_cases q : tkA (bT G) n p = n
    · rw [show tkK (bT G) n (tkA (bT G) n p) = 0 from if_pos q, if_pos (show nI 0 = 0 from rfl)]
      rw [q] at he ⊢
      omega
    · have := tkE_gt (b := bT G) (show tkA (bT G) n p < n by omega)
      split <;> omega
  · exact Nat.le_of_lt (muG_tok hp hk)
theorem num_ok {I J : Nat → Nat → Int32} {lo hi : Int32} (h : yNum I lo hi = (true, J)) (hp : prI I) : prI J ∧ prF J I ∧ muG J ≤ muG I ∧ lo ≤ J 134 11 ∧ J 134 11 ≤ hi := by
  unfold yNum at h
  by_cases h1 : I 134 8 = 3
  · rw [if_neg (fun w => w h1)] at h
    by_cases h2 : lo ≤ I 134 9 ∧ I 134 9 ≤ hi
    · rw [if_neg (fun w => w h2)] at h
      cases h
      have hp1 := prI_set hp (k := 11) (by decide) (by decide) (I 134 9)
      refine ⟨prI_tok hp1, (prF_tok _).tr ((prF.rf I).set (by decide) _), ?_, h2⟩
      have := muG_tle hp1
      rwa [muG_set (by decide)] at this
    · rw [if_pos h2] at h; cases h
  · rw [if_pos h1] at h; cases h
theorem pick_ok {I J : Nat → Nat → Int32} {lo hi : Nat} (hlo : lo ≤ hi) (hh : hi < 100) (h : yPick I (nI lo) (nI hi) = (true, J)) (hp : prI I) : prI J ∧ prF J I ∧ muG J ≤ muG I ∧ ∃ v, v ≤ hi - lo ∧ J 134 11 = nI v := by
  unfold yPick at h
  by_cases h1 : I 134 8 = 1
  · rw [if_neg (fun w => w h1)] at h
    by_cases h2 : I 134 9 < nI lo
    · rw [if_pos h2] at h; cases h
    · rw [if_neg h2] at h
      by_cases h3 : nI hi < I 134 9
      · rw [if_pos h3] at h; cases h
      · rw [if_neg h3] at h
        cases h
        refine ⟨prI_set (prI_tok hp) (by decide) (by decide) _, (prF_tok I).set (by decide) _, ?_, ?_⟩
        · rw [muG_set (by decide)]; exact muG_tle hp
        · rw [sI_rs]
          obtain ⟨w, hw, e⟩ := nI_of (show ¬ I 134 9 < 0 from fun q => h2 (Int32.lt_of_lt_of_le q (Int32.not_lt.mp (nI_pos (by omega)))))
          rw [e] at h2 h3 ⊢
          have q1 : lo ≤ w := (nI_leI (by omega) hw).mp (Int32.not_lt.mp h2)
          have q2 : w ≤ hi := (nI_leI hw (by omega)).mp (Int32.not_lt.mp h3)
          exact ⟨w - lo, by omega, pk_sub q1⟩
  · rw [if_pos h1] at h; cases h
theorem per_ok {I J : Nat → Nat → Int32} {pr : Nat} (h : yPer I pr = (true, J)) (hp : prI I) : prI J ∧ prF J I ∧ muG J ≤ muG I ∧ ∃ j, j < pr ∧ J 134 11 = nI j := by
  have hg := yPer_got h
  unfold yPer at h
  by_cases h1 : I 134 8 = 2
  · rw [if_neg (fun w => w h1)] at h
    by_cases h2 : fFind (fun k => I 137 (5 + k)) (I 134 9) pr 0 < 0
    · rw [if_pos h2] at h; cases h
    · rw [if_neg h2] at h
      cases h
      exact ⟨prI_set (prI_tok hp) (by decide) (by decide) _, (prF_tok I).set (by decide) _, by rw [muG_set (by decide)]; exact muG_tle hp, hg⟩
  · rw [if_pos h1] at h; cases h
theorem in_nat {x : Int32} {lo hi : Nat} (hh : hi < 2 ^ 31) (h : nI lo ≤ x ∧ x ≤ nI hi) (hl : lo ≤ hi) : ∃ v, lo ≤ v ∧ v ≤ hi ∧ x = nI v := by
  obtain ⟨w, hw, rfl⟩ := nI_of (show ¬ x < 0 from fun q => absurd (Int32.lt_of_le_of_lt h.1 q) (nI_pos (by omega)))
  exact ⟨w, (nI_leI (by omega) hw).mp h.1, (nI_leI hw hh).mp h.2, rfl⟩
/-- all but these rows and fields stand -/
def lnF (J I : Nat → Nat → Int32) (as ks : List Nat) : Prop := (∀ a, a ∉ 134 :: as → J a = I a) ∧ ∀ k, k ∉ [4, 5, 7, 8, 9, 10, 11] ++ ks → J 134 k = I 134 k
theorem lnF.of {I J : Nat → Nat → Int32} (h : prF J I) (as ks : List Nat) : lnF J I as ks := ⟨fun a ha => h.1 a (fun e => ha (by rw [e]; exact List.mem_cons_self)), fun k hk => h.2 k (fun e => hk (List.mem_append_left _ e))⟩
theorem lnF.tr {I J K : Nat → Nat → Int32} {as ks : List Nat} (h1 : lnF K J as ks) (h2 : lnF J I as ks) : lnF K I as ks := ⟨fun a h => (h1.1 a h).trans (h2.1 a h), fun k h => (h1.2 k h).trans (h2.2 k h)⟩
theorem lnF.st {I J : Nat → Nat → Int32} {as ks : List Nat} (h : lnF J I as ks) {a : Nat} (ha : a ∈ as) (h134 : a ≠ 134) (k : Nat) (x : Int32) : lnF (sI J a k x) I as ks := by
  refine ⟨fun b hb => ?_, fun j hj => ?_⟩
  · rw [sI_ne (fun e => hb (by rw [e]; exact List.mem_cons_of_mem _ ha))]; exact h.1 b hb
  · rw [sI_ne (Ne.symm h134)]; exact h.2 j hj
theorem lnF.set {I J : Nat → Nat → Int32} {as ks : List Nat} (h : lnF J I as ks) {k : Nat} (hk : k ∈ [4, 5, 7, 8, 9, 10, 11] ++ ks) (x : Int32) : lnF (sI J 134 k x) I as ks := by
  refine ⟨fun b hb => ?_, fun j hj => ?_⟩
  · rw [sI_ne (fun e => hb (by rw [e]; exact List.mem_cons_self))]; exact h.1 b hb
  · rw [sI_rd (fun e => hj (by rw [e]; exact hk))]; exact h.2 j hj

theorem yPL_ok {I J : Nat → Nat → Int32} {pr : Nat} (h : yPL pr I = (true, J)) (hp : prI I) : ¬ pr = 5 ∧ prI J ∧ lnF J I [137, 138, 139, 140] [17] ∧ muG J ≤ muG (yTok I) ∧ J 134 17 = nI (pr + 1) ∧ ∃ nm f s c, J 137 = upd (I 137) (5 + pr) nm ∧ fFind (fun k => I 137 (5 + k)) nm pr 0 < 0 ∧ 1 ≤ f ∧ f ≤ 20 ∧ J 138 = upd (I 138) (5 + pr) (nI f) ∧ s ≤ 99 ∧ J 139 = upd (I 139) (5 + pr) (nI s) ∧ c ≤ 99 ∧ J 140 = upd (I 140) (5 + pr) (nI c) := by
  unfold yPL at h
  by_cases h5 : pr = 5
  · rw [if_pos h5] at h; cases h
  rw [if_neg h5] at h
  dsimp only at h
  by_cases hk : yTok I 134 8 = 2
  · rw [if_neg (fun w => w hk)] at h
    by_cases hd : fFind (fun k => yTok I 137 (5 + k)) (yTok I 134 9) pr 0 < 0
    · rw [if_neg (fun w => w hd)] at h
      obtain ⟨I3, h3, h⟩ := yB_ok h
      obtain ⟨I4, h4, h⟩ := yB_ok h
      obtain ⟨I5, h6, h⟩ := yB_ok h
      cases h
      have p1 := prI_tok hp
      have p1s := prI_st (a := 137) (k := 5 + pr) p1 (by decide) (yTok I 134 9)
      have p2 := prI_tok p1s
      obtain ⟨p3, f3, m3, l3, u3⟩ := num_ok h3 p2
      obtain ⟨p4, f4, m4, l4, u4⟩ := num_ok h4 (prI_st p3 (by decide) _)
      obtain ⟨p5, f5, m5, l5, u5⟩ := num_ok h6 (prI_st p4 (by decide) _)
      obtain ⟨v3, a3, b3, e3⟩ := in_nat (lo := 1) (hi := 20) (by decide) ⟨l3, u3⟩ (by decide)
      obtain ⟨v4, a4, b4, e4⟩ := in_nat (lo := 0) (hi := 99) (by decide) ⟨l4, u4⟩ (by decide)
      obtain ⟨v5, a5, b5, e5⟩ := in_nat (lo := 0) (hi := 99) (by decide) ⟨l5, u5⟩ (by decide)
      rw [muG_st (by decide)] at m4 m5
      have m2 := muG_tle p1s
      rw [muG_st (by decide)] at m2
      refine ⟨h5, prI_set (prI_st p5 (by decide) _) (by decide) (by decide) _, ?_, ?_, sI_rs, yTok I 134 9, v3, v4, v5, ?_, hd, a3, b3, ?_, b4, ?_, b5, ?_⟩
      · have F1 := (lnF.of (prF_tok I) [137, 138, 139, 140] [17]).st (a := 137) (by decide) (by decide) (5 + pr) (yTok I 134 9)
        have F3 := ((lnF.of f3 [137, 138, 139, 140] [17]).tr ((lnF.of (prF_tok _) [137, 138, 139, 140] [17]).tr F1)).st (a := 138) (by decide) (by decide) (5 + pr) (I3 134 11)
        have F4 := ((lnF.of f4 [137, 138, 139, 140] [17]).tr F3).st (a := 139) (by decide) (by decide) (5 + pr) (I4 134 11)
        have F5 := ((lnF.of f5 [137, 138, 139, 140] [17]).tr F4).st (a := 140) (by decide) (by decide) (5 + pr) (I5 134 11)
        exact F5.set (by decide) _
      · rw [muG_set (by decide), muG_st (by decide)]; omega
      · show I5 137 = _
        rw [f5.1 137 (by decide), sI_ne (by decide), f4.1 137 (by decide), sI_ne (by decide), f3.1 137 (by decide), (prF_tok _).1 137 (by decide), sI_eq, (prF_tok I).1 137 (by decide)]
      · show I5 138 = _
        rw [f5.1 138 (by decide), sI_ne (by decide), f4.1 138 (by decide), sI_eq, e3, f3.1 138 (by decide), (prF_tok _).1 138 (by decide), sI_ne (by decide), (prF_tok I).1 138 (by decide)]
      · show I5 139 = _
        rw [f5.1 139 (by decide), sI_eq, e4, f4.1 139 (by decide), sI_ne (by decide), f3.1 139 (by decide), (prF_tok _).1 139 (by decide), sI_ne (by decide), (prF_tok I).1 139 (by decide)]
      · show sI I5 140 (5 + pr) (I5 134 11) 140 = _
        rw [sI_eq, e5, f5.1 140 (by decide), sI_ne (by decide), f4.1 140 (by decide), sI_ne (by decide), f3.1 140 (by decide), (prF_tok _).1 140 (by decide), sI_ne (by decide), (prF_tok I).1 140 (by decide)]
    · rw [if_pos hd] at h; cases h
  · rw [if_pos hk] at h; cases h

theorem yCL_ok {I J : Nat → Nat → Int32} {pr : Nat} (hp5 : pr ≤ 5) (h : yCL pr I = (true, J)) (hp : prI I) : prI J ∧ lnF J I [141] [] ∧ muG J ≤ muG (yTok I) ∧ ∃ p v, p < pr ∧ I 141 (5 + p) < 0 ∧ 1 ≤ v ∧ v ≤ 9 ∧ J 141 = upd (I 141) (5 + p) (nI v) := by
  unfold yCL at h
  dsimp only at h
  obtain ⟨I2, h2, h⟩ := yB_ok h
  obtain ⟨p2, f2, m2, j, hj, ej⟩ := per_ok h2 (prI_tok hp)
  rw [ej, ixn_nI (by omega)] at h
  by_cases hd : I2 141 (5 + j) < 0
  · rw [if_neg (fun w => w hd)] at h
    obtain ⟨I3, h3, h⟩ := yB_ok h
    cases h
    obtain ⟨p3, f3, m3, l3, u3⟩ := num_ok h3 p2
    obtain ⟨v3, a3, b3, e3⟩ := in_nat (lo := 1) (hi := 9) (by decide) ⟨l3, u3⟩ (by decide)
    have e141 : I3 141 = I 141 := (f3.1 141 (by decide)).trans ((f2.1 141 (by decide)).trans ((prF_tok I).1 141 (by decide)))
    refine ⟨prI_st p3 (by decide) _, (((lnF.of f3 [141] []).tr ((lnF.of f2 [141] []).tr (lnF.of (prF_tok I) [141] []))).st (a := 141) (by decide) (by decide) _ _), by rw [muG_st (by decide)]; omega, j, v3, hj, ?_, a3, b3, ?_⟩
    · rw [← (prF_tok I).1 141 (by decide), ← f2.1 141 (by decide)]; exact hd
    · rw [sI_eq, e3, e141]
  · rw [if_pos hd] at h; cases h

theorem ySL_ok {I J : Nat → Nat → Int32} {pr sr : Nat} (h : ySL pr sr I = (true, J)) (hp : prI I) : ¬ sr = 16 ∧ prI J ∧ lnF J I [142, 143, 144, 145, 146] [18] ∧ muG J ≤ muG (yTok I) ∧ J 134 18 = nI (sr + 1) ∧ ∃ a b c d w, a ≤ 1 ∧ J 142 = upd (I 142) (16 + sr) (nI a) ∧ 1 ≤ b ∧ b ≤ 20 ∧ J 143 = upd (I 143) (16 + sr) (nI b) ∧ c ≤ 49 ∧ J 144 = upd (I 144) (16 + sr) (nI c) ∧ d ≤ 2 ∧ J 145 = upd (I 145) (16 + sr) (nI d) ∧ (w = -1 ∨ ∃ p, p < pr ∧ w = nI p) ∧ J 146 = upd (I 146) (16 + sr) w := by
  unfold ySL at h
  by_cases h5 : sr = 16
  · rw [if_pos h5] at h; cases h
  rw [if_neg h5] at h
  obtain ⟨I2, h2, h⟩ := yB_ok h
  obtain ⟨I3, h3, h⟩ := yB_ok h
  obtain ⟨I4, h4, h⟩ := yB_ok h
  obtain ⟨I5, h6, h⟩ := yB_ok h
  try dsimp only at h
  obtain ⟨p2, f2, m2, v2, b2, e2⟩ := pick_ok (lo := 7) (hi := 8) (by decide) (by decide) h2 (prI_tok hp)
  obtain ⟨p3, f3, m3, l3, u3⟩ := num_ok h3 (prI_st p2 (by decide) _)
  obtain ⟨p4, f4, m4, l4, u4⟩ := num_ok h4 (prI_st p3 (by decide) _)
  obtain ⟨p5, f5, m5, v5, b5, e5⟩ := pick_ok (lo := 9) (hi := 11) (by decide) (by decide) h6 (prI_st p4 (by decide) _)
  obtain ⟨v3, a3, b3, e3⟩ := in_nat (lo := 1) (hi := 20) (by decide) ⟨l3, u3⟩ (by decide)
  obtain ⟨v4, a4, b4, e4⟩ := in_nat (lo := 0) (hi := 49) (by decide) ⟨l4, u4⟩ (by decide)
  rw [muG_st (by decide)] at m3 m4 m5
  have F2 := ((lnF.of f2 [142, 143, 144, 145, 146] [18]).tr (lnF.of (prF_tok I) [142, 143, 144, 145, 146] [18])).st (a := 142) (by decide) (by decide) (16 + sr) (I2 134 11)
  have F3 := ((lnF.of f3 [142, 143, 144, 145, 146] [18]).tr F2).st (a := 143) (by decide) (by decide) (16 + sr) (I3 134 11)
  have F4 := ((lnF.of f4 [142, 143, 144, 145, 146] [18]).tr F3).st (a := 144) (by decide) (by decide) (16 + sr) (I4 134 11)
  have hF5 : lnF I5 I [142, 143, 144, 145, 146] [18] := (lnF.of f5 [142, 143, 144, 145, 146] [18]).tr F4
  have g2 : I5 142 = upd (I 142) (16 + sr) (nI v2) := by
    rw [f5.1 142 (by decide), sI_ne (by decide), f4.1 142 (by decide), sI_ne (by decide), f3.1 142 (by decide), sI_eq, e2, f2.1 142 (by decide), (prF_tok I).1 142 (by decide)]
  have g3 : I5 143 = upd (I 143) (16 + sr) (nI v3) := by
    rw [f5.1 143 (by decide), sI_ne (by decide), f4.1 143 (by decide), sI_eq, e3, f3.1 143 (by decide), sI_ne (by decide), f2.1 143 (by decide), (prF_tok I).1 143 (by decide)]
  have g4 : I5 144 = upd (I 144) (16 + sr) (nI v4) := by
    rw [f5.1 144 (by decide), sI_eq, e4, f4.1 144 (by decide), sI_ne (by decide), f3.1 144 (by decide), sI_ne (by decide), f2.1 144 (by decide), (prF_tok I).1 144 (by decide)]
  have g5 : I5 145 = I 145 := by
    rw [f5.1 145 (by decide), sI_ne (by decide), f4.1 145 (by decide), sI_ne (by decide), f3.1 145 (by decide), sI_ne (by decide), f2.1 145 (by decide), (prF_tok I).1 145 (by decide)]
  have g6 : I5 146 = I 146 := by
    rw [f5.1 146 (by decide), sI_ne (by decide), f4.1 146 (by decide), sI_ne (by decide), f3.1 146 (by decide), sI_ne (by decide), f2.1 146 (by decide), (prF_tok I).1 146 (by decide)]
  have p5s := prI_st (a := 145) (k := 16 + sr) p5 (by decide) (I5 134 11)
  have hF6 : lnF (sI I5 145 (16 + sr) (I5 134 11)) I [142, 143, 144, 145, 146] [18] := hF5.st (a := 145) (by decide) (by decide) _ _
  by_cases hb : I5 134 8 = 1 ∧ I5 134 9 = 12
  · rw [if_pos hb] at h
    cases h
    have m6 := muG_tle p5s
    rw [muG_st (by decide)] at m6
    have ft := prF_tok (sI I5 145 (16 + sr) (I5 134 11))
    refine ⟨h5, prI_set (prI_st (prI_tok p5s) (by decide) _) (by decide) (by decide) _, ((((lnF.of ft [142, 143, 144, 145, 146] [18]).tr hF6).st (a := 146) (by decide) (by decide) _ _)).set (by decide) _, by rw [muG_set (by decide), muG_st (by decide)]; omega, sI_rs, v2, v3, v4, v5, -1, b2, ?_, a3, b3, ?_, b4, ?_, b5, ?_, Or.inl rfl, ?_⟩
    · show yTok (sI I5 145 (16 + sr) (I5 134 11)) 142 = _; rw [ft.1 142 (by decide), sI_ne (by decide)]; exact g2
    · show yTok (sI I5 145 (16 + sr) (I5 134 11)) 143 = _; rw [ft.1 143 (by decide), sI_ne (by decide)]; exact g3
    · show yTok (sI I5 145 (16 + sr) (I5 134 11)) 144 = _; rw [ft.1 144 (by decide), sI_ne (by decide)]; exact g4
    · show yTok (sI I5 145 (16 + sr) (I5 134 11)) 145 = _; rw [ft.1 145 (by decide), sI_eq, e5, g5]
    · show sI (yTok (sI I5 145 (16 + sr) (I5 134 11))) 146 (16 + sr) (-1) 146 = _; rw [sI_eq, ft.1 146 (by decide), sI_ne (by decide), g6]
  · rw [if_neg hb] at h
    obtain ⟨I7, h7, h⟩ := yB_ok h
    cases h
    obtain ⟨p7, f7, m7, j, hj, ej⟩ := per_ok h7 p5s
    rw [muG_st (by decide)] at m7
    refine ⟨h5, prI_set (prI_st p7 (by decide) _) (by decide) (by decide) _, ((((lnF.of f7 [142, 143, 144, 145, 146] [18]).tr hF6).st (a := 146) (by decide) (by decide) _ _)).set (by decide) _, by rw [muG_set (by decide), muG_st (by decide)]; omega, sI_rs, v2, v3, v4, v5, nI j, b2, ?_, a3, b3, ?_, b4, ?_, b5, ?_, Or.inr ⟨j, hj, rfl⟩, ?_⟩
    · show I7 142 = _; rw [f7.1 142 (by decide), sI_ne (by decide)]; exact g2
    · show I7 143 = _; rw [f7.1 143 (by decide), sI_ne (by decide)]; exact g3
    · show I7 144 = _; rw [f7.1 144 (by decide), sI_ne (by decide)]; exact g4
    · show I7 145 = _; rw [f7.1 145 (by decide), sI_eq, e5, g5]
    · show sI I7 146 _ _ 146 = _; rw [sI_eq, ej, f7.1 146 (by decide), sI_ne (by decide), g6]

theorem yDL_ok {I J : Nat → Nat → Int32} {pr dr : Nat} (h : yDL pr dr I = (true, J)) (hp : prI I) : ¬ dr = 8 ∧ prI J ∧ lnF J I [147, 148, 149, 150] [19] ∧ muG J ≤ muG (yTok I) ∧ J 134 19 = nI (dr + 1) ∧ ∃ x y u v, x < pr ∧ J 147 = upd (I 147) (8 + dr) (nI x) ∧ y < pr ∧ ¬ nI y = nI x ∧ J 148 = upd (I 148) (8 + dr) (nI y) ∧ 1 ≤ u ∧ u ≤ 999 ∧ J 149 = upd (I 149) (8 + dr) (nI u) ∧ v ≤ 99 ∧ J 150 = upd (I 150) (8 + dr) (nI v) := by
  unfold yDL at h
  by_cases h5 : dr = 8
  · rw [if_pos h5] at h; cases h
  rw [if_neg h5] at h
  obtain ⟨I2, h2, h⟩ := yB_ok h
  obtain ⟨I4, h4, h⟩ := yB_ok h
  try dsimp only at h
  obtain ⟨p2, f2, m2, x, hx, ex⟩ := per_ok h2 (prI_tok hp)
  obtain ⟨p4, f4, m4, y, hy, ey⟩ := per_ok h4 (prI_st p2 (by decide) _)
  rw [muG_st (by decide)] at m4
  have g7 : I4 147 = upd (I 147) (8 + dr) (nI x) := by
    rw [f4.1 147 (by decide), sI_eq, ex, f2.1 147 (by decide), (prF_tok I).1 147 (by decide)]
  have gx : I4 147 (8 + dr) = nI x := by rw [g7, upd_eq]
  by_cases hd : I4 134 11 = I4 147 (8 + dr)
  · rw [if_pos hd] at h; cases h
  · rw [if_neg hd] at h
    obtain ⟨I6, h6, h⟩ := yB_ok h
    obtain ⟨I7, h7, h⟩ := yB_ok h
    cases h
    obtain ⟨p6, f6, m6, l6, u6⟩ := num_ok h6 (prI_st p4 (by decide) _)
    obtain ⟨p7, f7, m7, l7, u7⟩ := num_ok h7 (prI_st p6 (by decide) _)
    obtain ⟨v6, a6, b6, e6⟩ := in_nat (lo := 1) (hi := 999) (by decide) ⟨l6, u6⟩ (by decide)
    obtain ⟨v7, a7, b7, e7⟩ := in_nat (lo := 0) (hi := 99) (by decide) ⟨l7, u7⟩ (by decide)
    rw [muG_st (by decide)] at m6 m7
    refine ⟨h5, prI_set (prI_st p7 (by decide) _) (by decide) (by decide) _, ?_, by rw [muG_set (by decide), muG_st (by decide)]; omega, sI_rs, x, y, v6, v7, hx, ?_, hy, ?_, ?_, a6, b6, ?_, b7, ?_⟩
    · have F2 := ((lnF.of f2 [147, 148, 149, 150] [19]).tr (lnF.of (prF_tok I) [147, 148, 149, 150] [19])).st (a := 147) (by decide) (by decide) (8 + dr) (I2 134 11)
      have F4 := ((lnF.of f4 [147, 148, 149, 150] [19]).tr F2).st (a := 148) (by decide) (by decide) (8 + dr) (I4 134 11)
      have F6 := ((lnF.of f6 [147, 148, 149, 150] [19]).tr F4).st (a := 149) (by decide) (by decide) (8 + dr) (I6 134 11)
      have F7 := ((lnF.of f7 [147, 148, 149, 150] [19]).tr F6).st (a := 150) (by decide) (by decide) (8 + dr) (I7 134 11)
      exact F7.set (by decide) _
    · show I7 147 = _
      rw [f7.1 147 (by decide), sI_ne (by decide), f6.1 147 (by decide), sI_ne (by decide)]; exact g7
    · rw [← ey, ← gx]; exact hd
    · show I7 148 = _
      rw [f7.1 148 (by decide), sI_ne (by decide), f6.1 148 (by decide), sI_eq, ey, f4.1 148 (by decide), sI_ne (by decide), f2.1 148 (by decide), (prF_tok I).1 148 (by decide)]
    · show I7 149 = _
      rw [f7.1 149 (by decide), sI_eq, e6, f6.1 149 (by decide), sI_ne (by decide), f4.1 149 (by decide), sI_ne (by decide), f2.1 149 (by decide), (prF_tok I).1 149 (by decide)]
    · show sI I7 150 _ _ 150 = _
      rw [sI_eq, e7, f7.1 150 (by decide), sI_ne (by decide), f6.1 150 (by decide), sI_ne (by decide), f4.1 150 (by decide), sI_ne (by decide), f2.1 150 (by decide), (prF_tok I).1 150 (by decide)]

theorem swH_no {r : Nat → Int32} {i : Nat} : ∀ n, ¬ swH r i n = true → ∀ k, k < n → ¬ (r (32 + 4 * k) = r i ∧ r (32 + 4 * k + 2) = r (i + 2))
  | 0, _, k, hk => absurd hk (Nat.not_lt_zero _)
  | n + 1, h, k, hk => by
    have e : swH r i (n + 1) = (swH r i n || decide (r (32 + 4 * n) = r i ∧ r (32 + 4 * n + 2) = r (i + 2))) := rfl
    rw [e, Bool.or_eq_true, not_or, decide_eq_true_eq] at h
    by_cases q : k = n
    · subst q; exact h.2
    · exact swH_no n h.1 k (by omega)
theorem yRL_ok {I J : Nat → Nat → Int32} {rr : Nat} (h : yRL rr I = (true, J)) (hp : prI I) : ¬ rr = 8 ∧ prI J ∧ lnF J I [151] [20] ∧ muG J ≤ muG (yTok I) ∧ J 134 20 = nI (rr + 1) ∧ ∃ a b x y, a < 6 ∧ b < 6 ∧ ¬ nI a = nI b ∧ 1 ≤ x ∧ x ≤ 99 ∧ 1 ≤ y ∧ y ≤ 99 ∧ J 151 = upd (upd (upd (upd (I 151) (32 + 4 * rr) (nI a)) ((32 + 4 * rr) + 1) (nI x)) ((32 + 4 * rr) + 2) (nI b)) ((32 + 4 * rr) + 3) (nI y) ∧ ∀ k, k < rr → ¬ (I 151 (32 + 4 * k) = nI a ∧ I 151 (32 + 4 * k + 2) = nI b) := by
  unfold yRL at h
  by_cases h5 : rr = 8
  · rw [if_pos h5] at h; cases h
  rw [if_neg h5] at h
  obtain ⟨I2, h2, h⟩ := yB_ok h
  obtain ⟨I3, h3, h⟩ := yB_ok h
  obtain ⟨I4, h4, h⟩ := yB_ok h
  obtain ⟨I5, h6, h⟩ := yB_ok h
  obtain ⟨I7, h7, h⟩ := yB_ok h
  obtain ⟨p2, f2, m2, v2, b2, e2⟩ := pick_ok (lo := 9) (hi := 11) (by decide) (by decide) h2 (prI_tok hp)
  obtain ⟨p3, f3, m3, v3, b3, e3⟩ := pick_ok (lo := 7) (hi := 8) (by decide) (by decide) h3 (prI_st p2 (by decide) _)
  obtain ⟨p4, f4, m4, l4, u4⟩ := num_ok h4 (prI_st p3 (by decide) _)
  obtain ⟨p5, f5, m5, v5, b5, e5⟩ := pick_ok (lo := 9) (hi := 11) (by decide) (by decide) h6 (prI_st p4 (by decide) _)
  obtain ⟨p7, f7, m7, v7, b7, e7⟩ := pick_ok (lo := 7) (hi := 8) (by decide) (by decide) h7 (prI_st p5 (by decide) _)
  obtain ⟨v4, a4, b4, e4⟩ := in_nat (lo := 1) (hi := 99) (by decide) ⟨l4, u4⟩ (by decide)
  rw [muG_st (by decide)] at m3 m4 m5 m7
  have F2 := ((lnF.of f2 [151] [20]).tr (lnF.of (prF_tok I) [151] [20])).st (a := 151) (by decide) (by decide) (32 + 4 * rr) (2 * I2 134 11)
  have F3 := ((lnF.of f3 [151] [20]).tr F2).st (a := 151) (by decide) (by decide) (32 + 4 * rr) (I3 151 (32 + 4 * rr) + I3 134 11)
  have F4 := ((lnF.of f4 [151] [20]).tr F3).st (a := 151) (by decide) (by decide) ((32 + 4 * rr) + 1) (I4 134 11)
  have F5 := ((lnF.of f5 [151] [20]).tr F4).st (a := 151) (by decide) (by decide) ((32 + 4 * rr) + 2) (2 * I5 134 11)
  have F7 := ((lnF.of f7 [151] [20]).tr F5).st (a := 151) (by decide) (by decide) ((32 + 4 * rr) + 2) (I7 151 ((32 + 4 * rr) + 2) + I7 134 11)
  have r2 : I2 151 = I 151 := (f2.1 151 (by decide)).trans ((prF_tok I).1 151 (by decide))
  have r3 : I3 151 = upd (I 151) (32 + 4 * rr) (nI (2 * v2)) := by rw [f3.1 151 (by decide), sI_eq, e2, r2, show (2 : Int32) = nI 2 from rfl, pk_mul]
  have r4 : I4 151 = upd (I 151) (32 + 4 * rr) (nI (2 * v2 + v3)) := by rw [f4.1 151 (by decide), sI_eq, r3, e3, upd_eq, nI_add, fa_upd_twice]
  have r5 : I5 151 = upd (upd (I 151) (32 + 4 * rr) (nI (2 * v2 + v3))) ((32 + 4 * rr) + 1) (nI v4) := by rw [f5.1 151 (by decide), sI_eq, r4, e4]
  have r7 : I7 151 = upd (upd (upd (I 151) (32 + 4 * rr) (nI (2 * v2 + v3))) ((32 + 4 * rr) + 1) (nI v4)) ((32 + 4 * rr) + 2) (nI (2 * v5)) := by rw [f7.1 151 (by decide), sI_eq, r5, e5, show (2 : Int32) = nI 2 from rfl, pk_mul]
  obtain ⟨K, hK⟩ : ∃ K, K = sI I7 151 ((32 + 4 * rr) + 2) (I7 151 ((32 + 4 * rr) + 2) + I7 134 11) := ⟨_, rfl⟩
  have rK : K 151 = upd (upd (upd (I 151) (32 + 4 * rr) (nI (2 * v2 + v3))) ((32 + 4 * rr) + 1) (nI v4)) ((32 + 4 * rr) + 2) (nI (2 * v5 + v7)) := by rw [hK, sI_eq, r7, e7, upd_eq, nI_add, fa_upd_twice]
  have pK : prI K := by rw [hK]; exact prI_st p7 (by decide) _
  have mK : muG K = muG I7 := by rw [hK]; exact muG_st (by decide) _
  have FK : lnF K I [151] [20] := by rw [hK]; exact F7
  dsimp only at h
  rw [← hK] at h
  by_cases hd : swH (K 151) (32 + 4 * rr) rr = true ∨ K 151 (32 + 4 * rr) = K 151 ((32 + 4 * rr) + 2)
  · rw [if_pos hd] at h; cases h
  · rw [if_neg hd, not_or] at *
    obtain ⟨I9, h9, h⟩ := yB_ok h
    cases h
    obtain ⟨p9, f9, m9, l9, u9⟩ := num_ok h9 pK
    obtain ⟨v9, a9, b9, e9⟩ := in_nat (lo := 1) (hi := 99) (by decide) ⟨l9, u9⟩ (by decide)
    have k0 : K 151 (32 + 4 * rr) = nI (2 * v2 + v3) := by rw [rK, upd_ne (by omega), upd_ne (by omega), upd_eq]
    have k2 : K 151 ((32 + 4 * rr) + 2) = nI (2 * v5 + v7) := by rw [rK, upd_eq]
    refine ⟨h5, prI_set (prI_st p9 (by decide) _) (by decide) (by decide) _, ?_, by rw [muG_set (by decide), muG_st (by decide)]; omega, sI_rs, 2 * v2 + v3, 2 * v5 + v7, v4, v9, by omega, by omega, ?_, a4, b4, a9, b9, ?_, fun k hk => ?_⟩
    · exact (((lnF.of f9 [151] [20]).tr FK).st (a := 151) (by decide) (by decide) ((32 + 4 * rr) + 3) (I9 134 11)).set (by decide) _
    · rw [← k0, ← k2]; exact hd.2
    · show sI I9 151 _ _ 151 = _
      rw [sI_eq, e9, f9.1 151 (by decide), rK]
    · have w := swH_no rr hd.1 k hk
      rw [k0, k2, rK, upd_ne (by omega), upd_ne (by omega), upd_ne (by omega), upd_ne (by omega), upd_ne (by omega), upd_ne (by omega)] at w
      exact w
