/-! ===== the reference: a text ===== -/
theorem yEnd_ok {q : Bool × (Nat → Nat → Int32)} {J : Nat → Nat → Int32} (h : (true, J) = yEnd q) : q.1 = true ∧ J = yTok q.2 ∧ q.2 134 8 = 4 ∧ q.2 134 9 = 59 := by
  unfold yEnd at h
  by_cases h1 : q.1 = true
  · rw [if_pos h1] at h
    by_cases h2 : q.2 134 8 = 4 ∧ q.2 134 9 = 59
    · rw [if_pos h2] at h; cases h; exact ⟨h1, rfl, h2⟩
    · rw [if_neg h2] at h; cases h
  · rw [if_neg h1] at h
    rw [← h] at h1
    exact absurd rfl h1
theorem sumA_mu : ∀ (c : Nat) (E : List (Nat × Nat)) (W : List Nat) (wn mn : Bool) (br cn : Nat) (G : Nat → Nat → Int32) {E' : List (Nat × Nat)} {W' : List Nat} {wn' mn' : Bool} {br' cn' : Nat} {G' : Nat → Nat → Int32}, prI G → sumA c E W wn mn br cn G = (0, E', W', wn', mn', br', cn', G') → muG G' ≤ muG G
  | 0, E, W, wn, mn, br, cn, G, E', W', wn', mn', br', cn', G', _, h => by unfold sumA at h; cases h
  | c + 1, E, W, wn, mn, br, cn, G, E', W', wn', mn', br', cn', G', hp, h => by
    unfold sumA at h
    by_cases hd : (G 134 8 = 4 ∧ G 134 9 = 59) ∧ wn = false ∧ br = 0
    · rw [if_pos hd] at h; cases h; exact Nat.le_refl _
    · rw [if_neg hd] at h
      obtain ⟨f, E1, W1, wn1, mn1, br1, cn1, G1, hX⟩ : ∃ f E1 W1 wn1 mn1 br1 cn1 G1, (if wn = true then leafA E W true mn br cn G else signsA E W false mn br cn G) = (f, E1, W1, wn1, mn1, br1, cn1, G1) := ⟨_, _, _, _, _, _, _, _, rfl⟩
      rw [hX] at h
      dsimp only at h
      by_cases hf : f = 0
      · rw [if_pos hf] at h
        subst hf
        have hG : G1 = yTok G := by
          cases wn with
          | true => exact (leafA_G hX).1
          | false => exact (signsA_G hX).1
        subst hG
        have := sumA_mu c E1 W1 wn1 mn1 br1 cn1 _ (prI_tok hp) h
        exact Nat.le_trans this (muG_tle hp)
      · rw [if_neg hf] at h; cases h; exact absurd rfl hf
/-- counts while a text is read -/
def lnC (I : Nat → Nat → Int32) (pr sr dr rr kr : Nat) : Prop := prI I ∧ (I 134 17 = nI pr ∧ pr ≤ 5) ∧ (I 134 18 = nI sr ∧ sr ≤ 16) ∧ (I 134 19 = nI dr ∧ dr ≤ 8) ∧ (I 134 20 = nI rr ∧ rr ≤ 8) ∧ I 134 21 = nI kr ∧ I 134 49 = nI kr ∧ kr ≤ 64
theorem lnC_tok {I : Nat → Nat → Int32} {pr sr dr rr kr : Nat} (h : lnC I pr sr dr rr kr) : lnC (yTok I) pr sr dr rr kr := by
  obtain ⟨h1, h2, h3, h4, h5, h6, h7, h8⟩ := h
  exact ⟨prI_tok h1, h2, h3, h4, h5, h6, h7, h8⟩
theorem lnR_ok {I J : Nat → Nat → Int32} {pr sr dr rr kr : Nat} (hc : lnC I pr sr dr rr kr) (h : lnR I pr sr dr rr kr true J) : (∃ pr' sr' dr' rr' kr', lnC J pr' sr' dr' rr' kr') ∧ muG J < muG I := by
  obtain ⟨hp, ⟨h17, hp5⟩, ⟨h18, hs16⟩, ⟨h19, hd8⟩, ⟨h20, hr8⟩, h21, h49, h64⟩ := hc
  unfold lnR at h
  by_cases hk : I 134 8 = 1
  · rw [if_neg (fun w => w hk)] at h
    have hk0 : ¬ I 134 8 = 0 := by rw [hk]; decide
    have hmu := muG_tok hp hk0
    by_cases h6 : 6 < I 134 9
    · rw [if_pos h6] at h; cases h
    rw [if_neg h6] at h
    have fin : ∀ {q : Bool × (Nat → Nat → Int32)}, (true, J) = yEnd q → (q.1 = true → prI q.2 ∧ muG q.2 ≤ muG (yTok I) ∧ ∃ pr' sr' dr' rr' kr', lnC q.2 pr' sr' dr' rr' kr') → (∃ pr' sr' dr' rr' kr', lnC J pr' sr' dr' rr' kr') ∧ muG J < muG I := fun {q} he hq => by
      obtain ⟨q1, q2, _, _⟩ := yEnd_ok he
      obtain ⟨r1, r2, a, b, c, d, e, r3⟩ := hq q1
      rw [q2]
      refine ⟨⟨a, b, c, d, e, lnC_tok r3⟩, ?_⟩
      have := muG_tle r1
      omega
    by_cases c0 : I 134 9 = 0
    · rw [if_pos c0] at h
      refine fin h (fun hq => ?_)
      obtain ⟨a1, a2, a3, a4, a5, _⟩ := yPL_ok (J := (yPL pr I).2) (by rw [← hq]) hp
      exact ⟨a2, a4, pr + 1, sr, dr, rr, kr, a2, ⟨a5, by omega⟩, ⟨(a3.2 18 (by decide)).trans h18, hs16⟩, ⟨(a3.2 19 (by decide)).trans h19, hd8⟩, ⟨(a3.2 20 (by decide)).trans h20, hr8⟩, (a3.2 21 (by decide)).trans h21, (a3.2 49 (by decide)).trans h49, h64⟩
    rw [if_neg c0] at h
    by_cases c1 : I 134 9 = 1
    · rw [if_pos c1] at h
      refine fin h (fun hq => ?_)
      obtain ⟨a1, a2, a3, a4, a5, _⟩ := ySL_ok (J := (ySL pr sr I).2) (by rw [← hq]) hp
      exact ⟨a2, a4, pr, sr + 1, dr, rr, kr, a2, ⟨(a3.2 17 (by decide)).trans h17, hp5⟩, ⟨a5, by omega⟩, ⟨(a3.2 19 (by decide)).trans h19, hd8⟩, ⟨(a3.2 20 (by decide)).trans h20, hr8⟩, (a3.2 21 (by decide)).trans h21, (a3.2 49 (by decide)).trans h49, h64⟩
    rw [if_neg c1] at h
    by_cases c2 : I 134 9 = 2
    · rw [if_pos c2] at h
      refine fin h (fun hq => ?_)
      obtain ⟨a1, a2, a3, a4, a5, _⟩ := yDL_ok (J := (yDL pr dr I).2) (by rw [← hq]) hp
      exact ⟨a2, a4, pr, sr, dr + 1, rr, kr, a2, ⟨(a3.2 17 (by decide)).trans h17, hp5⟩, ⟨(a3.2 18 (by decide)).trans h18, hs16⟩, ⟨a5, by omega⟩, ⟨(a3.2 20 (by decide)).trans h20, hr8⟩, (a3.2 21 (by decide)).trans h21, (a3.2 49 (by decide)).trans h49, h64⟩
    rw [if_neg c2] at h
    by_cases c3 : I 134 9 = 3
    · rw [if_pos c3] at h
      refine fin h (fun hq => ?_)
      obtain ⟨a2, a3, a4, _⟩ := yCL_ok (J := (yCL pr I).2) hp5 (by rw [← hq]) hp
      exact ⟨a2, a4, pr, sr, dr, rr, kr, a2, ⟨(a3.2 17 (by decide)).trans h17, hp5⟩, ⟨(a3.2 18 (by decide)).trans h18, hs16⟩, ⟨(a3.2 19 (by decide)).trans h19, hd8⟩, ⟨(a3.2 20 (by decide)).trans h20, hr8⟩, (a3.2 21 (by decide)).trans h21, (a3.2 49 (by decide)).trans h49, h64⟩
    rw [if_neg c3] at h
    by_cases c4 : I 134 9 = 4
    · rw [if_pos c4] at h
      refine fin h (fun hq => ?_)
      obtain ⟨a1, a2, a3, a4, a5, _⟩ := yRL_ok (J := (yRL rr I).2) (by rw [← hq]) hp
      exact ⟨a2, a4, pr, sr, dr, rr + 1, kr, a2, ⟨(a3.2 17 (by decide)).trans h17, hp5⟩, ⟨(a3.2 18 (by decide)).trans h18, hs16⟩, ⟨(a3.2 19 (by decide)).trans h19, hd8⟩, ⟨a5, by omega⟩, (a3.2 21 (by decide)).trans h21, (a3.2 49 (by decide)).trans h49, h64⟩
    rw [if_neg c4] at h
    by_cases c5 : I 134 9 = 5
    · rw [if_pos c5] at h
      by_cases hs : I 134 22 = 0
      · rw [if_pos hs] at h
        refine fin h (fun hq => ?_)
        have ps := prI_set hp (k := 22) (by decide) (by decide) 1
        obtain ⟨a1, a2, a3, _, _⟩ := num_ok (J := (yNum (yTok (sI I 134 22 1)) 0 99999).2) (by rw [← hq]) (prI_tok ps)
        have ft := prF_tok (sI I 134 22 1)
        have em : muG (yTok (sI I 134 22 1)) = muG (yTok I) := muG_tq (tq_tok (tq_set ⟨rfl, rfl, fun _ _ _ => rfl⟩ (by decide) _))
        have e : ∀ k, k ∉ [4, 5, 7, 8, 9, 10, 11, 22] → (yNum (yTok (sI I 134 22 1)) 0 99999).2 134 k = I 134 k := fun k hk => by
          rw [a2.2 k (fun w => hk (by revert w; simp; omega)), ft.2 k (fun w => hk (by revert w; simp; omega)), sI_rd (fun w => hk (by rw [w]; decide))]
        exact ⟨a1, by omega, pr, sr, dr, rr, kr, a1, ⟨(e 17 (by decide)).trans h17, hp5⟩, ⟨(e 18 (by decide)).trans h18, hs16⟩, ⟨(e 19 (by decide)).trans h19, hd8⟩, ⟨(e 20 (by decide)).trans h20, hr8⟩, (e 21 (by decide)).trans h21, (e 49 (by decide)).trans h49, h64⟩
      · rw [if_neg hs] at h; cases h
    rw [if_neg c5] at h
    unfold lnL at h
    dsimp only at h
    have p1 := prI_tok hp
    by_cases k1 : yTok I 134 8 = 1
    · rw [if_neg (fun w => w k1)] at h
      by_cases k2 : yTok I 134 9 < 13
      · rw [if_pos k2] at h; cases h
      rw [if_neg k2] at h
      by_cases k3 : 15 < yTok I 134 9
      · rw [if_pos k3] at h; cases h
      rw [if_neg k3] at h
      obtain ⟨kk, hkk⟩ : ∃ kk, kk = 3 + ixn (yTok I 134 9) - 13 := ⟨_, rfl⟩
      rw [← hkk] at h
      by_cases k4 : yTok I 152 kk = 0
      · rw [if_neg (fun w => w k4)] at h
        obtain ⟨f, E, W, wn, mn, br, cn, G, J4, hX, ⟨w1, w2, w3, w4⟩, h⟩ := h
        refine fin h (fun hq => ?_)
        have hf : f = 0 := of_decide_eq_true hq
        subst hf
        obtain ⟨⟨x, hS⟩, q2, q3, q4, q5, q6, _, _⟩ := w3 rfl
        have ps := prI_st (a := 152) (k := kk) p1 (by decide) 1
        have p3 := prI_st (a := 153) (k := kk) (prI_tok ps) (by decide) (nI kr)
        have m4 := sumA_mu _ _ _ _ _ _ _ _ p3 hX
        rw [← muG_tq q5, muG_st (by decide)] at m4
        have m5 := muG_tle ps
        rw [muG_st (by decide)] at m5
        have e : ∀ k, k ∉ [4, 5, 7, 8, 9, 10, 11, 21, 46, 47, 48, 49, 50, 51] → J4 134 k = I 134 k := fun k hk => by
          rw [w2.2.1 k hk, sI_ne (by decide), (prF_tok _).2 k (fun w => hk (by revert w; simp; omega)), sI_ne (by decide), (prF_tok I).2 k (fun w => hk (by revert w; simp; omega))]
        refine ⟨prI_st w1 (by decide) _, by show muG (sI J4 154 kk (J4 134 21)) ≤ _; rw [muG_st (by decide)]; omega, pr, sr, dr, rr, kr + E.length, prI_st w1 (by decide) _, ⟨(e 17 (by decide)).trans h17, hp5⟩, ⟨(e 18 (by decide)).trans h18, hs16⟩, ⟨(e 19 (by decide)).trans h19, hd8⟩, ⟨(e 20 (by decide)).trans h20, hr8⟩, hS.2.1, ?_, by omega⟩
        show J4 134 49 = _
        rw [q4, q2]
      · rw [if_pos k4] at h; cases h
    · rw [if_pos k1] at h; cases h
  · rw [if_pos hk] at h; cases h
/-- j lines have been read -/
def txS : Nat → (Nat → Nat → Int32) → (Nat → Nat → Int32) → Prop
  | 0, I, J => J = I
  | j + 1, I, J => ∃ K pr sr dr rr kr, txS j I K ∧ lnC K pr sr dr rr kr ∧ ¬ K 134 8 = 0 ∧ lnR K pr sr dr rr kr true J
def yT0 (I : Nat → Nat → Int32) (q : Int32) : Nat → Nat → Int32 := yTok (yPlain (sI (sI (sI (sI (sI (sI I 134 2 0) 134 6 q) 134 1 0) 134 4 0) 134 5 (-1)) 134 7 0))
def rTx (I : Nat → Nat → Int32) (L : Nat → Nat → Int64) (P : Nat → Nat → Option Nat) (q : Int32) : Option Value → pM → Prop := fun r M => ∃ j J, txS j (yT0 I q) J ∧ ((J 134 8 = 0 ∧ r = some (.int (nI j)) ∧ M = (yKt J, L, P)) ∨ ∃ pr sr dr rr kr K, lnC J pr sr dr rr kr ∧ ¬ J 134 8 = 0 ∧ lnR J pr sr dr rr kr false K ∧ r = some (.int (-1)) ∧ M = (K, L, P))

set_option maxHeartbeats 4000000 in
theorem ct_Mo_text {sh : List pSh} {I : Nat → Nat → Int32} {L : Nat → Nat → Int64} {P : Nat → Nat → Option Nat} (hA : kA sh P) (htp : tpM I) (hwd : wdM I) {tp : Nat} (htp1 : I 134 1 = nI tp) (htp7 : tp ≤ 700) (q : Int32) : pCn m_Mo_text 5 [.ref 134, .int q] sh (I, L, P) (rIf (¬ q < 0 ∧ q ≤ I 134 1) (rTx I L P q) (rI (-2) (sI I 134 2 0, L, P))) := by
  refine pCn_of (by decide +kernel) (Nat.le_of_ble_eq_true rfl) ?_
  have hL : (¬ q < 0 ∧ q ≤ I 134 1) → ∀ (J : Nat → Nat → Int32) (j pr sr dr rr kr : Nat), txS j (yT0 I q) J → lnC J pr sr dr rr kr → pWn m_Mo_text 5 sh (rIf (¬ q < 0 ∧ q ≤ I 134 1) (rTx I L P q) (rI (-2) (sI I 134 2 0, L, P))) 55 [some (.ref 134), some (.int q), some (.int (nI j))] [] (J, L, P) := by
    intro hq
    have key := pMeas (fun x : Nat => ∀ (J : Nat → Nat → Int32) (j pr sr dr rr kr : Nat), muG J = x → txS j (yT0 I q) J → lnC J pr sr dr rr kr → pWn m_Mo_text 5 sh (rIf (¬ q < 0 ∧ q ≤ I 134 1) (rTx I L P q) (rI (-2) (sI I 134 2 0, L, P))) 55 [some (.ref 134), some (.int q), some (.int (nI j))] [] (J, L, P)) id (by
      intro x ih0 J j pr sr dr rr kr hx hS hC
      have ih : ∀ y, y < muG J → ∀ (j2 : Nat), j2 = j + 1 → ∀ (K : Nat → Nat → Int32) (pr sr dr rr kr : Nat), muG K = y → txS j2 (yT0 I q) K → lnC K pr sr dr rr kr → pWn m_Mo_text 5 sh (rIf (¬ q < 0 ∧ q ≤ I 134 1) (rTx I L P q) (rI (-2) (sI I 134 2 0, L, P))) 55 [some (.ref 134), some (.int q), some (.int (nI j2))] [] (K, L, P) := fun y hy j2 _ K pr sr dr rr kr hk h1 h2 => ih0 y (by show y < x; omega) K j2 pr sr dr rr kr hk h1 h2
      refine pw_aload_n (k4 := 0) rfl (by decide +kernel) ?_
      refine pq_getI (c := 11) (k := 8) (ks_m hA) (by decide) (by decide) lf_Mo_193 (by decide +kernel) ?_
      refine pw_if_eq (off := 18) (tgt := 77) (by decide +kernel) (by decide +kernel) (fun z59 => ?_) (fun z59 => ?_)
      · refine pw_aload_n (k4 := 0) rfl (by decide +kernel) ?_
        refine pq_callV (ν := m_Mo_keepText) (d' := 1) (av := []) (c := 11) (by decide +kernel) lm_Mo_172 ok_Mo_keepText (show _ = some 0 by decide +kernel) (ks_m hA) rfl (by decide) (by omega) (Nat.le_of_ble_eq_true rfl) (ct_Mo_keepText hA) ?_
        rintro _ _ ⟨rfl, rfl⟩
        refine pw_iload_n (k4 := 2) rfl (by decide +kernel) ?_
        exact pq_iret rfl (by decide +kernel) ⟨fun _ => ⟨j, J, hS, Or.inl ⟨z59, rfl, rfl⟩⟩, fun w => absurd hq w⟩
      · refine pw_aload_n (k4 := 0) rfl (by decide +kernel) ?_
        refine pq_callV (ν := m_Mo_lineRead) (d' := 4) (av := []) (c := 11) (by decide +kernel) lm_Mo_313 ok_Mo_lineRead (show _ = some 0 by decide +kernel) (ks_m hA) rfl (by decide) (by omega) (Nat.le_of_ble_eq_true rfl) (ct_Mo_lineRead hA (by exact hC.1) hC.2.1.1 hC.2.1.2 hC.2.2.1.1 hC.2.2.1.2 hC.2.2.2.1.1 hC.2.2.2.1.2 hC.2.2.2.2.1.1 hC.2.2.2.2.1.2 hC.2.2.2.2.2.1 hC.2.2.2.2.2.2.1 hC.2.2.2.2.2.2.2) ?_
        rintro _ _ ⟨b, K, hln, hpK, rfl, rfl⟩
        refine pw_if_ne (off := 5) (tgt := 71) (by decide +kernel) (by decide +kernel) (fun z66 => ?_) (fun z66 => ?_)
        · have hb := bI_1 z66
          subst hb
          refine pn_iinc (i := 2) (n := 1) 1 j rfl rfl (by decide) rfl (by decide +kernel) ?_
          refine pw_goto (off := -19) (tgt := 55) (by decide +kernel) (by decide +kernel) ?_
          obtain ⟨⟨a1, a2, a3, a4, a5, hC2⟩, hmu⟩ := lnR_ok hC hln
          exact ih _ hmu (j + 1) rfl K a1 a2 a3 a4 a5 rfl ⟨J, pr, sr, dr, rr, kr, hS, hC, z59, hln⟩ hC2
        · have hb := bI_0 z66
          subst hb
          refine pw_iconst (n := -1) (v := -1) (by decide) (by decide +kernel) ?_
          exact pq_iret rfl (by decide +kernel) ⟨fun _ => ⟨j, J, hS, Or.inr ⟨pr, sr, dr, rr, kr, K, hC, z59, hln, rfl, rfl⟩⟩, fun w => absurd hq w⟩)
    exact fun J j pr sr dr rr kr h1 h2 => key (muG J) J j pr sr dr rr kr rfl h1 h2
  refine pw_aload_n (k4 := 0) rfl (by decide +kernel) ?_
  refine pw_iconst (n := 0) (v := 0) (by decide) (by decide +kernel) ?_
  refine pq_putI (c := 11) (k := 2) (ks_m hA) (by decide) (by decide) lf_Mo_175 (Or.inl rfl) (by decide +kernel) ?_
  refine pw_iload_n (k4 := 1) rfl (by decide +kernel) ?_
  refine pw_if_lt (off := 11) (tgt := 17) (by decide +kernel) (by decide +kernel) (fun z6 => ?_) (fun z6 => ?_)
  · refine pw_bipush (n := -2) (v := -2) (by decide) (by decide +kernel) ?_
    exact pq_iret rfl (by decide +kernel) ⟨fun w => absurd z6 w.1, fun _ => ⟨rfl, rfl⟩⟩
  · refine pw_iload_n (k4 := 1) rfl (by decide +kernel) ?_
    refine pw_aload_n (k4 := 0) rfl (by decide +kernel) ?_
    refine pq_getI (c := 11) (k := 1) (ks_m hA) (by decide) (by decide) lf_Mo_178 (by decide +kernel) ?_
    refine pw_icmp_le (off := 6) (tgt := 20) (by decide +kernel) (by decide +kernel) (fun z14 => ?_) (fun z14 => ?_)
    · have hq : ¬ q < 0 ∧ q ≤ I 134 1 := ⟨z6, z14⟩
      obtain ⟨n, hn, rfl⟩ := nI_of z6
      have hntp : n ≤ tp := (nI_leI hn (by omega)).mp (by rw [← htp1]; exact z14)
      refine pw_aload_n (k4 := 0) rfl (by decide +kernel) ?_
      refine pw_iload_n (k4 := 1) rfl (by decide +kernel) ?_
      refine pq_putI (c := 11) (k := 6) (ks_m hA) (by decide) (by decide) lf_Mo_187 (Or.inl rfl) (by decide +kernel) ?_
      refine pw_aload_n (k4 := 0) rfl (by decide +kernel) ?_
      refine pw_iconst (n := 0) (v := 0) (by decide) (by decide +kernel) ?_
      refine pq_putI (c := 11) (k := 1) (ks_m hA) (by decide) (by decide) lf_Mo_178 (Or.inl rfl) (by decide +kernel) ?_
      refine pw_aload_n (k4 := 0) rfl (by decide +kernel) ?_
      refine pw_iconst (n := 0) (v := 0) (by decide) (by decide +kernel) ?_
      refine pq_putI (c := 11) (k := 4) (ks_m hA) (by decide) (by decide) lf_Mo_181 (Or.inl rfl) (by decide +kernel) ?_
      refine pw_aload_n (k4 := 0) rfl (by decide +kernel) ?_
      refine pw_iconst (n := -1) (v := -1) (by decide) (by decide +kernel) ?_
      refine pq_putI (c := 11) (k := 5) (ks_m hA) (by decide) (by decide) lf_Mo_16 (Or.inl rfl) (by decide +kernel) ?_
      refine pw_aload_n (k4 := 0) rfl (by decide +kernel) ?_
      refine pw_iconst (n := 0) (v := 0) (by decide) (by decide +kernel) ?_
      refine pq_putI (c := 11) (k := 7) (ks_m hA) (by decide) (by decide) lf_Mo_190 (Or.inl rfl) (by decide +kernel) ?_
      refine pw_aload_n (k4 := 0) rfl (by decide +kernel) ?_
      refine pq_callV (ν := m_Mo_plain) (d' := 0) (av := []) (c := 11) (by decide +kernel) lm_Mo_169 ok_Mo_plain (show _ = some 0 by decide +kernel) (ks_m hA) rfl (by decide) (by omega) (Nat.le_of_ble_eq_true rfl) (ct_Mo_plain hA) ?_
      rintro _ _ ⟨rfl, rfl⟩
      have hp0 : prI (yPlain (sI (sI (sI (sI (sI (sI I 134 2 0) 134 6 (nI n)) 134 1 0) 134 4 0) 134 5 (-1)) 134 7 0)) := ⟨htp, hwd, n, 0, rfl, by omega, rfl, Nat.zero_le _⟩
      refine pw_aload_n (k4 := 0) rfl (by decide +kernel) ?_
      refine pq_callV (ν := m_Mo_token) (d' := 1) (av := []) (c := 11) (by decide +kernel) lm_Mo_227 ok_Mo_token (show _ = some 0 by decide +kernel) (ks_m hA) rfl (by decide) (by omega) (Nat.le_of_ble_eq_true rfl) (ct_Mo_tok hA hp0) ?_
      rintro _ _ ⟨J0, hJ0, hp1, hf1, rfl, rfl⟩
      refine pw_iconst (n := 0) (v := 0) (by decide) (by decide +kernel) ?_
      refine pq_istore_n (k4 := 2) (Nat.le_of_ble_eq_true rfl) rfl (by decide +kernel) ?_
      rw [← hJ0]
      refine hL hq _ 0 0 0 0 0 0 rfl ?_
      rw [hJ0]
      exact ⟨hp1, ⟨hf1.2 17 (by decide), by decide⟩, ⟨hf1.2 18 (by decide), by decide⟩, ⟨hf1.2 19 (by decide), by decide⟩, ⟨hf1.2 20 (by decide), by decide⟩, hf1.2 21 (by decide), hf1.2 49 (by decide), by decide⟩
    · refine pw_bipush (n := -2) (v := -2) (by decide) (by decide +kernel) ?_
      exact pq_iret rfl (by decide +kernel) ⟨fun w => absurd w.2 z14, fun _ => ⟨rfl, rfl⟩⟩
