/-! ===== class and reference: text, call by call ===== -/
section
variable {I I1 : Nat → Nat → Int32} {L L1 : Nat → Nat → Int64} {P P1 : Nat → Nat → Option Nat} {sh : List pSh} {t t1 np ns nd nx sz : Nat}
/-- the reference reads as the ghost did -/
theorem tx_ref (hA : kA sh P1) {q : Int32} {tp j : Nat} {b : Bool} {J Kf : Nat → Nat → Int32} (hf : ∀ a, 134 ≤ a → I1 a = I a) (htp : tpM I) (hwd : wdM I) (y1 : I 134 1 = nI tp) (h7 : tp ≤ 700) (c : ¬ q < 0 ∧ q ≤ nI tp) (hS : txS j (yT0 I q) J) (hE : txE b J Kf) :
    pCn m_Mo_text 5 [.ref 134, .int q] sh (I1, L1, P1) (fun r2 M2 => ∃ J' Kf', txS j (yT0 I1 q) J' ∧ txE b J' Kf' ∧ Kf' 134 4 = Kf 134 4 ∧ Kf' 134 5 = Kf 134 5 ∧ (b = true → aL2 Kf Kf' ∧ Kf' = J' ∧ r2 = some (.int (nI j)) ∧ M2 = (yKt J', L1, P1)) ∧ (b = false → r2 = some (.int (-1)) ∧ M2 = (Kf', L1, P1))) := by
  have y1' : I1 134 1 = nI tp := by rw [hf 134 (by decide)]; exact y1
  refine pCn_im (pI_p (by rw [y1']; exact c) (ct_Mo_text hA (tp := tp) (fun k hk => by rw [hf 135 (by decide)]; exact htp k hk) (fun k hk => by rw [hf 136 (by decide)]; exact hwd k hk) y1' h7 q)) ?_
  rintro r2 M2 ⟨j', J', hS', hend⟩
  rcases hend with ⟨z, rfl, rfl⟩ | ⟨pr, sr, dr, rr, kr, K, k1, k2, k3, rfl, rfl⟩
  · have hE' : txE true J' J' := Or.inl ⟨rfl, z, rfl⟩
    obtain ⟨e1, e2, e3, e4, e5⟩ := al_tx (aL2_T0 (q := q) hf) (txS_C hS) hE (txS_C hS') hE'
    subst e1 e2
    exact ⟨J', J', hS', hE', e3, e4, fun _ => ⟨e5 rfl, rfl, rfl, rfl⟩, fun w => by cases w⟩
  · have hE' : txE false J' K := Or.inr ⟨rfl, pr, sr, dr, rr, kr, k1, k2, k3⟩
    obtain ⟨e1, e2, e3, e4, e5⟩ := al_tx (aL2_T0 (q := q) hf) (txS_C hS) hE (txS_C hS') hE'
    subst e1 e2
    exact ⟨J', K, hS', hE', e3, e4, fun w => (by cases w), fun _ => ⟨rfl, rfl⟩⟩
theorem lnC_T0 {q : Int32} {n : Nat} (hn : n ≤ 700) (hq : q = nI n) (htp : tpM I) (hwd : wdM I) : lnC (yPlain (sI (sI (sI (sI (sI (sI I 134 2 0) 134 6 q) 134 1 0) 134 4 0) 134 5 (-1)) 134 7 0)) 0 0 0 0 0 :=
  ⟨⟨htp, hwd, n, 0, hq, hn, rfl, Nat.zero_le _⟩, ⟨rfl, Nat.zero_le _⟩, ⟨rfl, Nat.zero_le _⟩, ⟨rfl, Nat.zero_le _⟩, ⟨rfl, Nat.zero_le _⟩, rfl, rfl, Nat.zero_le _⟩
theorem cpA_ne {K : Nat → Nat → Int32} {a n c : Nat} (h : c ≠ a) : cpA K a n c = K c := aU_ne h
theorem yK1_fr {K : Nat → Nat → Int32} {a : Nat} (h1 : a < 137) (h2 : a ≠ 134) : yKt1 K a = K a := by
  unfold yKt1
  rw [cpA_ne (by omega), cpA_ne (by omega), cpA_ne (by omega), cpA_ne (by omega), cpA_ne (by omega), cpA_ne (by omega), cpA_ne (by omega), cpA_ne (by omega), cpA_ne (by omega), cpA_ne (by omega), cpA_ne (by omega), cpA_ne (by omega), cpA_ne (by omega), cpA_ne (by omega), cpA_ne (by omega), sI_ne h2, sI_ne h2, sI_ne h2, sI_ne h2, sI_ne h2]
theorem yK2_fr {K : Nat → Nat → Int32} {a : Nat} (h1 : a < 137) (h2 : a ≠ 134) : yKt3 K a = K a := by
  unfold yKt3 yKt2
  rw [cpA_ne (by omega), cpA_ne (by omega), cpA_ne (by omega), cpA_ne (by omega), cpA_ne (by omega), aU_ne (by omega), yK1_fr h1 h2]
theorem yK_fr {K : Nat → Nat → Int32} {a : Nat} (h1 : a < 137) (h2 : a ≠ 134) : yKt K a = K a := by
  have e : ∀ Q : Nat → Nat → Int32, yBeg Q a = Q a := fun Q => by
    unfold yBeg yBegA
    rw [sI_ne h2, sI_ne h2, sI_ne h2, sI_ne h2, sI_ne h2, sI_ne h2, sI_ne h2, sI_ne (by omega), aU_ne (by omega), aU_ne (by omega), aU_ne (by omega), aU_ne (by omega), aU_ne (by omega)]
  exact (e (yKt3 K)).trans (yK2_fr h1 h2)
set_option maxHeartbeats 2000000 in
theorem tw_text (h : iq t t1 np ns nd nx sz sh I P) (q : Int32) (hex : (¬ q < 0 ∧ q ≤ I 134 1) → ∃ r M, rTx I L P q r M) : two m_Ls_text m_Mo_text 128 5 [.int q] sh (I, L, P) := by
  obtain ⟨tp, h7, x1, y1, hb⟩ := h.1.2.2.2.2.2.2.1.2.2.2.2.1
  have ht1 := h.2.2.2.2.1.2.1
  have hne := h.2.2.2.2.1.2.2
  have ht := h.tt
  have htp : tpM I := fun k hk => by
    obtain ⟨x, a1, a2, -⟩ := hb k hk
    exact ⟨x, a1, a2⟩
  have hwd : wdM I := h.2.2.1.2.1
  by_cases c : ¬ q < 0 ∧ q ≤ nI tp
  · refine pI_p c (ct_Ls_text (L := L) h.2.1 ht1 h.2.2.2.1 h.2.2.2.2.1.1 x1 h.2.2.1.1 q _ (fun _ => ?_))
    obtain ⟨r, M, j, J, hS, hend⟩ := hex (by rw [y1]; exact c)
    obtain ⟨m1, m2⟩ := nI_ix (q := q) (m := tp) (by omega) (Int32.not_lt.mp c.1) c.2
    obtain ⟨b, Kf, hE⟩ : ∃ b Kf, txE b J Kf := by
      rcases hend with ⟨z, _, _⟩ | ⟨pr, sr, dr, rr, kr, K, k1, k2, k3, _⟩
      · exact ⟨true, J, Or.inl ⟨rfl, z, rfl⟩⟩
      · exact ⟨false, K, Or.inr ⟨rfl, pr, sr, dr, rr, kr, k1, k2, k3⟩⟩
    refine ⟨ixn q, yPlain (sI (sI (sI (sI (sI (sI I 134 2 0) 134 6 q) 134 1 0) 134 4 0) 134 5 (-1)) 134 7 0), J, Kf, j, b, m1, by omega, fun k hk => ?_, m1, rfl, ⟨rfl, fun p hp => ?_, fun r hr => ?_⟩, lnC_T0 (by omega) m1 htp hwd, txS_C hS, hE, fun r1 M1 hT => ?_⟩
    · obtain ⟨x, a1, a2, a3⟩ := hb k (by omega)
      show I 2 k = sgB (ixn (I 135 k)) ∧ ixn (I 135 k) < 256
      rw [a2, ixn_nI (by omega)]
      exact ⟨a3 (by omega), by omega⟩
    · show rng (-1) _ 5 10 (5 + p) < 0
      unfold rng
      rw [if_pos ⟨by omega, by omega⟩]
      decide
    · show rng 0 _ 3 6 (3 + r) = 0
      unfold rng
      rw [if_pos ⟨by omega, by omega⟩]
    · obtain ⟨Z, hF, h0, h1⟩ := hT
      have hZ : ∀ a, a ≠ 1 → a ≠ 57 → a ≠ 58 → (a < t1 ∨ t1 + 26 < a) → Z a = I a := fun a b1 b2 b3 b4 => by rw [hF.1 a b2 b3 b4, sI_ne b1]
      have hZ1 : ∀ k, Z 1 k = if k = 1 then 0 else I 1 k := fun k => by rw [hF.1 1 (by decide) (by decide) (by omega), sI_at]
      have lO : lOK Z 3 ∧ lOK Z 30 := by
        have l1 : lOK Z t1 := hF.2 (by
          rcases ht1 with rfl | rfl
          · exact lOK_cg (sI_ne (by decide)) (sI_ne (by decide)) h.2.2.1.2.2.1
          · exact lOK_cg (sI_ne (by decide)) (sI_ne (by decide)) h.2.2.1.2.2.2)
        rcases ht1 with rfl | rfl
        · exact ⟨l1, lOK_cg (hZ _ (by decide) (by decide) (by decide) (by decide)) (hZ _ (by decide) (by decide) (by decide) (by decide)) h.2.2.1.2.2.2⟩
        · exact ⟨lOK_cg (hZ _ (by decide) (by decide) (by decide) (by decide)) (hZ _ (by decide) (by decide) (by decide) (by decide)) h.2.2.1.2.2.1, l1⟩
      have hA1 : kA sh (sP (sP P 57 5 t1) 58 3 2) := kA_sP (kA_sP h.2.1 t1 kPs_57) 2 kPs_58
      cases b with
      | false =>
        obtain ⟨z1, z2, rfl, rfl⟩ := h0 rfl
        have fX : ∀ a, a ≠ 1 → sI (sI Z 1 5 (Z 57 1)) 1 6 (Z 57 2) a = Z a := fun a ha => by rw [sI_ne ha, sI_ne ha]
        have f134 : ∀ a, 134 ≤ a → sI (sI Z 1 5 (Z 57 1)) 1 6 (Z 57 2) a = I a := fun a ha => by rw [fX a (by omega), hZ a (by omega) (by omega) (by omega) (by omega)]
        refine ⟨_, rfl, pCn_im (tx_ref hA1 f134 htp hwd y1 h7 c hS hE) ?_⟩
        rintro r2 M2 ⟨J', K, hS', hE', e4, e5, -, hz⟩
        obtain ⟨rfl, rfl⟩ := hz rfl
        obtain ⟨pr, sr, dr, rr, kr, k1, k2, k3⟩ : ∃ pr sr dr rr kr, lnC J' pr sr dr rr kr ∧ ¬ J' 134 8 = 0 ∧ lnR J' pr sr dr rr kr false K := by
          rcases hE' with ⟨w, _⟩ | ⟨_, w⟩
          · cases w
          · exact w
        have hh : hlf K (sI (sI Z 1 5 (Z 57 1)) 1 6 (Z 57 2)) := (lnR_h k1.1 k3).tr ((txC_h (txS_C hS')).tr (yT0_h _ q))
        have kx : ∀ a, a < 134 → K a = sI (sI Z 1 5 (Z 57 1)) 1 6 (Z 57 2) a := fun a ha => hh.1 a (Or.inl ha)
        have k1' : K 134 1 = 0 := by
          rw [lnR_1 k3, txC_1 (txS_C hS')]
          rfl
        have X1 : ∀ k, K 1 k = if k = 6 then Z 57 2 else if k = 5 then Z 57 1 else if k = 1 then 0 else I 1 k := fun k => by
          rw [kx 1 (by decide), sI_at, sI_at, hZ1 k]
        have g := h.g f134
        have kI : ∀ a, a < 134 → a ≠ 1 → a ≠ 57 → a ≠ 58 → (a < t1 ∨ t1 + 26 < a) → K a = I a := fun a b0 b1 b2 b3 b4 => by rw [kx a b0, fX a b1, hZ a b1 b2 b3 b4]
        have gg : gR K K t np ns nd nx sz := by
          refine gR_h g hh (fun a ha => kI a (by omega) (by omega) (by omega) (by omega) (by omega)) ?_ ?_ ?_ ?_
          · rw [X1, if_neg (by decide), if_neg (by decide), if_neg (by decide)]
          · refine ⟨0, by decide, ?_, k1', fun k hk => ?_⟩
            · rw [X1, if_neg (by decide), if_neg (by decide), if_pos rfl]; rfl
            · obtain ⟨x, a1, a2⟩ := htp k hk
              exact ⟨x, a1, by rw [hh.1 135 (by decide), f134 135 (by decide)]; exact a2, fun w => absurd w (Nat.not_lt_zero k)⟩
          · rw [X1, if_neg (by decide), if_pos rfl, z1, e4]
          · rw [X1, if_pos rfl, z2, e5]
        refine ⟨rfl, t, t1, np, ns, nd, nx, sz, gg, hA1, ⟨fun w hw => ?_, fun k hk => ?_, lOK_cg ?_ ?_ lO.1, lOK_cg ?_ ?_ lO.2⟩, ?_, ⟨?_, ht1, hne⟩, ?_, fun w => ?_⟩
        · show K 60 w = _
          rw [kI 60 (by decide) (by decide) (by decide) (by decide) (by omega)]
          exact h.2.2.1.1 w hw
        · show K 136 k = _
          rw [hh.1 136 (by decide), f134 136 (by decide)]
          exact hwd k hk
        · show K 25 = _; rw [kx 25 (by decide), fX 25 (by decide)]
        · show K 26 = _; rw [kx 26 (by decide), fX 26 (by decide)]
        · show K 52 = _; rw [kx 52 (by decide), fX 52 (by decide)]
        · show K 53 = _; rw [kx 53 (by decide), fX 53 (by decide)]
        · show sP (sP P 57 5 t1) 58 3 2 1 2 = _
          rw [sP_o (by decide), sP_o (by decide)]; exact h.2.2.2.1
        · show sP (sP P 57 5 t1) 58 3 2 1 3 = _
          rw [sP_o (by decide), sP_o (by decide)]; exact h.2.2.2.2.1.1
        · show sP (sP P 57 5 t1) 58 3 2 62 0 = _
          rw [sP_o (by decide), sP_o (by decide)]; exact h.2.2.2.2.2.1
        · show sP (sP P 57 5 t1) 58 3 2 68 0 = _
          rw [sP_o (by decide), sP_o (by decide)]
          refine h.2.2.2.2.2.2 ?_
          have w' : ¬ K 1 10 = 0 := w
          rw [X1, if_neg (by decide), if_neg (by decide), if_neg (by decide)] at w'
          exact w'
      | true =>
        obtain ⟨z1, z2, ⟨pr, sr, dr, rr, kr, lK, tK⟩, rfl, rfl⟩ := h1 rfl
        have kO : ∀ a, a ≠ 1 → (a < 62 ∨ 67 < a) → a ≠ 80 → a ≠ 123 → kpX Z t1 a = Z a := fun a b1 b2 b3 b4 => kpX_o b1 b2 b3 b4
        have f134 : ∀ a, 134 ≤ a → kpX Z t1 a = I a := fun a ha => by rw [kO a (by omega) (by omega) (by omega) (by omega), hZ a (by omega) (by omega) (by omega) (by omega)]
        have hA5 : kA sh (sP (sP (sP (sP (sP P 57 5 t1) 58 3 2) 1 2 t1) 1 3 t) 62 0 t1) := kA_sP (kA_sP (kA_sP hA1 t1 kPs_1t) t kPs_1s) t1 (kPs_w (Or.inl rfl))
        refine ⟨_, rfl, pCn_im (tx_ref hA5 f134 htp hwd y1 h7 c hS hE) ?_⟩
        rintro r2 M2 ⟨J', K, hS', hE', e4, e5, hz, -⟩
        obtain ⟨al, rfl, rfl, rfl⟩ := hz rfl
        obtain ⟨p', s', d', r', k', lC, dA⟩ := txS_dr hS' ⟨0, 0, 0, 0, 0, lnC_tok (lnC_T0 (by omega) m1 (fun k hk => by rw [f134 135 (by decide)]; exact htp k hk) (fun k hk => by rw [f134 136 (by decide)]; exact hwd k hk)), yT0_dr _ q⟩
        obtain ⟨rfl, rfl, rfl, rfl, rfl⟩ := ln_uq al lK lC
        have tJ := txD_al al lK.2.2.2.2.2.1 tK
        have f45 := txC_45 (txS_C hS')
        have hj1 : K 134 1 = 0 := by rw [txC_1 (txS_C hS')]; rfl
        have w2 := h.1.2.1
        have gk := kept_y ht1 lC dA tJ ⟨z1, by rw [f45.1]; rfl⟩ ⟨z2, by rw [f45.2]; rfl⟩ ⟨by rw [hZ1, if_pos rfl], hj1⟩ ⟨by rw [hZ 62 (by decide) (by decide) (by decide) (by omega)]; exact w2.1, by rw [hZ 62 (by decide) (by decide) (by decide) (by omega)]; exact w2.2⟩ (fun k hk => by
          obtain ⟨x, a1, a2⟩ := htp k hk
          exact ⟨x, a1, by rw [((txC_h (txS_C hS')).tr (yT0_h _ q)).1 135 (by decide), f134 135 (by decide)]; exact a2⟩)
        have hh : hlf K (kpX Z t1) := (txC_h (txS_C hS')).tr (yT0_h _ q)
        have kY : ∀ a, a < 137 → a ≠ 134 → yKt K a = K a := fun a b1 b2 => yK_fr b1 b2
        have kx : ∀ a, a < 134 → yKt K a = kpX Z t1 a := fun a ha => by rw [kY a (by omega) (by omega)]; exact hh.1 a (Or.inl ha)
        have gg : gR (yKt K) (yKt K) t1 p' s' d' 0 0 := gR_cg gk (fun a b1 _ _ => kx a b1) ⟨fun _ _ _ => rfl, fun _ _ => rfl⟩
        refine ⟨rfl, t1, t, p', s', d', 0, 0, gg, hA5, ⟨fun w hw => ?_, fun k hk => ?_, lOK_cg ?_ ?_ lO.1, lOK_cg ?_ ?_ lO.2⟩, ?_, ⟨?_, ht, fun w => hne w.symm⟩, ?_, fun w => ?_⟩
        · show yKt K 60 w = _
          rw [kx 60 (by decide), kO 60 (by decide) (by decide) (by decide) (by decide), hZ 60 (by decide) (by decide) (by decide) (by omega)]
          exact h.2.2.1.1 w hw
        · show yKt K 136 k = _
          rw [kY 136 (by decide) (by decide), hh.1 136 (by decide), f134 136 (by decide)]
          exact hwd k hk
        · show yKt K 25 = _; rw [kx 25 (by decide), kO 25 (by decide) (by decide) (by decide) (by decide)]
        · show yKt K 26 = _; rw [kx 26 (by decide), kO 26 (by decide) (by decide) (by decide) (by decide)]
        · show yKt K 52 = _; rw [kx 52 (by decide), kO 52 (by decide) (by decide) (by decide) (by decide)]
        · show yKt K 53 = _; rw [kx 53 (by decide), kO 53 (by decide) (by decide) (by decide) (by decide)]
        · show sP (sP (sP (sP (sP P 57 5 t1) 58 3 2) 1 2 t1) 1 3 t) 62 0 t1 1 2 = _
          rw [sP_o (by decide), sP_k (by decide), sP_at]
        · show sP (sP (sP (sP (sP P 57 5 t1) 58 3 2) 1 2 t1) 1 3 t) 62 0 t1 1 3 = _
          rw [sP_o (by decide), sP_at]
        · show sP (sP (sP (sP (sP P 57 5 t1) 58 3 2) 1 2 t1) 1 3 t) 62 0 t1 62 0 = _
          exact sP_at
        · have w' : ¬ yKt K 1 10 = 0 := w
          rw [kx 1 (by decide), (kpX_at (Z := Z) ht1).2.2.2.2.2.2.2.2.2.2.1] at w'
          exact absurd rfl w'
  · refine pCn_im (pI_n c (ct_Ls_text (L := L) h.2.1 ht1 h.2.2.2.1 h.2.2.2.2.1.1 x1 h.2.2.1.1 q (fun _ _ => True) (fun w => absurd w c))) ?_
    rintro r M ⟨rfl, rfl⟩
    refine ⟨_, rfl, pCn_im (pI_n (by rw [y1]; exact c) (ct_Mo_text h.2.1 htp hwd y1 h7 q)) ?_⟩
    rintro r2 M2 ⟨rfl, rfl⟩
    refine ⟨rfl, (iq_keep h (gR_2 h.1 0) (fun a a1 _ _ => sI_ne (by omega)) (rep_rf _) (fun a ha => sI_ne (svA_lt ha).2.2.2.2) ?_).v⟩
    rw [sI_ne (by decide)]
end
