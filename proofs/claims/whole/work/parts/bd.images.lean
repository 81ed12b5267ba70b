/-! ===== class and reference: undo, images, runs, what is tried, chance ===== -/
section
variable {I : Nat → Nat → Int32} {L : Nat → Nat → Int64} {P : Nat → Nat → Option Nat} {sh : List pSh} {t t1 np ns nd nx sz : Nat}
theorem tw_undo (h : iq t t1 np ns nd nx sz sh I P) : two m_Ls_undo m_Mo_undo 2 1 [] sh (I, L, P) := by
  obtain ⟨n1, n2, n3, n4, n5, -⟩ := h.1.2.2.2.2.2.1
  refine pCn_im (ct_Ls_undo h.2.1 (Or.inl rfl) h.tt h.2.2.2.2.2.1 h.2.2.2.1 (kp_x_world h.2.1) n1 n2 n3 n4 rfl (by omega)) ?_
  intro r M w
  unfold rUndo at w
  by_cases z : sz = 0
  · rw [if_pos z] at w
    obtain ⟨rfl, rfl⟩ := w
    refine ⟨_, rfl, pCn_im (pI_p z (ct_Mo_undo h.2.1 n5 n4)) ?_⟩
    rintro r2 M2 ⟨rfl, I2, L2, rfl, hr⟩
    exact ⟨rfl, (iq_rep h (fun _ _ => rfl) hr).v⟩
  · rw [if_neg z] at w
    obtain ⟨rfl, rfl⟩ := w
    have fr : ∀ a, a < 62 ∨ 134 ≤ a → xRec I 62 ((nx + 19) % 20) sz a = I a := fun a ha => by
      unfold xRec
      rw [aU_ne (by omega), aU_ne (by omega), sI_ne (by omega), sI_ne (by omega)]
    have g := h.g (fun a ha => fr a (Or.inr ha))
    refine ⟨_, rfl, pCn_im (pI_n z (ct_Mo_undo h.2.1 (u := sz) (by rw [fr 134 (by decide)]; exact n5) n4)) ?_⟩
    rintro r2 M2 ⟨rfl, L2, rfl⟩
    have fy : ∀ (Z : Nat → Nat → Int32) (i : Nat) (x : Int32) (a : Nat), a < 162 → a ≠ 134 → yTk (sI (sI Z 134 2 0) 134 86 x) 181 i a = Z a := fun Z i x a a1 a2 => by
      unfold yTk
      rw [aU_ne (by omega), aU_ne (by omega), aU_ne (by omega), sI_ne a2, sI_ne a2]
    refine ⟨rfl, (iq_keep h (undo_y g z) (fun a a1 _ _ => fy _ _ _ a (by omega) (by omega)) (rep_rf _) (fun a ha => ?_) ?_).v⟩
    · have := svA_lt ha
      rw [fy _ _ _ a (by omega) (by omega), fr a (by omega)]
    · rw [fy _ _ _ 1 (by omega) (by omega), fr 1 (by omega)]
theorem yKeep_fr {a : Nat} (h1 : a ≠ 134) (h2 : a < 182) : yKeep I a = I a := by
  unfold yKeep
  rw [sI_ne h1, aU_ne (by omega), aU_ne (by omega), aU_ne (by omega), sI_ne h1, sI_ne h1]
theorem yBack_fr {a : Nat} (h1 : a ≠ 134) (h2 : a < 162) : yBack I a = I a := by
  unfold yBack yTk
  rw [sI_ne h1, sI_ne (by omega), aU_ne (by omega), aU_ne (by omega), aU_ne (by omega), aU_ne (by omega), aU_ne (by omega), sI_ne h1]
theorem tw_keep (h : iq t t1 np ns nd nx sz sh I P) : two m_Ls_keep m_Mo_keep 2 1 [] sh (I, L, P) := by
  have hB : kA sh (sP P 68 0 t) := kA_sP h.2.1 t (kPs_w (Or.inr (Or.inl rfl)))
  refine pCn_im (ct_Ls_keep h.2.1 (Or.inl rfl) h.tt h.2.2.2.2.2.1 h.2.2.2.1 (kp_x_world h.2.1) (Or.inr (Or.inl rfl)) (by decide) (kp_x_image h.2.1) (Or.inr h.1.2.1.1) (Or.inr h.1.2.1.2)) ?_
  rintro r M ⟨rfl, rfl⟩
  have fr : ∀ a, a ≠ 1 → (a < 68 ∨ 74 ≤ a) → sI (xCopy I 68 62) 1 10 1 a = I a := fun a h1 h2 => by rw [sI_ne h1, xCopy_ne (by omega)]
  have g := h.g (fun a ha => fr a (by omega) (by omega))
  refine ⟨_, rfl, pCn_im (ct_Mo_keep hB) ?_⟩
  rintro r2 M2 ⟨rfl, L2, rfl⟩
  refine ⟨by rw [show I 62 1 = _ from g.1.2.1.2.2.2.1], (iq_mk h (keep_y g) (fun a a1 _ _ => yKeep_fr (by omega) (by omega)) (rep_rf _) (fun a ha => ?_) hB ((sP_o (by decide)).trans h.2.2.2.1) ((sP_o (by decide)).trans h.2.2.2.2.1.1) ((sP_o (by decide)).trans h.2.2.2.2.2.1) (fun _ => sP_at)).v⟩
  have := svA_lt ha
  rw [yKeep_fr (by omega) (by omega), fr a (by omega) (by omega)]
theorem ct_Ls_back0 {sh : List pSh} {I : Nat → Nat → Int32} {L : Nat → Nat → Int64} {P : Nat → Nat → Option Nat} (hA : kA sh P) (h0 : I 1 10 = 0) : pCn m_Ls_back 2 [.ref 1] sh (I, L, P) (rI (-1) (I, L, P)) := by
  refine pCn_of (by decide +kernel) (Nat.le_of_ble_eq_true rfl) ?_
  refine pw_aload_n (k4 := 0) rfl (by decide +kernel) ?_
  refine pq_getI (c := 10) (k := 10) (ks_x hA) (by decide) (by decide) lf_Ls_114 (by decide +kernel) ?_
  refine pw_if_ne (off := 5) (tgt := 9) (by decide +kernel) (by decide +kernel) (fun z4 => ?_) (fun z4 => ?_)
  · exact absurd h0 z4
  · refine pw_iconst (n := -1) (v := -1) (by decide) (by decide +kernel) ?_
    exact pq_iret rfl (by decide +kernel) ⟨rfl, rfl⟩
theorem tw_back (h : iq t t1 np ns nd nx sz sh I P) : two m_Ls_back m_Mo_back 2 1 [] sh (I, L, P) := by
  by_cases c : I 1 10 = 0
  · exact tw_A h (cI (ct_Ls_back0 h.2.1 c)) (fun I1 L1 hf g => pI_p ((back_y g).1.mp c) (ct_Mo_back h.2.1))
  · have hB : kA sh (sP P 62 0 t) := kA_sP h.2.1 t (kPs_w (Or.inl rfl))
    have h68 := h.2.2.2.2.2.2 c
    obtain ⟨-, -, -, -, -, -, i2, i3, -⟩ := h.1.2.2.2.2.2.2.1.1.resolve_left (fun w => c w.1)
    refine pCn_im (pI_n c (ct_Ls_back h.2.1 (Or.inl rfl) h.tt h.2.2.2.2.2.1 h.2.2.2.1 (kp_x_world h.2.1) (Or.inr (Or.inl rfl)) (by decide) (kp_x_image h.2.1) h68 (Or.inr i2) (Or.inr i3))) ?_
    rintro r M ⟨rfl, rfl⟩
    have fr : ∀ a, a < 62 ∨ 80 < a → sI (sI (xCopy I 62 68) 80 0 0) 80 1 0 a = I a := fun a h1 => by rw [sI_ne (by omega), sI_ne (by omega), xCopy_ne (by omega)]
    have g := h.g (fun a ha => fr a (by omega))
    obtain ⟨e1, e2⟩ := back_y g
    have c' : ¬ sI (sI (xCopy I 62 68) 80 0 0) 80 1 0 134 88 = 0 := fun w => c (e1.mpr w)
    obtain ⟨e3, e4⟩ := e2 c'
    refine ⟨_, rfl, pCn_im (pI_n c' (ct_Mo_back hB)) ?_⟩
    rintro r2 M2 ⟨rfl, L2, rfl⟩
    refine ⟨by rw [e3], (iq_mk h e4 (fun a a1 _ _ => yBack_fr (by omega) (by omega)) (rep_rf _) (fun a ha => ?_) hB ((sP_o (by decide)).trans h.2.2.2.1) ((sP_o (by decide)).trans h.2.2.2.2.1.1) sP_at (fun _ => (sP_o (by decide)).trans h68)).v⟩
    have := svA_lt ha
    rw [yBack_fr (by omega) (by omega), fr a (by omega)]
theorem tw_run (h : iq t t1 np ns nd nx sz sh I P) (b : Int32) : two m_Ls_run m_Mo_run 2 8 [.int b] sh (I, L, P) := by
  have hc := ct_Ls_run h.2.1 (L := L) (Or.inl rfl) h.tt h.2.2.2.2.2.1 h.2.2.2.1 (kp_x_world h.2.1) h.tO b
  obtain ⟨c, hcl, hcf⟩ := h.1.2.2.2.2.2.2.1.2.2.1
  have h5 := h.1.1.lnp
  obtain ⟨bk1, bk2⟩ := bank_y h.1.1
  by_cases k : xClaims (I (t + 5)) b np
  · refine pCn_im (pI_p k hc) ?_
    rintro r M ⟨rfl, rfl⟩
    refine ⟨_, rfl, pCn_im (pI_p ((claims_y hcl hcf h5 b).mp k) (ct_Mo_run h.2.1 h.1.1.1.1.2.1 h.1.1.1.2.1 (mI_o h.1.1.2.2.1) hcl b)) ?_⟩
    rintro r2 M2 ⟨b0, j, rfl, hb0, rfl, hj, I2, L2, rfl, hr⟩
    refine ⟨?_, (iq_rep h (fun _ _ => rfl) hr).v⟩
    rw [bk1, xRun_nI hcf hcl.2.1 h5 bk2 hb0, run_fix h5 hb0 hj]
  · refine tw_A h (cI (pI_n k hc)) (fun I1 L1 hf g => ?_)
    obtain ⟨c', hcl', hcf'⟩ := g.2.2.2.2.2.2.1.2.2.1
    exact pI_n (fun w => k ((claims_y hcl' hcf' h5 b).mpr w)) (ct_Mo_run h.2.1 g.1.1.1.2.1 g.1.1.2.1 (mI_o g.1.2.2.1) hcl' b)
theorem tw_save (h : iq t t1 np ns nd nx sz sh I P) (b : Int32) : two m_Ls_save m_Mo_save 2 8 [.int b] sh (I, L, P) := by
  have hc := ct_Ls_save h.2.1 (L := L) (Or.inl rfl) h.tt h.2.2.2.2.2.1 h.2.2.2.1 (kp_x_world h.2.1) h.tO b
  obtain ⟨c, hcl, hcf⟩ := h.1.2.2.2.2.2.2.1.2.2.1
  have h5 := h.1.1.lnp
  obtain ⟨bk1, bk2⟩ := bank_y h.1.1
  by_cases k : xClaims (I (t + 5)) b np
  · refine pCn_im (pI_p k hc) ?_
    rintro r M ⟨rfl, rfl⟩
    refine ⟨_, rfl, pCn_im (pI_p ((claims_y hcl hcf h5 b).mp k) (ct_Mo_save h.2.1 h.1.1.1.1.2.1 h.1.1.1.2.1 (mI_o h.1.1.2.2.1) hcl b)) ?_⟩
    rintro r2 M2 ⟨b0, x, rfl, hb0, rfl, hx, hl, I2, L2, rfl, hr⟩
    refine ⟨?_, (iq_rep h (fun _ _ => rfl) hr).v⟩
    rw [bk1, xSave_nI hcf hcl.2.1 h5 bk2 hb0 hx hl]
  · refine tw_A h (cI (pI_n k hc)) (fun I1 L1 hf g => ?_)
    obtain ⟨c', hcl', hcf'⟩ := g.2.2.2.2.2.2.1.2.2.1
    exact pI_n (fun w => k ((claims_y hcl' hcf' h5 b).mpr w)) (ct_Mo_save h.2.1 g.1.1.1.2.1 g.1.1.2.1 (mI_o g.1.2.2.1) hcl' b)
theorem tw_tried (h : iq t t1 np ns nd nx sz sh I P) (a i n : Int32) : two m_Ls_tried m_Mo_tried 6 9 [.int a, .int i, .int n] sh (I, L, P) := by
  have hc := ct_Ls_tried h.2.1 (L := L) (Or.inl rfl) h.tt h.2.2.2.2.2.1 h.2.2.2.1 (kp_x_world h.2.1) h.tO h.l (gR_d h.1) (Or.inr (Or.inr rfl)) (by decide) (kp_x_trial h.2.1) (Or.inr h.1.2.1.1) (Or.inr h.1.2.1.2) a i n
  by_cases c : xCanTry I t a i ∧ 0 ≤ n ∧ n ≤ 50 ∧ I 62 1 + n ≤ 999
  · have hB : kA sh (sP P 74 0 t) := kA_sP h.2.1 t (kPs_w (Or.inr (Or.inr rfl)))
    refine pCn_im (pI_p c hc) ?_
    rintro r M ⟨rfl, I1, L1, rfl, ho⟩
    have fr : ∀ q, q < 74 ∨ 80 ≤ q → q ≠ 61 → I1 q = I q := fun q hq h6 => by rw [ho q h6, xDays_ne (by omega), xTry_ne (by omega)]
    have g := h.g (fun q hq => fr q (by omega) (by omega))
    have c' := (can_y g a i n).mp c
    refine ⟨_, rfl, pCn_im (pI_p c' (ct_Mo_tried hB g.1.1.1.2.1 g.1.1.2.1 g.1.1.2.2.1 g.1.1.2.2.2 g.1.2.2.1 a i n)) ?_⟩
    rintro r2 M2 ⟨rfl, I2, L2, rfl, hr⟩
    obtain ⟨e1, e2⟩ := tried_y g c'.1 c'.2.1 c'.2.2.1 c'.2.2.2
    have fy : ∀ q, q < 162 → q ≠ 134 → yTrd (yDays (yTry I1 np a i) 1 np ns nd (ixn n)) q = I1 q := fun q q1 q2 => by
      unfold yTrd
      rw [sI_ne q2, sI_ne q2, sI_ne q2, yDays_fr (by omega), (sm0_try I1 np a i).1 q (by omega)]
      unfold yFl
      rw [sI_ne q2, sI_ne q2, sI_ne q2, (sm0_lay I1).1 q (by omega)]
    refine ⟨by rw [e1], (iq_mk h e2 (fun q q1 q2 q3 => ?_) hr (fun q hq => ?_) hB ((sP_o (by decide)).trans h.2.2.2.1) ((sP_o (by decide)).trans h.2.2.2.2.1.1) ((sP_o (by decide)).trans h.2.2.2.2.2.1) (fun w => (sP_o (by decide)).trans (h.2.2.2.2.2.2 ?_))).v⟩
    · rw [fy q (by omega) (by omega), ho q ((sc_iff q).mp q3).2.2.1]
    · have := svA_lt hq
      have := hq
      unfold svA at this
      rw [fy q (by omega) (by omega), fr q (by omega) (by omega)]
    · rw [fy 1 (by omega) (by omega), fr 1 (by omega) (by omega)] at w
      exact w
  · refine tw_A h (cI (pI_n c hc)) (fun I1 L1 hf g => pI_n (fun w => c ((can_y g a i n).mpr w)) (ct_Mo_tried h.2.1 g.1.1.1.2.1 g.1.1.2.1 g.1.1.2.2.1 g.1.1.2.2.2 g.1.2.2.1 a i n))
theorem tw_chance (h : iq t t1 np ns nd nx sz sh I P) (sd n p bd : Int32) : two m_Ls_chance m_Mo_chance 6 9 [.int sd, .int n, .int p, .int bd] sh (I, L, P) := by
  have hc := ct_Ls_chance h.2.1 (L := L) (Or.inl rfl) h.tt h.2.2.2.2.2.1 h.2.2.2.1 (kp_x_world h.2.1) h.tO h.l (gR_d h.1) (Or.inr (Or.inr rfl)) (by decide) (kp_x_trial h.2.1) (Or.inr h.1.2.1.1) (Or.inr h.1.2.1.2) (yn := 10) rfl sd n p bd
  have hday : ∀ {Y : Nat → Nat → Int32}, gR I Y t np ns nd nx sz → I 62 1 = Y 167 0 := fun g => g.1.2.1.2.2.2.1
  by_cases c : 0 ≤ sd ∧ 1 ≤ n ∧ n ≤ 30 ∧ xHasP I t p ∧ 0 ≤ bd ∧ bd ≤ 9999 ∧ I 62 1 + n ≤ 999
  · have hB : kA sh (sP P 74 0 t) := kA_sP h.2.1 t (kPs_w (Or.inr (Or.inr rfl)))
    refine pCn_im (pI_p c hc) ?_
    rintro r M ⟨rfl, I1, L1, rfl, ho⟩
    have fr : ∀ q, q < 74 ∨ 80 ≤ q → q ≠ 61 → I1 q = I q := fun q hq h6 => by rw [ho q h6, xCha_ne (by omega)]
    have g := h.g (fun q hq => fr q (by omega) (by omega))
    have c' : 0 ≤ sd ∧ (1 ≤ n ∧ n ≤ 30) ∧ yHasP I1 p ∧ (0 ≤ bd ∧ bd ≤ 9999) ∧ I1 167 0 + n ≤ 999 := ⟨c.1, ⟨c.2.1, c.2.2.1⟩, (g.1.1.1.hasP p).mp c.2.2.2.1, ⟨c.2.2.2.2.1, c.2.2.2.2.2.1⟩, by rw [← hday g]; exact c.2.2.2.2.2.2⟩
    refine ⟨_, rfl, pCn_im (pI_p c' (ct_Mo_chance hB g.1.1.1.2.1 g.1.1.2.1 g.1.1.2.2.1 g.1.1.2.2.2 g.1.2.2.1 sd n p bd)) ?_⟩
    rintro r2 M2 ⟨rfl, I2, L2, rfl, hr⟩
    obtain ⟨dd, d1, d2⟩ := g.2.2.2.2.1
    obtain ⟨m1, m2⟩ := nI_ix (q := n) (m := 30) (by decide) (Int32.le_trans (by decide) c.2.1) c.2.2.1
    have hn : dd + ixn n ≤ 999 := by
      have := c'.2.2.2.2
      rw [d2, m1] at this
      have q := Int32.le_iff_toInt_le.mp this
      have e : nI dd + nI (ixn n) = nI (dd + ixn n) := nI_add dd (ixn n)
      rw [e, nI_toInt (by omega)] at q
      have z : (999 : Int32).toInt = 999 := rfl
      omega
    obtain ⟨e1, e2, e3⟩ := chance_y g d2 hn sd p bd 10
    have fy : ∀ q, q < 162 → yChM I1 np ns nd (ixn n) sd 10 q = I1 q := fun q q1 => (sm0_ch I1 np ns nd (ixn n) sd 10).1 q (Or.inl q1)
    refine ⟨by rw [e3], (iq_mk h e1 (fun q q1 q2 q3 => ?_) hr (fun q hq => ?_) hB ((sP_o (by decide)).trans h.2.2.2.1) ((sP_o (by decide)).trans h.2.2.2.2.1.1) ((sP_o (by decide)).trans h.2.2.2.2.2.1) (fun w => (sP_o (by decide)).trans (h.2.2.2.2.2.2 ?_))).v⟩
    · rw [fy q (by omega), ho q ((sc_iff q).mp q3).2.2.1]
    · have := svA_lt hq
      have := hq
      unfold svA at this
      rw [fy q (by omega), fr q (by omega) (by omega)]
    · rw [fy 1 (by omega), fr 1 (by omega) (by omega)] at w
      exact w
  · refine tw_A h (cI (pI_n c hc)) (fun I1 L1 hf g => pI_n (fun w => c ⟨w.1, w.2.1.1, w.2.1.2, (g.1.1.1.hasP p).mpr w.2.2.1, w.2.2.2.1.1, w.2.2.2.1.2, by rw [hday g]; exact w.2.2.2.2⟩) (ct_Mo_chance h.2.1 g.1.1.1.2.1 g.1.1.2.1 g.1.1.2.2.1 g.1.1.2.2.2 g.1.2.2.1 sd n p bd))
end
