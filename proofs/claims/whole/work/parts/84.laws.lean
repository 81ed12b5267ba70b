/-! ===== the reference: a law is read to its end ===== -/
def sumA : Nat → List (Nat × Nat) → List Nat → Bool → Bool → Nat → Nat → (Nat → Nat → Int32) → Nat × List (Nat × Nat) × List Nat × Bool × Bool × Nat × Nat × (Nat → Nat → Int32)
  | 0, E, W, wn, mn, br, cn, G => (9, E, W, wn, mn, br, cn, G)
  | c + 1, E, W, wn, mn, br, cn, G => if (G 134 8 = 4 ∧ G 134 9 = 59) ∧ wn = false ∧ br = 0 then (0, (bindA 1 W E).2, (bindA 1 W E).1, wn, mn, br, cn, G) else
      (fun X : Nat × List (Nat × Nat) × List Nat × Bool × Bool × Nat × Nat × (Nat → Nat → Int32) => if X.1 = 0 then sumA c X.2.1 X.2.2.1 X.2.2.2.1 X.2.2.2.2.1 X.2.2.2.2.2.1 X.2.2.2.2.2.2.1 X.2.2.2.2.2.2.2 else X) (if wn = true then leafA E W true mn br cn G else signsA E W false mn br cn G)
theorem leafA_G {E E' : List (Nat × Nat)} {W W' : List Nat} {wn mn wn' mn' : Bool} {br cn br' cn' : Nat} {G G' : Nat → Nat → Int32} (h : leafA E W wn mn br cn G = (0, E', W', wn', mn', br', cn', G')) : G' = yTok G ∧ ¬ G 134 8 = 0 := by
  unfold leafA at h
  by_cases h1 : G 134 8 = 4 ∧ G 134 9 = 40
  · rw [if_pos h1] at h
    by_cases h2 : br = 8
    · rw [if_pos h2] at h; cases h
    · rw [if_neg h2] at h; cases h; exact ⟨rfl, by rw [h1.1]; decide⟩
  rw [if_neg h1] at h
  by_cases h2 : (G 134 8 = 1 ∧ G 134 9 = 18) ∧ mn = true
  · rw [if_pos h2] at h
    by_cases h3 : cn = 64
    · rw [if_pos h3] at h; cases h
    · rw [if_neg h3] at h; cases h; exact ⟨rfl, by rw [h2.1.1]; decide⟩
  rw [if_neg h2] at h
  by_cases h3 : nmA G < 0 ∧ ¬ G 134 8 = 3
  · rw [if_pos h3] at h; cases h
  rw [if_neg h3] at h
  by_cases h4 : nmA G < 0 ∧ 9999 < G 134 9
  · rw [if_pos h4] at h; cases h
  rw [if_neg h4] at h
  by_cases h5 : cn = 64
  · rw [if_pos h5] at h; cases h
  rw [if_neg h5] at h
  cases h
  refine ⟨rfl, fun e => h3 ⟨?_, by rw [e]; decide⟩⟩
  unfold nmA
  rw [if_pos (by rw [e]; decide)]
  decide
theorem signsA_G {E E' : List (Nat × Nat)} {W W' : List Nat} {wn mn wn' mn' : Bool} {br cn br' cn' : Nat} {G G' : Nat → Nat → Int32} (h : signsA E W wn mn br cn G = (0, E', W', wn', mn', br', cn', G')) : G' = yTok G ∧ ¬ G 134 8 = 0 := by
  unfold signsA at h
  by_cases h1 : (G 134 8 = 4 ∧ G 134 9 = 41) ∧ 0 < br
  · rw [if_pos h1] at h; cases h; exact ⟨rfl, by rw [h1.1.1]; decide⟩
  rw [if_neg h1] at h
  by_cases h2 : opA G = 0
  · rw [if_pos h2] at h; cases h
  rw [if_neg h2] at h
  by_cases h3 : rkN (opA G) = 4 ∧ rkN ((bindA 5 W E).1.headD 0) = 4
  · rw [if_pos h3] at h; cases h
  rw [if_neg h3] at h
  by_cases h4 : cn = 64
  · rw [if_pos h4] at h; cases h
  rw [if_neg h4] at h
  cases h
  refine ⟨rfl, fun e => h2 ?_⟩
  unfold opA
  rw [e]
  simp
/-- how much is left to be read -/
def muG (G : Nat → Nat → Int32) : Nat := 2 * (ixn (G 134 6) - ixn (G 134 7)) + (if G 134 8 = 0 then 0 else 1)
theorem runTo_1 {p : Nat → Bool} {c k : Nat} (hc : 0 < c) (h : p k = true) : k < runTo p c k := by
  obtain ⟨d, rfl⟩ : ∃ d, c = d + 1 := ⟨c - 1, by omega⟩
  rw [show runTo p (d + 1) k = runTo p d (k + 1) from if_pos h]
  have := (runTo_le p d (k + 1)).1
  omega
theorem tkE_gt {b : Nat → Nat} {n a : Nat} (h : a < n) : a < tkE b n a := by
  unfold tkE
  rw [if_neg (by omega)]
  by_cases q2 : smP b n a
  · rw [if_pos q2]; exact runTo_1 (by omega) (decide_eq_true q2)
  · rw [if_neg q2]
    by_cases q3 : dgP b n a
    · rw [if_pos q3]; exact runTo_1 (by omega) (decide_eq_true q3)
    · rw [if_neg q3]; unfold sgE; split <;> omega
theorem muG_tok {G : Nat → Nat → Int32} (hp : prI G) (hk : ¬ G 134 8 = 0) : muG (yTok G) < muG G := by
  obtain ⟨h1, h2, n, p, h3, h4, h5, h6⟩ := hp
  have ha := tkA_le (b := bT G) h6
  have e6 : yTok G 134 6 = nI n := h3
  have e7 : yTok G 134 7 = nI (tkE (bT G) n (tkA (bT G) n p)) := by show nI (tkE (bT G) (ixn (G 134 6)) (tkA (bT G) (ixn (G 134 6)) (ixn (G 134 7)))) = _; rw [h3, h5, ixn_nI (by omega), ixn_nI (by omega)]
  have e8 : yTok G 134 8 = nI (tkK (bT G) n (tkA (bT G) n p)) := by show nI (tkK (bT G) (ixn (G 134 6)) (tkA (bT G) (ixn (G 134 6)) (ixn (G 134 7)))) = _; rw [h3, h5, ixn_nI (by omega), ixn_nI (by omega)]
  have he := tkE_le (b := bT G) ha.2
  unfold muG
  rw [e6, e7, e8, h3, h5, ixn_nI (by omega), ixn_nI (by omega), ixn_nI (by omega), if_neg hk]
  by_cases q : tkA (bT G) n p = n
  · rw [show tkK (bT G) n (tkA (bT G) n p) = 0 from if_pos q, if_pos (show nI 0 = 0 from rfl)]
    rw [q] at he ⊢
    omega
  · have := tkE_gt (b := bT G) (show tkA (bT G) n p < n by omega)
    split <;> omega
theorem muG_le {G : Nat → Nat → Int32} (hp : prI G) : muG G ≤ 1401 := by
  obtain ⟨h1, h2, n, p, h3, h4, h5, h6⟩ := hp
  unfold muG
  rw [h3, h5, ixn_nI (by omega), ixn_nI (by omega)]
  split <;> omega
def rSm (X : Nat × List (Nat × Nat) × List Nat × Bool × Bool × Nat × Nat × (Nat → Nat → Int32)) (I : Nat → Nat → Int32) (L : Nat → Nat → Int64) (P : Nat → Nat → Option Nat) (b0 : Nat) : Option Value → pM → Prop := fun r M => ∃ f E W wn mn br cn G J, X = (f, E, W, wn, mn, br, cn, G) ∧ r = some (.int (bI (decide (f = 0)))) ∧ M = (J, L, P) ∧ prI J ∧ sgF J I b0 ∧ (f = 0 → (∃ x, shS J b0 E [] [x]) ∧ W = [] ∧ b0 + E.length = cn ∧ cn ≤ 64 ∧ J 134 49 = nI cn ∧ tq J G ∧ prI G ∧ G 134 8 = 4 ∧ G 134 9 = 59) ∧ (¬ f = 0 → J 134 4 = nI f ∧ J 134 5 = G 134 10)

set_option maxHeartbeats 8000000 in
theorem ct_Mo_sumRead {sh : List pSh} {I : Nat → Nat → Int32} {L : Nat → Nat → Int64} {P : Nat → Nat → Option Nat} (hA : kA sh P) {b0 : Nat} {G : Nat → Nat → Int32} (hkr : I 134 21 = nI b0) (hcn : I 134 49 = nI b0) (hb64 : b0 ≤ 64) (hp : prI I) (htq : tq I G) (htk : tkI G) (hpG : prI G) {X : Nat × List (Nat × Nat) × List Nat × Bool × Bool × Nat × Nat × (Nat → Nat → Int32)} (hX : X = sumA 1500 [] [] true true 0 b0 G) : pCn m_Mo_sumRead 3 [.ref 134] sh (I, L, P) (rSm X I L P b0) := by
  refine pCn_of (by decide +kernel) (Nat.le_of_ble_eq_true rfl) ?_
  have hL := pDown (fun c => ∀ (E : List (Nat × Nat)) (W : List Nat) (wn mn : Bool) (br cn : Nat) (G K : Nat → Nat → Int32), sgI K b0 E W wn mn br cn G → prI G → muG G < c → sumA c E W wn mn br cn G = X → sgF K I b0 → pWn m_Mo_sumRead 3 sh (rSm X I L P b0) 25 [some (.ref 134)] [] (K, L, P)) (by
    intro c ih E W wn mn br cn G K hs hpG hmc hV hF
    obtain ⟨c, rfl⟩ : ∃ j, c = j + 1 := ⟨c - 1, by omega⟩
    obtain ⟨hX0, hwn, hmn, hp, htq, htk⟩ := id hs
    have hlens := sgX_len hX0
    have hbr : K 134 48 = nI br := by obtain ⟨S, _, _, _, _, _, _, _, q, _⟩ := hX0; exact q
    have h48 : ¬ ((G 134 8 = 4 ∧ G 134 9 = 59) ∧ wn = false ∧ br = 0) → pWn m_Mo_sumRead 3 sh (rSm X I L P b0) 48 [some (.ref 134)] [] (K, L, P) := by
      intro hnd
      refine pw_aload_n (k4 := 0) rfl (by decide +kernel) ?_
      refine pq_getI (c := 11) (k := 50) (ks_m hA) (by decide) (by decide) lf_Mo_350 (by decide +kernel) ?_
      refine pw_if_eq (off := 13) (tgt := 65) (by decide +kernel) (by decide +kernel) (fun z52 => ?_) (fun z52 => ?_)
      · have hw : wn = false := bI_0 (by rw [← hwn]; exact z52)
        subst hw
        refine pw_aload_n (k4 := 0) rfl (by decide +kernel) ?_
        refine pq_callV (ν := m_Mo_signs) (d' := 2) (av := []) (c := 11) (by decide +kernel) lm_Mo_359 ok_Mo_signs (show _ = some 0 by decide +kernel) (ks_m hA) rfl (by decide) (by omega) (Nat.le_of_ble_eq_true rfl) (ct_Mo_signs hA (b0 := b0) (by exact hs) hpG) ?_
        rintro _ _ ⟨f, E', W', wn', mn', br', cn', G', J, hXX, rfl, rfl, hpJ, hsf, hok, hno⟩
        refine pw_if_ne (off := -44) (tgt := 25) (by decide +kernel) (by decide +kernel) (fun z69 => ?_) (fun z69 => ?_)
        · have hf : f = 0 := of_decide_eq_true (bI_1 z69)
          subst hf
          obtain ⟨hG1, hG2⟩ := signsA_G hXX
          obtain ⟨hok1, hok2⟩ := hok rfl
          subst hG1
          have hmu := muG_tok hpG hG2
          refine ih c rfl E' W' wn' mn' br' cn' _ J hok1 (prI_tok hpG) (by omega) ?_ ((hsf.tr hF (by omega)))
          rw [← hV]
          refine Eq.trans ?_ (if_neg hnd).symm
          rw [if_neg (by decide), hXX]
          exact (if_pos rfl).symm
        · have hf : ¬ f = 0 := of_decide_eq_false (bI_0 z69)
          refine pw_iconst (n := 0) (v := 0) (by decide) (by decide +kernel) ?_
          exact pq_zret rfl (by decide) (by decide +kernel) ⟨f, E', W', wn', mn', br', cn', G', J, by rw [← hV]; refine (if_neg hnd).trans ?_; rw [if_neg (by decide), hXX]; exact if_neg hf, by rw [decide_eq_false hf]; rfl, rfl, hpJ, hsf.tr hF (by omega), fun w => absurd w hf, hno⟩
      · have hw : wn = true := bI_1 (by rw [← hwn]; exact z52)
        subst hw
        refine pw_aload_n (k4 := 0) rfl (by decide +kernel) ?_
        refine pq_callV (ν := m_Mo_leafRead) (d' := 2) (av := []) (c := 11) (by decide +kernel) lm_Mo_356 ok_Mo_leafRead (show _ = some 0 by decide +kernel) (ks_m hA) rfl (by decide) (by omega) (Nat.le_of_ble_eq_true rfl) (ct_Mo_leafRead hA (b0 := b0) (by exact hs) hpG) ?_
        rintro _ _ ⟨f, E', W', wn', mn', br', cn', G', J, hXX, rfl, rfl, hpJ, hsf, hok, hno⟩
        refine pw_if_eq (off := 13) (tgt := 72) (by decide +kernel) (by decide +kernel) (fun z59 => ?_) (fun z59 => ?_)
        · have hf : ¬ f = 0 := of_decide_eq_false (bI_0 z59)
          refine pw_iconst (n := 0) (v := 0) (by decide) (by decide +kernel) ?_
          exact pq_zret rfl (by decide) (by decide +kernel) ⟨f, E', W', wn', mn', br', cn', G', J, by rw [← hV]; refine (if_neg hnd).trans ?_; rw [if_pos rfl, hXX]; exact if_neg hf, by rw [decide_eq_false hf]; rfl, rfl, hpJ, hsf.tr hF (by omega), fun w => absurd w hf, hno⟩
        · have hf : f = 0 := of_decide_eq_true (bI_1 z59)
          subst hf
          obtain ⟨hG1, hG2⟩ := leafA_G hXX
          obtain ⟨hok1, hok2⟩ := hok rfl
          refine pw_goto (off := -37) (tgt := 25) (by decide +kernel) (by decide +kernel) ?_
          subst hG1
          have hmu := muG_tok hpG hG2
          refine ih c rfl E' W' wn' mn' br' cn' _ J hok1 (prI_tok hpG) (by omega) ?_ ((hsf.tr hF (by omega)))
          rw [← hV]
          refine Eq.trans ?_ (if_neg hnd).symm
          rw [if_pos rfl, hXX]
          exact (if_pos rfl).symm
    refine pw_aload_n (k4 := 0) rfl (by decide +kernel) ?_
    refine pw_bipush (n := 59) (v := 59) (by decide) (by decide +kernel) ?_
    refine pq_callV (ν := m_Mo_isSign) (d' := 0) (av := [_]) (c := 11) (by decide +kernel) lm_Mo_230 ok_Mo_isSign (show _ = some 1 by decide +kernel) (ks_m hA) rfl (by decide) (by omega) (Nat.le_of_ble_eq_true rfl) (ct_Mo_isSign hA _) ?_
    rintro _ _ ⟨rfl, rfl⟩
    refine pn_ifB_eq (off := 17) (tgt := 48) (by decide +kernel) (by decide +kernel) (fun z31 => ?_) (fun z31 => ?_)
    · exact h48 (fun w => z31 (by rw [(htq.2.2 8 (by decide) (by decide)), (htq.2.2 9 (by decide) (by decide))]; exact w.1))
    · refine pw_aload_n (k4 := 0) rfl (by decide +kernel) ?_
      refine pq_getI (c := 11) (k := 50) (ks_m hA) (by decide) (by decide) lf_Mo_350 (by decide +kernel) ?_
      refine pw_if_ne (off := 10) (tgt := 48) (by decide +kernel) (by decide +kernel) (fun z38 => ?_) (fun z38 => ?_)
      · exact h48 (fun w => absurd w.2.1 (by rw [show wn = true from bI_1 (by rw [← hwn]; exact z38)]; decide))
      · refine pw_aload_n (k4 := 0) rfl (by decide +kernel) ?_
        refine pq_getI (c := 11) (k := 48) (ks_m hA) (by decide) (by decide) lf_Mo_334 (by decide +kernel) ?_
        refine pn_val (nI (br)) (by exact hbr) ?_
        refine pn_if_le (off := 29) (tgt := 74) br rfl (by omega) (by decide +kernel) (by decide +kernel) (fun z45 => ?_) (fun z45 => ?_)
        · have hwf : wn = false := bI_0 (by rw [← hwn]; exact z38)
          subst hwf
          rw [if_neg (by decide)] at hX0
          obtain ⟨S, hS1, hSn, hS3, hc64, hS5, hS6, hS7, hbr2, hcn⟩ := hX0
          have hW14 : ∀ k ∈ W, (k = 0 ∨ 2 ≤ k) ∧ k ≤ 14 := fun k hk => ⟨hS7 k hk, hS1.2.2.2.2.2.2 k hk⟩
          have hwl2 := W_len W hS7
          have hWn : (bindA 1 W E).1 = [] := ((bindA_0 W E hW14).resolve_right (fun w => by omega)).2
          have hop := bindA_op 1 (by decide) W E
          refine pw_aload_n (k4 := 0) rfl (by decide +kernel) ?_
          refine pw_iconst (n := 1) (v := 1) (by decide) (by decide +kernel) ?_
          refine pq_callV (ν := m_Mo_bind) (d' := 1) (av := [_]) (c := 11) (by decide +kernel) lm_Mo_353 ok_Mo_bind (show _ = some 1 by decide +kernel) (ks_m hA) rfl (by decide) (by omega) (Nat.le_of_ble_eq_true rfl) (ct_Mo_bind hA (b0 := b0) (least := 1) (by decide) (by decide) (E := E) (W := W) (by exact hS1) hSn (by omega) (by omega) (by omega)) ?_
          rintro _ _ ⟨rfl, J, S2, rfl, hJS, hJn, hJF⟩
          refine pw_iconst (n := 1) (v := 1) (by decide) (by decide +kernel) ?_
          exact pq_zret rfl (by decide) (by decide +kernel) ⟨0, (bindA 1 W E).2, (bindA 1 W E).1, false, mn, br, cn, G, J, by rw [← hV]; exact if_pos ⟨⟨by rw [← (htq.2.2 8 (by decide) (by decide))]; exact z31.1, by rw [← (htq.2.2 9 (by decide) (by decide))]; exact z31.2⟩, rfl, by omega⟩, rfl, rfl, prI_shF hp hJF, (sgF_shF (sgF.rf _ _) hJF (by omega)).tr hF (Nat.le_refl _), fun _ => ⟨by rw [hWn] at hJS hJn; obtain ⟨x, T, hT⟩ := len1 (show 1 ≤ S2.length by rw [hJn]; exact Nat.le_add_left _ _); rw [hT] at hJS hJn; have hT0 : T = [] := List.eq_nil_of_length_eq_zero (by have : T.length + 1 = 0 + 1 := hJn; omega); rw [hT0] at hJS; exact ⟨x, hJS⟩, hWn, by rw [hWn] at hop; have h0 : opW [] = 0 := rfl; omega, hc64, (hJF.2.1 49 (by decide)).trans hcn, tq_shF htq hJF, hpG, by rw [← (htq.2.2 8 (by decide) (by decide))]; exact z31.1, by rw [← (htq.2.2 9 (by decide) (by decide))]; exact z31.2⟩, fun w => absurd rfl w⟩
        · exact h48 (fun w => absurd w.2.2 (by omega))
)
  refine pw_aload_n (k4 := 0) rfl (by decide +kernel) ?_
  refine pw_iconst (n := 0) (v := 0) (by decide) (by decide +kernel) ?_
  refine pq_putI (c := 11) (k := 46) (ks_m hA) (by decide) (by decide) lf_Mo_319 (Or.inl rfl) (by decide +kernel) ?_
  refine pw_aload_n (k4 := 0) rfl (by decide +kernel) ?_
  refine pw_iconst (n := 0) (v := 0) (by decide) (by decide +kernel) ?_
  refine pq_putI (c := 11) (k := 47) (ks_m hA) (by decide) (by decide) lf_Mo_316 (Or.inl rfl) (by decide +kernel) ?_
  refine pw_aload_n (k4 := 0) rfl (by decide +kernel) ?_
  refine pw_iconst (n := 0) (v := 0) (by decide) (by decide +kernel) ?_
  refine pq_putI (c := 11) (k := 48) (ks_m hA) (by decide) (by decide) lf_Mo_334 (Or.inl rfl) (by decide +kernel) ?_
  refine pw_aload_n (k4 := 0) rfl (by decide +kernel) ?_
  refine pw_iconst (n := 1) (v := 1) (by decide) (by decide +kernel) ?_
  refine pq_putZ (c := 11) (k := 50) (ks_m hA) (by decide) (by decide) (by decide) lf_Mo_350 (Or.inl rfl) (by decide +kernel) ?_
  refine pw_aload_n (k4 := 0) rfl (by decide +kernel) ?_
  refine pw_iconst (n := 1) (v := 1) (by decide) (by decide +kernel) ?_
  refine pq_putZ (c := 11) (k := 51) (ks_m hA) (by decide) (by decide) (by decide) lf_Mo_341 (Or.inl rfl) (by decide +kernel) ?_
  refine hL 1500 [] [] true true 0 b0 G _ ⟨⟨[], ⟨rfl, hkr, rfl, rfl, rwL_nil _, rwL_nil _, fun k hk => absurd hk List.not_mem_nil⟩, rfl, rfl, hb64, rfl, by decide, fun k hk => absurd hk List.not_mem_nil, rfl, hcn⟩, rfl, rfl, ?_, ?_, htk⟩ hpG (by have := muG_le hpG; omega) hX.symm ?_
  · exact prI_set (prI_set (prI_set (prI_set (prI_set hp (by decide) (by decide) _) (by decide) (by decide) _) (by decide) (by decide) _) (by decide) (by decide) _) (by decide) (by decide) _
  · exact tq_set (tq_set (tq_set (tq_set (tq_set htq (by decide) _) (by decide) _) (by decide) _) (by decide) _) (by decide) _
  · exact (((((sgF.rf I _).set (by decide) _).set (by decide) _).set (by decide) _).set (by decide) _).set (by decide) _
