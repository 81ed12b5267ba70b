/-! ===== the reference: a line ===== -/
/-- behind a line stands its end -/
def yEnd (q : Bool × (Nat → Nat → Int32)) : Bool × (Nat → Nat → Int32) := if q.1 = true then (if q.2 134 8 = 4 ∧ q.2 134 9 = 59 then (true, yTok q.2) else (false, yWr q.2 1)) else q
/-- a law has been read from I3 on: the machine's outcome and the memory behind it -/
def lwR (I3 J4 : Nat → Nat → Int32) (kr f : Nat) (E : List (Nat × Nat)) (cn : Nat) (G : Nat → Nat → Int32) : Prop := prI J4 ∧ sgF J4 I3 kr ∧ (f = 0 → (∃ x, shS J4 kr E [] [x]) ∧ kr + E.length = cn ∧ cn ≤ 64 ∧ J4 134 49 = nI cn ∧ tq J4 G ∧ prI G ∧ G 134 8 = 4 ∧ G 134 9 = 59) ∧ (¬ f = 0 → J4 134 4 = nI f ∧ J4 134 5 = G 134 10)
def lnL (I : Nat → Nat → Int32) (kr : Nat) (b : Bool) (J : Nat → Nat → Int32) : Prop := (fun I1 : Nat → Nat → Int32 => if ¬ I1 134 8 = 1 then (b, J) = (false, yWr I1 1) else if I1 134 9 < 13 then (b, J) = (false, yWr I1 1) else if 15 < I1 134 9 then (b, J) = (false, yWr I1 1) else
    (fun k : Nat => if ¬ I1 152 k = 0 then (b, J) = (false, yWr I1 3) else
      ∃ f E W wn mn br cn G J4, sumA 1500 [] [] true true 0 kr (sI (yTok (sI I1 152 k 1)) 153 k (nI kr)) = (f, E, W, wn, mn, br, cn, G) ∧ lwR (sI (yTok (sI I1 152 k 1)) 153 k (nI kr)) J4 kr f E cn G ∧ (b, J) = yEnd (decide (f = 0), sI J4 154 k (J4 134 21))) (3 + ixn (I1 134 9) - 13)) (yTok I)
def lnR (I : Nat → Nat → Int32) (pr sr dr rr kr : Nat) (b : Bool) (J : Nat → Nat → Int32) : Prop :=
  if ¬ I 134 8 = 1 then (b, J) = (false, yWr I 1) else if 6 < I 134 9 then (b, J) = (false, yWr I 1) else if I 134 9 = 0 then (b, J) = yEnd (yPL pr I) else if I 134 9 = 1 then (b, J) = yEnd (ySL pr sr I) else if I 134 9 = 2 then (b, J) = yEnd (yDL pr dr I) else if I 134 9 = 3 then (b, J) = yEnd (yCL pr I) else if I 134 9 = 4 then (b, J) = yEnd (yRL rr I)
  else if I 134 9 = 5 then (if I 134 22 = 0 then (b, J) = yEnd (yNum (yTok (sI I 134 22 1)) 0 99999) else (b, J) = (false, yWr I 3)) else lnL I kr b J
def rLr (I : Nat → Nat → Int32) (L : Nat → Nat → Int64) (P : Nat → Nat → Option Nat) (pr sr dr rr kr : Nat) : Option Value → pM → Prop := fun r M => ∃ b J, lnR I pr sr dr rr kr b J ∧ prI J ∧ r = some (.int (bI b)) ∧ M = (J, L, P)

set_option maxHeartbeats 8000000 in
theorem ct_Mo_lineRead {sh : List pSh} {I : Nat → Nat → Int32} {L : Nat → Nat → Int64} {P : Nat → Nat → Option Nat} (hA : kA sh P) {pr sr dr rr kr : Nat} (hp : prI I) (h17 : I 134 17 = nI pr) (hp5 : pr ≤ 5) (h18 : I 134 18 = nI sr) (hs16 : sr ≤ 16) (h19 : I 134 19 = nI dr) (hd8 : dr ≤ 8) (h20 : I 134 20 = nI rr) (hr8 : rr ≤ 8) (hkr : I 134 21 = nI kr) (hcn : I 134 49 = nI kr) (hk64 : kr ≤ 64) : pCn m_Mo_lineRead 4 [.ref 134] sh (I, L, P) (rLr I L P pr sr dr rr kr) := by
  refine pCn_of (by decide +kernel) (Nat.le_of_ble_eq_true rfl) ?_
  have h234 : ∀ (b9 : Bool) (J9 : Nat → Nat → Int32), prI J9 → (∀ b J, (b, J) = yEnd (b9, J9) → lnR I pr sr dr rr kr b J) → pWn m_Mo_lineRead 4 sh (rLr I L P pr sr dr rr kr) 234 [some (.ref 134), some (.int (bI b9)), none] [] (J9, L, P) := by
    intro b9 J9 hp9 h9
    refine pw_iload_n (k4 := 1) rfl (by decide +kernel) ?_
    refine pw_if_ne (off := 5) (tgt := 240) (by decide +kernel) (by decide +kernel) (fun z235 => ?_) (fun z235 => ?_)
    · refine pw_aload_n (k4 := 0) rfl (by decide +kernel) ?_
      refine pw_bipush (n := 59) (v := 59) (by decide) (by decide +kernel) ?_
      refine pq_callV (ν := m_Mo_isSign) (d' := 0) (av := [_]) (c := 11) (by decide +kernel) lm_Mo_230 ok_Mo_isSign (show _ = some 1 by decide +kernel) (ks_m hA) rfl (by decide) (by omega) (Nat.le_of_ble_eq_true rfl) (ct_Mo_isSign hA _) ?_
      rintro _ _ ⟨rfl, rfl⟩
      refine pn_ifB_ne (off := 9) (tgt := 255) (by decide +kernel) (by decide +kernel) (fun z246 => ?_) (fun z246 => ?_)
      · refine pw_aload_n (k4 := 0) rfl (by decide +kernel) ?_
        refine pq_callV (ν := m_Mo_token) (d' := 1) (av := []) (c := 11) (by decide +kernel) lm_Mo_227 ok_Mo_token (show _ = some 0 by decide +kernel) (ks_m hA) rfl (by decide) (by omega) (Nat.le_of_ble_eq_true rfl) (ct_Mo_tok hA hp9) ?_
        rintro _ _ ⟨J2, hJ2, hp2, hf2, rfl, rfl⟩
        refine pw_iconst (n := 1) (v := 1) (by decide) (by decide +kernel) ?_
        exact pq_zret rfl (by decide) (by decide +kernel) ⟨true, J2, h9 _ _ (by show _ = yEnd (b9, J9); rw [bI_1 z235]; exact (by rw [yEnd, if_pos rfl, if_pos z246, hJ2])), hp2, rfl, rfl⟩
      · refine pw_aload_n (k4 := 0) rfl (by decide +kernel) ?_
        refine pw_iconst (n := 1) (v := 1) (by decide) (by decide +kernel) ?_
        refine pq_callV (ν := m_Mo_wrong) (d' := 0) (av := [_]) (c := 11) (by decide +kernel) lm_Mo_217 ok_Mo_wrong (show _ = some 1 by decide +kernel) (ks_m hA) rfl (by decide) (by omega) (Nat.le_of_ble_eq_true rfl) (ct_Mo_wrong hA _) ?_
        rintro _ _ ⟨rfl, rfl⟩
        exact pq_zret rfl (by decide) (by decide +kernel) ⟨false, _, h9 _ _ (by show _ = yEnd (b9, J9); rw [bI_1 z235]; exact (by rw [yEnd, if_pos rfl, if_neg z246])), prI_wr hp9 _, rfl, rfl⟩
    · refine pw_iconst (n := 0) (v := 0) (by decide) (by decide +kernel) ?_
      exact pq_zret rfl (by decide) (by decide +kernel) ⟨false, J9, h9 _ _ (by show _ = yEnd (b9, J9); rw [bI_0 z235]; rfl), hp9, rfl, rfl⟩
  refine pw_aload_n (k4 := 0) rfl (by decide +kernel) ?_
  refine pq_getI (c := 11) (k := 8) (ks_m hA) (by decide) (by decide) lf_Mo_193 (by decide +kernel) ?_
  refine pw_iconst (n := 1) (v := 1) (by decide) (by decide +kernel) ?_
  refine pw_icmp_ne (off := 12) (tgt := 17) (by decide +kernel) (by decide +kernel) (fun z5 => ?_) (fun z5 => ?_)
  · refine pw_aload_n (k4 := 0) rfl (by decide +kernel) ?_
    refine pw_iconst (n := 1) (v := 1) (by decide) (by decide +kernel) ?_
    refine pq_callV (ν := m_Mo_wrong) (d' := 0) (av := [_]) (c := 11) (by decide +kernel) lm_Mo_217 ok_Mo_wrong (show _ = some 1 by decide +kernel) (ks_m hA) rfl (by decide) (by omega) (Nat.le_of_ble_eq_true rfl) (ct_Mo_wrong hA _) ?_
    rintro _ _ ⟨rfl, rfl⟩
    exact pq_zret rfl (by decide) (by decide +kernel) ⟨false, _, (by unfold lnR; rw [if_pos z5]), prI_wr hp _, rfl, rfl⟩
  · refine pw_aload_n (k4 := 0) rfl (by decide +kernel) ?_
    refine pq_getI (c := 11) (k := 9) (ks_m hA) (by decide) (by decide) lf_Mo_204 (by decide +kernel) ?_
    refine pw_bipush (n := 6) (v := 6) (by decide) (by decide +kernel) ?_
    refine pw_icmp_le (off := 9) (tgt := 23) (by decide +kernel) (by decide +kernel) (fun z14 => ?_) (fun z14 => ?_)
    · refine pw_aload_n (k4 := 0) rfl (by decide +kernel) ?_
      refine pq_getI (c := 11) (k := 9) (ks_m hA) (by decide) (by decide) lf_Mo_204 (by decide +kernel) ?_
      have hsw27 : decode m_Mo_lineRead.2.1 27 = .ok (.tableswitch 110 0 5 #[37, 45, 53, 61, 69, 77], 37) := by decide +kernel
      rcases swIn (I 134 9) 0 5 (by decide) (by decide) with z27 | ⟨j27, z27, y27, e27⟩
      · have hno0 : ¬ I 134 9 = 0 := fun w => by rw [w] at z27; revert z27; decide
        have hno1 : ¬ I 134 9 = 1 := fun w => by rw [w] at z27; revert z27; decide
        have hno2 : ¬ I 134 9 = 2 := fun w => by rw [w] at z27; revert z27; decide
        have hno3 : ¬ I 134 9 = 3 := fun w => by rw [w] at z27; revert z27; decide
        have hno4 : ¬ I 134 9 = 4 := fun w => by rw [w] at z27; revert z27; decide
        have hno5 : ¬ I 134 9 = 5 := fun w => by rw [w] at z27; revert z27; decide
        refine pw_tableOut (tgt := 137) hsw27 z27 (by decide +kernel) ?_
        refine pw_aload_n (k4 := 0) rfl (by decide +kernel) ?_
        refine pq_callV (ν := m_Mo_token) (d' := 1) (av := []) (c := 11) (by decide +kernel) lm_Mo_227 ok_Mo_token (show _ = some 0 by decide +kernel) (ks_m hA) rfl (by decide) (by omega) (Nat.le_of_ble_eq_true rfl) (ct_Mo_tok hA hp) ?_
        rintro _ _ ⟨J1, hJ1, hp1, hf1, rfl, rfl⟩
        have htk1 : tkI J1 := by rw [← hJ1]; exact tkI_tok hp
        refine pw_aload_n (k4 := 0) rfl (by decide +kernel) ?_
        refine pq_getI (c := 11) (k := 8) (ks_m hA) (by decide) (by decide) lf_Mo_193 (by decide +kernel) ?_
        refine pw_iconst (n := 1) (v := 1) (by decide) (by decide +kernel) ?_
        refine pw_icmp_ne (off := 21) (tgt := 167) (by decide +kernel) (by decide +kernel) (fun z146 => ?_) (fun z146 => ?_)
        · refine pw_aload_n (k4 := 0) rfl (by decide +kernel) ?_
          refine pw_iconst (n := 1) (v := 1) (by decide) (by decide +kernel) ?_
          refine pq_callV (ν := m_Mo_wrong) (d' := 0) (av := [_]) (c := 11) (by decide +kernel) lm_Mo_217 ok_Mo_wrong (show _ = some 1 by decide +kernel) (ks_m hA) rfl (by decide) (by omega) (Nat.le_of_ble_eq_true rfl) (ct_Mo_wrong hA _) ?_
          rintro _ _ ⟨rfl, rfl⟩
          exact pq_zret rfl (by decide) (by decide +kernel) ⟨false, _, (by unfold lnR; rw [if_neg (fun w => w z5), if_neg (Int32.not_lt.mpr z14), if_neg (fun w => hno0 w), if_neg (fun w => hno1 w), if_neg (fun w => hno2 w), if_neg (fun w => hno3 w), if_neg (fun w => hno4 w), if_neg (fun w => hno5 w)]; unfold lnL; rw [hJ1]; dsimp only; rw [if_pos z146]), prI_wr hp1 _, rfl, rfl⟩
        · obtain ⟨w2, hw25, hw2⟩ := htk1.2.1 z146
          refine pw_aload_n (k4 := 0) rfl (by decide +kernel) ?_
          refine pq_getI (c := 11) (k := 9) (ks_m hA) (by decide) (by decide) lf_Mo_204 (by decide +kernel) ?_
          refine pw_bipush (n := 13) (v := 13) (by decide) (by decide +kernel) ?_
          refine pw_icmp_lt (off := 12) (tgt := 167) (by decide +kernel) (by decide +kernel) (fun z155 => ?_) (fun z155 => ?_)
          · refine pw_aload_n (k4 := 0) rfl (by decide +kernel) ?_
            refine pw_iconst (n := 1) (v := 1) (by decide) (by decide +kernel) ?_
            refine pq_callV (ν := m_Mo_wrong) (d' := 0) (av := [_]) (c := 11) (by decide +kernel) lm_Mo_217 ok_Mo_wrong (show _ = some 1 by decide +kernel) (ks_m hA) rfl (by decide) (by omega) (Nat.le_of_ble_eq_true rfl) (ct_Mo_wrong hA _) ?_
            rintro _ _ ⟨rfl, rfl⟩
            exact pq_zret rfl (by decide) (by decide +kernel) ⟨false, _, (by unfold lnR; rw [if_neg (fun w => w z5), if_neg (Int32.not_lt.mpr z14), if_neg (fun w => hno0 w), if_neg (fun w => hno1 w), if_neg (fun w => hno2 w), if_neg (fun w => hno3 w), if_neg (fun w => hno4 w), if_neg (fun w => hno5 w)]; unfold lnL; rw [hJ1]; dsimp only; rw [if_neg (fun w => w z146), if_pos z155]), prI_wr hp1 _, rfl, rfl⟩
          · refine pw_aload_n (k4 := 0) rfl (by decide +kernel) ?_
            refine pq_getI (c := 11) (k := 9) (ks_m hA) (by decide) (by decide) lf_Mo_204 (by decide +kernel) ?_
            refine pw_bipush (n := 15) (v := 15) (by decide) (by decide +kernel) ?_
            refine pw_icmp_le (off := 9) (tgt := 173) (by decide +kernel) (by decide +kernel) (fun z164 => ?_) (fun z164 => ?_)
            · have hlo : 13 ≤ w2 := (nI_leI (by decide) (by omega)).mp (by rw [← hw2]; exact Int32.not_lt.mp z155)
              have hhi : w2 ≤ 15 := (nI_leI (by omega) (by decide)).mp (by rw [← hw2]; exact z164)
              refine pw_iconst (n := 3) (v := 3) (by decide) (by decide +kernel) ?_
              refine pw_aload_n (k4 := 0) rfl (by decide +kernel) ?_
              refine pq_getI (c := 11) (k := 9) (ks_m hA) (by decide) (by decide) lf_Mo_204 (by decide +kernel) ?_
              refine pn_val (nI (w2)) (by exact hw2) ?_
              refine pn_iadd 3 w2 rfl rfl (by decide +kernel) ?_
              refine pw_bipush (n := 13) (v := 13) (by decide) (by decide +kernel) ?_
              refine pn_isub (3 + w2) 13 rfl rfl (by omega) (by decide +kernel) ?_
              refine pq_istore_n (k4 := 2) (Nat.le_of_ble_eq_true rfl) rfl (by decide +kernel) ?_
              refine pw_aload_n (k4 := 0) rfl (by decide +kernel) ?_
              refine pq_getP (c := 11) (k := 38) (ks_m hA) (by decide) (by decide) (kp_m_lawTold hA) lf_Mo_65 (by decide +kernel) ?_
              refine pw_iload_n (k4 := 2) rfl (by decide +kernel) ?_
              refine pq_zald ((3 + w2) - 13) rfl (by omega) (by decide) (ks_m_lawTold hA) (by decide +kernel) ?_
              refine pw_if_eq (off := 9) (tgt := 198) (by decide +kernel) (by decide +kernel) (fun z189 => ?_) (fun z189 => ?_)
              · refine pw_aload_n (k4 := 0) rfl (by decide +kernel) ?_
                refine pq_getP (c := 11) (k := 38) (ks_m hA) (by decide) (by decide) (kp_m_lawTold hA) lf_Mo_65 (by decide +kernel) ?_
                refine pw_iload_n (k4 := 2) rfl (by decide +kernel) ?_
                refine pw_iconst (n := 1) (v := 1) (by decide) (by decide +kernel) ?_
                refine pq_zast ((3 + w2) - 13) rfl (by omega) (by decide) (ks_m_lawTold hA) (by decide +kernel) ?_
                rw [show (1 : Int32) &&& 1 = 1 from rfl]
                refine pw_aload_n (k4 := 0) rfl (by decide +kernel) ?_
                refine pq_callV (ν := m_Mo_token) (d' := 1) (av := []) (c := 11) (by decide +kernel) lm_Mo_227 ok_Mo_token (show _ = some 0 by decide +kernel) (ks_m hA) rfl (by decide) (by omega) (Nat.le_of_ble_eq_true rfl) (ct_Mo_tok hA (prI_st hp1 (by decide) _)) ?_
                rintro _ _ ⟨J2, hJ2, hp2, hf2, rfl, rfl⟩
                have htk2 : tkI J2 := by rw [← hJ2]; exact tkI_tok (prI_st hp1 (by decide) _)
                have hkr2 : J2 134 21 = nI kr := (hf2.2 21 (by decide)).trans ((hf1.2 21 (by decide)).trans hkr)
                have hcn2 : J2 134 49 = nI kr := (hf2.2 49 (by decide)).trans ((hf1.2 49 (by decide)).trans hcn)
                refine pw_aload_n (k4 := 0) rfl (by decide +kernel) ?_
                refine pq_getP (c := 11) (k := 39) (ks_m hA) (by decide) (by decide) (kp_m_first hA) lf_Mo_69 (by decide +kernel) ?_
                refine pw_iload_n (k4 := 2) rfl (by decide +kernel) ?_
                refine pw_aload_n (k4 := 0) rfl (by decide +kernel) ?_
                refine pq_getI (c := 11) (k := 21) (ks_m hA) (by decide) (by decide) lf_Mo_249 (by decide +kernel) ?_
                refine pn_val (nI (kr)) (by exact hkr2) ?_
                refine pq_iast ((3 + w2) - 13) rfl (by omega) (by decide) (ks_m_first hA) (by decide +kernel) ?_
                refine pw_aload_n (k4 := 0) rfl (by decide +kernel) ?_
                refine pq_callV (ν := m_Mo_sumRead) (d' := 3) (av := []) (c := 11) (by decide +kernel) lm_Mo_310 ok_Mo_sumRead (show _ = some 0 by decide +kernel) (ks_m hA) rfl (by decide) (by omega) (Nat.le_of_ble_eq_true rfl) (ct_Mo_sumRead hA (b0 := kr) (G := sI J2 153 (3 + w2 - 13) (nI kr)) (by exact hkr2) (by exact hcn2) hk64 (prI_st hp2 (by decide) _) ⟨rfl, rfl, fun _ _ _ => rfl⟩ (by exact htk2) (prI_st hp2 (by decide) _) rfl) ?_
                rintro _ _ ⟨f, E, W, wn, mn, br, cn, G, J4, hXX, rfl, rfl, hp4, hs4, hok, hno⟩
                refine pq_istore_n (k4 := 1) (Nat.le_of_ble_eq_true rfl) rfl (by decide +kernel) ?_
                refine pw_aload_n (k4 := 0) rfl (by decide +kernel) ?_
                refine pq_getP (c := 11) (k := 40) (ks_m hA) (by decide) (by decide) (kp_m_last hA) lf_Mo_72 (by decide +kernel) ?_
                refine pw_iload_n (k4 := 2) rfl (by decide +kernel) ?_
                refine pw_aload_n (k4 := 0) rfl (by decide +kernel) ?_
                refine pq_getI (c := 11) (k := 21) (ks_m hA) (by decide) (by decide) lf_Mo_249 (by decide +kernel) ?_
                refine pq_iast ((3 + w2) - 13) rfl (by omega) (by decide) (ks_m_last hA) (by decide +kernel) ?_
                refine pw_forget [2] (h234 (decide (f = 0)) _ (prI_st hp4 (by decide) _) (fun b J hbj => ?_))
                unfold lnR
                rw [if_neg (fun w => w z5), if_neg (Int32.not_lt.mpr z14), if_neg (fun w => hno0 w), if_neg (fun w => hno1 w), if_neg (fun w => hno2 w), if_neg (fun w => hno3 w), if_neg (fun w => hno4 w), if_neg (fun w => hno5 w)]
                unfold lnL
                rw [hJ1]
                dsimp only
                rw [if_neg (fun w => w z146), if_neg z155, if_neg (Int32.not_lt.mpr z164), hw2, ixn_nI (by omega), if_neg (fun w => w z189), hJ2]
                exact ⟨f, E, W, wn, mn, br, cn, G, J4, hXX, ⟨hp4, hs4, fun w => ⟨(hok w).1, (hok w).2.2⟩, hno⟩, hbj⟩
              · refine pw_aload_n (k4 := 0) rfl (by decide +kernel) ?_
                refine pw_iconst (n := 3) (v := 3) (by decide) (by decide +kernel) ?_
                refine pq_callV (ν := m_Mo_wrong) (d' := 0) (av := [_]) (c := 11) (by decide +kernel) lm_Mo_217 ok_Mo_wrong (show _ = some 1 by decide +kernel) (ks_m hA) rfl (by decide) (by omega) (Nat.le_of_ble_eq_true rfl) (ct_Mo_wrong hA _) ?_
                rintro _ _ ⟨rfl, rfl⟩
                exact pq_zret rfl (by decide) (by decide +kernel) ⟨false, _, (by unfold lnR; rw [if_neg (fun w => w z5), if_neg (Int32.not_lt.mpr z14), if_neg (fun w => hno0 w), if_neg (fun w => hno1 w), if_neg (fun w => hno2 w), if_neg (fun w => hno3 w), if_neg (fun w => hno4 w), if_neg (fun w => hno5 w)]; unfold lnL; rw [hJ1]; dsimp only; rw [if_neg (fun w => w z146), if_neg z155, if_neg (Int32.not_lt.mpr z164), hw2, ixn_nI (by omega), if_pos z189]), prI_wr hp1 _, rfl, rfl⟩
            · refine pw_aload_n (k4 := 0) rfl (by decide +kernel) ?_
              refine pw_iconst (n := 1) (v := 1) (by decide) (by decide +kernel) ?_
              refine pq_callV (ν := m_Mo_wrong) (d' := 0) (av := [_]) (c := 11) (by decide +kernel) lm_Mo_217 ok_Mo_wrong (show _ = some 1 by decide +kernel) (ks_m hA) rfl (by decide) (by omega) (Nat.le_of_ble_eq_true rfl) (ct_Mo_wrong hA _) ?_
              rintro _ _ ⟨rfl, rfl⟩
              exact pq_zret rfl (by decide) (by decide +kernel) ⟨false, _, (by unfold lnR; rw [if_neg (fun w => w z5), if_neg (Int32.not_lt.mpr z14), if_neg (fun w => hno0 w), if_neg (fun w => hno1 w), if_neg (fun w => hno2 w), if_neg (fun w => hno3 w), if_neg (fun w => hno4 w), if_neg (fun w => hno5 w)]; unfold lnL; rw [hJ1]; dsimp only; rw [if_neg (fun w => w z146), if_neg z155, if_pos (Int32.not_le.mp z164)]), prI_wr hp1 _, rfl, rfl⟩
      · rcases (show j27 = 0 ∨ j27 = 1 ∨ j27 = 2 ∨ j27 = 3 ∨ j27 = 4 ∨ j27 = 5 by omega) with rfl | rfl | rfl | rfl | rfl | rfl
        · refine pw_tableIn (off := 37) (tgt := 64) hsw27 (by rw [e27]; decide) (by rw [e27]; decide) (by rw [e27]; decide) (by decide +kernel) ?_
          refine pw_aload_n (k4 := 0) rfl (by decide +kernel) ?_
          refine pq_callV (ν := m_Mo_personLine) (d' := 3) (av := []) (c := 11) (by decide +kernel) lm_Mo_295 ok_Mo_personLine (show _ = some 0 by decide +kernel) (ks_m hA) rfl (by decide) (by omega) (Nat.le_of_ble_eq_true rfl) (ct_Mo_personLine hA hp h17 hp5 h17) ?_
          rintro _ _ ⟨b1, J1, hq, hp1, rfl, rfl⟩
          refine pq_istore_n (k4 := 1) (Nat.le_of_ble_eq_true rfl) rfl (by decide +kernel) ?_
          refine pw_goto (off := 165) (tgt := 234) (by decide +kernel) (by decide +kernel) ?_
          refine pw_forget [2] (h234 b1 J1 hp1 (fun b J hbj => ?_))
          unfold lnR
          rw [if_neg (fun w => w z5), if_neg (Int32.not_lt.mpr z14), if_pos (by rw [e27]; rfl), hq]
          exact hbj
        · refine pw_tableIn (off := 45) (tgt := 72) hsw27 (by rw [e27]; decide) (by rw [e27]; decide) (by rw [e27]; decide) (by decide +kernel) ?_
          refine pw_aload_n (k4 := 0) rfl (by decide +kernel) ?_
          refine pq_callV (ν := m_Mo_shoeLine) (d' := 3) (av := []) (c := 11) (by decide +kernel) lm_Mo_298 ok_Mo_shoeLine (show _ = some 0 by decide +kernel) (ks_m hA) rfl (by decide) (by omega) (Nat.le_of_ble_eq_true rfl) (ct_Mo_shoeLine hA hp h17 hp5 h18 hs16) ?_
          rintro _ _ ⟨b1, J1, hq, hp1, rfl, rfl⟩
          refine pq_istore_n (k4 := 1) (Nat.le_of_ble_eq_true rfl) rfl (by decide +kernel) ?_
          refine pw_goto (off := 157) (tgt := 234) (by decide +kernel) (by decide +kernel) ?_
          refine pw_forget [2] (h234 b1 J1 hp1 (fun b J hbj => ?_))
          unfold lnR
          rw [if_neg (fun w => w z5), if_neg (Int32.not_lt.mpr z14), if_neg (by rw [e27]; decide), if_pos (by rw [e27]; rfl), hq]
          exact hbj
        · refine pw_tableIn (off := 53) (tgt := 80) hsw27 (by rw [e27]; decide) (by rw [e27]; decide) (by rw [e27]; decide) (by decide +kernel) ?_
          refine pw_aload_n (k4 := 0) rfl (by decide +kernel) ?_
          refine pq_callV (ν := m_Mo_debtLine) (d' := 3) (av := []) (c := 11) (by decide +kernel) lm_Mo_301 ok_Mo_debtLine (show _ = some 0 by decide +kernel) (ks_m hA) rfl (by decide) (by omega) (Nat.le_of_ble_eq_true rfl) (ct_Mo_debtLine hA hp h17 hp5 h19 hd8) ?_
          rintro _ _ ⟨b1, J1, hq, hp1, rfl, rfl⟩
          refine pq_istore_n (k4 := 1) (Nat.le_of_ble_eq_true rfl) rfl (by decide +kernel) ?_
          refine pw_goto (off := 149) (tgt := 234) (by decide +kernel) (by decide +kernel) ?_
          refine pw_forget [2] (h234 b1 J1 hp1 (fun b J hbj => ?_))
          unfold lnR
          rw [if_neg (fun w => w z5), if_neg (Int32.not_lt.mpr z14), if_neg (by rw [e27]; decide), if_neg (by rw [e27]; decide), if_pos (by rw [e27]; rfl), hq]
          exact hbj
        · refine pw_tableIn (off := 61) (tgt := 88) hsw27 (by rw [e27]; decide) (by rw [e27]; decide) (by rw [e27]; decide) (by decide +kernel) ?_
          refine pw_aload_n (k4 := 0) rfl (by decide +kernel) ?_
          refine pq_callV (ν := m_Mo_claimLine) (d' := 3) (av := []) (c := 11) (by decide +kernel) lm_Mo_304 ok_Mo_claimLine (show _ = some 0 by decide +kernel) (ks_m hA) rfl (by decide) (by omega) (Nat.le_of_ble_eq_true rfl) (ct_Mo_claimLine hA hp h17 hp5 h17) ?_
          rintro _ _ ⟨b1, J1, hq, hp1, rfl, rfl⟩
          refine pq_istore_n (k4 := 1) (Nat.le_of_ble_eq_true rfl) rfl (by decide +kernel) ?_
          refine pw_goto (off := 141) (tgt := 234) (by decide +kernel) (by decide +kernel) ?_
          refine pw_forget [2] (h234 b1 J1 hp1 (fun b J hbj => ?_))
          unfold lnR
          rw [if_neg (fun w => w z5), if_neg (Int32.not_lt.mpr z14), if_neg (by rw [e27]; decide), if_neg (by rw [e27]; decide), if_neg (by rw [e27]; decide), if_pos (by rw [e27]; rfl), hq]
          exact hbj
        · refine pw_tableIn (off := 69) (tgt := 96) hsw27 (by rw [e27]; decide) (by rw [e27]; decide) (by rw [e27]; decide) (by decide +kernel) ?_
          refine pw_aload_n (k4 := 0) rfl (by decide +kernel) ?_
          refine pq_callV (ν := m_Mo_swapLine) (d' := 3) (av := []) (c := 11) (by decide +kernel) lm_Mo_307 ok_Mo_swapLine (show _ = some 0 by decide +kernel) (ks_m hA) rfl (by decide) (by omega) (Nat.le_of_ble_eq_true rfl) (ct_Mo_swapLine hA hp h20 hr8) ?_
          rintro _ _ ⟨b1, J1, hq, hp1, rfl, rfl⟩
          refine pq_istore_n (k4 := 1) (Nat.le_of_ble_eq_true rfl) rfl (by decide +kernel) ?_
          refine pw_goto (off := 133) (tgt := 234) (by decide +kernel) (by decide +kernel) ?_
          refine pw_forget [2] (h234 b1 J1 hp1 (fun b J hbj => ?_))
          unfold lnR
          rw [if_neg (fun w => w z5), if_neg (Int32.not_lt.mpr z14), if_neg (by rw [e27]; decide), if_neg (by rw [e27]; decide), if_neg (by rw [e27]; decide), if_neg (by rw [e27]; decide), if_pos (by rw [e27]; rfl), hq]
          exact hbj
        · refine pw_tableIn (off := 77) (tgt := 104) hsw27 (by rw [e27]; decide) (by rw [e27]; decide) (by rw [e27]; decide) (by decide +kernel) ?_
          refine pw_aload_n (k4 := 0) rfl (by decide +kernel) ?_
          refine pq_getI (c := 11) (k := 22) (ks_m hA) (by decide) (by decide) lf_Mo_255 (by decide +kernel) ?_
          refine pw_if_eq (off := 9) (tgt := 117) (by decide +kernel) (by decide +kernel) (fun z108 => ?_) (fun z108 => ?_)
          · refine pw_aload_n (k4 := 0) rfl (by decide +kernel) ?_
            refine pw_iconst (n := 1) (v := 1) (by decide) (by decide +kernel) ?_
            refine pq_putZ (c := 11) (k := 22) (ks_m hA) (by decide) (by decide) (by decide) lf_Mo_255 (Or.inl rfl) (by decide +kernel) ?_
            refine pw_aload_n (k4 := 0) rfl (by decide +kernel) ?_
            refine pq_callV (ν := m_Mo_token) (d' := 1) (av := []) (c := 11) (by decide +kernel) lm_Mo_227 ok_Mo_token (show _ = some 0 by decide +kernel) (ks_m hA) rfl (by decide) (by omega) (Nat.le_of_ble_eq_true rfl) (ct_Mo_tok hA (prI_set hp (by decide) (by decide) _)) ?_
            rintro _ _ ⟨J2, hJ2, hp2, hf2, rfl, rfl⟩
            refine pw_aload_n (k4 := 0) rfl (by decide +kernel) ?_
            refine pw_iconst (n := 0) (v := 0) (by decide) (by decide +kernel) ?_
            refine pw_ldc lc_Mo_213 (by decide +kernel) ?_
            refine pq_callV (ν := m_Mo_number) (d' := 2) (av := [_, _]) (c := 11) (by decide +kernel) lm_Mo_233 ok_Mo_number (show _ = some 2 by decide +kernel) (ks_m hA) rfl (by decide) (by omega) (Nat.le_of_ble_eq_true rfl) (ct_Mo_number hA hp2 _ _) ?_
            rintro _ _ ⟨b1, J1, hq, hp1, hf1, rfl, rfl⟩
            refine pq_istore_n (k4 := 1) (Nat.le_of_ble_eq_true rfl) rfl (by decide +kernel) ?_
            refine pw_goto (off := 100) (tgt := 234) (by decide +kernel) (by decide +kernel) ?_
            refine pw_forget [2] (h234 b1 J1 hp1 (fun b J hbj => ?_))
            unfold lnR
            rw [if_neg (fun w => w z5), if_neg (Int32.not_lt.mpr z14), if_neg (by rw [e27]; decide), if_neg (by rw [e27]; decide), if_neg (by rw [e27]; decide), if_neg (by rw [e27]; decide), if_neg (by rw [e27]; decide), if_pos (by rw [e27]; rfl), if_pos z108, hJ2, hq]
            exact hbj
          · refine pw_aload_n (k4 := 0) rfl (by decide +kernel) ?_
            refine pw_iconst (n := 3) (v := 3) (by decide) (by decide +kernel) ?_
            refine pq_callV (ν := m_Mo_wrong) (d' := 0) (av := [_]) (c := 11) (by decide +kernel) lm_Mo_217 ok_Mo_wrong (show _ = some 1 by decide +kernel) (ks_m hA) rfl (by decide) (by omega) (Nat.le_of_ble_eq_true rfl) (ct_Mo_wrong hA _) ?_
            rintro _ _ ⟨rfl, rfl⟩
            exact pq_zret rfl (by decide) (by decide +kernel) ⟨false, _, (by unfold lnR; rw [if_neg (fun w => w z5), if_neg (Int32.not_lt.mpr z14), if_neg (by rw [e27]; decide), if_neg (by rw [e27]; decide), if_neg (by rw [e27]; decide), if_neg (by rw [e27]; decide), if_neg (by rw [e27]; decide), if_pos (by rw [e27]; rfl), if_neg z108]), prI_wr hp _, rfl, rfl⟩
    · refine pw_aload_n (k4 := 0) rfl (by decide +kernel) ?_
      refine pw_iconst (n := 1) (v := 1) (by decide) (by decide +kernel) ?_
      refine pq_callV (ν := m_Mo_wrong) (d' := 0) (av := [_]) (c := 11) (by decide +kernel) lm_Mo_217 ok_Mo_wrong (show _ = some 1 by decide +kernel) (ks_m hA) rfl (by decide) (by omega) (Nat.le_of_ble_eq_true rfl) (ct_Mo_wrong hA _) ?_
      rintro _ _ ⟨rfl, rfl⟩
      exact pq_zret rfl (by decide) (by decide +kernel) ⟨false, _, (by unfold lnR; rw [if_neg (fun w => w z5), if_pos (Int32.not_le.mp z14)]), prI_wr hp _, rfl, rfl⟩
