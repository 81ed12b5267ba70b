/-! ===== the reference: the lines of a text ===== -/
def rLn (q : Bool × (Nat → Nat → Int32)) (L : Nat → Nat → Int64) (P : Nat → Nat → Option Nat) : Option Value → pM → Prop := fun r M => ∃ b J, q = (b, J) ∧ prI J ∧ r = some (.int (bI b)) ∧ M = (J, L, P)
def yPL (pr : Nat) (I : Nat → Nat → Int32) : Bool × (Nat → Nat → Int32) := if pr = 5 then (false, yWr I 2) else
  (fun I1 => if ¬ I1 134 8 = 2 then (false, yWr I1 1) else if ¬ fFind (fun k => I1 137 (5 + k)) (I1 134 9) pr 0 < 0 then (false, yWr I1 3) else
    yB (yNum (yTok (sI I1 137 (5 + pr) (I1 134 9))) 1 20) fun I3 => yB (yNum (sI I3 138 (5 + pr) (I3 134 11)) 0 99) fun I4 => yB (yNum (sI I4 139 (5 + pr) (I4 134 11)) 0 99) fun I5 => (true, sI (sI I5 140 (5 + pr) (I5 134 11)) 134 17 (nI (pr + 1)))) (yTok I)
def ySL (pr sr : Nat) (I : Nat → Nat → Int32) : Bool × (Nat → Nat → Int32) := if sr = 16 then (false, yWr I 2) else
  yB (yPick (yTok I) 7 8) fun I2 => yB (yNum (sI I2 142 (16 + sr) (I2 134 11)) 1 20) fun I3 => yB (yNum (sI I3 143 (16 + sr) (I3 134 11)) 0 49) fun I4 => yB (yPick (sI I4 144 (16 + sr) (I4 134 11)) 9 11) fun I5 =>
    if I5 134 8 = 1 ∧ I5 134 9 = 12 then (true, sI (sI (yTok (sI I5 145 (16 + sr) (I5 134 11))) 146 (16 + sr) (-1)) 134 18 (nI (sr + 1))) else
    yB (yPer (sI I5 145 (16 + sr) (I5 134 11)) pr) fun I7 => (true, sI (sI I7 146 (16 + sr) (I7 134 11)) 134 18 (nI (sr + 1)))
def yDL (pr dr : Nat) (I : Nat → Nat → Int32) : Bool × (Nat → Nat → Int32) := if dr = 8 then (false, yWr I 2) else
  yB (yPer (yTok I) pr) fun I2 => yB (yPer (sI I2 147 (8 + dr) (I2 134 11)) pr) fun I4 =>
    if I4 134 11 = I4 147 (8 + dr) then (false, yWr (sI (sI I4 148 (8 + dr) (I4 134 11)) 134 10 (I2 134 10)) 5) else
    yB (yNum (sI I4 148 (8 + dr) (I4 134 11)) 1 999) fun I6 => yB (yNum (sI I6 149 (8 + dr) (I6 134 11)) 0 99) fun I7 => (true, sI (sI I7 150 (8 + dr) (I7 134 11)) 134 19 (nI (dr + 1)))
def yCL (pr : Nat) (I : Nat → Nat → Int32) : Bool × (Nat → Nat → Int32) :=
  (fun I1 => yB (yPer I1 pr) fun I2 => if ¬ I2 141 (5 + ixn (I2 134 11)) < 0 then (false, yWr (sI I2 134 10 (I1 134 10)) 3) else yB (yNum I2 1 9) fun I3 => (true, sI I3 141 (5 + ixn (I2 134 11)) (I3 134 11))) (yTok I)
/-- is this rate among the first k? -/
def swH (r : Nat → Int32) (i : Nat) : Nat → Bool
  | 0 => false
  | k + 1 => swH r i k || decide (r (32 + 4 * k) = r i ∧ r (32 + 4 * k + 2) = r (i + 2))
def yRL (rr : Nat) (I : Nat → Nat → Int32) : Bool × (Nat → Nat → Int32) := if rr = 8 then (false, yWr I 2) else
  yB (yPick (yTok I) 9 11) fun I2 => yB (yPick (sI I2 151 (32 + 4 * rr) (2 * I2 134 11)) 7 8) fun I3 => yB (yNum (sI I3 151 (32 + 4 * rr) (I3 151 (32 + 4 * rr) + I3 134 11)) 1 99) fun I4 => yB (yPick (sI I4 151 (32 + 4 * rr + 1) (I4 134 11)) 9 11) fun I5 =>
    yB (yPick (sI I5 151 (32 + 4 * rr + 2) (2 * I5 134 11)) 7 8) fun I7 => (fun I8 => if swH (I8 151) (32 + 4 * rr) rr = true ∨ I8 151 (32 + 4 * rr) = I8 151 (32 + 4 * rr + 2) then (false, yWr (sI I8 134 10 (I5 134 10)) (if I8 151 (32 + 4 * rr) = I8 151 (32 + 4 * rr + 2) then 5 else 3)) else
      yB (yNum I8 1 99) fun I9 => (true, sI (sI I9 151 (32 + 4 * rr + 3) (I9 134 11)) 134 20 (nI (rr + 1)))) (sI I7 151 (32 + 4 * rr + 2) (I7 151 (32 + 4 * rr + 2) + I7 134 11))
theorem fFind_in (f : Nat → Int32) (x : Int32) : ∀ c k, fFind f x c k = -1 ∨ ∃ j, k ≤ j ∧ j < k + c ∧ fFind f x c k = nI j
  | 0, k => Or.inl rfl
  | c + 1, k => by
    unfold fFind
    by_cases h : f k = x
    · rw [if_pos h]; exact Or.inr ⟨k, Nat.le_refl _, by omega, rfl⟩
    · rw [if_neg h]
      rcases fFind_in f x c (k + 1) with q | ⟨j, h1, h2, h3⟩
      · exact Or.inl q
      · exact Or.inr ⟨j, by omega, by omega, h3⟩
theorem yPer_got {I J : Nat → Nat → Int32} {pr : Nat} (h : yPer I pr = (true, J)) : ∃ j, j < pr ∧ J 134 11 = nI j := by
  unfold yPer at h
  by_cases h1 : I 134 8 = 2
  · rw [if_neg (fun w => w h1)] at h
    by_cases h2 : fFind (fun k => I 137 (5 + k)) (I 134 9) pr 0 < 0
    · rw [if_pos h2] at h; cases h
    · rw [if_neg h2] at h
      cases h
      rw [sI_rs]
      rcases fFind_in (fun k => I 137 (5 + k)) (I 134 9) pr 0 with q | ⟨j, _, h3, h4⟩
      · rw [q] at h2; exact absurd (by decide) h2
      · exact ⟨j, by omega, h4⟩
  · rw [if_pos h1] at h; cases h

theorem bI_z (b : Bool) : bI b = 0 ∨ bI b = 1 := by cases b; exact Or.inl rfl; exact Or.inr rfl

set_option maxHeartbeats 4000000 in
theorem ct_Mo_personLine {sh : List pSh} {I : Nat → Nat → Int32} {L : Nat → Nat → Int64} {P : Nat → Nat → Option Nat} (hA : kA sh P) (hp0 : prI I) {pr : Nat} (h17_0 : I 134 17 = nI pr) (hp5 : pr ≤ 5) (ho_0 : I 134 17 = nI pr) : pCn m_Mo_personLine 3 [.ref 134] sh (I, L, P) (rLn (yPL pr I) L P) := by
  refine pCn_of (by decide +kernel) (Nat.le_of_ble_eq_true rfl) ?_
  obtain ⟨X, hX⟩ : ∃ X, X = yPL pr I := ⟨_, rfl⟩
  rw [← hX]
  unfold yPL at hX
  refine pw_aload_n (k4 := 0) rfl (by decide +kernel) ?_
  refine pq_getI (c := 11) (k := 17) (ks_m hA) (by decide) (by decide) lf_Mo_237 (by decide +kernel) ?_
  refine pn_val (nI (pr)) (by exact ho_0) ?_
  refine pw_iconst (n := 5) (v := 5) (by decide) (by decide +kernel) ?_
  refine pn_icmp_ne (off := 9) (tgt := 14) pr 5 rfl rfl (by omega) (by omega) (by decide +kernel) (by decide +kernel) (fun z5 => ?_) (fun z5 => ?_)
  · rw [if_neg z5] at hX
    refine pw_aload_n (k4 := 0) rfl (by decide +kernel) ?_
    refine pq_callV (ν := m_Mo_token) (d' := 1) (av := []) (c := 11) (by decide +kernel) lm_Mo_227 ok_Mo_token (show _ = some 0 by decide +kernel) (ks_m hA) rfl (by decide) (by omega) (Nat.le_of_ble_eq_true rfl) (ct_Mo_tok hA (by first | exact hp0 | exact prI_st hp0 (by decide) _ | exact prI_set hp0 (by decide) (by decide) _ | exact prI_set (prI_st hp0 (by decide) _) (by decide) (by decide) _ | exact prI_wr hp0 _ | exact prI_wr (prI_set hp0 (by decide) (by decide) _) _ | exact prI_wr (prI_set (prI_st hp0 (by decide) _) (by decide) (by decide) _) _ | exact prI_wr (prI_st hp0 (by decide) _) _ | exact prI_st (prI_st hp0 (by decide) _) (by decide) _)) ?_
    rintro _ _ ⟨J15, hJ15, hp15, hf15, rfl, rfl⟩
    rw [hJ15] at hX
    try dsimp only at hX
    have h17_15 : J15 134 17 = nI pr := (hf15.2 17 (by decide)).trans (by exact h17_0)
    have ho_15 : J15 134 17 = nI pr := (hf15.2 17 (by decide)).trans (by exact ho_0)
    refine pw_aload_n (k4 := 0) rfl (by decide +kernel) ?_
    refine pq_getI (c := 11) (k := 8) (ks_m hA) (by decide) (by decide) lf_Mo_193 (by decide +kernel) ?_
    refine pw_iconst (n := 2) (v := 2) (by decide) (by decide +kernel) ?_
    refine pw_icmp_eq (off := 9) (tgt := 32) (by decide +kernel) (by decide +kernel) (fun z23 => ?_) (fun z23 => ?_)
    · rw [if_neg (fun w => w z23)] at hX
      refine pw_aload_n (k4 := 0) rfl (by decide +kernel) ?_
      refine pq_getP (c := 11) (k := 23) (ks_m hA) (by decide) (by decide) (kp_m_personName hA) lf_Mo_20 (by decide +kernel) ?_
      refine pw_iconst (n := 5) (v := 5) (by decide) (by decide +kernel) ?_
      refine pw_aload_n (k4 := 0) rfl (by decide +kernel) ?_
      refine pq_getI (c := 11) (k := 17) (ks_m hA) (by decide) (by decide) lf_Mo_237 (by decide +kernel) ?_
      refine pn_val (nI (pr)) (by exact ho_15) ?_
      refine pw_aload_n (k4 := 0) rfl (by decide +kernel) ?_
      refine pq_getI (c := 11) (k := 9) (ks_m hA) (by decide) (by decide) lf_Mo_204 (by decide +kernel) ?_
      refine pq_callS (ν := m_Mo_find) (d' := 0) (av := [_, _, _, _]) (by decide +kernel) lm_Mo_281 ok_Mo_find (show _ = some 4 by decide +kernel) (by omega) (Nat.le_of_ble_eq_true rfl) (ct_Mo_find hA (fr := 5) (n := pr) (by omega) _) ?_
      rintro _ _ ⟨rfl, rfl⟩
      refine pw_if_lt (off := 9) (tgt := 57) (by decide +kernel) (by decide +kernel) (fun z48 => ?_) (fun z48 => ?_)
      · rw [if_neg (fun w => w z48)] at hX
        refine pw_iconst (n := 5) (v := 5) (by decide) (by decide +kernel) ?_
        refine pw_aload_n (k4 := 0) rfl (by decide +kernel) ?_
        refine pq_getI (c := 11) (k := 17) (ks_m hA) (by decide) (by decide) lf_Mo_237 (by decide +kernel) ?_
        refine pn_val (nI (pr)) (by exact ho_15) ?_
        refine pn_iadd 5 pr rfl rfl (by decide +kernel) ?_
        refine pq_istore_n (k4 := 1) (Nat.le_of_ble_eq_true rfl) rfl (by decide +kernel) ?_
        refine pw_aload_n (k4 := 0) rfl (by decide +kernel) ?_
        refine pq_getP (c := 11) (k := 23) (ks_m hA) (by decide) (by decide) (kp_m_personName hA) lf_Mo_20 (by decide +kernel) ?_
        refine pw_iload_n (k4 := 1) rfl (by decide +kernel) ?_
        refine pw_aload_n (k4 := 0) rfl (by decide +kernel) ?_
        refine pq_getI (c := 11) (k := 9) (ks_m hA) (by decide) (by decide) lf_Mo_204 (by decide +kernel) ?_
        refine pq_iast (5 + pr) rfl (by omega) (by decide) (ks_m_personName hA) (by decide +kernel) ?_
        refine pw_aload_n (k4 := 0) rfl (by decide +kernel) ?_
        refine pq_callV (ν := m_Mo_token) (d' := 1) (av := []) (c := 11) (by decide +kernel) lm_Mo_227 ok_Mo_token (show _ = some 0 by decide +kernel) (ks_m hA) rfl (by decide) (by omega) (Nat.le_of_ble_eq_true rfl) (ct_Mo_tok hA (by first | exact hp15 | exact prI_st hp15 (by decide) _ | exact prI_set hp15 (by decide) (by decide) _ | exact prI_set (prI_st hp15 (by decide) _) (by decide) (by decide) _ | exact prI_wr hp15 _ | exact prI_wr (prI_set hp15 (by decide) (by decide) _) _ | exact prI_wr (prI_set (prI_st hp15 (by decide) _) (by decide) (by decide) _) _ | exact prI_wr (prI_st hp15 (by decide) _) _ | exact prI_st (prI_st hp15 (by decide) _) (by decide) _)) ?_
        rintro _ _ ⟨J75, hJ75, hp75, hf75, rfl, rfl⟩
        rw [hJ75] at hX
        try dsimp only at hX
        have h17_75 : J75 134 17 = nI pr := (hf75.2 17 (by decide)).trans (by exact h17_15)
        have ho_75 : J75 134 17 = nI pr := (hf75.2 17 (by decide)).trans (by exact ho_15)
        refine pw_aload_n (k4 := 0) rfl (by decide +kernel) ?_
        refine pw_iconst (n := 1) (v := 1) (by decide) (by decide +kernel) ?_
        refine pw_bipush (n := 20) (v := 20) (by decide) (by decide +kernel) ?_
        refine pq_callV (ν := m_Mo_number) (d' := 2) (av := [_, _]) (c := 11) (by decide +kernel) lm_Mo_233 ok_Mo_number (show _ = some 2 by decide +kernel) (ks_m hA) rfl (by decide) (by omega) (Nat.le_of_ble_eq_true rfl) (ct_Mo_number hA (by first | exact hp75 | exact prI_st hp75 (by decide) _ | exact prI_set hp75 (by decide) (by decide) _ | exact prI_set (prI_st hp75 (by decide) _) (by decide) (by decide) _ | exact prI_wr hp75 _ | exact prI_wr (prI_set hp75 (by decide) (by decide) _) _ | exact prI_wr (prI_set (prI_st hp75 (by decide) _) (by decide) (by decide) _) _ | exact prI_wr (prI_st hp75 (by decide) _) _ | exact prI_st (prI_st hp75 (by decide) _) (by decide) _) _ _) ?_
        rintro _ _ ⟨b82, J82, hq82, hp82, hf82, rfl, rfl⟩
        rw [hq82] at hX
        have h17_82 : J82 134 17 = nI pr := (hf82.2 17 (by decide)).trans (by exact h17_75)
        have ho_82 : J82 134 17 = nI pr := (hf82.2 17 (by decide)).trans (by exact ho_75)
        refine pw_if_ne (off := 5) (tgt := 90) (by decide +kernel) (by decide +kernel) (fun z85 => ?_) (fun z85 => ?_)
        · have hb82 := bI_1 z85
          rw [hb82, yB_t] at hX
          try dsimp only at hX
          rw [hb82] at hq82
          refine pw_aload_n (k4 := 0) rfl (by decide +kernel) ?_
          refine pq_getP (c := 11) (k := 24) (ks_m hA) (by decide) (by decide) (kp_m_footOf hA) lf_Mo_23 (by decide +kernel) ?_
          refine pw_iload_n (k4 := 1) rfl (by decide +kernel) ?_
          refine pw_aload_n (k4 := 0) rfl (by decide +kernel) ?_
          refine pq_getI (c := 11) (k := 11) (ks_m hA) (by decide) (by decide) lf_Mo_224 (by decide +kernel) ?_
          refine pq_iast (5 + pr) rfl (by omega) (by decide) (ks_m_footOf hA) (by decide +kernel) ?_
          refine pw_aload_n (k4 := 0) rfl (by decide +kernel) ?_
          refine pw_iconst (n := 0) (v := 0) (by decide) (by decide +kernel) ?_
          refine pw_bipush (n := 99) (v := 99) (by decide) (by decide +kernel) ?_
          refine pq_callV (ν := m_Mo_number) (d' := 2) (av := [_, _]) (c := 11) (by decide +kernel) lm_Mo_233 ok_Mo_number (show _ = some 2 by decide +kernel) (ks_m hA) rfl (by decide) (by omega) (Nat.le_of_ble_eq_true rfl) (ct_Mo_number hA (by first | exact hp82 | exact prI_st hp82 (by decide) _ | exact prI_set hp82 (by decide) (by decide) _ | exact prI_set (prI_st hp82 (by decide) _) (by decide) (by decide) _ | exact prI_wr hp82 _ | exact prI_wr (prI_set hp82 (by decide) (by decide) _) _ | exact prI_wr (prI_set (prI_st hp82 (by decide) _) (by decide) (by decide) _) _ | exact prI_wr (prI_st hp82 (by decide) _) _ | exact prI_st (prI_st hp82 (by decide) _) (by decide) _) _ _) ?_
          rintro _ _ ⟨b104, J104, hq104, hp104, hf104, rfl, rfl⟩
          rw [hq104] at hX
          have h17_104 : J104 134 17 = nI pr := (hf104.2 17 (by decide)).trans (by exact h17_82)
          have ho_104 : J104 134 17 = nI pr := (hf104.2 17 (by decide)).trans (by exact ho_82)
          refine pw_if_ne (off := 5) (tgt := 112) (by decide +kernel) (by decide +kernel) (fun z107 => ?_) (fun z107 => ?_)
          · have hb104 := bI_1 z107
            rw [hb104, yB_t] at hX
            try dsimp only at hX
            rw [hb104] at hq104
            refine pw_aload_n (k4 := 0) rfl (by decide +kernel) ?_
            refine pq_getP (c := 11) (k := 25) (ks_m hA) (by decide) (by decide) (kp_m_stepsOf hA) lf_Mo_26 (by decide +kernel) ?_
            refine pw_iload_n (k4 := 1) rfl (by decide +kernel) ?_
            refine pw_aload_n (k4 := 0) rfl (by decide +kernel) ?_
            refine pq_getI (c := 11) (k := 11) (ks_m hA) (by decide) (by decide) lf_Mo_224 (by decide +kernel) ?_
            refine pq_iast (5 + pr) rfl (by omega) (by decide) (ks_m_stepsOf hA) (by decide +kernel) ?_
            refine pw_aload_n (k4 := 0) rfl (by decide +kernel) ?_
            refine pw_iconst (n := 0) (v := 0) (by decide) (by decide +kernel) ?_
            refine pw_bipush (n := 99) (v := 99) (by decide) (by decide +kernel) ?_
            refine pq_callV (ν := m_Mo_number) (d' := 2) (av := [_, _]) (c := 11) (by decide +kernel) lm_Mo_233 ok_Mo_number (show _ = some 2 by decide +kernel) (ks_m hA) rfl (by decide) (by omega) (Nat.le_of_ble_eq_true rfl) (ct_Mo_number hA (by first | exact hp104 | exact prI_st hp104 (by decide) _ | exact prI_set hp104 (by decide) (by decide) _ | exact prI_set (prI_st hp104 (by decide) _) (by decide) (by decide) _ | exact prI_wr hp104 _ | exact prI_wr (prI_set hp104 (by decide) (by decide) _) _ | exact prI_wr (prI_set (prI_st hp104 (by decide) _) (by decide) (by decide) _) _ | exact prI_wr (prI_st hp104 (by decide) _) _ | exact prI_st (prI_st hp104 (by decide) _) (by decide) _) _ _) ?_
            rintro _ _ ⟨b126, J126, hq126, hp126, hf126, rfl, rfl⟩
            rw [hq126] at hX
            have h17_126 : J126 134 17 = nI pr := (hf126.2 17 (by decide)).trans (by exact h17_104)
            have ho_126 : J126 134 17 = nI pr := (hf126.2 17 (by decide)).trans (by exact ho_104)
            refine pw_if_ne (off := 5) (tgt := 134) (by decide +kernel) (by decide +kernel) (fun z129 => ?_) (fun z129 => ?_)
            · have hb126 := bI_1 z129
              rw [hb126, yB_t] at hX
              try dsimp only at hX
              rw [hb126] at hq126
              refine pw_aload_n (k4 := 0) rfl (by decide +kernel) ?_
              refine pq_getP (c := 11) (k := 26) (ks_m hA) (by decide) (by decide) (kp_m_fareOf hA) lf_Mo_29 (by decide +kernel) ?_
              refine pw_iload_n (k4 := 1) rfl (by decide +kernel) ?_
              refine pw_aload_n (k4 := 0) rfl (by decide +kernel) ?_
              refine pq_getI (c := 11) (k := 11) (ks_m hA) (by decide) (by decide) lf_Mo_224 (by decide +kernel) ?_
              refine pq_iast (5 + pr) rfl (by omega) (by decide) (ks_m_fareOf hA) (by decide +kernel) ?_
              refine pw_aload_n (k4 := 0) rfl (by decide +kernel) ?_
              refine pw_dup rfl (by decide +kernel) ?_
              refine pq_getI (c := 11) (k := 17) (ks_m hA) (by decide) (by decide) lf_Mo_237 (by decide +kernel) ?_
              refine pn_val (nI (pr)) (by exact ho_126) ?_
              refine pw_iconst (n := 1) (v := 1) (by decide) (by decide +kernel) ?_
              refine pn_iadd pr 1 rfl rfl (by decide +kernel) ?_
              refine pq_putI (c := 11) (k := 17) (ks_m hA) (by decide) (by decide) lf_Mo_237 (Or.inl rfl) (by decide +kernel) ?_
              refine pw_iconst (n := 1) (v := 1) (by decide) (by decide +kernel) ?_
              exact pq_zret rfl (by decide) (by decide +kernel) ⟨_, _, hX, (by first | exact hp126 | exact prI_st hp126 (by decide) _ | exact prI_set hp126 (by decide) (by decide) _ | exact prI_set (prI_st hp126 (by decide) _) (by decide) (by decide) _ | exact prI_wr hp126 _ | exact prI_wr (prI_set hp126 (by decide) (by decide) _) _ | exact prI_wr (prI_set (prI_st hp126 (by decide) _) (by decide) (by decide) _) _ | exact prI_wr (prI_st hp126 (by decide) _) _ | exact prI_st (prI_st hp126 (by decide) _) (by decide) _), rfl, rfl⟩
            · have hb126 : b126 = false := bI_0 z129
              rw [hb126, yB_f] at hX
              refine pw_iconst (n := 0) (v := 0) (by decide) (by decide +kernel) ?_
              exact pq_zret rfl (by decide) (by decide +kernel) ⟨_, _, hX, (by first | exact hp126 | exact prI_st hp126 (by decide) _ | exact prI_set hp126 (by decide) (by decide) _ | exact prI_set (prI_st hp126 (by decide) _) (by decide) (by decide) _ | exact prI_wr hp126 _ | exact prI_wr (prI_set hp126 (by decide) (by decide) _) _ | exact prI_wr (prI_set (prI_st hp126 (by decide) _) (by decide) (by decide) _) _ | exact prI_wr (prI_st hp126 (by decide) _) _ | exact prI_st (prI_st hp126 (by decide) _) (by decide) _), rfl, rfl⟩
          · have hb104 : b104 = false := bI_0 z107
            rw [hb104, yB_f] at hX
            refine pw_iconst (n := 0) (v := 0) (by decide) (by decide +kernel) ?_
            exact pq_zret rfl (by decide) (by decide +kernel) ⟨_, _, hX, (by first | exact hp104 | exact prI_st hp104 (by decide) _ | exact prI_set hp104 (by decide) (by decide) _ | exact prI_set (prI_st hp104 (by decide) _) (by decide) (by decide) _ | exact prI_wr hp104 _ | exact prI_wr (prI_set hp104 (by decide) (by decide) _) _ | exact prI_wr (prI_set (prI_st hp104 (by decide) _) (by decide) (by decide) _) _ | exact prI_wr (prI_st hp104 (by decide) _) _ | exact prI_st (prI_st hp104 (by decide) _) (by decide) _), rfl, rfl⟩
        · have hb82 : b82 = false := bI_0 z85
          rw [hb82, yB_f] at hX
          refine pw_iconst (n := 0) (v := 0) (by decide) (by decide +kernel) ?_
          exact pq_zret rfl (by decide) (by decide +kernel) ⟨_, _, hX, (by first | exact hp82 | exact prI_st hp82 (by decide) _ | exact prI_set hp82 (by decide) (by decide) _ | exact prI_set (prI_st hp82 (by decide) _) (by decide) (by decide) _ | exact prI_wr hp82 _ | exact prI_wr (prI_set hp82 (by decide) (by decide) _) _ | exact prI_wr (prI_set (prI_st hp82 (by decide) _) (by decide) (by decide) _) _ | exact prI_wr (prI_st hp82 (by decide) _) _ | exact prI_st (prI_st hp82 (by decide) _) (by decide) _), rfl, rfl⟩
      · rw [if_pos z48] at hX
        refine pw_aload_n (k4 := 0) rfl (by decide +kernel) ?_
        refine pw_iconst (n := 3) (v := 3) (by decide) (by decide +kernel) ?_
        refine pq_callV (ν := m_Mo_wrong) (d' := 0) (av := [_]) (c := 11) (by decide +kernel) lm_Mo_217 ok_Mo_wrong (show _ = some 1 by decide +kernel) (ks_m hA) rfl (by decide) (by omega) (Nat.le_of_ble_eq_true rfl) (ct_Mo_wrong hA _) ?_
        rintro _ _ ⟨rfl, rfl⟩
        exact pq_zret rfl (by decide) (by decide +kernel) ⟨_, _, hX, (by first | exact hp15 | exact prI_st hp15 (by decide) _ | exact prI_set hp15 (by decide) (by decide) _ | exact prI_set (prI_st hp15 (by decide) _) (by decide) (by decide) _ | exact prI_wr hp15 _ | exact prI_wr (prI_set hp15 (by decide) (by decide) _) _ | exact prI_wr (prI_set (prI_st hp15 (by decide) _) (by decide) (by decide) _) _ | exact prI_wr (prI_st hp15 (by decide) _) _ | exact prI_st (prI_st hp15 (by decide) _) (by decide) _), rfl, rfl⟩
    · rw [if_pos z23] at hX
      refine pw_aload_n (k4 := 0) rfl (by decide +kernel) ?_
      refine pw_iconst (n := 1) (v := 1) (by decide) (by decide +kernel) ?_
      refine pq_callV (ν := m_Mo_wrong) (d' := 0) (av := [_]) (c := 11) (by decide +kernel) lm_Mo_217 ok_Mo_wrong (show _ = some 1 by decide +kernel) (ks_m hA) rfl (by decide) (by omega) (Nat.le_of_ble_eq_true rfl) (ct_Mo_wrong hA _) ?_
      rintro _ _ ⟨rfl, rfl⟩
      exact pq_zret rfl (by decide) (by decide +kernel) ⟨_, _, hX, (by first | exact hp15 | exact prI_st hp15 (by decide) _ | exact prI_set hp15 (by decide) (by decide) _ | exact prI_set (prI_st hp15 (by decide) _) (by decide) (by decide) _ | exact prI_wr hp15 _ | exact prI_wr (prI_set hp15 (by decide) (by decide) _) _ | exact prI_wr (prI_set (prI_st hp15 (by decide) _) (by decide) (by decide) _) _ | exact prI_wr (prI_st hp15 (by decide) _) _ | exact prI_st (prI_st hp15 (by decide) _) (by decide) _), rfl, rfl⟩
  · rw [if_pos (Decidable.not_not.mp z5)] at hX
    refine pw_aload_n (k4 := 0) rfl (by decide +kernel) ?_
    refine pw_iconst (n := 2) (v := 2) (by decide) (by decide +kernel) ?_
    refine pq_callV (ν := m_Mo_wrong) (d' := 0) (av := [_]) (c := 11) (by decide +kernel) lm_Mo_217 ok_Mo_wrong (show _ = some 1 by decide +kernel) (ks_m hA) rfl (by decide) (by omega) (Nat.le_of_ble_eq_true rfl) (ct_Mo_wrong hA _) ?_
    rintro _ _ ⟨rfl, rfl⟩
    exact pq_zret rfl (by decide) (by decide +kernel) ⟨_, _, hX, (by first | exact hp0 | exact prI_st hp0 (by decide) _ | exact prI_set hp0 (by decide) (by decide) _ | exact prI_set (prI_st hp0 (by decide) _) (by decide) (by decide) _ | exact prI_wr hp0 _ | exact prI_wr (prI_set hp0 (by decide) (by decide) _) _ | exact prI_wr (prI_set (prI_st hp0 (by decide) _) (by decide) (by decide) _) _ | exact prI_wr (prI_st hp0 (by decide) _) _ | exact prI_st (prI_st hp0 (by decide) _) (by decide) _), rfl, rfl⟩

set_option maxHeartbeats 4000000 in
theorem ct_Mo_shoeLine {sh : List pSh} {I : Nat → Nat → Int32} {L : Nat → Nat → Int64} {P : Nat → Nat → Option Nat} (hA : kA sh P) (hp0 : prI I) {pr : Nat} (h17_0 : I 134 17 = nI pr) (hp5 : pr ≤ 5) {sr : Nat} (ho_0 : I 134 18 = nI sr) (hs16 : sr ≤ 16) : pCn m_Mo_shoeLine 3 [.ref 134] sh (I, L, P) (rLn (ySL pr sr I) L P) := by
  refine pCn_of (by decide +kernel) (Nat.le_of_ble_eq_true rfl) ?_
  obtain ⟨X, hX⟩ : ∃ X, X = ySL pr sr I := ⟨_, rfl⟩
  rw [← hX]
  unfold ySL at hX
  refine pw_aload_n (k4 := 0) rfl (by decide +kernel) ?_
  refine pq_getI (c := 11) (k := 18) (ks_m hA) (by decide) (by decide) lf_Mo_240 (by decide +kernel) ?_
  refine pn_val (nI (sr)) (by exact ho_0) ?_
  refine pw_bipush (n := 16) (v := 16) (by decide) (by decide +kernel) ?_
  refine pn_icmp_ne (off := 9) (tgt := 15) sr 16 rfl rfl (by omega) (by omega) (by decide +kernel) (by decide +kernel) (fun z6 => ?_) (fun z6 => ?_)
  · rw [if_neg z6] at hX
    refine pw_aload_n (k4 := 0) rfl (by decide +kernel) ?_
    refine pq_callV (ν := m_Mo_token) (d' := 1) (av := []) (c := 11) (by decide +kernel) lm_Mo_227 ok_Mo_token (show _ = some 0 by decide +kernel) (ks_m hA) rfl (by decide) (by omega) (Nat.le_of_ble_eq_true rfl) (ct_Mo_tok hA (by first | exact hp0 | exact prI_st hp0 (by decide) _ | exact prI_set hp0 (by decide) (by decide) _ | exact prI_set (prI_st hp0 (by decide) _) (by decide) (by decide) _ | exact prI_wr hp0 _ | exact prI_wr (prI_set hp0 (by decide) (by decide) _) _ | exact prI_wr (prI_set (prI_st hp0 (by decide) _) (by decide) (by decide) _) _ | exact prI_wr (prI_st hp0 (by decide) _) _ | exact prI_st (prI_st hp0 (by decide) _) (by decide) _)) ?_
    rintro _ _ ⟨J16, hJ16, hp16, hf16, rfl, rfl⟩
    rw [hJ16] at hX
    try dsimp only at hX
    have h17_16 : J16 134 17 = nI pr := (hf16.2 17 (by decide)).trans (by exact h17_0)
    have ho_16 : J16 134 18 = nI sr := (hf16.2 18 (by decide)).trans (by exact ho_0)
    refine pw_bipush (n := 16) (v := 16) (by decide) (by decide +kernel) ?_
    refine pw_aload_n (k4 := 0) rfl (by decide +kernel) ?_
    refine pq_getI (c := 11) (k := 18) (ks_m hA) (by decide) (by decide) lf_Mo_240 (by decide +kernel) ?_
    refine pn_val (nI (sr)) (by exact ho_16) ?_
    refine pn_iadd 16 sr rfl rfl (by decide +kernel) ?_
    refine pq_istore_n (k4 := 1) (Nat.le_of_ble_eq_true rfl) rfl (by decide +kernel) ?_
    refine pw_aload_n (k4 := 0) rfl (by decide +kernel) ?_
    refine pw_bipush (n := 7) (v := 7) (by decide) (by decide +kernel) ?_
    refine pw_bipush (n := 8) (v := 8) (by decide) (by decide +kernel) ?_
    refine pq_callV (ν := m_Mo_pick) (d' := 2) (av := [_, _]) (c := 11) (by decide +kernel) lm_Mo_285 ok_Mo_pick (show _ = some 2 by decide +kernel) (ks_m hA) rfl (by decide) (by omega) (Nat.le_of_ble_eq_true rfl) (ct_Mo_pick hA (by first | exact hp16 | exact prI_st hp16 (by decide) _ | exact prI_set hp16 (by decide) (by decide) _ | exact prI_set (prI_st hp16 (by decide) _) (by decide) (by decide) _ | exact prI_wr hp16 _ | exact prI_wr (prI_set hp16 (by decide) (by decide) _) _ | exact prI_wr (prI_set (prI_st hp16 (by decide) _) (by decide) (by decide) _) _ | exact prI_wr (prI_st hp16 (by decide) _) _ | exact prI_st (prI_st hp16 (by decide) _) (by decide) _) _ _) ?_
    rintro _ _ ⟨b32, J32, hq32, hp32, hf32, rfl, rfl⟩
    rw [hq32] at hX
    have h17_32 : J32 134 17 = nI pr := (hf32.2 17 (by decide)).trans (by exact h17_16)
    have ho_32 : J32 134 18 = nI sr := (hf32.2 18 (by decide)).trans (by exact ho_16)
    refine pw_if_ne (off := 5) (tgt := 40) (by decide +kernel) (by decide +kernel) (fun z35 => ?_) (fun z35 => ?_)
    · have hb32 := bI_1 z35
      rw [hb32, yB_t] at hX
      try dsimp only at hX
      rw [hb32] at hq32
      refine pw_aload_n (k4 := 0) rfl (by decide +kernel) ?_
      refine pq_getP (c := 11) (k := 28) (ks_m hA) (by decide) (by decide) (kp_m_sideOf hA) lf_Mo_35 (by decide +kernel) ?_
      refine pw_iload_n (k4 := 1) rfl (by decide +kernel) ?_
      refine pw_aload_n (k4 := 0) rfl (by decide +kernel) ?_
      refine pq_getI (c := 11) (k := 11) (ks_m hA) (by decide) (by decide) lf_Mo_224 (by decide +kernel) ?_
      refine pq_iast (16 + sr) rfl (by omega) (by decide) (ks_m_sideOf hA) (by decide +kernel) ?_
      refine pw_aload_n (k4 := 0) rfl (by decide +kernel) ?_
      refine pw_iconst (n := 1) (v := 1) (by decide) (by decide +kernel) ?_
      refine pw_bipush (n := 20) (v := 20) (by decide) (by decide +kernel) ?_
      refine pq_callV (ν := m_Mo_number) (d' := 2) (av := [_, _]) (c := 11) (by decide +kernel) lm_Mo_233 ok_Mo_number (show _ = some 2 by decide +kernel) (ks_m hA) rfl (by decide) (by omega) (Nat.le_of_ble_eq_true rfl) (ct_Mo_number hA (by first | exact hp32 | exact prI_st hp32 (by decide) _ | exact prI_set hp32 (by decide) (by decide) _ | exact prI_set (prI_st hp32 (by decide) _) (by decide) (by decide) _ | exact prI_wr hp32 _ | exact prI_wr (prI_set hp32 (by decide) (by decide) _) _ | exact prI_wr (prI_set (prI_st hp32 (by decide) _) (by decide) (by decide) _) _ | exact prI_wr (prI_st hp32 (by decide) _) _ | exact prI_st (prI_st hp32 (by decide) _) (by decide) _) _ _) ?_
      rintro _ _ ⟨b54, J54, hq54, hp54, hf54, rfl, rfl⟩
      rw [hq54] at hX
      have h17_54 : J54 134 17 = nI pr := (hf54.2 17 (by decide)).trans (by exact h17_32)
      have ho_54 : J54 134 18 = nI sr := (hf54.2 18 (by decide)).trans (by exact ho_32)
      refine pw_if_ne (off := 5) (tgt := 62) (by decide +kernel) (by decide +kernel) (fun z57 => ?_) (fun z57 => ?_)
      · have hb54 := bI_1 z57
        rw [hb54, yB_t] at hX
        try dsimp only at hX
        rw [hb54] at hq54
        refine pw_aload_n (k4 := 0) rfl (by decide +kernel) ?_
        refine pq_getP (c := 11) (k := 29) (ks_m hA) (by decide) (by decide) (kp_m_sizeOf hA) lf_Mo_38 (by decide +kernel) ?_
        refine pw_iload_n (k4 := 1) rfl (by decide +kernel) ?_
        refine pw_aload_n (k4 := 0) rfl (by decide +kernel) ?_
        refine pq_getI (c := 11) (k := 11) (ks_m hA) (by decide) (by decide) lf_Mo_224 (by decide +kernel) ?_
        refine pq_iast (16 + sr) rfl (by omega) (by decide) (ks_m_sizeOf hA) (by decide +kernel) ?_
        refine pw_aload_n (k4 := 0) rfl (by decide +kernel) ?_
        refine pw_iconst (n := 0) (v := 0) (by decide) (by decide +kernel) ?_
        refine pw_bipush (n := 49) (v := 49) (by decide) (by decide +kernel) ?_
        refine pq_callV (ν := m_Mo_number) (d' := 2) (av := [_, _]) (c := 11) (by decide +kernel) lm_Mo_233 ok_Mo_number (show _ = some 2 by decide +kernel) (ks_m hA) rfl (by decide) (by omega) (Nat.le_of_ble_eq_true rfl) (ct_Mo_number hA (by first | exact hp54 | exact prI_st hp54 (by decide) _ | exact prI_set hp54 (by decide) (by decide) _ | exact prI_set (prI_st hp54 (by decide) _) (by decide) (by decide) _ | exact prI_wr hp54 _ | exact prI_wr (prI_set hp54 (by decide) (by decide) _) _ | exact prI_wr (prI_set (prI_st hp54 (by decide) _) (by decide) (by decide) _) _ | exact prI_wr (prI_st hp54 (by decide) _) _ | exact prI_st (prI_st hp54 (by decide) _) (by decide) _) _ _) ?_
        rintro _ _ ⟨b76, J76, hq76, hp76, hf76, rfl, rfl⟩
        rw [hq76] at hX
        have h17_76 : J76 134 17 = nI pr := (hf76.2 17 (by decide)).trans (by exact h17_54)
        have ho_76 : J76 134 18 = nI sr := (hf76.2 18 (by decide)).trans (by exact ho_54)
        refine pw_if_ne (off := 5) (tgt := 84) (by decide +kernel) (by decide +kernel) (fun z79 => ?_) (fun z79 => ?_)
        · have hb76 := bI_1 z79
          rw [hb76, yB_t] at hX
          try dsimp only at hX
          rw [hb76] at hq76
          refine pw_aload_n (k4 := 0) rfl (by decide +kernel) ?_
          refine pq_getP (c := 11) (k := 30) (ks_m hA) (by decide) (by decide) (kp_m_usedTold hA) lf_Mo_41 (by decide +kernel) ?_
          refine pw_iload_n (k4 := 1) rfl (by decide +kernel) ?_
          refine pw_aload_n (k4 := 0) rfl (by decide +kernel) ?_
          refine pq_getI (c := 11) (k := 11) (ks_m hA) (by decide) (by decide) lf_Mo_224 (by decide +kernel) ?_
          refine pq_iast (16 + sr) rfl (by omega) (by decide) (ks_m_usedTold hA) (by decide +kernel) ?_
          refine pw_aload_n (k4 := 0) rfl (by decide +kernel) ?_
          refine pw_bipush (n := 9) (v := 9) (by decide) (by decide +kernel) ?_
          refine pw_bipush (n := 11) (v := 11) (by decide) (by decide +kernel) ?_
          refine pq_callV (ν := m_Mo_pick) (d' := 2) (av := [_, _]) (c := 11) (by decide +kernel) lm_Mo_285 ok_Mo_pick (show _ = some 2 by decide +kernel) (ks_m hA) rfl (by decide) (by omega) (Nat.le_of_ble_eq_true rfl) (ct_Mo_pick hA (by first | exact hp76 | exact prI_st hp76 (by decide) _ | exact prI_set hp76 (by decide) (by decide) _ | exact prI_set (prI_st hp76 (by decide) _) (by decide) (by decide) _ | exact prI_wr hp76 _ | exact prI_wr (prI_set hp76 (by decide) (by decide) _) _ | exact prI_wr (prI_set (prI_st hp76 (by decide) _) (by decide) (by decide) _) _ | exact prI_wr (prI_st hp76 (by decide) _) _ | exact prI_st (prI_st hp76 (by decide) _) (by decide) _) _ _) ?_
          rintro _ _ ⟨b99, J99, hq99, hp99, hf99, rfl, rfl⟩
          rw [hq99] at hX
          have h17_99 : J99 134 17 = nI pr := (hf99.2 17 (by decide)).trans (by exact h17_76)
          have ho_99 : J99 134 18 = nI sr := (hf99.2 18 (by decide)).trans (by exact ho_76)
          refine pw_if_ne (off := 5) (tgt := 107) (by decide +kernel) (by decide +kernel) (fun z102 => ?_) (fun z102 => ?_)
          · have hb99 := bI_1 z102
            rw [hb99, yB_t] at hX
            try dsimp only at hX
            rw [hb99] at hq99
            refine pw_aload_n (k4 := 0) rfl (by decide +kernel) ?_
            refine pq_getP (c := 11) (k := 31) (ks_m hA) (by decide) (by decide) (kp_m_kindOf hA) lf_Mo_44 (by decide +kernel) ?_
            refine pw_iload_n (k4 := 1) rfl (by decide +kernel) ?_
            refine pw_aload_n (k4 := 0) rfl (by decide +kernel) ?_
            refine pq_getI (c := 11) (k := 11) (ks_m hA) (by decide) (by decide) lf_Mo_224 (by decide +kernel) ?_
            refine pq_iast (16 + sr) rfl (by omega) (by decide) (ks_m_kindOf hA) (by decide +kernel) ?_
            refine pw_aload_n (k4 := 0) rfl (by decide +kernel) ?_
            refine pw_bipush (n := 12) (v := 12) (by decide) (by decide +kernel) ?_
            refine pq_callV (ν := m_Mo_isKey) (d' := 0) (av := [_]) (c := 11) (by decide +kernel) lm_Mo_288 ok_Mo_isKey (show _ = some 1 by decide +kernel) (ks_m hA) rfl (by decide) (by omega) (Nat.le_of_ble_eq_true rfl) (ct_Mo_isKey hA _) ?_
            rintro _ _ ⟨rfl, rfl⟩
            refine pn_ifB_eq (off := 17) (tgt := 140) (by decide +kernel) (by decide +kernel) (fun z123 => ?_) (fun z123 => ?_)
            · rw [if_neg (show ¬ (J99 134 8 = 1 ∧ J99 134 9 = 12) from z123)] at hX
              refine pw_aload_n (k4 := 0) rfl (by decide +kernel) ?_
              refine pq_callV (ν := m_Mo_personRead) (d' := 2) (av := []) (c := 11) (by decide +kernel) lm_Mo_291 ok_Mo_personRead (show _ = some 0 by decide +kernel) (ks_m hA) rfl (by decide) (by omega) (Nat.le_of_ble_eq_true rfl) (ct_Mo_personRead hA (by first | exact hp99 | exact prI_st hp99 (by decide) _ | exact prI_set hp99 (by decide) (by decide) _ | exact prI_set (prI_st hp99 (by decide) _) (by decide) (by decide) _ | exact prI_wr hp99 _ | exact prI_wr (prI_set hp99 (by decide) (by decide) _) _ | exact prI_wr (prI_set (prI_st hp99 (by decide) _) (by decide) (by decide) _) _ | exact prI_wr (prI_st hp99 (by decide) _) _ | exact prI_st (prI_st hp99 (by decide) _) (by decide) _) (pr := pr) (by exact h17_99) hp5) ?_
              rintro _ _ ⟨b141, J141, hq141, hp141, hf141, rfl, rfl⟩
              rw [hq141] at hX
              have h17_141 : J141 134 17 = nI pr := (hf141.2 17 (by decide)).trans (by exact h17_99)
              have ho_141 : J141 134 18 = nI sr := (hf141.2 18 (by decide)).trans (by exact ho_99)
              refine pw_if_ne (off := 5) (tgt := 149) (by decide +kernel) (by decide +kernel) (fun z144 => ?_) (fun z144 => ?_)
              · have hb141 := bI_1 z144
                rw [hb141, yB_t] at hX
                try dsimp only at hX
                rw [hb141] at hq141
                refine pw_aload_n (k4 := 0) rfl (by decide +kernel) ?_
                refine pq_getP (c := 11) (k := 32) (ks_m hA) (by decide) (by decide) (kp_m_whoseTold hA) lf_Mo_47 (by decide +kernel) ?_
                refine pw_iload_n (k4 := 1) rfl (by decide +kernel) ?_
                refine pw_aload_n (k4 := 0) rfl (by decide +kernel) ?_
                refine pq_getI (c := 11) (k := 11) (ks_m hA) (by decide) (by decide) lf_Mo_224 (by decide +kernel) ?_
                refine pq_iast (16 + sr) rfl (by omega) (by decide) (ks_m_whoseTold hA) (by decide +kernel) ?_
                refine pw_aload_n (k4 := 0) rfl (by decide +kernel) ?_
                refine pw_dup rfl (by decide +kernel) ?_
                refine pq_getI (c := 11) (k := 18) (ks_m hA) (by decide) (by decide) lf_Mo_240 (by decide +kernel) ?_
                refine pn_val (nI (sr)) (by exact ho_141) ?_
                refine pw_iconst (n := 1) (v := 1) (by decide) (by decide +kernel) ?_
                refine pn_iadd sr 1 rfl rfl (by decide +kernel) ?_
                refine pq_putI (c := 11) (k := 18) (ks_m hA) (by decide) (by decide) lf_Mo_240 (Or.inl rfl) (by decide +kernel) ?_
                refine pw_iconst (n := 1) (v := 1) (by decide) (by decide +kernel) ?_
                exact pq_zret rfl (by decide) (by decide +kernel) ⟨_, _, hX, (by first | exact hp141 | exact prI_st hp141 (by decide) _ | exact prI_set hp141 (by decide) (by decide) _ | exact prI_set (prI_st hp141 (by decide) _) (by decide) (by decide) _ | exact prI_wr hp141 _ | exact prI_wr (prI_set hp141 (by decide) (by decide) _) _ | exact prI_wr (prI_set (prI_st hp141 (by decide) _) (by decide) (by decide) _) _ | exact prI_wr (prI_st hp141 (by decide) _) _ | exact prI_st (prI_st hp141 (by decide) _) (by decide) _), rfl, rfl⟩
              · have hb141 : b141 = false := bI_0 z144
                rw [hb141, yB_f] at hX
                refine pw_iconst (n := 0) (v := 0) (by decide) (by decide +kernel) ?_
                exact pq_zret rfl (by decide) (by decide +kernel) ⟨_, _, hX, (by first | exact hp141 | exact prI_st hp141 (by decide) _ | exact prI_set hp141 (by decide) (by decide) _ | exact prI_set (prI_st hp141 (by decide) _) (by decide) (by decide) _ | exact prI_wr hp141 _ | exact prI_wr (prI_set hp141 (by decide) (by decide) _) _ | exact prI_wr (prI_set (prI_st hp141 (by decide) _) (by decide) (by decide) _) _ | exact prI_wr (prI_st hp141 (by decide) _) _ | exact prI_st (prI_st hp141 (by decide) _) (by decide) _), rfl, rfl⟩
            · rw [if_pos (show J99 134 8 = 1 ∧ J99 134 9 = 12 from z123)] at hX
              refine pw_aload_n (k4 := 0) rfl (by decide +kernel) ?_
              refine pq_callV (ν := m_Mo_token) (d' := 1) (av := []) (c := 11) (by decide +kernel) lm_Mo_227 ok_Mo_token (show _ = some 0 by decide +kernel) (ks_m hA) rfl (by decide) (by omega) (Nat.le_of_ble_eq_true rfl) (ct_Mo_tok hA (by first | exact hp99 | exact prI_st hp99 (by decide) _ | exact prI_set hp99 (by decide) (by decide) _ | exact prI_set (prI_st hp99 (by decide) _) (by decide) (by decide) _ | exact prI_wr hp99 _ | exact prI_wr (prI_set hp99 (by decide) (by decide) _) _ | exact prI_wr (prI_set (prI_st hp99 (by decide) _) (by decide) (by decide) _) _ | exact prI_wr (prI_st hp99 (by decide) _) _ | exact prI_st (prI_st hp99 (by decide) _) (by decide) _)) ?_
              rintro _ _ ⟨J127, hJ127, hp127, hf127, rfl, rfl⟩
              rw [hJ127] at hX
              try dsimp only at hX
              have h17_127 : J127 134 17 = nI pr := (hf127.2 17 (by decide)).trans (by exact h17_99)
              have ho_127 : J127 134 18 = nI sr := (hf127.2 18 (by decide)).trans (by exact ho_99)
              refine pw_aload_n (k4 := 0) rfl (by decide +kernel) ?_
              refine pq_getP (c := 11) (k := 32) (ks_m hA) (by decide) (by decide) (kp_m_whoseTold hA) lf_Mo_47 (by decide +kernel) ?_
              refine pw_iload_n (k4 := 1) rfl (by decide +kernel) ?_
              refine pw_iconst (n := -1) (v := -1) (by decide) (by decide +kernel) ?_
              refine pq_iast (16 + sr) rfl (by omega) (by decide) (ks_m_whoseTold hA) (by decide +kernel) ?_
              refine pw_goto (off := 22) (tgt := 159) (by decide +kernel) (by decide +kernel) ?_
              refine pw_aload_n (k4 := 0) rfl (by decide +kernel) ?_
              refine pw_dup rfl (by decide +kernel) ?_
              refine pq_getI (c := 11) (k := 18) (ks_m hA) (by decide) (by decide) lf_Mo_240 (by decide +kernel) ?_
              refine pn_val (nI (sr)) (by exact ho_127) ?_
              refine pw_iconst (n := 1) (v := 1) (by decide) (by decide +kernel) ?_
              refine pn_iadd sr 1 rfl rfl (by decide +kernel) ?_
              refine pq_putI (c := 11) (k := 18) (ks_m hA) (by decide) (by decide) lf_Mo_240 (Or.inl rfl) (by decide +kernel) ?_
              refine pw_iconst (n := 1) (v := 1) (by decide) (by decide +kernel) ?_
              exact pq_zret rfl (by decide) (by decide +kernel) ⟨_, _, hX, (by first | exact hp127 | exact prI_st hp127 (by decide) _ | exact prI_set hp127 (by decide) (by decide) _ | exact prI_set (prI_st hp127 (by decide) _) (by decide) (by decide) _ | exact prI_wr hp127 _ | exact prI_wr (prI_set hp127 (by decide) (by decide) _) _ | exact prI_wr (prI_set (prI_st hp127 (by decide) _) (by decide) (by decide) _) _ | exact prI_wr (prI_st hp127 (by decide) _) _ | exact prI_st (prI_st hp127 (by decide) _) (by decide) _), rfl, rfl⟩
          · have hb99 : b99 = false := bI_0 z102
            rw [hb99, yB_f] at hX
            refine pw_iconst (n := 0) (v := 0) (by decide) (by decide +kernel) ?_
            exact pq_zret rfl (by decide) (by decide +kernel) ⟨_, _, hX, (by first | exact hp99 | exact prI_st hp99 (by decide) _ | exact prI_set hp99 (by decide) (by decide) _ | exact prI_set (prI_st hp99 (by decide) _) (by decide) (by decide) _ | exact prI_wr hp99 _ | exact prI_wr (prI_set hp99 (by decide) (by decide) _) _ | exact prI_wr (prI_set (prI_st hp99 (by decide) _) (by decide) (by decide) _) _ | exact prI_wr (prI_st hp99 (by decide) _) _ | exact prI_st (prI_st hp99 (by decide) _) (by decide) _), rfl, rfl⟩
        · have hb76 : b76 = false := bI_0 z79
          rw [hb76, yB_f] at hX
          refine pw_iconst (n := 0) (v := 0) (by decide) (by decide +kernel) ?_
          exact pq_zret rfl (by decide) (by decide +kernel) ⟨_, _, hX, (by first | exact hp76 | exact prI_st hp76 (by decide) _ | exact prI_set hp76 (by decide) (by decide) _ | exact prI_set (prI_st hp76 (by decide) _) (by decide) (by decide) _ | exact prI_wr hp76 _ | exact prI_wr (prI_set hp76 (by decide) (by decide) _) _ | exact prI_wr (prI_set (prI_st hp76 (by decide) _) (by decide) (by decide) _) _ | exact prI_wr (prI_st hp76 (by decide) _) _ | exact prI_st (prI_st hp76 (by decide) _) (by decide) _), rfl, rfl⟩
      · have hb54 : b54 = false := bI_0 z57
        rw [hb54, yB_f] at hX
        refine pw_iconst (n := 0) (v := 0) (by decide) (by decide +kernel) ?_
        exact pq_zret rfl (by decide) (by decide +kernel) ⟨_, _, hX, (by first | exact hp54 | exact prI_st hp54 (by decide) _ | exact prI_set hp54 (by decide) (by decide) _ | exact prI_set (prI_st hp54 (by decide) _) (by decide) (by decide) _ | exact prI_wr hp54 _ | exact prI_wr (prI_set hp54 (by decide) (by decide) _) _ | exact prI_wr (prI_set (prI_st hp54 (by decide) _) (by decide) (by decide) _) _ | exact prI_wr (prI_st hp54 (by decide) _) _ | exact prI_st (prI_st hp54 (by decide) _) (by decide) _), rfl, rfl⟩
    · have hb32 : b32 = false := bI_0 z35
      rw [hb32, yB_f] at hX
      refine pw_iconst (n := 0) (v := 0) (by decide) (by decide +kernel) ?_
      exact pq_zret rfl (by decide) (by decide +kernel) ⟨_, _, hX, (by first | exact hp32 | exact prI_st hp32 (by decide) _ | exact prI_set hp32 (by decide) (by decide) _ | exact prI_set (prI_st hp32 (by decide) _) (by decide) (by decide) _ | exact prI_wr hp32 _ | exact prI_wr (prI_set hp32 (by decide) (by decide) _) _ | exact prI_wr (prI_set (prI_st hp32 (by decide) _) (by decide) (by decide) _) _ | exact prI_wr (prI_st hp32 (by decide) _) _ | exact prI_st (prI_st hp32 (by decide) _) (by decide) _), rfl, rfl⟩
  · rw [if_pos (Decidable.not_not.mp z6)] at hX
    refine pw_aload_n (k4 := 0) rfl (by decide +kernel) ?_
    refine pw_iconst (n := 2) (v := 2) (by decide) (by decide +kernel) ?_
    refine pq_callV (ν := m_Mo_wrong) (d' := 0) (av := [_]) (c := 11) (by decide +kernel) lm_Mo_217 ok_Mo_wrong (show _ = some 1 by decide +kernel) (ks_m hA) rfl (by decide) (by omega) (Nat.le_of_ble_eq_true rfl) (ct_Mo_wrong hA _) ?_
    rintro _ _ ⟨rfl, rfl⟩
    exact pq_zret rfl (by decide) (by decide +kernel) ⟨_, _, hX, (by first | exact hp0 | exact prI_st hp0 (by decide) _ | exact prI_set hp0 (by decide) (by decide) _ | exact prI_set (prI_st hp0 (by decide) _) (by decide) (by decide) _ | exact prI_wr hp0 _ | exact prI_wr (prI_set hp0 (by decide) (by decide) _) _ | exact prI_wr (prI_set (prI_st hp0 (by decide) _) (by decide) (by decide) _) _ | exact prI_wr (prI_st hp0 (by decide) _) _ | exact prI_st (prI_st hp0 (by decide) _) (by decide) _), rfl, rfl⟩

set_option maxHeartbeats 4000000 in
theorem ct_Mo_debtLine {sh : List pSh} {I : Nat → Nat → Int32} {L : Nat → Nat → Int64} {P : Nat → Nat → Option Nat} (hA : kA sh P) (hp0 : prI I) {pr : Nat} (h17_0 : I 134 17 = nI pr) (hp5 : pr ≤ 5) {dr : Nat} (ho_0 : I 134 19 = nI dr) (hd8 : dr ≤ 8) : pCn m_Mo_debtLine 3 [.ref 134] sh (I, L, P) (rLn (yDL pr dr I) L P) := by
  refine pCn_of (by decide +kernel) (Nat.le_of_ble_eq_true rfl) ?_
  obtain ⟨X, hX⟩ : ∃ X, X = yDL pr dr I := ⟨_, rfl⟩
  rw [← hX]
  unfold yDL at hX
  refine pw_aload_n (k4 := 0) rfl (by decide +kernel) ?_
  refine pq_getI (c := 11) (k := 19) (ks_m hA) (by decide) (by decide) lf_Mo_243 (by decide +kernel) ?_
  refine pn_val (nI (dr)) (by exact ho_0) ?_
  refine pw_bipush (n := 8) (v := 8) (by decide) (by decide +kernel) ?_
  refine pn_icmp_ne (off := 9) (tgt := 15) dr 8 rfl rfl (by omega) (by omega) (by decide +kernel) (by decide +kernel) (fun z6 => ?_) (fun z6 => ?_)
  · rw [if_neg z6] at hX
    refine pw_aload_n (k4 := 0) rfl (by decide +kernel) ?_
    refine pq_callV (ν := m_Mo_token) (d' := 1) (av := []) (c := 11) (by decide +kernel) lm_Mo_227 ok_Mo_token (show _ = some 0 by decide +kernel) (ks_m hA) rfl (by decide) (by omega) (Nat.le_of_ble_eq_true rfl) (ct_Mo_tok hA (by first | exact hp0 | exact prI_st hp0 (by decide) _ | exact prI_set hp0 (by decide) (by decide) _ | exact prI_set (prI_st hp0 (by decide) _) (by decide) (by decide) _ | exact prI_wr hp0 _ | exact prI_wr (prI_set hp0 (by decide) (by decide) _) _ | exact prI_wr (prI_set (prI_st hp0 (by decide) _) (by decide) (by decide) _) _ | exact prI_wr (prI_st hp0 (by decide) _) _ | exact prI_st (prI_st hp0 (by decide) _) (by decide) _)) ?_
    rintro _ _ ⟨J16, hJ16, hp16, hf16, rfl, rfl⟩
    rw [hJ16] at hX
    try dsimp only at hX
    have h17_16 : J16 134 17 = nI pr := (hf16.2 17 (by decide)).trans (by exact h17_0)
    have ho_16 : J16 134 19 = nI dr := (hf16.2 19 (by decide)).trans (by exact ho_0)
    refine pw_bipush (n := 8) (v := 8) (by decide) (by decide +kernel) ?_
    refine pw_aload_n (k4 := 0) rfl (by decide +kernel) ?_
    refine pq_getI (c := 11) (k := 19) (ks_m hA) (by decide) (by decide) lf_Mo_243 (by decide +kernel) ?_
    refine pn_val (nI (dr)) (by exact ho_16) ?_
    refine pn_iadd 8 dr rfl rfl (by decide +kernel) ?_
    refine pq_istore_n (k4 := 1) (Nat.le_of_ble_eq_true rfl) rfl (by decide +kernel) ?_
    refine pw_aload_n (k4 := 0) rfl (by decide +kernel) ?_
    refine pq_callV (ν := m_Mo_personRead) (d' := 2) (av := []) (c := 11) (by decide +kernel) lm_Mo_291 ok_Mo_personRead (show _ = some 0 by decide +kernel) (ks_m hA) rfl (by decide) (by omega) (Nat.le_of_ble_eq_true rfl) (ct_Mo_personRead hA (by first | exact hp16 | exact prI_st hp16 (by decide) _ | exact prI_set hp16 (by decide) (by decide) _ | exact prI_set (prI_st hp16 (by decide) _) (by decide) (by decide) _ | exact prI_wr hp16 _ | exact prI_wr (prI_set hp16 (by decide) (by decide) _) _ | exact prI_wr (prI_set (prI_st hp16 (by decide) _) (by decide) (by decide) _) _ | exact prI_wr (prI_st hp16 (by decide) _) _ | exact prI_st (prI_st hp16 (by decide) _) (by decide) _) (pr := pr) (by exact h17_16) hp5) ?_
    rintro _ _ ⟨b28, J28, hq28, hp28, hf28, rfl, rfl⟩
    rw [hq28] at hX
    have h17_28 : J28 134 17 = nI pr := (hf28.2 17 (by decide)).trans (by exact h17_16)
    have ho_28 : J28 134 19 = nI dr := (hf28.2 19 (by decide)).trans (by exact ho_16)
    refine pw_if_ne (off := 5) (tgt := 36) (by decide +kernel) (by decide +kernel) (fun z31 => ?_) (fun z31 => ?_)
    · have hb28 := bI_1 z31
      rw [hb28, yB_t] at hX
      try dsimp only at hX
      rw [hb28] at hq28
      refine pw_aload_n (k4 := 0) rfl (by decide +kernel) ?_
      refine pq_getP (c := 11) (k := 33) (ks_m hA) (by decide) (by decide) (kp_m_debtBy hA) lf_Mo_50 (by decide +kernel) ?_
      refine pw_iload_n (k4 := 1) rfl (by decide +kernel) ?_
      refine pw_aload_n (k4 := 0) rfl (by decide +kernel) ?_
      refine pq_getI (c := 11) (k := 11) (ks_m hA) (by decide) (by decide) lf_Mo_224 (by decide +kernel) ?_
      refine pq_iast (8 + dr) rfl (by omega) (by decide) (ks_m_debtBy hA) (by decide +kernel) ?_
      refine pw_aload_n (k4 := 0) rfl (by decide +kernel) ?_
      refine pq_getI (c := 11) (k := 10) (ks_m hA) (by decide) (by decide) lf_Mo_184 (by decide +kernel) ?_
      refine pq_istore_n (k4 := 2) (Nat.le_of_ble_eq_true rfl) rfl (by decide +kernel) ?_
      refine pw_aload_n (k4 := 0) rfl (by decide +kernel) ?_
      refine pq_callV (ν := m_Mo_personRead) (d' := 2) (av := []) (c := 11) (by decide +kernel) lm_Mo_291 ok_Mo_personRead (show _ = some 0 by decide +kernel) (ks_m hA) rfl (by decide) (by omega) (Nat.le_of_ble_eq_true rfl) (ct_Mo_personRead hA (by first | exact hp28 | exact prI_st hp28 (by decide) _ | exact prI_set hp28 (by decide) (by decide) _ | exact prI_set (prI_st hp28 (by decide) _) (by decide) (by decide) _ | exact prI_wr hp28 _ | exact prI_wr (prI_set hp28 (by decide) (by decide) _) _ | exact prI_wr (prI_set (prI_st hp28 (by decide) _) (by decide) (by decide) _) _ | exact prI_wr (prI_st hp28 (by decide) _) _ | exact prI_st (prI_st hp28 (by decide) _) (by decide) _) (pr := pr) (by exact h17_28) hp5) ?_
      rintro _ _ ⟨b52, J52, hq52, hp52, hf52, rfl, rfl⟩
      rw [hq52] at hX
      have h17_52 : J52 134 17 = nI pr := (hf52.2 17 (by decide)).trans (by exact h17_28)
      have ho_52 : J52 134 19 = nI dr := (hf52.2 19 (by decide)).trans (by exact ho_28)
      refine pw_if_ne (off := 5) (tgt := 60) (by decide +kernel) (by decide +kernel) (fun z55 => ?_) (fun z55 => ?_)
      · have hb52 := bI_1 z55
        rw [hb52, yB_t] at hX
        try dsimp only at hX
        rw [hb52] at hq52
        refine pw_aload_n (k4 := 0) rfl (by decide +kernel) ?_
        refine pq_getP (c := 11) (k := 34) (ks_m hA) (by decide) (by decide) (kp_m_debtTo hA) lf_Mo_53 (by decide +kernel) ?_
        refine pw_iload_n (k4 := 1) rfl (by decide +kernel) ?_
        refine pw_aload_n (k4 := 0) rfl (by decide +kernel) ?_
        refine pq_getI (c := 11) (k := 11) (ks_m hA) (by decide) (by decide) lf_Mo_224 (by decide +kernel) ?_
        refine pq_iast (8 + dr) rfl (by omega) (by decide) (ks_m_debtTo hA) (by decide +kernel) ?_
        refine pw_aload_n (k4 := 0) rfl (by decide +kernel) ?_
        refine pq_getP (c := 11) (k := 34) (ks_m hA) (by decide) (by decide) (kp_m_debtTo hA) lf_Mo_53 (by decide +kernel) ?_
        refine pw_iload_n (k4 := 1) rfl (by decide +kernel) ?_
        refine pq_iald (8 + dr) rfl (by omega) (by decide) (ks_m_debtTo hA) (by decide +kernel) ?_
        refine pn_val (J52 134 11) sI_rs ?_
        refine pw_aload_n (k4 := 0) rfl (by decide +kernel) ?_
        refine pq_getP (c := 11) (k := 33) (ks_m hA) (by decide) (by decide) (kp_m_debtBy hA) lf_Mo_50 (by decide +kernel) ?_
        refine pw_iload_n (k4 := 1) rfl (by decide +kernel) ?_
        refine pq_iald (8 + dr) rfl (by omega) (by decide) (ks_m_debtBy hA) (by decide +kernel) ?_
        refine pw_icmp_ne (off := 14) (tgt := 96) (by decide +kernel) (by decide +kernel) (fun z82 => ?_) (fun z82 => ?_)
        · rw [if_neg (show ¬ J52 134 11 = J52 147 (8 + dr) from z82)] at hX
          refine pw_aload_n (k4 := 0) rfl (by decide +kernel) ?_
          refine pw_iconst (n := 1) (v := 1) (by decide) (by decide +kernel) ?_
          refine pw_sipush (n := 999) (v := 999) (by decide) (by decide +kernel) ?_
          refine pq_callV (ν := m_Mo_number) (d' := 2) (av := [_, _]) (c := 11) (by decide +kernel) lm_Mo_233 ok_Mo_number (show _ = some 2 by decide +kernel) (ks_m hA) rfl (by decide) (by omega) (Nat.le_of_ble_eq_true rfl) (ct_Mo_number hA (by first | exact hp52 | exact prI_st hp52 (by decide) _ | exact prI_set hp52 (by decide) (by decide) _ | exact prI_set (prI_st hp52 (by decide) _) (by decide) (by decide) _ | exact prI_wr hp52 _ | exact prI_wr (prI_set hp52 (by decide) (by decide) _) _ | exact prI_wr (prI_set (prI_st hp52 (by decide) _) (by decide) (by decide) _) _ | exact prI_wr (prI_st hp52 (by decide) _) _ | exact prI_st (prI_st hp52 (by decide) _) (by decide) _) _ _) ?_
          rintro _ _ ⟨b101, J101, hq101, hp101, hf101, rfl, rfl⟩
          rw [hq101] at hX
          have h17_101 : J101 134 17 = nI pr := (hf101.2 17 (by decide)).trans (by exact h17_52)
          have ho_101 : J101 134 19 = nI dr := (hf101.2 19 (by decide)).trans (by exact ho_52)
          refine pw_if_ne (off := 5) (tgt := 109) (by decide +kernel) (by decide +kernel) (fun z104 => ?_) (fun z104 => ?_)
          · have hb101 := bI_1 z104
            rw [hb101, yB_t] at hX
            try dsimp only at hX
            rw [hb101] at hq101
            refine pw_aload_n (k4 := 0) rfl (by decide +kernel) ?_
            refine pq_getP (c := 11) (k := 35) (ks_m hA) (by decide) (by decide) (kp_m_debtMuch hA) lf_Mo_56 (by decide +kernel) ?_
            refine pw_iload_n (k4 := 1) rfl (by decide +kernel) ?_
            refine pw_aload_n (k4 := 0) rfl (by decide +kernel) ?_
            refine pq_getI (c := 11) (k := 11) (ks_m hA) (by decide) (by decide) lf_Mo_224 (by decide +kernel) ?_
            refine pq_iast (8 + dr) rfl (by omega) (by decide) (ks_m_debtMuch hA) (by decide +kernel) ?_
            refine pw_aload_n (k4 := 0) rfl (by decide +kernel) ?_
            refine pw_iconst (n := 0) (v := 0) (by decide) (by decide +kernel) ?_
            refine pw_bipush (n := 99) (v := 99) (by decide) (by decide +kernel) ?_
            refine pq_callV (ν := m_Mo_number) (d' := 2) (av := [_, _]) (c := 11) (by decide +kernel) lm_Mo_233 ok_Mo_number (show _ = some 2 by decide +kernel) (ks_m hA) rfl (by decide) (by omega) (Nat.le_of_ble_eq_true rfl) (ct_Mo_number hA (by first | exact hp101 | exact prI_st hp101 (by decide) _ | exact prI_set hp101 (by decide) (by decide) _ | exact prI_set (prI_st hp101 (by decide) _) (by decide) (by decide) _ | exact prI_wr hp101 _ | exact prI_wr (prI_set hp101 (by decide) (by decide) _) _ | exact prI_wr (prI_set (prI_st hp101 (by decide) _) (by decide) (by decide) _) _ | exact prI_wr (prI_st hp101 (by decide) _) _ | exact prI_st (prI_st hp101 (by decide) _) (by decide) _) _ _) ?_
            rintro _ _ ⟨b123, J123, hq123, hp123, hf123, rfl, rfl⟩
            rw [hq123] at hX
            have h17_123 : J123 134 17 = nI pr := (hf123.2 17 (by decide)).trans (by exact h17_101)
            have ho_123 : J123 134 19 = nI dr := (hf123.2 19 (by decide)).trans (by exact ho_101)
            refine pw_if_ne (off := 5) (tgt := 131) (by decide +kernel) (by decide +kernel) (fun z126 => ?_) (fun z126 => ?_)
            · have hb123 := bI_1 z126
              rw [hb123, yB_t] at hX
              try dsimp only at hX
              rw [hb123] at hq123
              refine pw_aload_n (k4 := 0) rfl (by decide +kernel) ?_
              refine pq_getP (c := 11) (k := 36) (ks_m hA) (by decide) (by decide) (kp_m_debtDay hA) lf_Mo_59 (by decide +kernel) ?_
              refine pw_iload_n (k4 := 1) rfl (by decide +kernel) ?_
              refine pw_aload_n (k4 := 0) rfl (by decide +kernel) ?_
              refine pq_getI (c := 11) (k := 11) (ks_m hA) (by decide) (by decide) lf_Mo_224 (by decide +kernel) ?_
              refine pq_iast (8 + dr) rfl (by omega) (by decide) (ks_m_debtDay hA) (by decide +kernel) ?_
              refine pw_aload_n (k4 := 0) rfl (by decide +kernel) ?_
              refine pw_dup rfl (by decide +kernel) ?_
              refine pq_getI (c := 11) (k := 19) (ks_m hA) (by decide) (by decide) lf_Mo_243 (by decide +kernel) ?_
              refine pn_val (nI (dr)) (by exact ho_123) ?_
              refine pw_iconst (n := 1) (v := 1) (by decide) (by decide +kernel) ?_
              refine pn_iadd dr 1 rfl rfl (by decide +kernel) ?_
              refine pq_putI (c := 11) (k := 19) (ks_m hA) (by decide) (by decide) lf_Mo_243 (Or.inl rfl) (by decide +kernel) ?_
              refine pw_iconst (n := 1) (v := 1) (by decide) (by decide +kernel) ?_
              exact pq_zret rfl (by decide) (by decide +kernel) ⟨_, _, hX, (by first | exact hp123 | exact prI_st hp123 (by decide) _ | exact prI_set hp123 (by decide) (by decide) _ | exact prI_set (prI_st hp123 (by decide) _) (by decide) (by decide) _ | exact prI_wr hp123 _ | exact prI_wr (prI_set hp123 (by decide) (by decide) _) _ | exact prI_wr (prI_set (prI_st hp123 (by decide) _) (by decide) (by decide) _) _ | exact prI_wr (prI_st hp123 (by decide) _) _ | exact prI_st (prI_st hp123 (by decide) _) (by decide) _), rfl, rfl⟩
            · have hb123 : b123 = false := bI_0 z126
              rw [hb123, yB_f] at hX
              refine pw_iconst (n := 0) (v := 0) (by decide) (by decide +kernel) ?_
              exact pq_zret rfl (by decide) (by decide +kernel) ⟨_, _, hX, (by first | exact hp123 | exact prI_st hp123 (by decide) _ | exact prI_set hp123 (by decide) (by decide) _ | exact prI_set (prI_st hp123 (by decide) _) (by decide) (by decide) _ | exact prI_wr hp123 _ | exact prI_wr (prI_set hp123 (by decide) (by decide) _) _ | exact prI_wr (prI_set (prI_st hp123 (by decide) _) (by decide) (by decide) _) _ | exact prI_wr (prI_st hp123 (by decide) _) _ | exact prI_st (prI_st hp123 (by decide) _) (by decide) _), rfl, rfl⟩
          · have hb101 : b101 = false := bI_0 z104
            rw [hb101, yB_f] at hX
            refine pw_iconst (n := 0) (v := 0) (by decide) (by decide +kernel) ?_
            exact pq_zret rfl (by decide) (by decide +kernel) ⟨_, _, hX, (by first | exact hp101 | exact prI_st hp101 (by decide) _ | exact prI_set hp101 (by decide) (by decide) _ | exact prI_set (prI_st hp101 (by decide) _) (by decide) (by decide) _ | exact prI_wr hp101 _ | exact prI_wr (prI_set hp101 (by decide) (by decide) _) _ | exact prI_wr (prI_set (prI_st hp101 (by decide) _) (by decide) (by decide) _) _ | exact prI_wr (prI_st hp101 (by decide) _) _ | exact prI_st (prI_st hp101 (by decide) _) (by decide) _), rfl, rfl⟩
        · rw [if_pos (show J52 134 11 = J52 147 (8 + dr) from z82)] at hX
          refine pw_aload_n (k4 := 0) rfl (by decide +kernel) ?_
          refine pw_iload_n (k4 := 2) rfl (by decide +kernel) ?_
          refine pq_putI (c := 11) (k := 10) (ks_m hA) (by decide) (by decide) lf_Mo_184 (Or.inl rfl) (by decide +kernel) ?_
          refine pw_aload_n (k4 := 0) rfl (by decide +kernel) ?_
          refine pw_iconst (n := 5) (v := 5) (by decide) (by decide +kernel) ?_
          refine pq_callV (ν := m_Mo_wrong) (d' := 0) (av := [_]) (c := 11) (by decide +kernel) lm_Mo_217 ok_Mo_wrong (show _ = some 1 by decide +kernel) (ks_m hA) rfl (by decide) (by omega) (Nat.le_of_ble_eq_true rfl) (ct_Mo_wrong hA _) ?_
          rintro _ _ ⟨rfl, rfl⟩
          exact pq_zret rfl (by decide) (by decide +kernel) ⟨_, _, hX, (by first | exact hp52 | exact prI_st hp52 (by decide) _ | exact prI_set hp52 (by decide) (by decide) _ | exact prI_set (prI_st hp52 (by decide) _) (by decide) (by decide) _ | exact prI_wr hp52 _ | exact prI_wr (prI_set hp52 (by decide) (by decide) _) _ | exact prI_wr (prI_set (prI_st hp52 (by decide) _) (by decide) (by decide) _) _ | exact prI_wr (prI_st hp52 (by decide) _) _ | exact prI_st (prI_st hp52 (by decide) _) (by decide) _), rfl, rfl⟩
      · have hb52 : b52 = false := bI_0 z55
        rw [hb52, yB_f] at hX
        refine pw_iconst (n := 0) (v := 0) (by decide) (by decide +kernel) ?_
        exact pq_zret rfl (by decide) (by decide +kernel) ⟨_, _, hX, (by first | exact hp52 | exact prI_st hp52 (by decide) _ | exact prI_set hp52 (by decide) (by decide) _ | exact prI_set (prI_st hp52 (by decide) _) (by decide) (by decide) _ | exact prI_wr hp52 _ | exact prI_wr (prI_set hp52 (by decide) (by decide) _) _ | exact prI_wr (prI_set (prI_st hp52 (by decide) _) (by decide) (by decide) _) _ | exact prI_wr (prI_st hp52 (by decide) _) _ | exact prI_st (prI_st hp52 (by decide) _) (by decide) _), rfl, rfl⟩
    · have hb28 : b28 = false := bI_0 z31
      rw [hb28, yB_f] at hX
      refine pw_iconst (n := 0) (v := 0) (by decide) (by decide +kernel) ?_
      exact pq_zret rfl (by decide) (by decide +kernel) ⟨_, _, hX, (by first | exact hp28 | exact prI_st hp28 (by decide) _ | exact prI_set hp28 (by decide) (by decide) _ | exact prI_set (prI_st hp28 (by decide) _) (by decide) (by decide) _ | exact prI_wr hp28 _ | exact prI_wr (prI_set hp28 (by decide) (by decide) _) _ | exact prI_wr (prI_set (prI_st hp28 (by decide) _) (by decide) (by decide) _) _ | exact prI_wr (prI_st hp28 (by decide) _) _ | exact prI_st (prI_st hp28 (by decide) _) (by decide) _), rfl, rfl⟩
  · rw [if_pos (Decidable.not_not.mp z6)] at hX
    refine pw_aload_n (k4 := 0) rfl (by decide +kernel) ?_
    refine pw_iconst (n := 2) (v := 2) (by decide) (by decide +kernel) ?_
    refine pq_callV (ν := m_Mo_wrong) (d' := 0) (av := [_]) (c := 11) (by decide +kernel) lm_Mo_217 ok_Mo_wrong (show _ = some 1 by decide +kernel) (ks_m hA) rfl (by decide) (by omega) (Nat.le_of_ble_eq_true rfl) (ct_Mo_wrong hA _) ?_
    rintro _ _ ⟨rfl, rfl⟩
    exact pq_zret rfl (by decide) (by decide +kernel) ⟨_, _, hX, (by first | exact hp0 | exact prI_st hp0 (by decide) _ | exact prI_set hp0 (by decide) (by decide) _ | exact prI_set (prI_st hp0 (by decide) _) (by decide) (by decide) _ | exact prI_wr hp0 _ | exact prI_wr (prI_set hp0 (by decide) (by decide) _) _ | exact prI_wr (prI_set (prI_st hp0 (by decide) _) (by decide) (by decide) _) _ | exact prI_wr (prI_st hp0 (by decide) _) _ | exact prI_st (prI_st hp0 (by decide) _) (by decide) _), rfl, rfl⟩

set_option maxHeartbeats 4000000 in
theorem ct_Mo_claimLine {sh : List pSh} {I : Nat → Nat → Int32} {L : Nat → Nat → Int64} {P : Nat → Nat → Option Nat} (hA : kA sh P) (hp0 : prI I) {pr : Nat} (h17_0 : I 134 17 = nI pr) (hp5 : pr ≤ 5) (ho_0 : I 134 17 = nI pr) : pCn m_Mo_claimLine 3 [.ref 134] sh (I, L, P) (rLn (yCL pr I) L P) := by
  refine pCn_of (by decide +kernel) (Nat.le_of_ble_eq_true rfl) ?_
  obtain ⟨X, hX⟩ : ∃ X, X = yCL pr I := ⟨_, rfl⟩
  rw [← hX]
  unfold yCL at hX
  refine pw_aload_n (k4 := 0) rfl (by decide +kernel) ?_
  refine pq_callV (ν := m_Mo_token) (d' := 1) (av := []) (c := 11) (by decide +kernel) lm_Mo_227 ok_Mo_token (show _ = some 0 by decide +kernel) (ks_m hA) rfl (by decide) (by omega) (Nat.le_of_ble_eq_true rfl) (ct_Mo_tok hA (by first | exact hp0 | exact prI_st hp0 (by decide) _ | exact prI_set hp0 (by decide) (by decide) _ | exact prI_set (prI_st hp0 (by decide) _) (by decide) (by decide) _ | exact prI_wr hp0 _ | exact prI_wr (prI_set hp0 (by decide) (by decide) _) _ | exact prI_wr (prI_set (prI_st hp0 (by decide) _) (by decide) (by decide) _) _ | exact prI_wr (prI_st hp0 (by decide) _) _ | exact prI_st (prI_st hp0 (by decide) _) (by decide) _)) ?_
  rintro _ _ ⟨J1, hJ1, hp1, hf1, rfl, rfl⟩
  rw [hJ1] at hX
  try dsimp only at hX
  have h17_1 : J1 134 17 = nI pr := (hf1.2 17 (by decide)).trans (by exact h17_0)
  have ho_1 : J1 134 17 = nI pr := (hf1.2 17 (by decide)).trans (by exact ho_0)
  refine pw_aload_n (k4 := 0) rfl (by decide +kernel) ?_
  refine pq_getI (c := 11) (k := 10) (ks_m hA) (by decide) (by decide) lf_Mo_184 (by decide +kernel) ?_
  refine pq_istore_n (k4 := 1) (Nat.le_of_ble_eq_true rfl) rfl (by decide +kernel) ?_
  refine pw_aload_n (k4 := 0) rfl (by decide +kernel) ?_
  refine pq_callV (ν := m_Mo_personRead) (d' := 2) (av := []) (c := 11) (by decide +kernel) lm_Mo_291 ok_Mo_personRead (show _ = some 0 by decide +kernel) (ks_m hA) rfl (by decide) (by omega) (Nat.le_of_ble_eq_true rfl) (ct_Mo_personRead hA (by first | exact hp1 | exact prI_st hp1 (by decide) _ | exact prI_set hp1 (by decide) (by decide) _ | exact prI_set (prI_st hp1 (by decide) _) (by decide) (by decide) _ | exact prI_wr hp1 _ | exact prI_wr (prI_set hp1 (by decide) (by decide) _) _ | exact prI_wr (prI_set (prI_st hp1 (by decide) _) (by decide) (by decide) _) _ | exact prI_wr (prI_st hp1 (by decide) _) _ | exact prI_st (prI_st hp1 (by decide) _) (by decide) _) (pr := pr) (by exact h17_1) hp5) ?_
  rintro _ _ ⟨b10, J10, hq10, hp10, hf10, rfl, rfl⟩
  rw [hq10] at hX
  have h17_10 : J10 134 17 = nI pr := (hf10.2 17 (by decide)).trans (by exact h17_1)
  have ho_10 : J10 134 17 = nI pr := (hf10.2 17 (by decide)).trans (by exact ho_1)
  refine pw_if_ne (off := 5) (tgt := 18) (by decide +kernel) (by decide +kernel) (fun z13 => ?_) (fun z13 => ?_)
  · have hb10 := bI_1 z13
    rw [hb10, yB_t] at hX
    try dsimp only at hX
    rw [hb10] at hq10
    obtain ⟨j, hj, hje⟩ := yPer_got hq10
    rw [hje, ixn_nI (by omega)] at hX
    refine pw_iconst (n := 5) (v := 5) (by decide) (by decide +kernel) ?_
    refine pw_aload_n (k4 := 0) rfl (by decide +kernel) ?_
    refine pq_getI (c := 11) (k := 11) (ks_m hA) (by decide) (by decide) lf_Mo_224 (by decide +kernel) ?_
    refine pn_val (nI (j)) (by exact hje) ?_
    refine pn_iadd 5 j rfl rfl (by decide +kernel) ?_
    refine pq_istore_n (k4 := 2) (Nat.le_of_ble_eq_true rfl) rfl (by decide +kernel) ?_
    refine pw_aload_n (k4 := 0) rfl (by decide +kernel) ?_
    refine pq_getP (c := 11) (k := 27) (ks_m hA) (by decide) (by decide) (kp_m_claimOf hA) lf_Mo_32 (by decide +kernel) ?_
    refine pw_iload_n (k4 := 2) rfl (by decide +kernel) ?_
    refine pq_iald (5 + j) rfl (by omega) (by decide) (ks_m_claimOf hA) (by decide +kernel) ?_
    refine pw_if_lt (off := 14) (tgt := 45) (by decide +kernel) (by decide +kernel) (fun z31 => ?_) (fun z31 => ?_)
    · rw [if_neg (fun w => w z31)] at hX
      refine pw_aload_n (k4 := 0) rfl (by decide +kernel) ?_
      refine pw_iconst (n := 1) (v := 1) (by decide) (by decide +kernel) ?_
      refine pw_bipush (n := 9) (v := 9) (by decide) (by decide +kernel) ?_
      refine pq_callV (ν := m_Mo_number) (d' := 2) (av := [_, _]) (c := 11) (by decide +kernel) lm_Mo_233 ok_Mo_number (show _ = some 2 by decide +kernel) (ks_m hA) rfl (by decide) (by omega) (Nat.le_of_ble_eq_true rfl) (ct_Mo_number hA (by first | exact hp10 | exact prI_st hp10 (by decide) _ | exact prI_set hp10 (by decide) (by decide) _ | exact prI_set (prI_st hp10 (by decide) _) (by decide) (by decide) _ | exact prI_wr hp10 _ | exact prI_wr (prI_set hp10 (by decide) (by decide) _) _ | exact prI_wr (prI_set (prI_st hp10 (by decide) _) (by decide) (by decide) _) _ | exact prI_wr (prI_st hp10 (by decide) _) _ | exact prI_st (prI_st hp10 (by decide) _) (by decide) _) _ _) ?_
      rintro _ _ ⟨b49, J49, hq49, hp49, hf49, rfl, rfl⟩
      rw [hq49] at hX
      have h17_49 : J49 134 17 = nI pr := (hf49.2 17 (by decide)).trans (by exact h17_10)
      have ho_49 : J49 134 17 = nI pr := (hf49.2 17 (by decide)).trans (by exact ho_10)
      refine pw_if_ne (off := 5) (tgt := 57) (by decide +kernel) (by decide +kernel) (fun z52 => ?_) (fun z52 => ?_)
      · have hb49 := bI_1 z52
        rw [hb49, yB_t] at hX
        try dsimp only at hX
        rw [hb49] at hq49
        refine pw_aload_n (k4 := 0) rfl (by decide +kernel) ?_
        refine pq_getP (c := 11) (k := 27) (ks_m hA) (by decide) (by decide) (kp_m_claimOf hA) lf_Mo_32 (by decide +kernel) ?_
        refine pw_iload_n (k4 := 2) rfl (by decide +kernel) ?_
        refine pw_aload_n (k4 := 0) rfl (by decide +kernel) ?_
        refine pq_getI (c := 11) (k := 11) (ks_m hA) (by decide) (by decide) lf_Mo_224 (by decide +kernel) ?_
        refine pq_iast (5 + j) rfl (by omega) (by decide) (ks_m_claimOf hA) (by decide +kernel) ?_
        refine pw_iconst (n := 1) (v := 1) (by decide) (by decide +kernel) ?_
        exact pq_zret rfl (by decide) (by decide +kernel) ⟨_, _, hX, (by first | exact hp49 | exact prI_st hp49 (by decide) _ | exact prI_set hp49 (by decide) (by decide) _ | exact prI_set (prI_st hp49 (by decide) _) (by decide) (by decide) _ | exact prI_wr hp49 _ | exact prI_wr (prI_set hp49 (by decide) (by decide) _) _ | exact prI_wr (prI_set (prI_st hp49 (by decide) _) (by decide) (by decide) _) _ | exact prI_wr (prI_st hp49 (by decide) _) _ | exact prI_st (prI_st hp49 (by decide) _) (by decide) _), rfl, rfl⟩
      · have hb49 : b49 = false := bI_0 z52
        rw [hb49, yB_f] at hX
        refine pw_iconst (n := 0) (v := 0) (by decide) (by decide +kernel) ?_
        exact pq_zret rfl (by decide) (by decide +kernel) ⟨_, _, hX, (by first | exact hp49 | exact prI_st hp49 (by decide) _ | exact prI_set hp49 (by decide) (by decide) _ | exact prI_set (prI_st hp49 (by decide) _) (by decide) (by decide) _ | exact prI_wr hp49 _ | exact prI_wr (prI_set hp49 (by decide) (by decide) _) _ | exact prI_wr (prI_set (prI_st hp49 (by decide) _) (by decide) (by decide) _) _ | exact prI_wr (prI_st hp49 (by decide) _) _ | exact prI_st (prI_st hp49 (by decide) _) (by decide) _), rfl, rfl⟩
    · rw [if_pos z31] at hX
      refine pw_aload_n (k4 := 0) rfl (by decide +kernel) ?_
      refine pw_iload_n (k4 := 1) rfl (by decide +kernel) ?_
      refine pq_putI (c := 11) (k := 10) (ks_m hA) (by decide) (by decide) lf_Mo_184 (Or.inl rfl) (by decide +kernel) ?_
      refine pw_aload_n (k4 := 0) rfl (by decide +kernel) ?_
      refine pw_iconst (n := 3) (v := 3) (by decide) (by decide +kernel) ?_
      refine pq_callV (ν := m_Mo_wrong) (d' := 0) (av := [_]) (c := 11) (by decide +kernel) lm_Mo_217 ok_Mo_wrong (show _ = some 1 by decide +kernel) (ks_m hA) rfl (by decide) (by omega) (Nat.le_of_ble_eq_true rfl) (ct_Mo_wrong hA _) ?_
      rintro _ _ ⟨rfl, rfl⟩
      exact pq_zret rfl (by decide) (by decide +kernel) ⟨_, _, hX, (by first | exact hp10 | exact prI_st hp10 (by decide) _ | exact prI_set hp10 (by decide) (by decide) _ | exact prI_set (prI_st hp10 (by decide) _) (by decide) (by decide) _ | exact prI_wr hp10 _ | exact prI_wr (prI_set hp10 (by decide) (by decide) _) _ | exact prI_wr (prI_set (prI_st hp10 (by decide) _) (by decide) (by decide) _) _ | exact prI_wr (prI_st hp10 (by decide) _) _ | exact prI_st (prI_st hp10 (by decide) _) (by decide) _), rfl, rfl⟩
  · have hb10 : b10 = false := bI_0 z13
    rw [hb10, yB_f] at hX
    refine pw_iconst (n := 0) (v := 0) (by decide) (by decide +kernel) ?_
    exact pq_zret rfl (by decide) (by decide +kernel) ⟨_, _, hX, (by first | exact hp10 | exact prI_st hp10 (by decide) _ | exact prI_set hp10 (by decide) (by decide) _ | exact prI_set (prI_st hp10 (by decide) _) (by decide) (by decide) _ | exact prI_wr hp10 _ | exact prI_wr (prI_set hp10 (by decide) (by decide) _) _ | exact prI_wr (prI_set (prI_st hp10 (by decide) _) (by decide) (by decide) _) _ | exact prI_wr (prI_st hp10 (by decide) _) _ | exact prI_st (prI_st hp10 (by decide) _) (by decide) _), rfl, rfl⟩

set_option maxHeartbeats 4000000 in
theorem pw_swap170 {sh : List pSh} {L : Nat → Nat → Int64} {P : Nat → Nat → Option Nat} (hA : kA sh P) {X : Bool × (Nat → Nat → Int32)} {K : Nat → Nat → Int32} {pl : Int32} {rr : Nat} (hK : prI K) (ho : K 134 20 = nI rr) (hr8 : rr < 8) (hX : X = if swH (K 151) (32 + 4 * rr) rr = true ∨ K 151 (32 + 4 * rr) = K 151 (32 + 4 * rr + 2) then (false, yWr (sI K 134 10 pl) (if K 151 (32 + 4 * rr) = K 151 (32 + 4 * rr + 2) then 5 else 3)) else yB (yNum K 1 99) fun I9 => (true, sI (sI I9 151 (32 + 4 * rr + 3) (I9 134 11)) 134 20 (nI (rr + 1)))) : pWn m_Mo_swapLine 3 sh (rLn X L P) 170 [some (.ref 134), some (.int (nI (32 + 4 * rr))), some (.int pl), some (.int 0), some (.int 32)] [] (K, L, P) := by
  have hL := pUpTo rr (fun k => pWn m_Mo_swapLine 3 sh (rLn X L P) 170 [some (.ref 134), some (.int (nI (32 + 4 * rr))), some (.int pl), some (.int (bI (swH (K 151) (32 + 4 * rr) k))), some (.int (nI (32 + 4 * k)))] [] (K, L, P)) (by
    intro k hk ih
    refine pw_iload (i := 4) rfl (by decide +kernel) ?_
    refine pw_iload_n (k4 := 1) rfl (by decide +kernel) ?_
    refine pn_icmp_ge (off := 55) (tgt := 228) (32 + 4 * k) (32 + 4 * rr) rfl rfl (by omega) (by omega) (by decide +kernel) (by decide +kernel) (fun z173 => ?_) (fun z173 => ?_)
    · have hkr : k = rr := by omega
      refine pw_aload_n (k4 := 0) rfl (by decide +kernel) ?_
      refine pq_getP (c := 11) (k := 37) (ks_m hA) (by decide) (by decide) (kp_m_rate hA) lf_Mo_62 (by decide +kernel) ?_
      refine pw_iload_n (k4 := 1) rfl (by decide +kernel) ?_
      refine pq_iald (32 + 4 * rr) rfl (by omega) (by decide) (ks_m_rate hA) (by decide +kernel) ?_
      refine pw_aload_n (k4 := 0) rfl (by decide +kernel) ?_
      refine pq_getP (c := 11) (k := 37) (ks_m hA) (by decide) (by decide) (kp_m_rate hA) lf_Mo_62 (by decide +kernel) ?_
      refine pw_iload_n (k4 := 1) rfl (by decide +kernel) ?_
      refine pw_iconst (n := 2) (v := 2) (by decide) (by decide +kernel) ?_
      refine pn_iadd (32 + 4 * rr) 2 rfl rfl (by decide +kernel) ?_
      refine pq_iald ((32 + 4 * rr) + 2) rfl (by omega) (by decide) (ks_m_rate hA) (by decide +kernel) ?_
      refine pw_icmp_ne (off := 7) (tgt := 249) (by decide +kernel) (by decide +kernel) (fun z242 => ?_) (fun z242 => ?_)
      · refine pw_iconst (n := 0) (v := 0) (by decide) (by decide +kernel) ?_
        refine pq_istore (i := 4) (Nat.le_of_ble_eq_true rfl) rfl (by decide +kernel) ?_
        refine pw_iload_n (k4 := 3) rfl (by decide +kernel) ?_
        refine pw_if_ne (off := 8) (tgt := 261) (by decide +kernel) (by decide +kernel) (fun z253 => ?_) (fun z253 => ?_)
        · have hhad : swH (K 151) (32 + 4 * rr) rr = true := by have w := bI_1 z253; rw [hkr] at w; exact w
          rw [if_pos (Or.inl hhad)] at hX
          refine pw_aload_n (k4 := 0) rfl (by decide +kernel) ?_
          refine pw_iload_n (k4 := 2) rfl (by decide +kernel) ?_
          refine pq_putI (c := 11) (k := 10) (ks_m hA) (by decide) (by decide) lf_Mo_184 (Or.inl rfl) (by decide +kernel) ?_
          refine pw_aload_n (k4 := 0) rfl (by decide +kernel) ?_
          refine pw_iload (i := 4) rfl (by decide +kernel) ?_
          refine pn_if_eq (off := 7) (tgt := 276) 0 rfl (by omega) (by decide +kernel) (by decide +kernel) (fun z269 => ?_) (fun z269 => ?_)
          · rw [if_neg z242] at hX
            refine pw_iconst (n := 3) (v := 3) (by decide) (by decide +kernel) ?_
            refine pq_callV (ν := m_Mo_wrong) (d' := 0) (av := [_]) (c := 11) (by decide +kernel) lm_Mo_217 ok_Mo_wrong (show _ = some 1 by decide +kernel) (ks_m hA) rfl (by decide) (by omega) (Nat.le_of_ble_eq_true rfl) (ct_Mo_wrong hA _) ?_
            rintro _ _ ⟨rfl, rfl⟩
            exact pq_zret rfl (by decide) (by decide +kernel) ⟨_, _, hX, prI_wr (prI_set hK (by decide) (by decide) _) _, rfl, rfl⟩
          · exact absurd (by decide) z269
        · have hhad : swH (K 151) (32 + 4 * rr) rr = false := by have w := bI_0 z253; rw [hkr] at w; exact w
          refine pw_iload (i := 4) rfl (by decide +kernel) ?_
          refine pn_if_eq (off := 23) (tgt := 281) 0 rfl (by omega) (by decide +kernel) (by decide +kernel) (fun z258 => ?_) (fun z258 => ?_)
          · rw [if_neg (fun q => q.elim (fun q => by rw [hhad] at q; cases q) z242)] at hX
            refine pw_aload_n (k4 := 0) rfl (by decide +kernel) ?_
            refine pw_iconst (n := 1) (v := 1) (by decide) (by decide +kernel) ?_
            refine pw_bipush (n := 99) (v := 99) (by decide) (by decide +kernel) ?_
            refine pq_callV (ν := m_Mo_number) (d' := 2) (av := [_, _]) (c := 11) (by decide +kernel) lm_Mo_233 ok_Mo_number (show _ = some 2 by decide +kernel) (ks_m hA) rfl (by decide) (by omega) (Nat.le_of_ble_eq_true rfl) (ct_Mo_number hA hK _ _) ?_
            rintro _ _ ⟨b, J, hq, hp, hf, rfl, rfl⟩
            rw [hq] at hX
            have ho2 : J 134 20 = nI rr := (hf.2 20 (by decide)).trans ho
            refine pw_if_ne (off := 5) (tgt := 293) (by decide +kernel) (by decide +kernel) (fun z288 => ?_) (fun z288 => ?_)
            · have hb := bI_1 z288
              rw [hb, yB_t] at hX
              try dsimp only at hX
              refine pw_aload_n (k4 := 0) rfl (by decide +kernel) ?_
              refine pq_getP (c := 11) (k := 37) (ks_m hA) (by decide) (by decide) (kp_m_rate hA) lf_Mo_62 (by decide +kernel) ?_
              refine pw_iload_n (k4 := 1) rfl (by decide +kernel) ?_
              refine pw_iconst (n := 3) (v := 3) (by decide) (by decide +kernel) ?_
              refine pn_iadd (32 + 4 * rr) 3 rfl rfl (by decide +kernel) ?_
              refine pw_aload_n (k4 := 0) rfl (by decide +kernel) ?_
              refine pq_getI (c := 11) (k := 11) (ks_m hA) (by decide) (by decide) lf_Mo_224 (by decide +kernel) ?_
              refine pq_iast ((32 + 4 * rr) + 3) rfl (by omega) (by decide) (ks_m_rate hA) (by decide +kernel) ?_
              refine pw_aload_n (k4 := 0) rfl (by decide +kernel) ?_
              refine pw_dup rfl (by decide +kernel) ?_
              refine pq_getI (c := 11) (k := 20) (ks_m hA) (by decide) (by decide) lf_Mo_246 (by decide +kernel) ?_
              refine pn_val (nI (rr)) (by exact ho2) ?_
              refine pw_iconst (n := 1) (v := 1) (by decide) (by decide +kernel) ?_
              refine pn_iadd rr 1 rfl rfl (by decide +kernel) ?_
              refine pq_putI (c := 11) (k := 20) (ks_m hA) (by decide) (by decide) lf_Mo_246 (Or.inl rfl) (by decide +kernel) ?_
              refine pw_iconst (n := 1) (v := 1) (by decide) (by decide +kernel) ?_
              exact pq_zret rfl (by decide) (by decide +kernel) ⟨_, _, hX, prI_set (prI_st hp (by decide) _) (by decide) (by decide) _, rfl, rfl⟩
            · have hb := bI_0 z288
              rw [hb, yB_f] at hX
              refine pw_iconst (n := 0) (v := 0) (by decide) (by decide +kernel) ?_
              exact pq_zret rfl (by decide) (by decide +kernel) ⟨_, _, hX, hp, rfl, rfl⟩
          · exact absurd (by decide) z258
      · refine pw_iconst (n := 1) (v := 1) (by decide) (by decide +kernel) ?_
        refine pw_goto (off := 4) (tgt := 250) (by decide +kernel) (by decide +kernel) ?_
        refine pq_istore (i := 4) (Nat.le_of_ble_eq_true rfl) rfl (by decide +kernel) ?_
        refine pw_iload_n (k4 := 3) rfl (by decide +kernel) ?_
        refine pw_if_ne (off := 8) (tgt := 261) (by decide +kernel) (by decide +kernel) (fun z253 => ?_) (fun z253 => ?_)
        · have hhad : swH (K 151) (32 + 4 * rr) rr = true := by have w := bI_1 z253; rw [hkr] at w; exact w
          rw [if_pos (Or.inl hhad)] at hX
          refine pw_aload_n (k4 := 0) rfl (by decide +kernel) ?_
          refine pw_iload_n (k4 := 2) rfl (by decide +kernel) ?_
          refine pq_putI (c := 11) (k := 10) (ks_m hA) (by decide) (by decide) lf_Mo_184 (Or.inl rfl) (by decide +kernel) ?_
          refine pw_aload_n (k4 := 0) rfl (by decide +kernel) ?_
          refine pw_iload (i := 4) rfl (by decide +kernel) ?_
          refine pn_if_eq (off := 7) (tgt := 276) 1 rfl (by omega) (by decide +kernel) (by decide +kernel) (fun z269 => ?_) (fun z269 => ?_)
          · exact absurd z269 (by decide)
          · rw [if_pos z242] at hX
            refine pw_iconst (n := 5) (v := 5) (by decide) (by decide +kernel) ?_
            refine pw_goto (off := 4) (tgt := 277) (by decide +kernel) (by decide +kernel) ?_
            refine pq_callV (ν := m_Mo_wrong) (d' := 0) (av := [_]) (c := 11) (by decide +kernel) lm_Mo_217 ok_Mo_wrong (show _ = some 1 by decide +kernel) (ks_m hA) rfl (by decide) (by omega) (Nat.le_of_ble_eq_true rfl) (ct_Mo_wrong hA _) ?_
            rintro _ _ ⟨rfl, rfl⟩
            exact pq_zret rfl (by decide) (by decide +kernel) ⟨_, _, hX, prI_wr (prI_set hK (by decide) (by decide) _) _, rfl, rfl⟩
        · have hhad : swH (K 151) (32 + 4 * rr) rr = false := by have w := bI_0 z253; rw [hkr] at w; exact w
          refine pw_iload (i := 4) rfl (by decide +kernel) ?_
          refine pn_if_eq (off := 23) (tgt := 281) 1 rfl (by omega) (by decide +kernel) (by decide +kernel) (fun z258 => ?_) (fun z258 => ?_)
          · exact absurd z258 (by decide)
          · rw [if_pos (Or.inr z242)] at hX
            refine pw_aload_n (k4 := 0) rfl (by decide +kernel) ?_
            refine pw_iload_n (k4 := 2) rfl (by decide +kernel) ?_
            refine pq_putI (c := 11) (k := 10) (ks_m hA) (by decide) (by decide) lf_Mo_184 (Or.inl rfl) (by decide +kernel) ?_
            refine pw_aload_n (k4 := 0) rfl (by decide +kernel) ?_
            refine pw_iload (i := 4) rfl (by decide +kernel) ?_
            refine pn_if_eq (off := 7) (tgt := 276) 1 rfl (by omega) (by decide +kernel) (by decide +kernel) (fun z269 => ?_) (fun z269 => ?_)
            · exact absurd z269 (by decide)
            · rw [if_pos z242] at hX
              refine pw_iconst (n := 5) (v := 5) (by decide) (by decide +kernel) ?_
              refine pw_goto (off := 4) (tgt := 277) (by decide +kernel) (by decide +kernel) ?_
              refine pq_callV (ν := m_Mo_wrong) (d' := 0) (av := [_]) (c := 11) (by decide +kernel) lm_Mo_217 ok_Mo_wrong (show _ = some 1 by decide +kernel) (ks_m hA) rfl (by decide) (by omega) (Nat.le_of_ble_eq_true rfl) (ct_Mo_wrong hA _) ?_
              rintro _ _ ⟨rfl, rfl⟩
              exact pq_zret rfl (by decide) (by decide +kernel) ⟨_, _, hX, prI_wr (prI_set hK (by decide) (by decide) _) _, rfl, rfl⟩
    · refine pw_iload_n (k4 := 3) rfl (by decide +kernel) ?_
      refine pw_if_ne (off := 39) (tgt := 216) (by decide +kernel) (by decide +kernel) (fun z177 => ?_) (fun z177 => ?_)
      · refine pw_iconst (n := 1) (v := 1) (by decide) (by decide +kernel) ?_
        refine pw_goto (off := 4) (tgt := 221) (by decide +kernel) (by decide +kernel) ?_
        refine pq_istore_n (k4 := 3) (Nat.le_of_ble_eq_true rfl) rfl (by decide +kernel) ?_
        refine pn_iinc (i := 4) (n := 4) 4 (32 + 4 * k) rfl rfl (by decide) rfl (by decide +kernel) ?_
        refine pw_goto (off := -55) (tgt := 170) (by decide +kernel) (by decide +kernel) ?_
        have w := ih (by omega)
        rw [show swH (K 151) (32 + 4 * rr) (k + 1) = true from (show (swH (K 151) (32 + 4 * rr) k || decide (K 151 (32 + 4 * k) = K 151 (32 + 4 * rr) ∧ K 151 (32 + 4 * k + 2) = K 151 (32 + 4 * rr + 2))) = true from by rw [bI_1 z177, Bool.true_or])] at w
        exact w
      · refine pw_aload_n (k4 := 0) rfl (by decide +kernel) ?_
        refine pq_getP (c := 11) (k := 37) (ks_m hA) (by decide) (by decide) (kp_m_rate hA) lf_Mo_62 (by decide +kernel) ?_
        refine pw_iload (i := 4) rfl (by decide +kernel) ?_
        refine pq_iald (32 + 4 * k) rfl (by omega) (by decide) (ks_m_rate hA) (by decide +kernel) ?_
        refine pw_aload_n (k4 := 0) rfl (by decide +kernel) ?_
        refine pq_getP (c := 11) (k := 37) (ks_m hA) (by decide) (by decide) (kp_m_rate hA) lf_Mo_62 (by decide +kernel) ?_
        refine pw_iload_n (k4 := 1) rfl (by decide +kernel) ?_
        refine pq_iald (32 + 4 * rr) rfl (by omega) (by decide) (ks_m_rate hA) (by decide +kernel) ?_
        refine pw_icmp_ne (off := 27) (tgt := 220) (by decide +kernel) (by decide +kernel) (fun z193 => ?_) (fun z193 => ?_)
        · refine pw_iconst (n := 0) (v := 0) (by decide) (by decide +kernel) ?_
          refine pq_istore_n (k4 := 3) (Nat.le_of_ble_eq_true rfl) rfl (by decide +kernel) ?_
          refine pn_iinc (i := 4) (n := 4) 4 (32 + 4 * k) rfl rfl (by decide) rfl (by decide +kernel) ?_
          refine pw_goto (off := -55) (tgt := 170) (by decide +kernel) (by decide +kernel) ?_
          have w := ih (by omega)
          rw [show swH (K 151) (32 + 4 * rr) (k + 1) = false from (show (swH (K 151) (32 + 4 * rr) k || decide (K 151 (32 + 4 * k) = K 151 (32 + 4 * rr) ∧ K 151 (32 + 4 * k + 2) = K 151 (32 + 4 * rr + 2))) = false from by rw [bI_0 z177, Bool.false_or]; exact decide_eq_false (fun q => z193 q.1))] at w
          exact w
        · refine pw_aload_n (k4 := 0) rfl (by decide +kernel) ?_
          refine pq_getP (c := 11) (k := 37) (ks_m hA) (by decide) (by decide) (kp_m_rate hA) lf_Mo_62 (by decide +kernel) ?_
          refine pw_iload (i := 4) rfl (by decide +kernel) ?_
          refine pw_iconst (n := 2) (v := 2) (by decide) (by decide +kernel) ?_
          refine pn_iadd (32 + 4 * k) 2 rfl rfl (by decide +kernel) ?_
          refine pq_iald ((32 + 4 * k) + 2) rfl (by omega) (by decide) (ks_m_rate hA) (by decide +kernel) ?_
          refine pw_aload_n (k4 := 0) rfl (by decide +kernel) ?_
          refine pq_getP (c := 11) (k := 37) (ks_m hA) (by decide) (by decide) (kp_m_rate hA) lf_Mo_62 (by decide +kernel) ?_
          refine pw_iload_n (k4 := 1) rfl (by decide +kernel) ?_
          refine pw_iconst (n := 2) (v := 2) (by decide) (by decide +kernel) ?_
          refine pn_iadd (32 + 4 * rr) 2 rfl rfl (by decide +kernel) ?_
          refine pq_iald ((32 + 4 * rr) + 2) rfl (by omega) (by decide) (ks_m_rate hA) (by decide +kernel) ?_
          refine pw_icmp_ne (off := 7) (tgt := 220) (by decide +kernel) (by decide +kernel) (fun z213 => ?_) (fun z213 => ?_)
          · refine pw_iconst (n := 0) (v := 0) (by decide) (by decide +kernel) ?_
            refine pq_istore_n (k4 := 3) (Nat.le_of_ble_eq_true rfl) rfl (by decide +kernel) ?_
            refine pn_iinc (i := 4) (n := 4) 4 (32 + 4 * k) rfl rfl (by decide) rfl (by decide +kernel) ?_
            refine pw_goto (off := -55) (tgt := 170) (by decide +kernel) (by decide +kernel) ?_
            have w := ih (by omega)
            rw [show swH (K 151) (32 + 4 * rr) (k + 1) = false from (show (swH (K 151) (32 + 4 * rr) k || decide (K 151 (32 + 4 * k) = K 151 (32 + 4 * rr) ∧ K 151 (32 + 4 * k + 2) = K 151 (32 + 4 * rr + 2))) = false from by rw [bI_0 z177, Bool.false_or]; exact decide_eq_false (fun q => z213 q.2))] at w
            exact w
          · refine pw_iconst (n := 1) (v := 1) (by decide) (by decide +kernel) ?_
            refine pw_goto (off := 4) (tgt := 221) (by decide +kernel) (by decide +kernel) ?_
            refine pq_istore_n (k4 := 3) (Nat.le_of_ble_eq_true rfl) rfl (by decide +kernel) ?_
            refine pn_iinc (i := 4) (n := 4) 4 (32 + 4 * k) rfl rfl (by decide) rfl (by decide +kernel) ?_
            refine pw_goto (off := -55) (tgt := 170) (by decide +kernel) (by decide +kernel) ?_
            have w := ih (by omega)
            rw [show swH (K 151) (32 + 4 * rr) (k + 1) = true from (show (swH (K 151) (32 + 4 * rr) k || decide (K 151 (32 + 4 * k) = K 151 (32 + 4 * rr) ∧ K 151 (32 + 4 * k + 2) = K 151 (32 + 4 * rr + 2))) = true from by rw [bI_0 z177, Bool.false_or]; exact decide_eq_true ⟨z193, z213⟩)] at w
            exact w
)
  exact hL 0 (Nat.zero_le _)

set_option maxHeartbeats 4000000 in
theorem ct_Mo_swapLine {sh : List pSh} {I : Nat → Nat → Int32} {L : Nat → Nat → Int64} {P : Nat → Nat → Option Nat} (hA : kA sh P) (hp0 : prI I) {rr : Nat} (ho_0 : I 134 20 = nI rr) (hr8 : rr ≤ 8) : pCn m_Mo_swapLine 3 [.ref 134] sh (I, L, P) (rLn (yRL rr I) L P) := by
  refine pCn_of (by decide +kernel) (Nat.le_of_ble_eq_true rfl) ?_
  obtain ⟨X, hX⟩ : ∃ X, X = yRL rr I := ⟨_, rfl⟩
  rw [← hX]
  unfold yRL at hX
  refine pw_aload_n (k4 := 0) rfl (by decide +kernel) ?_
  refine pq_getI (c := 11) (k := 20) (ks_m hA) (by decide) (by decide) lf_Mo_246 (by decide +kernel) ?_
  refine pn_val (nI (rr)) (by exact ho_0) ?_
  refine pw_bipush (n := 8) (v := 8) (by decide) (by decide +kernel) ?_
  refine pn_icmp_ne (off := 9) (tgt := 15) rr 8 rfl rfl (by omega) (by omega) (by decide +kernel) (by decide +kernel) (fun z6 => ?_) (fun z6 => ?_)
  · rw [if_neg z6] at hX
    refine pw_aload_n (k4 := 0) rfl (by decide +kernel) ?_
    refine pq_callV (ν := m_Mo_token) (d' := 1) (av := []) (c := 11) (by decide +kernel) lm_Mo_227 ok_Mo_token (show _ = some 0 by decide +kernel) (ks_m hA) rfl (by decide) (by omega) (Nat.le_of_ble_eq_true rfl) (ct_Mo_tok hA (by first | exact hp0 | exact prI_st hp0 (by decide) _ | exact prI_set hp0 (by decide) (by decide) _ | exact prI_set (prI_st hp0 (by decide) _) (by decide) (by decide) _ | exact prI_wr hp0 _ | exact prI_wr (prI_set hp0 (by decide) (by decide) _) _ | exact prI_wr (prI_set (prI_st hp0 (by decide) _) (by decide) (by decide) _) _ | exact prI_wr (prI_st hp0 (by decide) _) _ | exact prI_st (prI_st hp0 (by decide) _) (by decide) _)) ?_
    rintro _ _ ⟨J16, hJ16, hp16, hf16, rfl, rfl⟩
    rw [hJ16] at hX
    try dsimp only at hX
    have ho_16 : J16 134 20 = nI rr := (hf16.2 20 (by decide)).trans (by exact ho_0)
    refine pw_bipush (n := 32) (v := 32) (by decide) (by decide +kernel) ?_
    refine pw_iconst (n := 4) (v := 4) (by decide) (by decide +kernel) ?_
    refine pw_aload_n (k4 := 0) rfl (by decide +kernel) ?_
    refine pq_getI (c := 11) (k := 20) (ks_m hA) (by decide) (by decide) lf_Mo_246 (by decide +kernel) ?_
    refine pn_val (nI (rr)) (by exact ho_16) ?_
    refine pn_imul 4 rr rfl rfl (by decide +kernel) ?_
    refine pn_iadd 32 (4 * rr) rfl rfl (by decide +kernel) ?_
    refine pq_istore_n (k4 := 1) (Nat.le_of_ble_eq_true rfl) rfl (by decide +kernel) ?_
    refine pw_aload_n (k4 := 0) rfl (by decide +kernel) ?_
    refine pw_bipush (n := 9) (v := 9) (by decide) (by decide +kernel) ?_
    refine pw_bipush (n := 11) (v := 11) (by decide) (by decide +kernel) ?_
    refine pq_callV (ν := m_Mo_pick) (d' := 2) (av := [_, _]) (c := 11) (by decide +kernel) lm_Mo_285 ok_Mo_pick (show _ = some 2 by decide +kernel) (ks_m hA) rfl (by decide) (by omega) (Nat.le_of_ble_eq_true rfl) (ct_Mo_pick hA (by first | exact hp16 | exact prI_st hp16 (by decide) _ | exact prI_set hp16 (by decide) (by decide) _ | exact prI_set (prI_st hp16 (by decide) _) (by decide) (by decide) _ | exact prI_wr hp16 _ | exact prI_wr (prI_set hp16 (by decide) (by decide) _) _ | exact prI_wr (prI_set (prI_st hp16 (by decide) _) (by decide) (by decide) _) _ | exact prI_wr (prI_st hp16 (by decide) _) _ | exact prI_st (prI_st hp16 (by decide) _) (by decide) _) _ _) ?_
    rintro _ _ ⟨b34, J34, hq34, hp34, hf34, rfl, rfl⟩
    rw [hq34] at hX
    have ho_34 : J34 134 20 = nI rr := (hf34.2 20 (by decide)).trans (by exact ho_16)
    refine pw_if_ne (off := 5) (tgt := 42) (by decide +kernel) (by decide +kernel) (fun z37 => ?_) (fun z37 => ?_)
    · have hb34 := bI_1 z37
      rw [hb34, yB_t] at hX
      try dsimp only at hX
      rw [hb34] at hq34
      refine pw_aload_n (k4 := 0) rfl (by decide +kernel) ?_
      refine pq_getP (c := 11) (k := 37) (ks_m hA) (by decide) (by decide) (kp_m_rate hA) lf_Mo_62 (by decide +kernel) ?_
      refine pw_iload_n (k4 := 1) rfl (by decide +kernel) ?_
      refine pw_iconst (n := 2) (v := 2) (by decide) (by decide +kernel) ?_
      refine pw_aload_n (k4 := 0) rfl (by decide +kernel) ?_
      refine pq_getI (c := 11) (k := 11) (ks_m hA) (by decide) (by decide) lf_Mo_224 (by decide +kernel) ?_
      refine pw_imul (by decide +kernel) ?_
      refine pq_iast (32 + (4 * rr)) rfl (by omega) (by decide) (ks_m_rate hA) (by decide +kernel) ?_
      refine pw_aload_n (k4 := 0) rfl (by decide +kernel) ?_
      refine pw_bipush (n := 7) (v := 7) (by decide) (by decide +kernel) ?_
      refine pw_bipush (n := 8) (v := 8) (by decide) (by decide +kernel) ?_
      refine pq_callV (ν := m_Mo_pick) (d' := 2) (av := [_, _]) (c := 11) (by decide +kernel) lm_Mo_285 ok_Mo_pick (show _ = some 2 by decide +kernel) (ks_m hA) rfl (by decide) (by omega) (Nat.le_of_ble_eq_true rfl) (ct_Mo_pick hA (by first | exact hp34 | exact prI_st hp34 (by decide) _ | exact prI_set hp34 (by decide) (by decide) _ | exact prI_set (prI_st hp34 (by decide) _) (by decide) (by decide) _ | exact prI_wr hp34 _ | exact prI_wr (prI_set hp34 (by decide) (by decide) _) _ | exact prI_wr (prI_set (prI_st hp34 (by decide) _) (by decide) (by decide) _) _ | exact prI_wr (prI_st hp34 (by decide) _) _ | exact prI_st (prI_st hp34 (by decide) _) (by decide) _) _ _) ?_
      rintro _ _ ⟨b59, J59, hq59, hp59, hf59, rfl, rfl⟩
      rw [hq59] at hX
      have ho_59 : J59 134 20 = nI rr := (hf59.2 20 (by decide)).trans (by exact ho_34)
      refine pw_if_ne (off := 5) (tgt := 67) (by decide +kernel) (by decide +kernel) (fun z62 => ?_) (fun z62 => ?_)
      · have hb59 := bI_1 z62
        rw [hb59, yB_t] at hX
        try dsimp only at hX
        rw [hb59] at hq59
        refine pw_aload_n (k4 := 0) rfl (by decide +kernel) ?_
        refine pq_getP (c := 11) (k := 37) (ks_m hA) (by decide) (by decide) (kp_m_rate hA) lf_Mo_62 (by decide +kernel) ?_
        refine pw_iload_n (k4 := 1) rfl (by decide +kernel) ?_
        refine pw_dup2 rfl rfl (by decide +kernel) ?_
        refine pq_iald (32 + (4 * rr)) rfl (by omega) (by decide) (ks_m_rate hA) (by decide +kernel) ?_
        refine pw_aload_n (k4 := 0) rfl (by decide +kernel) ?_
        refine pq_getI (c := 11) (k := 11) (ks_m hA) (by decide) (by decide) lf_Mo_224 (by decide +kernel) ?_
        refine pw_iadd (by decide +kernel) ?_
        refine pq_iast (32 + (4 * rr)) rfl (by omega) (by decide) (ks_m_rate hA) (by decide +kernel) ?_
        refine pw_aload_n (k4 := 0) rfl (by decide +kernel) ?_
        refine pw_iconst (n := 1) (v := 1) (by decide) (by decide +kernel) ?_
        refine pw_bipush (n := 99) (v := 99) (by decide) (by decide +kernel) ?_
        refine pq_callV (ν := m_Mo_number) (d' := 2) (av := [_, _]) (c := 11) (by decide +kernel) lm_Mo_233 ok_Mo_number (show _ = some 2 by decide +kernel) (ks_m hA) rfl (by decide) (by omega) (Nat.le_of_ble_eq_true rfl) (ct_Mo_number hA (by first | exact hp59 | exact prI_st hp59 (by decide) _ | exact prI_set hp59 (by decide) (by decide) _ | exact prI_set (prI_st hp59 (by decide) _) (by decide) (by decide) _ | exact prI_wr hp59 _ | exact prI_wr (prI_set hp59 (by decide) (by decide) _) _ | exact prI_wr (prI_set (prI_st hp59 (by decide) _) (by decide) (by decide) _) _ | exact prI_wr (prI_st hp59 (by decide) _) _ | exact prI_st (prI_st hp59 (by decide) _) (by decide) _) _ _) ?_
        rintro _ _ ⟨b84, J84, hq84, hp84, hf84, rfl, rfl⟩
        rw [hq84] at hX
        have ho_84 : J84 134 20 = nI rr := (hf84.2 20 (by decide)).trans (by exact ho_59)
        refine pw_if_ne (off := 5) (tgt := 92) (by decide +kernel) (by decide +kernel) (fun z87 => ?_) (fun z87 => ?_)
        · have hb84 := bI_1 z87
          rw [hb84, yB_t] at hX
          try dsimp only at hX
          rw [hb84] at hq84
          refine pw_aload_n (k4 := 0) rfl (by decide +kernel) ?_
          refine pq_getP (c := 11) (k := 37) (ks_m hA) (by decide) (by decide) (kp_m_rate hA) lf_Mo_62 (by decide +kernel) ?_
          refine pw_iload_n (k4 := 1) rfl (by decide +kernel) ?_
          refine pw_iconst (n := 1) (v := 1) (by decide) (by decide +kernel) ?_
          refine pn_iadd (32 + (4 * rr)) 1 rfl rfl (by decide +kernel) ?_
          refine pw_aload_n (k4 := 0) rfl (by decide +kernel) ?_
          refine pq_getI (c := 11) (k := 11) (ks_m hA) (by decide) (by decide) lf_Mo_224 (by decide +kernel) ?_
          refine pq_iast ((32 + (4 * rr)) + 1) rfl (by omega) (by decide) (ks_m_rate hA) (by decide +kernel) ?_
          refine pw_aload_n (k4 := 0) rfl (by decide +kernel) ?_
          refine pw_bipush (n := 9) (v := 9) (by decide) (by decide +kernel) ?_
          refine pw_bipush (n := 11) (v := 11) (by decide) (by decide +kernel) ?_
          refine pq_callV (ν := m_Mo_pick) (d' := 2) (av := [_, _]) (c := 11) (by decide +kernel) lm_Mo_285 ok_Mo_pick (show _ = some 2 by decide +kernel) (ks_m hA) rfl (by decide) (by omega) (Nat.le_of_ble_eq_true rfl) (ct_Mo_pick hA (by first | exact hp84 | exact prI_st hp84 (by decide) _ | exact prI_set hp84 (by decide) (by decide) _ | exact prI_set (prI_st hp84 (by decide) _) (by decide) (by decide) _ | exact prI_wr hp84 _ | exact prI_wr (prI_set hp84 (by decide) (by decide) _) _ | exact prI_wr (prI_set (prI_st hp84 (by decide) _) (by decide) (by decide) _) _ | exact prI_wr (prI_st hp84 (by decide) _) _ | exact prI_st (prI_st hp84 (by decide) _) (by decide) _) _ _) ?_
          rintro _ _ ⟨b109, J109, hq109, hp109, hf109, rfl, rfl⟩
          rw [hq109] at hX
          have ho_109 : J109 134 20 = nI rr := (hf109.2 20 (by decide)).trans (by exact ho_84)
          refine pw_if_ne (off := 5) (tgt := 117) (by decide +kernel) (by decide +kernel) (fun z112 => ?_) (fun z112 => ?_)
          · have hb109 := bI_1 z112
            rw [hb109, yB_t] at hX
            try dsimp only at hX
            rw [hb109] at hq109
            refine pw_aload_n (k4 := 0) rfl (by decide +kernel) ?_
            refine pq_getP (c := 11) (k := 37) (ks_m hA) (by decide) (by decide) (kp_m_rate hA) lf_Mo_62 (by decide +kernel) ?_
            refine pw_iload_n (k4 := 1) rfl (by decide +kernel) ?_
            refine pw_iconst (n := 2) (v := 2) (by decide) (by decide +kernel) ?_
            refine pn_iadd (32 + (4 * rr)) 2 rfl rfl (by decide +kernel) ?_
            refine pw_iconst (n := 2) (v := 2) (by decide) (by decide +kernel) ?_
            refine pw_aload_n (k4 := 0) rfl (by decide +kernel) ?_
            refine pq_getI (c := 11) (k := 11) (ks_m hA) (by decide) (by decide) lf_Mo_224 (by decide +kernel) ?_
            refine pw_imul (by decide +kernel) ?_
            refine pq_iast ((32 + (4 * rr)) + 2) rfl (by omega) (by decide) (ks_m_rate hA) (by decide +kernel) ?_
            refine pw_aload_n (k4 := 0) rfl (by decide +kernel) ?_
            refine pq_getI (c := 11) (k := 10) (ks_m hA) (by decide) (by decide) lf_Mo_184 (by decide +kernel) ?_
            refine pq_istore_n (k4 := 2) (Nat.le_of_ble_eq_true rfl) rfl (by decide +kernel) ?_
            refine pw_aload_n (k4 := 0) rfl (by decide +kernel) ?_
            refine pw_bipush (n := 7) (v := 7) (by decide) (by decide +kernel) ?_
            refine pw_bipush (n := 8) (v := 8) (by decide) (by decide +kernel) ?_
            refine pq_callV (ν := m_Mo_pick) (d' := 2) (av := [_, _]) (c := 11) (by decide +kernel) lm_Mo_285 ok_Mo_pick (show _ = some 2 by decide +kernel) (ks_m hA) rfl (by decide) (by omega) (Nat.le_of_ble_eq_true rfl) (ct_Mo_pick hA (by first | exact hp109 | exact prI_st hp109 (by decide) _ | exact prI_set hp109 (by decide) (by decide) _ | exact prI_set (prI_st hp109 (by decide) _) (by decide) (by decide) _ | exact prI_wr hp109 _ | exact prI_wr (prI_set hp109 (by decide) (by decide) _) _ | exact prI_wr (prI_set (prI_st hp109 (by decide) _) (by decide) (by decide) _) _ | exact prI_wr (prI_st hp109 (by decide) _) _ | exact prI_st (prI_st hp109 (by decide) _) (by decide) _) _ _) ?_
            rintro _ _ ⟨b141, J141, hq141, hp141, hf141, rfl, rfl⟩
            rw [hq141] at hX
            have ho_141 : J141 134 20 = nI rr := (hf141.2 20 (by decide)).trans (by exact ho_109)
            refine pw_if_ne (off := 5) (tgt := 149) (by decide +kernel) (by decide +kernel) (fun z144 => ?_) (fun z144 => ?_)
            · have hb141 := bI_1 z144
              rw [hb141, yB_t] at hX
              try dsimp only at hX
              rw [hb141] at hq141
              refine pw_aload_n (k4 := 0) rfl (by decide +kernel) ?_
              refine pq_getP (c := 11) (k := 37) (ks_m hA) (by decide) (by decide) (kp_m_rate hA) lf_Mo_62 (by decide +kernel) ?_
              refine pw_iload_n (k4 := 1) rfl (by decide +kernel) ?_
              refine pw_iconst (n := 2) (v := 2) (by decide) (by decide +kernel) ?_
              refine pn_iadd (32 + (4 * rr)) 2 rfl rfl (by decide +kernel) ?_
              refine pw_dup2 rfl rfl (by decide +kernel) ?_
              refine pq_iald ((32 + (4 * rr)) + 2) rfl (by omega) (by decide) (ks_m_rate hA) (by decide +kernel) ?_
              refine pw_aload_n (k4 := 0) rfl (by decide +kernel) ?_
              refine pq_getI (c := 11) (k := 11) (ks_m hA) (by decide) (by decide) lf_Mo_224 (by decide +kernel) ?_
              refine pw_iadd (by decide +kernel) ?_
              refine pq_iast ((32 + (4 * rr)) + 2) rfl (by omega) (by decide) (ks_m_rate hA) (by decide +kernel) ?_
              refine pw_iconst (n := 0) (v := 0) (by decide) (by decide +kernel) ?_
              refine pq_istore_n (k4 := 3) (Nat.le_of_ble_eq_true rfl) rfl (by decide +kernel) ?_
              refine pw_bipush (n := 32) (v := 32) (by decide) (by decide +kernel) ?_
              refine pq_istore (i := 4) (Nat.le_of_ble_eq_true rfl) rfl (by decide +kernel) ?_
              exact pw_swap170 hA (by first | exact prI_st hp141 (by decide) _) (by exact ho_141) (by omega) hX
            · have hb141 : b141 = false := bI_0 z144
              rw [hb141, yB_f] at hX
              refine pw_iconst (n := 0) (v := 0) (by decide) (by decide +kernel) ?_
              exact pq_zret rfl (by decide) (by decide +kernel) ⟨_, _, hX, (by first | exact hp141 | exact prI_st hp141 (by decide) _ | exact prI_set hp141 (by decide) (by decide) _ | exact prI_set (prI_st hp141 (by decide) _) (by decide) (by decide) _ | exact prI_wr hp141 _ | exact prI_wr (prI_set hp141 (by decide) (by decide) _) _ | exact prI_wr (prI_set (prI_st hp141 (by decide) _) (by decide) (by decide) _) _ | exact prI_wr (prI_st hp141 (by decide) _) _ | exact prI_st (prI_st hp141 (by decide) _) (by decide) _), rfl, rfl⟩
          · have hb109 : b109 = false := bI_0 z112
            rw [hb109, yB_f] at hX
            refine pw_iconst (n := 0) (v := 0) (by decide) (by decide +kernel) ?_
            exact pq_zret rfl (by decide) (by decide +kernel) ⟨_, _, hX, (by first | exact hp109 | exact prI_st hp109 (by decide) _ | exact prI_set hp109 (by decide) (by decide) _ | exact prI_set (prI_st hp109 (by decide) _) (by decide) (by decide) _ | exact prI_wr hp109 _ | exact prI_wr (prI_set hp109 (by decide) (by decide) _) _ | exact prI_wr (prI_set (prI_st hp109 (by decide) _) (by decide) (by decide) _) _ | exact prI_wr (prI_st hp109 (by decide) _) _ | exact prI_st (prI_st hp109 (by decide) _) (by decide) _), rfl, rfl⟩
        · have hb84 : b84 = false := bI_0 z87
          rw [hb84, yB_f] at hX
          refine pw_iconst (n := 0) (v := 0) (by decide) (by decide +kernel) ?_
          exact pq_zret rfl (by decide) (by decide +kernel) ⟨_, _, hX, (by first | exact hp84 | exact prI_st hp84 (by decide) _ | exact prI_set hp84 (by decide) (by decide) _ | exact prI_set (prI_st hp84 (by decide) _) (by decide) (by decide) _ | exact prI_wr hp84 _ | exact prI_wr (prI_set hp84 (by decide) (by decide) _) _ | exact prI_wr (prI_set (prI_st hp84 (by decide) _) (by decide) (by decide) _) _ | exact prI_wr (prI_st hp84 (by decide) _) _ | exact prI_st (prI_st hp84 (by decide) _) (by decide) _), rfl, rfl⟩
      · have hb59 : b59 = false := bI_0 z62
        rw [hb59, yB_f] at hX
        refine pw_iconst (n := 0) (v := 0) (by decide) (by decide +kernel) ?_
        exact pq_zret rfl (by decide) (by decide +kernel) ⟨_, _, hX, (by first | exact hp59 | exact prI_st hp59 (by decide) _ | exact prI_set hp59 (by decide) (by decide) _ | exact prI_set (prI_st hp59 (by decide) _) (by decide) (by decide) _ | exact prI_wr hp59 _ | exact prI_wr (prI_set hp59 (by decide) (by decide) _) _ | exact prI_wr (prI_set (prI_st hp59 (by decide) _) (by decide) (by decide) _) _ | exact prI_wr (prI_st hp59 (by decide) _) _ | exact prI_st (prI_st hp59 (by decide) _) (by decide) _), rfl, rfl⟩
    · have hb34 : b34 = false := bI_0 z37
      rw [hb34, yB_f] at hX
      refine pw_iconst (n := 0) (v := 0) (by decide) (by decide +kernel) ?_
      exact pq_zret rfl (by decide) (by decide +kernel) ⟨_, _, hX, (by first | exact hp34 | exact prI_st hp34 (by decide) _ | exact prI_set hp34 (by decide) (by decide) _ | exact prI_set (prI_st hp34 (by decide) _) (by decide) (by decide) _ | exact prI_wr hp34 _ | exact prI_wr (prI_set hp34 (by decide) (by decide) _) _ | exact prI_wr (prI_set (prI_st hp34 (by decide) _) (by decide) (by decide) _) _ | exact prI_wr (prI_st hp34 (by decide) _) _ | exact prI_st (prI_st hp34 (by decide) _) (by decide) _), rfl, rfl⟩
  · rw [if_pos (Decidable.not_not.mp z6)] at hX
    refine pw_aload_n (k4 := 0) rfl (by decide +kernel) ?_
    refine pw_iconst (n := 2) (v := 2) (by decide) (by decide +kernel) ?_
    refine pq_callV (ν := m_Mo_wrong) (d' := 0) (av := [_]) (c := 11) (by decide +kernel) lm_Mo_217 ok_Mo_wrong (show _ = some 1 by decide +kernel) (ks_m hA) rfl (by decide) (by omega) (Nat.le_of_ble_eq_true rfl) (ct_Mo_wrong hA _) ?_
    rintro _ _ ⟨rfl, rfl⟩
    exact pq_zret rfl (by decide) (by decide +kernel) ⟨_, _, hX, (by first | exact hp0 | exact prI_st hp0 (by decide) _ | exact prI_set hp0 (by decide) (by decide) _ | exact prI_set (prI_st hp0 (by decide) _) (by decide) (by decide) _ | exact prI_wr hp0 _ | exact prI_wr (prI_set hp0 (by decide) (by decide) _) _ | exact prI_wr (prI_set (prI_st hp0 (by decide) _) (by decide) (by decide) _) _ | exact prI_wr (prI_st hp0 (by decide) _) _ | exact prI_st (prI_st hp0 (by decide) _) (by decide) _), rfl, rfl⟩
