/-! ===== the reference: numbers, words, persons of a text ===== -/
/-- a text is being read: tape, words, how far -/
def prI (I : Nat → Nat → Int32) : Prop := tpM I ∧ wdM I ∧ ∃ n p, I 134 6 = nI n ∧ n ≤ 700 ∧ I 134 7 = nI p ∧ p ≤ n
/-- what reading a token or a part of a line leaves -/
def prF (J I : Nat → Nat → Int32) : Prop := (∀ a, a ≠ 134 → J a = I a) ∧ ∀ k, k ∉ [4, 5, 7, 8, 9, 10, 11] → J 134 k = I 134 k
theorem prF.rf (I : Nat → Nat → Int32) : prF I I := ⟨fun _ _ => rfl, fun _ _ => rfl⟩
theorem prF.tr {I J K : Nat → Nat → Int32} (h1 : prF K J) (h2 : prF J I) : prF K I := ⟨fun a h => (h1.1 a h).trans (h2.1 a h), fun k h => (h1.2 k h).trans (h2.2 k h)⟩
theorem prF.set {I J : Nat → Nat → Int32} (h : prF J I) {k : Nat} (hk : k ∈ [4, 5, 7, 8, 9, 10, 11]) (x : Int32) : prF (sI J 134 k x) I := by
  refine ⟨fun a ha => ?_, fun j hj => ?_⟩
  · rw [sI_ne ha]; exact h.1 a ha
  · rw [sI_rd (fun e => hj (by rw [e]; exact hk))]; exact h.2 j hj
theorem prF_tok (I : Nat → Nat → Int32) : prF (yTok I) I := by
  unfold yTok tkQ
  exact ((((prF.rf I).set (by decide) _).set (by decide) _).set (by decide) _).set (by decide) _
theorem sgE_le {b : Nat → Nat} {n a : Nat} (h : a < n) : sgE b n a ≤ n := by
  unfold sgE
  split
  · rename_i q
    have : a + 1 < n := by
      rcases Nat.lt_or_ge (a + 1) n with w | w
      · exact w
      · have h0 : sgN b n a = 0 := if_neg (by omega)
        rcases q.2 with r | r
        · have := r.2; omega
        · have := r.2; omega
    omega
  · omega
theorem tkE_le {b : Nat → Nat} {n a : Nat} (h : a ≤ n) : a ≤ tkE b n a ∧ tkE b n a ≤ n := by
  have h1 := runTo_le (fun k => decide (smP b n k)) (n - a) a
  have h2 := runTo_le (fun k => decide (dgP b n k)) (n - a) a
  unfold tkE tkW tkD
  by_cases q1 : a = n
  · rw [if_pos q1]; omega
  · rw [if_neg q1]
    by_cases q2 : smP b n a
    · rw [if_pos q2]; omega
    · rw [if_neg q2]
      by_cases q3 : dgP b n a
      · rw [if_pos q3]; omega
      · rw [if_neg q3]
        refine ⟨?_, sgE_le (by omega)⟩
        unfold sgE; split <;> omega
theorem tkA_le {b : Nat → Nat} {n p : Nat} (h : p ≤ n) : p ≤ tkA b n p ∧ tkA b n p ≤ n := by
  have := runTo_le (fun k => decide (blP b n k)) (n - p) p
  unfold tkA
  omega
theorem prI_tok {I : Nat → Nat → Int32} (h : prI I) : prI (yTok I) := by
  obtain ⟨h1, h2, n, p, h3, h4, h5, h6⟩ := h
  refine ⟨h1, h2, n, tkE (bT I) n (tkA (bT I) n p), h3, h4, ?_, (tkE_le (tkA_le h6).2).2⟩
  show nI (tkE (bT I) (ixn (I 134 6)) (tkA (bT I) (ixn (I 134 6)) (ixn (I 134 7)))) = _
  rw [h3, h5, ixn_nI (by omega), ixn_nI (by omega)]
theorem prI_set {I : Nat → Nat → Int32} (h : prI I) {k : Nat} (h6 : 6 ≠ k) (h7 : 7 ≠ k) (x : Int32) : prI (sI I 134 k x) := by
  obtain ⟨h1, h2, n, p, h3, h4, h5, h8⟩ := h
  refine ⟨fun j hj => ?_, fun j hj => ?_, n, p, ?_, h4, ?_, h8⟩
  · rw [sI_ne (by decide)]; exact h1 j hj
  · rw [sI_ne (by decide)]; exact h2 j hj
  · rw [sI_rd h6]; exact h3
  · rw [sI_rd h7]; exact h5
theorem prI_st {I : Nat → Nat → Int32} (h : prI I) {a k : Nat} (ha : 137 ≤ a) (x : Int32) : prI (sI I a k x) := by
  obtain ⟨h1, h2, n, p, h3, h4, h5, h8⟩ := h
  refine ⟨fun j hj => ?_, fun j hj => ?_, n, p, ?_, h4, ?_, h8⟩
  · rw [sI_ne (by omega)]; exact h1 j hj
  · rw [sI_ne (by omega)]; exact h2 j hj
  · rw [sI_ne (by omega)]; exact h3
  · rw [sI_ne (by omega)]; exact h5
def yWr (I : Nat → Nat → Int32) (q : Int32) : Nat → Nat → Int32 := sI (sI I 134 4 q) 134 5 (I 134 10)
theorem prI_wr {I : Nat → Nat → Int32} (h : prI I) (q : Int32) : prI (yWr I q) := prI_set (prI_set h (by decide) (by decide) _) (by decide) (by decide) _
theorem prF_wr (I : Nat → Nat → Int32) (q : Int32) : prF (yWr I q) I := ((prF.rf I).set (by decide) _).set (by decide) _
def yNum (I : Nat → Nat → Int32) (lo hi : Int32) : Bool × (Nat → Nat → Int32) := if ¬ I 134 8 = 3 then (false, yWr I 1) else if ¬ (lo ≤ I 134 9 ∧ I 134 9 ≤ hi) then (false, yWr I 2) else (true, yTok (sI I 134 11 (I 134 9)))
def yPick (I : Nat → Nat → Int32) (lo hi : Int32) : Bool × (Nat → Nat → Int32) := if ¬ I 134 8 = 1 then (false, yWr I 1) else if I 134 9 < lo then (false, yWr I 1) else if hi < I 134 9 then (false, yWr I 1) else (true, sI (yTok I) 134 11 (I 134 9 - lo))
def yPer (I : Nat → Nat → Int32) (pr : Nat) : Bool × (Nat → Nat → Int32) := if ¬ I 134 8 = 2 then (false, yWr I 1) else if fFind (fun k => I 137 (5 + k)) (I 134 9) pr 0 < 0 then (false, yWr I 4) else (true, sI (yTok I) 134 11 (fFind (fun k => I 137 (5 + k)) (I 134 9) pr 0))
def yB (q : Bool × (Nat → Nat → Int32)) (f : (Nat → Nat → Int32) → Bool × (Nat → Nat → Int32)) : Bool × (Nat → Nat → Int32) := if q.1 = true then f q.2 else q
theorem yB_f {J : Nat → Nat → Int32} {f : (Nat → Nat → Int32) → Bool × (Nat → Nat → Int32)} : yB (false, J) f = (false, J) := rfl
theorem yB_t {J : Nat → Nat → Int32} {f : (Nat → Nat → Int32) → Bool × (Nat → Nat → Int32)} : yB (true, J) f = f J := rfl
def rTk (I : Nat → Nat → Int32) (L : Nat → Nat → Int64) (P : Nat → Nat → Option Nat) : Option Value → pM → Prop := fun r M => ∃ J, yTok I = J ∧ prI J ∧ prF J I ∧ r = none ∧ M = (J, L, P)
def rSub (q : Bool × (Nat → Nat → Int32)) (I : Nat → Nat → Int32) (L : Nat → Nat → Int64) (P : Nat → Nat → Option Nat) : Option Value → pM → Prop := fun r M => ∃ b J, q = (b, J) ∧ prI J ∧ prF J I ∧ r = some (.int (bI b)) ∧ M = (J, L, P)
theorem ct_Mo_tok {sh : List pSh} {I : Nat → Nat → Int32} {L : Nat → Nat → Int64} {P : Nat → Nat → Option Nat} (hA : kA sh P) (hp : prI I) : pCn m_Mo_token 1 [.ref 134] sh (I, L, P) (rTk I L P) := by
  obtain ⟨h1, h2, n, p, h3, h4, h5, h6⟩ := hp
  refine pCn_im (ct_Mo_token hA h1 h3 h4 h2 h5 h6) ?_
  rintro r M ⟨rfl, rfl⟩
  exact ⟨_, rfl, prI_tok ⟨h1, h2, n, p, h3, h4, h5, h6⟩, prF_tok I, rfl, rfl⟩

theorem ct_Mo_wrong {sh : List pSh} {I : Nat → Nat → Int32} {L : Nat → Nat → Int64} {P : Nat → Nat → Option Nat} (hA : kA sh P) (q : Int32) : pCn m_Mo_wrong 0 [.ref 134, .int q] sh (I, L, P) (rI 0 (yWr I q, L, P)) := by
  refine pCn_of (by decide +kernel) (Nat.le_of_ble_eq_true rfl) ?_
  refine pw_aload_n (k4 := 0) rfl (by decide +kernel) ?_
  refine pw_iload_n (k4 := 1) rfl (by decide +kernel) ?_
  refine pq_putI (c := 11) (k := 4) (ks_m hA) (by decide) (by decide) lf_Mo_181 (Or.inl rfl) (by decide +kernel) ?_
  refine pw_aload_n (k4 := 0) rfl (by decide +kernel) ?_
  refine pw_aload_n (k4 := 0) rfl (by decide +kernel) ?_
  refine pq_getI (c := 11) (k := 10) (ks_m hA) (by decide) (by decide) lf_Mo_184 (by decide +kernel) ?_
  refine pq_putI (c := 11) (k := 5) (ks_m hA) (by decide) (by decide) lf_Mo_16 (Or.inl rfl) (by decide +kernel) ?_
  refine pw_iconst (n := 0) (v := 0) (by decide) (by decide +kernel) ?_
  exact pq_zret rfl (by decide) (by decide +kernel) ⟨rfl, rfl⟩

theorem ct_Mo_isKey {sh : List pSh} {I : Nat → Nat → Int32} {L : Nat → Nat → Int64} {P : Nat → Nat → Option Nat} (hA : kA sh P) (k : Int32) : pCn m_Mo_isKey 0 [.ref 134, .int k] sh (I, L, P) (rI (B (I 134 8 = 1 ∧ I 134 9 = k)) (I, L, P)) := by
  refine pCn_of (by decide +kernel) (Nat.le_of_ble_eq_true rfl) ?_
  refine pw_aload_n (k4 := 0) rfl (by decide +kernel) ?_
  refine pq_getI (c := 11) (k := 8) (ks_m hA) (by decide) (by decide) lf_Mo_193 (by decide +kernel) ?_
  refine pw_iconst (n := 1) (v := 1) (by decide) (by decide +kernel) ?_
  refine pw_icmp_ne (off := 15) (tgt := 20) (by decide +kernel) (by decide +kernel) (fun z5 => ?_) (fun z5 => ?_)
  · refine pw_iconst (n := 0) (v := 0) (by decide) (by decide +kernel) ?_
    exact pq_zret rfl (by decide) (by decide +kernel) ⟨congrArg (fun z => some (Value.int z)) (B_f (fun q => z5 q.1)).symm, rfl⟩
  · refine pw_aload_n (k4 := 0) rfl (by decide +kernel) ?_
    refine pq_getI (c := 11) (k := 9) (ks_m hA) (by decide) (by decide) lf_Mo_204 (by decide +kernel) ?_
    refine pw_iload_n (k4 := 1) rfl (by decide +kernel) ?_
    refine pw_icmp_ne (off := 7) (tgt := 20) (by decide +kernel) (by decide +kernel) (fun z13 => ?_) (fun z13 => ?_)
    · refine pw_iconst (n := 0) (v := 0) (by decide) (by decide +kernel) ?_
      exact pq_zret rfl (by decide) (by decide +kernel) ⟨congrArg (fun z => some (Value.int z)) (B_f (fun q => z13 q.2)).symm, rfl⟩
    · refine pw_iconst (n := 1) (v := 1) (by decide) (by decide +kernel) ?_
      refine pw_goto (off := 4) (tgt := 21) (by decide +kernel) (by decide +kernel) ?_
      exact pq_zret rfl (by decide) (by decide +kernel) ⟨congrArg (fun z => some (Value.int z)) (B_t ⟨z5, z13⟩).symm, rfl⟩

theorem ct_Mo_isSign {sh : List pSh} {I : Nat → Nat → Int32} {L : Nat → Nat → Int64} {P : Nat → Nat → Option Nat} (hA : kA sh P) (k : Int32) : pCn m_Mo_isSign 0 [.ref 134, .int k] sh (I, L, P) (rI (B (I 134 8 = 4 ∧ I 134 9 = k)) (I, L, P)) := by
  refine pCn_of (by decide +kernel) (Nat.le_of_ble_eq_true rfl) ?_
  refine pw_aload_n (k4 := 0) rfl (by decide +kernel) ?_
  refine pq_getI (c := 11) (k := 8) (ks_m hA) (by decide) (by decide) lf_Mo_193 (by decide +kernel) ?_
  refine pw_iconst (n := 4) (v := 4) (by decide) (by decide +kernel) ?_
  refine pw_icmp_ne (off := 15) (tgt := 20) (by decide +kernel) (by decide +kernel) (fun z5 => ?_) (fun z5 => ?_)
  · refine pw_iconst (n := 0) (v := 0) (by decide) (by decide +kernel) ?_
    exact pq_zret rfl (by decide) (by decide +kernel) ⟨congrArg (fun z => some (Value.int z)) (B_f (fun q => z5 q.1)).symm, rfl⟩
  · refine pw_aload_n (k4 := 0) rfl (by decide +kernel) ?_
    refine pq_getI (c := 11) (k := 9) (ks_m hA) (by decide) (by decide) lf_Mo_204 (by decide +kernel) ?_
    refine pw_iload_n (k4 := 1) rfl (by decide +kernel) ?_
    refine pw_icmp_ne (off := 7) (tgt := 20) (by decide +kernel) (by decide +kernel) (fun z13 => ?_) (fun z13 => ?_)
    · refine pw_iconst (n := 0) (v := 0) (by decide) (by decide +kernel) ?_
      exact pq_zret rfl (by decide) (by decide +kernel) ⟨congrArg (fun z => some (Value.int z)) (B_f (fun q => z13 q.2)).symm, rfl⟩
    · refine pw_iconst (n := 1) (v := 1) (by decide) (by decide +kernel) ?_
      refine pw_goto (off := 4) (tgt := 21) (by decide +kernel) (by decide +kernel) ?_
      exact pq_zret rfl (by decide) (by decide +kernel) ⟨congrArg (fun z => some (Value.int z)) (B_t ⟨z5, z13⟩).symm, rfl⟩

theorem ct_Mo_number {sh : List pSh} {I : Nat → Nat → Int32} {L : Nat → Nat → Int64} {P : Nat → Nat → Option Nat} (hA : kA sh P) (hp : prI I) (lo hi : Int32) : pCn m_Mo_number 2 [.ref 134, .int lo, .int hi] sh (I, L, P) (rSub (yNum I lo hi) I L P) := by
  refine pCn_of (by decide +kernel) (Nat.le_of_ble_eq_true rfl) ?_
  refine pw_aload_n (k4 := 0) rfl (by decide +kernel) ?_
  refine pq_getI (c := 11) (k := 8) (ks_m hA) (by decide) (by decide) lf_Mo_193 (by decide +kernel) ?_
  refine pw_iconst (n := 3) (v := 3) (by decide) (by decide +kernel) ?_
  refine pw_icmp_eq (off := 9) (tgt := 14) (by decide +kernel) (by decide +kernel) (fun z5 => ?_) (fun z5 => ?_)
  · refine pw_aload_n (k4 := 0) rfl (by decide +kernel) ?_
    refine pq_getI (c := 11) (k := 9) (ks_m hA) (by decide) (by decide) lf_Mo_204 (by decide +kernel) ?_
    refine pw_iload_n (k4 := 1) rfl (by decide +kernel) ?_
    refine pw_iload_n (k4 := 2) rfl (by decide +kernel) ?_
    refine pq_callS (ν := m_Mo_isIn) (d' := 0) (av := [_, _, _]) (by decide +kernel) lm_Mo_220 ok_Mo_isIn (show _ = some 3 by decide +kernel) (by omega) (Nat.le_of_ble_eq_true rfl) (ct_Mo_isIn _ _ _) ?_
    rintro _ _ ⟨rfl, rfl⟩
    refine pn_ifB_ne (off := 9) (tgt := 32) (by decide +kernel) (by decide +kernel) (fun z23 => ?_) (fun z23 => ?_)
    · refine pw_aload_n (k4 := 0) rfl (by decide +kernel) ?_
      refine pw_aload_n (k4 := 0) rfl (by decide +kernel) ?_
      refine pq_getI (c := 11) (k := 9) (ks_m hA) (by decide) (by decide) lf_Mo_204 (by decide +kernel) ?_
      refine pq_putI (c := 11) (k := 11) (ks_m hA) (by decide) (by decide) lf_Mo_224 (Or.inl rfl) (by decide +kernel) ?_
      refine pw_aload_n (k4 := 0) rfl (by decide +kernel) ?_
      refine pq_callV (ν := m_Mo_token) (d' := 1) (av := []) (c := 11) (by decide +kernel) lm_Mo_227 ok_Mo_token (show _ = some 0 by decide +kernel) (ks_m hA) rfl (by decide) (by omega) (Nat.le_of_ble_eq_true rfl) (ct_Mo_tok hA (prI_set hp (by decide) (by decide) _)) ?_
      rintro _ _ ⟨J, hJ, hpJ, hfJ, rfl, rfl⟩
      refine pw_iconst (n := 1) (v := 1) (by decide) (by decide +kernel) ?_
      exact pq_zret rfl (by decide) (by decide +kernel) ⟨true, _, (if_neg (fun w => w z5)).trans ((if_neg (fun w => w z23)).trans (by rw [hJ])), hpJ, hfJ.tr ((prF.rf I).set (by decide) _), rfl, rfl⟩
    · refine pw_aload_n (k4 := 0) rfl (by decide +kernel) ?_
      refine pw_iconst (n := 2) (v := 2) (by decide) (by decide +kernel) ?_
      refine pq_callV (ν := m_Mo_wrong) (d' := 0) (av := [_]) (c := 11) (by decide +kernel) lm_Mo_217 ok_Mo_wrong (show _ = some 1 by decide +kernel) (ks_m hA) rfl (by decide) (by omega) (Nat.le_of_ble_eq_true rfl) (ct_Mo_wrong hA _) ?_
      rintro _ _ ⟨rfl, rfl⟩
      exact pq_zret rfl (by decide) (by decide +kernel) ⟨false, _, (if_neg (fun w => w z5)).trans (if_pos z23), prI_wr hp _, prF_wr I _, rfl, rfl⟩
  · refine pw_aload_n (k4 := 0) rfl (by decide +kernel) ?_
    refine pw_iconst (n := 1) (v := 1) (by decide) (by decide +kernel) ?_
    refine pq_callV (ν := m_Mo_wrong) (d' := 0) (av := [_]) (c := 11) (by decide +kernel) lm_Mo_217 ok_Mo_wrong (show _ = some 1 by decide +kernel) (ks_m hA) rfl (by decide) (by omega) (Nat.le_of_ble_eq_true rfl) (ct_Mo_wrong hA _) ?_
    rintro _ _ ⟨rfl, rfl⟩
    exact pq_zret rfl (by decide) (by decide +kernel) ⟨false, _, if_pos z5, prI_wr hp _, prF_wr I _, rfl, rfl⟩

theorem ct_Mo_pick {sh : List pSh} {I : Nat → Nat → Int32} {L : Nat → Nat → Int64} {P : Nat → Nat → Option Nat} (hA : kA sh P) (hp : prI I) (lo hi : Int32) : pCn m_Mo_pick 2 [.ref 134, .int lo, .int hi] sh (I, L, P) (rSub (yPick I lo hi) I L P) := by
  refine pCn_of (by decide +kernel) (Nat.le_of_ble_eq_true rfl) ?_
  refine pw_aload_n (k4 := 0) rfl (by decide +kernel) ?_
  refine pq_getI (c := 11) (k := 8) (ks_m hA) (by decide) (by decide) lf_Mo_193 (by decide +kernel) ?_
  refine pw_iconst (n := 1) (v := 1) (by decide) (by decide +kernel) ?_
  refine pw_icmp_ne (off := 19) (tgt := 24) (by decide +kernel) (by decide +kernel) (fun z5 => ?_) (fun z5 => ?_)
  · refine pw_aload_n (k4 := 0) rfl (by decide +kernel) ?_
    refine pw_iconst (n := 1) (v := 1) (by decide) (by decide +kernel) ?_
    refine pq_callV (ν := m_Mo_wrong) (d' := 0) (av := [_]) (c := 11) (by decide +kernel) lm_Mo_217 ok_Mo_wrong (show _ = some 1 by decide +kernel) (ks_m hA) rfl (by decide) (by omega) (Nat.le_of_ble_eq_true rfl) (ct_Mo_wrong hA _) ?_
    rintro _ _ ⟨rfl, rfl⟩
    exact pq_zret rfl (by decide) (by decide +kernel) ⟨false, _, if_pos z5, prI_wr hp _, prF_wr I _, rfl, rfl⟩
  · refine pw_aload_n (k4 := 0) rfl (by decide +kernel) ?_
    refine pq_getI (c := 11) (k := 9) (ks_m hA) (by decide) (by decide) lf_Mo_204 (by decide +kernel) ?_
    refine pw_iload_n (k4 := 1) rfl (by decide +kernel) ?_
    refine pw_icmp_lt (off := 11) (tgt := 24) (by decide +kernel) (by decide +kernel) (fun z13 => ?_) (fun z13 => ?_)
    · refine pw_aload_n (k4 := 0) rfl (by decide +kernel) ?_
      refine pw_iconst (n := 1) (v := 1) (by decide) (by decide +kernel) ?_
      refine pq_callV (ν := m_Mo_wrong) (d' := 0) (av := [_]) (c := 11) (by decide +kernel) lm_Mo_217 ok_Mo_wrong (show _ = some 1 by decide +kernel) (ks_m hA) rfl (by decide) (by omega) (Nat.le_of_ble_eq_true rfl) (ct_Mo_wrong hA _) ?_
      rintro _ _ ⟨rfl, rfl⟩
      exact pq_zret rfl (by decide) (by decide +kernel) ⟨false, _, (if_neg (fun w => w z5)).trans (if_pos z13), prI_wr hp _, prF_wr I _, rfl, rfl⟩
    · refine pw_aload_n (k4 := 0) rfl (by decide +kernel) ?_
      refine pq_getI (c := 11) (k := 9) (ks_m hA) (by decide) (by decide) lf_Mo_204 (by decide +kernel) ?_
      refine pw_iload_n (k4 := 2) rfl (by decide +kernel) ?_
      refine pw_icmp_le (off := 9) (tgt := 30) (by decide +kernel) (by decide +kernel) (fun z21 => ?_) (fun z21 => ?_)
      · refine pw_aload_n (k4 := 0) rfl (by decide +kernel) ?_
        refine pq_getI (c := 11) (k := 9) (ks_m hA) (by decide) (by decide) lf_Mo_204 (by decide +kernel) ?_
        refine pw_iload_n (k4 := 1) rfl (by decide +kernel) ?_
        refine pw_isub (by decide +kernel) ?_
        refine pq_istore_n (k4 := 3) (Nat.le_of_ble_eq_true rfl) rfl (by decide +kernel) ?_
        refine pw_aload_n (k4 := 0) rfl (by decide +kernel) ?_
        refine pq_callV (ν := m_Mo_token) (d' := 1) (av := []) (c := 11) (by decide +kernel) lm_Mo_227 ok_Mo_token (show _ = some 0 by decide +kernel) (ks_m hA) rfl (by decide) (by omega) (Nat.le_of_ble_eq_true rfl) (ct_Mo_tok hA hp) ?_
        rintro _ _ ⟨J, hJ, hpJ, hfJ, rfl, rfl⟩
        refine pw_aload_n (k4 := 0) rfl (by decide +kernel) ?_
        refine pw_iload_n (k4 := 3) rfl (by decide +kernel) ?_
        refine pq_putI (c := 11) (k := 11) (ks_m hA) (by decide) (by decide) lf_Mo_224 (Or.inl rfl) (by decide +kernel) ?_
        refine pw_iconst (n := 1) (v := 1) (by decide) (by decide +kernel) ?_
        exact pq_zret rfl (by decide) (by decide +kernel) ⟨true, _, (if_neg (fun w => w z5)).trans ((if_neg z13).trans ((if_neg (Int32.not_lt.mpr z21)).trans (by rw [hJ]))), prI_set hpJ (by decide) (by decide) _, hfJ.set (by decide) _, rfl, rfl⟩
      · refine pw_aload_n (k4 := 0) rfl (by decide +kernel) ?_
        refine pw_iconst (n := 1) (v := 1) (by decide) (by decide +kernel) ?_
        refine pq_callV (ν := m_Mo_wrong) (d' := 0) (av := [_]) (c := 11) (by decide +kernel) lm_Mo_217 ok_Mo_wrong (show _ = some 1 by decide +kernel) (ks_m hA) rfl (by decide) (by omega) (Nat.le_of_ble_eq_true rfl) (ct_Mo_wrong hA _) ?_
        rintro _ _ ⟨rfl, rfl⟩
        exact pq_zret rfl (by decide) (by decide +kernel) ⟨false, _, (if_neg (fun w => w z5)).trans ((if_neg z13).trans (if_pos (Int32.not_le.mp z21))), prI_wr hp _, prF_wr I _, rfl, rfl⟩

theorem ct_Mo_personRead {sh : List pSh} {I : Nat → Nat → Int32} {L : Nat → Nat → Int64} {P : Nat → Nat → Option Nat} (hA : kA sh P) (hp : prI I) {pr : Nat} (hpr : I 134 17 = nI pr) (hp5 : pr ≤ 5) : pCn m_Mo_personRead 2 [.ref 134] sh (I, L, P) (rSub (yPer I pr) I L P) := by
  refine pCn_of (by decide +kernel) (Nat.le_of_ble_eq_true rfl) ?_
  refine pw_aload_n (k4 := 0) rfl (by decide +kernel) ?_
  refine pq_getI (c := 11) (k := 8) (ks_m hA) (by decide) (by decide) lf_Mo_193 (by decide +kernel) ?_
  refine pw_iconst (n := 2) (v := 2) (by decide) (by decide +kernel) ?_
  refine pw_icmp_eq (off := 9) (tgt := 14) (by decide +kernel) (by decide +kernel) (fun z5 => ?_) (fun z5 => ?_)
  · refine pw_aload_n (k4 := 0) rfl (by decide +kernel) ?_
    refine pq_getP (c := 11) (k := 23) (ks_m hA) (by decide) (by decide) (kp_m_personName hA) lf_Mo_20 (by decide +kernel) ?_
    refine pw_iconst (n := 5) (v := 5) (by decide) (by decide +kernel) ?_
    refine pw_aload_n (k4 := 0) rfl (by decide +kernel) ?_
    refine pq_getI (c := 11) (k := 17) (ks_m hA) (by decide) (by decide) lf_Mo_237 (by decide +kernel) ?_
    refine pn_val (nI (pr)) (by exact hpr) ?_
    refine pw_aload_n (k4 := 0) rfl (by decide +kernel) ?_
    refine pq_getI (c := 11) (k := 9) (ks_m hA) (by decide) (by decide) lf_Mo_204 (by decide +kernel) ?_
    refine pq_callS (ν := m_Mo_find) (d' := 0) (av := [_, _, _, _]) (by decide +kernel) lm_Mo_281 ok_Mo_find (show _ = some 4 by decide +kernel) (by omega) (Nat.le_of_ble_eq_true rfl) (ct_Mo_find hA (fr := 5) (n := pr) (by omega) _) ?_
    rintro _ _ ⟨rfl, rfl⟩
    refine pq_istore_n (k4 := 1) (Nat.le_of_ble_eq_true rfl) rfl (by decide +kernel) ?_
    refine pw_iload_n (k4 := 1) rfl (by decide +kernel) ?_
    refine pw_if_ge (off := 9) (tgt := 41) (by decide +kernel) (by decide +kernel) (fun z32 => ?_) (fun z32 => ?_)
    · refine pw_aload_n (k4 := 0) rfl (by decide +kernel) ?_
      refine pq_callV (ν := m_Mo_token) (d' := 1) (av := []) (c := 11) (by decide +kernel) lm_Mo_227 ok_Mo_token (show _ = some 0 by decide +kernel) (ks_m hA) rfl (by decide) (by omega) (Nat.le_of_ble_eq_true rfl) (ct_Mo_tok hA hp) ?_
      rintro _ _ ⟨J, hJ, hpJ, hfJ, rfl, rfl⟩
      refine pw_aload_n (k4 := 0) rfl (by decide +kernel) ?_
      refine pw_iload_n (k4 := 1) rfl (by decide +kernel) ?_
      refine pq_putI (c := 11) (k := 11) (ks_m hA) (by decide) (by decide) lf_Mo_224 (Or.inl rfl) (by decide +kernel) ?_
      refine pw_iconst (n := 1) (v := 1) (by decide) (by decide +kernel) ?_
      exact pq_zret rfl (by decide) (by decide +kernel) ⟨true, _, (if_neg (fun w => w z5)).trans ((if_neg (Int32.not_lt.mpr z32)).trans (by rw [hJ])), prI_set hpJ (by decide) (by decide) _, hfJ.set (by decide) _, rfl, rfl⟩
    · refine pw_aload_n (k4 := 0) rfl (by decide +kernel) ?_
      refine pw_iconst (n := 4) (v := 4) (by decide) (by decide +kernel) ?_
      refine pq_callV (ν := m_Mo_wrong) (d' := 0) (av := [_]) (c := 11) (by decide +kernel) lm_Mo_217 ok_Mo_wrong (show _ = some 1 by decide +kernel) (ks_m hA) rfl (by decide) (by omega) (Nat.le_of_ble_eq_true rfl) (ct_Mo_wrong hA _) ?_
      rintro _ _ ⟨rfl, rfl⟩
      exact pq_zret rfl (by decide) (by decide +kernel) ⟨false, _, (if_neg (fun w => w z5)).trans (if_pos (Int32.not_le.mp z32)), prI_wr hp _, prF_wr I _, rfl, rfl⟩
  · refine pw_aload_n (k4 := 0) rfl (by decide +kernel) ?_
    refine pw_iconst (n := 1) (v := 1) (by decide) (by decide +kernel) ?_
    refine pq_callV (ν := m_Mo_wrong) (d' := 0) (av := [_]) (c := 11) (by decide +kernel) lm_Mo_217 ok_Mo_wrong (show _ = some 1 by decide +kernel) (ks_m hA) rfl (by decide) (by omega) (Nat.le_of_ble_eq_true rfl) (ct_Mo_wrong hA _) ?_
    rintro _ _ ⟨rfl, rfl⟩
    exact pq_zret rfl (by decide) (by decide +kernel) ⟨false, _, if_pos z5, prI_wr hp _, prF_wr I _, rfl, rfl⟩
