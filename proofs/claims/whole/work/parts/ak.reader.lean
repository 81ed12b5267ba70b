/-! ===== the class: the reader ===== -/
/-- the sign at a place, as the class sees it -/
def sgA (b : Nat → Nat) (n i : Nat) : Int32 := if i < n then sgB (b i) else 0
def reQ (I : Nat → Nat → Int32) (kd v pl at_ : Int32) : Nat → Nat → Int32 := sI (sI (sI (sI I 58 0 kd) 58 1 v) 58 2 pl) 58 5 at_
theorem reQ_5 {I : Nat → Nat → Int32} {a b c d x : Int32} : sI (reQ I a b c d) 58 5 x = reQ I a b c x := sI_sI _ _ _ _ _
theorem reQ_2 {I : Nat → Nat → Int32} {a b c d x : Int32} : sI (reQ I a b c d) 58 2 x = reQ I a b x d := by
  unfold reQ
  rw [sI_cc (i := 5) (j := 2) (by decide), sI_sI]
theorem reQ_1 {I : Nat → Nat → Int32} {a b c d x : Int32} : sI (reQ I a b c d) 58 1 x = reQ I a x c d := by
  unfold reQ
  rw [sI_cc (i := 5) (j := 1) (by decide), sI_cc (i := 2) (j := 1) (by decide), sI_sI]
theorem reQ_0 {I : Nat → Nat → Int32} {a b c d x : Int32} : sI (reQ I a b c d) 58 0 x = reQ I x b c d := by
  unfold reQ
  rw [sI_cc (i := 5) (j := 0) (by decide), sI_cc (i := 2) (j := 0) (by decide), sI_cc (i := 1) (j := 0) (by decide), sI_sI]
theorem reQ_s (I : Nat → Nat → Int32) : reQ I (I 58 0) (I 58 1) (I 58 2) (I 58 5) = I := by
  unfold reQ
  rw [sI_same, sI_same, sI_same, sI_same]
theorem sg_dg : ∀ x, x < 256 → ((¬ sgB x < 48 ∧ ¬ 57 < sgB x) ↔ (48 ≤ x ∧ x ≤ 57)) := by decide +kernel
theorem sg_sm : ∀ x, x < 256 → ((¬ sgB x < 97 ∧ ¬ 122 < sgB x) ↔ (97 ≤ x ∧ x ≤ 122)) := by decide +kernel
theorem sg_ng : ∀ x, x < 256 → 128 ≤ x → sgB x < 0 := by decide +kernel
theorem sg_eq {c x : Nat} (hc : c < 128) (hx : x < 256) : sgB x = nI c ↔ x = c := by
  by_cases z : x < 128
  · rw [show sgB x = nI x from if_pos z]
    exact nI_eq (by omega) (by omega)
  · have h := sg_ng x hx (by omega)
    exact ⟨fun q => absurd h (by rw [q]; exact nI_pos (by omega)), fun q => absurd q (by omega)⟩
theorem sg_nI {x : Nat} (h : x < 128) : sgB x = nI x := if_pos h
def numC (b : Nat → Nat) : Nat → Nat → Nat → Nat
  | 0, _, v => v
  | c + 1, k, v => numC b c (k + 1) (if v * 10 + b k - 48 ≤ 1000000 then v * 10 + b k - 48 else 1000000)
theorem ct_Re_signAt {sh : List pSh} {I : Nat → Nat → Int32} {L : Nat → Nat → Int64} {P : Nat → Nat → Option Nat} (hA : kA sh P) (hrb : P 58 3 = some 2) {n : Nat} (hln : I 58 4 = nI n) (hn7 : n ≤ 700) {b : Nat → Nat} (hb : ∀ k, k < n → I 2 k = sgB (b k)) (hb2 : ∀ k, k < n → b k < 256) {i : Nat} (hi : i ≤ 701) : pCn m_Re_signAt 0 [.ref 58, .int (nI i)] sh (I, L, P) (rI (sgA b n i) (I, L, P)) := by
  refine pCn_of (by decide +kernel) (Nat.le_of_ble_eq_true rfl) ?_
  refine pw_iload_n (k4 := 1) rfl (by decide +kernel) ?_
  refine pn_if_lt (off := 29) (tgt := 30) i rfl (by omega) (by decide +kernel) (by decide +kernel) (fun z1 => ?_) (fun z1 => ?_)
  · exact absurd z1 (Nat.not_lt_zero _)
  · refine pw_iload_n (k4 := 1) rfl (by decide +kernel) ?_
    refine pw_aload_n (k4 := 0) rfl (by decide +kernel) ?_
    refine pq_getI (c := 3) (k := 4) (ks_re hA) (by decide) (by decide) lf_Re_40 (by decide +kernel) ?_
    refine pn_val (nI (n)) (by exact hln) ?_
    refine pn_icmp_ge (off := 21) (tgt := 30) i n rfl rfl (by omega) (by omega) (by decide +kernel) (by decide +kernel) (fun z9 => ?_) (fun z9 => ?_)
    · refine pw_iconst (n := 0) (v := 0) (by decide) (by decide +kernel) ?_
      exact pq_iret rfl (by decide +kernel) ⟨congrArg (fun z => some (Value.int z)) (if_neg (by omega)).symm, rfl⟩
    · refine pw_iload_n (k4 := 1) rfl (by decide +kernel) ?_
      refine pw_aload_n (k4 := 0) rfl (by decide +kernel) ?_
      refine pq_getP (c := 3) (k := 3) (ks_re hA) (by decide) (by decide) hrb lf_Re_9 (by decide +kernel) ?_
      refine pq_alen (by decide) (ks_x_tape hA) (by decide +kernel) ?_
      refine pn_icmp_ge (off := 12) (tgt := 30) i 700 rfl rfl (by omega) (by omega) (by decide +kernel) (by decide +kernel) (fun z18 => ?_) (fun z18 => ?_)
      · exact absurd z18 (by omega)
      · refine pw_aload_n (k4 := 0) rfl (by decide +kernel) ?_
        refine pq_getP (c := 3) (k := 3) (ks_re hA) (by decide) (by decide) hrb lf_Re_9 (by decide +kernel) ?_
        refine pw_iload_n (k4 := 1) rfl (by decide +kernel) ?_
        refine pq_bald i rfl (by omega) (by decide) (ks_x_tape hA) (by decide +kernel) ?_
        refine pw_goto (off := 4) (tgt := 31) (by decide +kernel) (by decide +kernel) ?_
        exact pq_iret rfl (by decide +kernel) ⟨congrArg (fun z => some (Value.int z)) ((hb i (by omega)).trans (if_pos (by omega)).symm), rfl⟩

set_option maxHeartbeats 4000000 in
theorem ct_Re_readNumber {sh : List pSh} {I : Nat → Nat → Int32} {L : Nat → Nat → Int64} {P : Nat → Nat → Option Nat} (hA : kA sh P) (hrb : P 58 3 = some 2) {n : Nat} (hln : I 58 4 = nI n) (hn7 : n ≤ 700) {b : Nat → Nat} (hb : ∀ k, k < n → I 2 k = sgB (b k)) (hb2 : ∀ k, k < n → b k < 256) {a : Nat} (han : a ≤ n) (kd pl : Int32) : pCn m_Re_readNumber 1 [.ref 58] sh (reQ I kd 0 pl (nI a), L, P) (rV (reQ I 26 (nI (numC b (tkD b n a - a) a 0)) pl (nI (tkD b n a)), L, P)) := by
  refine pCn_of (by decide +kernel) (Nat.le_of_ble_eq_true rfl) ?_
  have hele := runTo_le (fun k => decide (dgP b n k)) (n - a) a
  have hL : ∀ e, tkD b n a = e → ∀ c k v, k + c = n → runTo (fun k => decide (dgP b n k)) c k = e → v ≤ 1000000 → numC b (e - k) k v = numC b (e - a) a 0 → pWn m_Re_readNumber 1 sh (rV (reQ I 26 (nI (numC b (tkD b n a - a) a 0)) pl (nI (tkD b n a)), L, P)) 6 [some (.ref 58)] [] (reQ I 26 (nI v) pl (nI k), L, P) := by
    intro e he
    refine pDown _ ?_
    intro c ih k v hkc hr hv9 hv
    refine pw_aload_n (k4 := 0) rfl (by decide +kernel) ?_
    refine pq_getI (c := 3) (k := 5) (ks_re hA) (by decide) (by decide) lf_Re_43 (by decide +kernel) ?_
    refine pn_val (nI (k)) rfl ?_
    refine pw_aload_n (k4 := 0) rfl (by decide +kernel) ?_
    refine pq_getI (c := 3) (k := 4) (ks_re hA) (by decide) (by decide) lf_Re_40 (by decide +kernel) ?_
    refine pn_val (nI (n)) (by exact hln) ?_
    refine pn_icmp_ge (off := 87) (tgt := 101) k n rfl rfl (by omega) (by omega) (by decide +kernel) (by decide +kernel) (fun z14 => ?_) (fun z14 => ?_)
    · have hke : k = e := (runTo_n (fun q => absurd (of_decide_eq_true q).1 (by omega)) c).symm.trans hr
      rw [hke, Nat.sub_self] at hv
      have hv2 : numC b (e - a) a 0 = v := hv.symm
      exact pq_vret rfl (by decide +kernel) ⟨rfl, by rw [he, hv2, hke]⟩
    · have hs : sgA b n k = sgB (b k) := if_pos (by omega)
      have hx := sg_dg (b k) (hb2 k (by omega))
      rw [← hs] at hx
      refine pw_aload_n (k4 := 0) rfl (by decide +kernel) ?_
      refine pw_aload_n (k4 := 0) rfl (by decide +kernel) ?_
      refine pq_getI (c := 3) (k := 5) (ks_re hA) (by decide) (by decide) lf_Re_43 (by decide +kernel) ?_
      refine pn_val (nI (k)) rfl ?_
      refine pq_callV (ν := m_Re_signAt) (d' := 0) (av := [_]) (c := 3) (by decide +kernel) lm_Re_49 ok_Re_signAt (show _ = some 1 by decide +kernel) (ks_re hA) rfl (by decide) (by omega) (Nat.le_of_ble_eq_true rfl) (ct_Re_signAt hA (by exact hrb) (by exact hln) hn7 (by exact hb) (by exact hb2) (i := k) (by omega)) ?_
      rintro _ _ ⟨rfl, rfl⟩
      refine pw_bipush (n := 48) (v := 48) (by decide) (by decide +kernel) ?_
      refine pw_icmp_lt (off := 74) (tgt := 101) (by decide +kernel) (by decide +kernel) (fun z27 => ?_) (fun z27 => ?_)
      · have hke : k = e := (runTo_n (fun q => (hx.mpr (of_decide_eq_true q).2).1 z27) c).symm.trans hr
        rw [hke, Nat.sub_self] at hv
        have hv2 : numC b (e - a) a 0 = v := hv.symm
        exact pq_vret rfl (by decide +kernel) ⟨rfl, by rw [he, hv2, hke]⟩
      · refine pw_aload_n (k4 := 0) rfl (by decide +kernel) ?_
        refine pw_aload_n (k4 := 0) rfl (by decide +kernel) ?_
        refine pq_getI (c := 3) (k := 5) (ks_re hA) (by decide) (by decide) lf_Re_43 (by decide +kernel) ?_
        refine pn_val (nI (k)) rfl ?_
        refine pq_callV (ν := m_Re_signAt) (d' := 0) (av := [_]) (c := 3) (by decide +kernel) lm_Re_49 ok_Re_signAt (show _ = some 1 by decide +kernel) (ks_re hA) rfl (by decide) (by omega) (Nat.le_of_ble_eq_true rfl) (ct_Re_signAt hA (by exact hrb) (by exact hln) hn7 (by exact hb) (by exact hb2) (i := k) (by omega)) ?_
        rintro _ _ ⟨rfl, rfl⟩
        refine pw_bipush (n := 57) (v := 57) (by decide) (by decide +kernel) ?_
        refine pw_icmp_gt (off := 61) (tgt := 101) (by decide +kernel) (by decide +kernel) (fun z40 => ?_) (fun z40 => ?_)
        · have hke : k = e := (runTo_n (fun q => (hx.mpr (of_decide_eq_true q).2).2 z40) c).symm.trans hr
          rw [hke, Nat.sub_self] at hv
          have hv2 : numC b (e - a) a 0 = v := hv.symm
          exact pq_vret rfl (by decide +kernel) ⟨rfl, by rw [he, hv2, hke]⟩
        · have hd := hx.mp ⟨z27, z40⟩
          have hsn : sgA b n k = nI (b k) := hs.trans (sg_nI (by omega))
          refine pw_aload_n (k4 := 0) rfl (by decide +kernel) ?_
          refine pw_aload_n (k4 := 0) rfl (by decide +kernel) ?_
          refine pq_getI (c := 3) (k := 1) (ks_re hA) (by decide) (by decide) lf_Re_56 (by decide +kernel) ?_
          refine pn_val (nI (v)) rfl ?_
          refine pw_bipush (n := 10) (v := 10) (by decide) (by decide +kernel) ?_
          refine pn_imul v 10 rfl rfl (by decide +kernel) ?_
          refine pw_aload_n (k4 := 0) rfl (by decide +kernel) ?_
          refine pw_aload_n (k4 := 0) rfl (by decide +kernel) ?_
          refine pq_getI (c := 3) (k := 5) (ks_re hA) (by decide) (by decide) lf_Re_43 (by decide +kernel) ?_
          refine pn_val (nI (k)) rfl ?_
          refine pq_callV (ν := m_Re_signAt) (d' := 0) (av := [_]) (c := 3) (by decide +kernel) lm_Re_49 ok_Re_signAt (show _ = some 1 by decide +kernel) (ks_re hA) rfl (by decide) (by omega) (Nat.le_of_ble_eq_true rfl) (ct_Re_signAt hA (by exact hrb) (by exact hln) hn7 (by exact hb) (by exact hb2) (i := k) (by omega)) ?_
          rintro _ _ ⟨rfl, rfl⟩
          refine pn_val (nI (b k)) hsn ?_
          refine pn_iadd (v * 10) (b k) rfl rfl (by decide +kernel) ?_
          refine pw_bipush (n := 48) (v := 48) (by decide) (by decide +kernel) ?_
          refine pn_isub ((v * 10) + (b k)) 48 rfl rfl (by omega) (by decide +kernel) ?_
          refine pq_putI (c := 3) (k := 1) (ks_re hA) (by decide) (by decide) lf_Re_56 (Or.inl rfl) (by decide +kernel) ?_
          rw [reQ_1]
          refine pw_aload_n (k4 := 0) rfl (by decide +kernel) ?_
          refine pw_aload_n (k4 := 0) rfl (by decide +kernel) ?_
          refine pq_getI (c := 3) (k := 1) (ks_re hA) (by decide) (by decide) lf_Re_56 (by decide +kernel) ?_
          refine pn_val (nI (v * 10 + b k - 48)) rfl ?_
          refine pw_ldc lc_Re_71 (by decide +kernel) ?_
          refine pn_val (nI (1000000)) rfl ?_
          refine pn_icmp_le (off := 8) (tgt := 81) (v * 10 + b k - 48) 1000000 rfl rfl (by omega) (by omega) (by decide +kernel) (by decide +kernel) (fun z73 => ?_) (fun z73 => ?_)
          · refine pw_aload_n (k4 := 0) rfl (by decide +kernel) ?_
            refine pq_getI (c := 3) (k := 1) (ks_re hA) (by decide) (by decide) lf_Re_56 (by decide +kernel) ?_
            refine pn_val (nI (v * 10 + b k - 48)) rfl ?_
            refine pq_putI (c := 3) (k := 1) (ks_re hA) (by decide) (by decide) lf_Re_56 (Or.inl rfl) (by decide +kernel) ?_
            rw [reQ_1]
            refine pw_aload_n (k4 := 0) rfl (by decide +kernel) ?_
            refine pw_dup rfl (by decide +kernel) ?_
            refine pq_getI (c := 3) (k := 5) (ks_re hA) (by decide) (by decide) lf_Re_43 (by decide +kernel) ?_
            refine pn_val (nI (k)) rfl ?_
            refine pw_iconst (n := 1) (v := 1) (by decide) (by decide +kernel) ?_
            refine pn_iadd k 1 rfl rfl (by decide +kernel) ?_
            refine pq_putI (c := 3) (k := 5) (ks_re hA) (by decide) (by decide) lf_Re_43 (Or.inl rfl) (by decide +kernel) ?_
            rw [reQ_5]
            refine pw_goto (off := -92) (tgt := 6) (by decide +kernel) (by decide +kernel) ?_
            obtain ⟨c, rfl⟩ : ∃ j, c = j + 1 := ⟨c - 1, by omega⟩
            have hr2 : runTo (fun k => decide (dgP b n k)) c (k + 1) = e := (if_pos (decide_eq_true ⟨by omega, hd⟩)).symm.trans hr
            have hle := runTo_le (fun k => decide (dgP b n k)) c (k + 1)
            refine ih c rfl (k + 1) (v * 10 + b k - 48) (by omega) hr2 (by omega) ?_
            rw [← hv, show e - k = (e - (k + 1)) + 1 by omega]
            show _ = numC b (e - (k + 1)) (k + 1) (if v * 10 + b k - 48 ≤ 1000000 then v * 10 + b k - 48 else 1000000)
            rw [if_pos (by omega)]
          · refine pw_ldc lc_Re_71 (by decide +kernel) ?_
            refine pn_val (nI (1000000)) rfl ?_
            refine pw_goto (off := 7) (tgt := 85) (by decide +kernel) (by decide +kernel) ?_
            refine pq_putI (c := 3) (k := 1) (ks_re hA) (by decide) (by decide) lf_Re_56 (Or.inl rfl) (by decide +kernel) ?_
            rw [reQ_1]
            refine pw_aload_n (k4 := 0) rfl (by decide +kernel) ?_
            refine pw_dup rfl (by decide +kernel) ?_
            refine pq_getI (c := 3) (k := 5) (ks_re hA) (by decide) (by decide) lf_Re_43 (by decide +kernel) ?_
            refine pn_val (nI (k)) rfl ?_
            refine pw_iconst (n := 1) (v := 1) (by decide) (by decide +kernel) ?_
            refine pn_iadd k 1 rfl rfl (by decide +kernel) ?_
            refine pq_putI (c := 3) (k := 5) (ks_re hA) (by decide) (by decide) lf_Re_43 (Or.inl rfl) (by decide +kernel) ?_
            rw [reQ_5]
            refine pw_goto (off := -92) (tgt := 6) (by decide +kernel) (by decide +kernel) ?_
            obtain ⟨c, rfl⟩ : ∃ j, c = j + 1 := ⟨c - 1, by omega⟩
            have hr2 : runTo (fun k => decide (dgP b n k)) c (k + 1) = e := (if_pos (decide_eq_true ⟨by omega, hd⟩)).symm.trans hr
            have hle := runTo_le (fun k => decide (dgP b n k)) c (k + 1)
            refine ih c rfl (k + 1) 1000000 (by omega) hr2 (by omega) ?_
            rw [← hv, show e - k = (e - (k + 1)) + 1 by omega]
            show _ = numC b (e - (k + 1)) (k + 1) (if v * 10 + b k - 48 ≤ 1000000 then v * 10 + b k - 48 else 1000000)
            rw [if_neg (by omega)]
  refine pw_aload_n (k4 := 0) rfl (by decide +kernel) ?_
  refine pw_bipush (n := 26) (v := 26) (by decide) (by decide +kernel) ?_
  refine pq_putI (c := 3) (k := 0) (ks_re hA) (by decide) (by decide) lf_Re_59 (Or.inl rfl) (by decide +kernel) ?_
  rw [reQ_0]
  exact hL _ rfl (n - a) a 0 (by omega) rfl (by omega) rfl

