/-! ===== the class: the reader ===== -/
/-- the sign at a place, as the class sees it -/
def sgA (b : Nat → Nat) (n i : Nat) : Int32 := if i < n then sgB (b i) else 0
def reQ (I : Nat → Nat → Int32) (kd v pl at_ : Int32) : Nat → Nat → Int32 := sI (sI (sI (sI I 58 0 kd) 58 1 v) 58 2 pl) 58 5 at_
theorem reQ_5 {I : Nat → Nat → Int32} {a b c d x : Int32} : sI (reQ I a b c d) 58 5 x = reQ I a b c x := sI_sI _ _ _ _ _
theorem reQ_2 {I : Nat → Nat → Int32} {a b c d x : Int32} : sI (reQ I a b c d) 58 2 x = reQ I a b x d := by
  unfold reQ
  rw [sI_cc (i := 5) (j := 2) (by decide), sI_sI]
theorem reQ_1 {I : Nat → Nat → Int32} {a b c d x : Int32} : sI (reQ I a b c d) 58 1 x = reQ I a x c d := by
  unfold reQ
  rw [sI_cc (i := 5) (j := 1) (by decide), sI_cc (i := 2) (j := 1) (by decide), sI_sI]
theorem reQ_0 {I : Nat → Nat → Int32} {a b c d x : Int32} : sI (reQ I a b c d) 58 0 x = reQ I x b c d := by
  unfold reQ
  rw [sI_cc (i := 5) (j := 0) (by decide), sI_cc (i := 2) (j := 0) (by decide), sI_cc (i := 1) (j := 0) (by decide), sI_sI]
theorem reQ_s (I : Nat → Nat → Int32) : reQ I (I 58 0) (I 58 1) (I 58 2) (I 58 5) = I := by
  unfold reQ
  rw [sI_same, sI_same, sI_same, sI_same]
theorem sg_dg : ∀ x, x < 256 → ((¬ sgB x < 48 ∧ ¬ 57 < sgB x) ↔ (48 ≤ x ∧ x ≤ 57)) := by decide +kernel
theorem sg_sm : ∀ x, x < 256 → ((¬ sgB x < 97 ∧ ¬ 122 < sgB x) ↔ (97 ≤ x ∧ x ≤ 122)) := by decide +kernel
theorem sg_ng : ∀ x, x < 256 → 128 ≤ x → sgB x < 0 := by decide +kernel
theorem sg_eq {c x : Nat} (hc : c < 128) (hx : x < 256) : sgB x = nI c ↔ x = c := by
  by_cases z : x < 128
  · rw [show sgB x = nI x from if_pos z]
    exact nI_eq (by omega) (by omega)
  · have h := sg_ng x hx (by omega)
    exact ⟨fun q => absurd h (by rw [q]; exact nI_pos (by omega)), fun q => absurd q (by omega)⟩
theorem sg_nI {x : Nat} (h : x < 128) : sgB x = nI x := if_pos h
def numC (b : Nat → Nat) : Nat → Nat → Nat → Nat
  | 0, _, v => v
  | c + 1, k, v => numC b c (k + 1) (if v * 10 + b k - 48 ≤ 1000000 then v * 10 + b k - 48 else 1000000)
set_option maxHeartbeats 4000000 in
theorem ct_Re_readNumber {sh : List pSh} {I : Nat → Nat → Int32} {L : Nat → Nat → Int64} {P : Nat → Nat → Option Nat} (hA : kA sh P) (hrb : P 58 3 = some 2) {n : Nat} (hln : I 58 4 = nI n) (hn7 : n ≤ 700) {b : Nat → Nat} (hb : ∀ k, k < n → I 2 k = sgB (b k)) (hb2 : ∀ k, k < n → b k < 256) {a : Nat} (han : a ≤ n) (kd pl : Int32) : pCn m_Re_readNumber 1 [.ref 58] sh (reQ I kd 0 pl (nI a), L, P) (rV (reQ I 26 (nI (numC b (tkD b n a - a) a 0)) pl (nI (tkD b n a)), L, P)) := by
  refine pCn_of (by decide +kernel) (Nat.le_of_ble_eq_true rfl) ?_
  have hele := runTo_le (fun k => decide (dgP b n k)) (n - a) a
  have hL : ∀ e, tkD b n a = e → ∀ c k v, k + c = n → runTo (fun k => decide (dgP b n k)) c k = e → v ≤ 1000000 → numC b (e - k) k v = numC b (e - a) a 0 → pWn m_Re_readNumber 1 sh (rV (reQ I 26 (nI (numC b (tkD b n a - a) a 0)) pl (nI (tkD b n a)), L, P)) 6 [some (.ref 58)] [] (reQ I 26 (nI v) pl (nI k), L, P) := by
    intro e he
    refine pDown _ ?_
    intro c ih k v hkc hr hv9 hv
    refine pw_aload_n (k4 := 0) rfl (by decide +kernel) ?_
    refine pq_getI (c := 3) (k := 5) (ks_re hA) (by decide) (by decide) lf_Re_43 (by decide +kernel) ?_
    refine pn_val (nI (k)) rfl ?_
    refine pw_aload_n (k4 := 0) rfl (by decide +kernel) ?_
    refine pq_getI (c := 3) (k := 4) (ks_re hA) (by decide) (by decide) lf_Re_40 (by decide +kernel) ?_
    refine pn_val (nI (n)) (by exact hln) ?_
    refine pn_icmp_ge (off := 90) (tgt := 104) k n rfl rfl (by omega) (by omega) (by decide +kernel) (by decide +kernel) (fun z14 => ?_) (fun z14 => ?_)
    · have hke : k = e := (runTo_n (fun q => absurd (of_decide_eq_true q).1 (by omega)) c).symm.trans hr
      rw [hke, Nat.sub_self] at hv
      have hv2 : numC b (e - a) a 0 = v := hv.symm
      exact pq_vret rfl (by decide +kernel) ⟨rfl, by rw [he, hv2, hke]⟩
    · have hs : sgA b n k = sgB (b k) := if_pos (by omega)
      have hx := sg_dg (b k) (hb2 k (by omega))
      rw [← hs] at hx
      refine pw_aload_n (k4 := 0) rfl (by decide +kernel) ?_
      refine pq_getP (c := 3) (k := 3) (ks_re hA) (by decide) (by decide) hrb lf_Re_9 (by decide +kernel) ?_
      refine pw_aload_n (k4 := 0) rfl (by decide +kernel) ?_
      refine pq_getI (c := 3) (k := 5) (ks_re hA) (by decide) (by decide) lf_Re_43 (by decide +kernel) ?_
      refine pn_val (nI (k)) rfl ?_
      refine pq_bald k rfl (by omega) (by decide) (ks_x_tape hA) (by decide +kernel) ?_
      refine pn_val (sgA b n k) (by exact (hb k (by omega)).trans hs.symm) ?_
      refine pw_bipush (n := 48) (v := 48) (by decide) (by decide +kernel) ?_
      refine pw_icmp_lt (off := 76) (tgt := 104) (by decide +kernel) (by decide +kernel) (fun z28 => ?_) (fun z28 => ?_)
      · have hke : k = e := (runTo_n (fun q => (hx.mpr (of_decide_eq_true q).2).1 z28) c).symm.trans hr
        rw [hke, Nat.sub_self] at hv
        have hv2 : numC b (e - a) a 0 = v := hv.symm
        exact pq_vret rfl (by decide +kernel) ⟨rfl, by rw [he, hv2, hke]⟩
      · refine pw_aload_n (k4 := 0) rfl (by decide +kernel) ?_
        refine pq_getP (c := 3) (k := 3) (ks_re hA) (by decide) (by decide) hrb lf_Re_9 (by decide +kernel) ?_
        refine pw_aload_n (k4 := 0) rfl (by decide +kernel) ?_
        refine pq_getI (c := 3) (k := 5) (ks_re hA) (by decide) (by decide) lf_Re_43 (by decide +kernel) ?_
        refine pn_val (nI (k)) rfl ?_
        refine pq_bald k rfl (by omega) (by decide) (ks_x_tape hA) (by decide +kernel) ?_
        refine pn_val (sgA b n k) (by exact (hb k (by omega)).trans hs.symm) ?_
        refine pw_bipush (n := 57) (v := 57) (by decide) (by decide +kernel) ?_
        refine pw_icmp_gt (off := 62) (tgt := 104) (by decide +kernel) (by decide +kernel) (fun z42 => ?_) (fun z42 => ?_)
        · have hke : k = e := (runTo_n (fun q => (hx.mpr (of_decide_eq_true q).2).2 z42) c).symm.trans hr
          rw [hke, Nat.sub_self] at hv
          have hv2 : numC b (e - a) a 0 = v := hv.symm
          exact pq_vret rfl (by decide +kernel) ⟨rfl, by rw [he, hv2, hke]⟩
        · have hd := hx.mp ⟨z28, z42⟩
          have hsn : sgA b n k = nI (b k) := hs.trans (sg_nI (by omega))
          refine pw_aload_n (k4 := 0) rfl (by decide +kernel) ?_
          refine pw_aload_n (k4 := 0) rfl (by decide +kernel) ?_
          refine pq_getI (c := 3) (k := 1) (ks_re hA) (by decide) (by decide) lf_Re_52 (by decide +kernel) ?_
          refine pn_val (nI (v)) rfl ?_
          refine pw_bipush (n := 10) (v := 10) (by decide) (by decide +kernel) ?_
          refine pn_imul v 10 rfl rfl (by decide +kernel) ?_
          refine pw_aload_n (k4 := 0) rfl (by decide +kernel) ?_
          refine pq_getP (c := 3) (k := 3) (ks_re hA) (by decide) (by decide) hrb lf_Re_9 (by decide +kernel) ?_
          refine pw_aload_n (k4 := 0) rfl (by decide +kernel) ?_
          refine pq_getI (c := 3) (k := 5) (ks_re hA) (by decide) (by decide) lf_Re_43 (by decide +kernel) ?_
          refine pn_val (nI (k)) rfl ?_
          refine pq_bald k rfl (by omega) (by decide) (ks_x_tape hA) (by decide +kernel) ?_
          refine pn_val (sgA b n k) (by exact (hb k (by omega)).trans hs.symm) ?_
          refine pn_val (nI (b k)) hsn ?_
          refine pn_iadd (v * 10) (b k) rfl rfl (by decide +kernel) ?_
          refine pw_bipush (n := 48) (v := 48) (by decide) (by decide +kernel) ?_
          refine pn_isub ((v * 10) + (b k)) 48 rfl rfl (by omega) (by decide +kernel) ?_
          refine pq_putI (c := 3) (k := 1) (ks_re hA) (by decide) (by decide) lf_Re_52 (Or.inl rfl) (by decide +kernel) ?_
          rw [reQ_1]
          refine pw_aload_n (k4 := 0) rfl (by decide +kernel) ?_
          refine pw_aload_n (k4 := 0) rfl (by decide +kernel) ?_
          refine pq_getI (c := 3) (k := 1) (ks_re hA) (by decide) (by decide) lf_Re_52 (by decide +kernel) ?_
          refine pn_val (nI (v * 10 + b k - 48)) rfl ?_
          refine pw_ldc lc_Re_68 (by decide +kernel) ?_
          refine pn_val (nI (1000000)) rfl ?_
          refine pn_icmp_le (off := 8) (tgt := 84) (v * 10 + b k - 48) 1000000 rfl rfl (by omega) (by omega) (by decide +kernel) (by decide +kernel) (fun z76 => ?_) (fun z76 => ?_)
          · refine pw_aload_n (k4 := 0) rfl (by decide +kernel) ?_
            refine pq_getI (c := 3) (k := 1) (ks_re hA) (by decide) (by decide) lf_Re_52 (by decide +kernel) ?_
            refine pn_val (nI (v * 10 + b k - 48)) rfl ?_
            refine pq_putI (c := 3) (k := 1) (ks_re hA) (by decide) (by decide) lf_Re_52 (Or.inl rfl) (by decide +kernel) ?_
            rw [reQ_1]
            refine pw_aload_n (k4 := 0) rfl (by decide +kernel) ?_
            refine pw_dup rfl (by decide +kernel) ?_
            refine pq_getI (c := 3) (k := 5) (ks_re hA) (by decide) (by decide) lf_Re_43 (by decide +kernel) ?_
            refine pn_val (nI (k)) rfl ?_
            refine pw_iconst (n := 1) (v := 1) (by decide) (by decide +kernel) ?_
            refine pn_iadd k 1 rfl rfl (by decide +kernel) ?_
            refine pq_putI (c := 3) (k := 5) (ks_re hA) (by decide) (by decide) lf_Re_43 (Or.inl rfl) (by decide +kernel) ?_
            rw [reQ_5]
            refine pw_goto (off := -95) (tgt := 6) (by decide +kernel) (by decide +kernel) ?_
            obtain ⟨c, rfl⟩ : ∃ j, c = j + 1 := ⟨c - 1, by omega⟩
            have hr2 : runTo (fun k => decide (dgP b n k)) c (k + 1) = e := (if_pos (decide_eq_true ⟨by omega, hd⟩)).symm.trans hr
            have hle := runTo_le (fun k => decide (dgP b n k)) c (k + 1)
            refine ih c rfl (k + 1) (v * 10 + b k - 48) (by omega) hr2 (by omega) ?_
            rw [← hv, show e - k = (e - (k + 1)) + 1 by omega]
            show _ = numC b (e - (k + 1)) (k + 1) (if v * 10 + b k - 48 ≤ 1000000 then v * 10 + b k - 48 else 1000000)
            rw [if_pos (by omega)]
          · refine pw_ldc lc_Re_68 (by decide +kernel) ?_
            refine pn_val (nI (1000000)) rfl ?_
            refine pw_goto (off := 7) (tgt := 88) (by decide +kernel) (by decide +kernel) ?_
            refine pq_putI (c := 3) (k := 1) (ks_re hA) (by decide) (by decide) lf_Re_52 (Or.inl rfl) (by decide +kernel) ?_
            rw [reQ_1]
            refine pw_aload_n (k4 := 0) rfl (by decide +kernel) ?_
            refine pw_dup rfl (by decide +kernel) ?_
            refine pq_getI (c := 3) (k := 5) (ks_re hA) (by decide) (by decide) lf_Re_43 (by decide +kernel) ?_
            refine pn_val (nI (k)) rfl ?_
            refine pw_iconst (n := 1) (v := 1) (by decide) (by decide +kernel) ?_
            refine pn_iadd k 1 rfl rfl (by decide +kernel) ?_
            refine pq_putI (c := 3) (k := 5) (ks_re hA) (by decide) (by decide) lf_Re_43 (Or.inl rfl) (by decide +kernel) ?_
            rw [reQ_5]
            refine pw_goto (off := -95) (tgt := 6) (by decide +kernel) (by decide +kernel) ?_
            obtain ⟨c, rfl⟩ : ∃ j, c = j + 1 := ⟨c - 1, by omega⟩
            have hr2 : runTo (fun k => decide (dgP b n k)) c (k + 1) = e := (if_pos (decide_eq_true ⟨by omega, hd⟩)).symm.trans hr
            have hle := runTo_le (fun k => decide (dgP b n k)) c (k + 1)
            refine ih c rfl (k + 1) 1000000 (by omega) hr2 (by omega) ?_
            rw [← hv, show e - k = (e - (k + 1)) + 1 by omega]
            show _ = numC b (e - (k + 1)) (k + 1) (if v * 10 + b k - 48 ≤ 1000000 then v * 10 + b k - 48 else 1000000)
            rw [if_neg (by omega)]
  refine pw_aload_n (k4 := 0) rfl (by decide +kernel) ?_
  refine pw_bipush (n := 26) (v := 26) (by decide) (by decide +kernel) ?_
  refine pq_putI (c := 3) (k := 0) (ks_re hA) (by decide) (by decide) lf_Re_55 (Or.inl rfl) (by decide +kernel) ?_
  rw [reQ_0]
  exact hL _ rfl (n - a) a 0 (by omega) rfl (by omega) rfl

