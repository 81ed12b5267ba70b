/-! ===== the class: the reader, words ===== -/
def wmN (k : Nat) : Nat := if k = 14 then 15 else if k = 15 then 14 else if k = 16 then 17 else if k = 17 then 16 else k
theorem shl5 (p : Nat) : nI p <<< ((5 : Int32) &&& 31) = nI (p * 32) := by
  apply Int32.toBitVec_inj.mp
  show (BitVec.ofNat 32 p) <<< (((5 : Int32) &&& 31).toBitVec.smod 32) = BitVec.ofNat 32 (p * 32)
  rw [show ((5 : Int32) &&& 31).toBitVec.smod 32 = BitVec.ofNat 32 5 from by decide +kernel, BitVec.shiftLeft_eq']
  apply BitVec.eq_of_toNat_eq
  rw [BitVec.toNat_shiftLeft, BitVec.toNat_ofNat, BitVec.toNat_ofNat, BitVec.toNat_ofNat, Nat.shiftLeft_eq]
  show p % 2 ^ 32 * 2 ^ 5 % 2 ^ 32 = p * 32 % 2 ^ 32
  omega
theorem shlN : ∀ l, l ≤ 6 → ∀ p : Nat, nI p <<< (nI (5 * (6 - l)) &&& 31) = nI (p * 32 ^ (6 - l)) := by
  intro l hl p
  apply Int32.toBitVec_inj.mp
  show (BitVec.ofNat 32 p) <<< ((nI (5 * (6 - l)) &&& 31).toBitVec.smod 32) = BitVec.ofNat 32 (p * 32 ^ (6 - l))
  have e : ∀ l, l ≤ 6 → (nI (5 * (6 - l)) &&& 31).toBitVec.smod 32 = BitVec.ofNat 32 (5 * (6 - l)) := by decide +kernel
  rw [e l hl, BitVec.shiftLeft_eq']
  apply BitVec.eq_of_toNat_eq
  rw [BitVec.toNat_shiftLeft, BitVec.toNat_ofNat, BitVec.toNat_ofNat, BitVec.toNat_ofNat, Nat.shiftLeft_eq, Nat.mod_eq_of_lt (show 5 * (6 - l) < 2 ^ 32 by omega), show 2 ^ (5 * (6 - l)) = 32 ^ (6 - l) by rw [Nat.pow_mul]]
  rw [Nat.mod_mul_mod]
def pkL (b : Nat → Nat) (a : Nat) : Nat → Nat := pkS (fun i => b (a + i) - 96)
theorem pkL_s {b : Nat → Nat} {a l : Nat} (h1 : 97 ≤ b (a + l)) (h2 : b (a + l) ≤ 122) : (nI (pkL b a l) <<< ((5 : Int32) &&& 31)) ||| nI (b (a + l) - 97 + 1) = nI (pkL b a (l + 1)) := by
  rw [shl5, nI_or]
  congr 1
  show pkL b a l * 32 ||| (b (a + l) - 97 + 1) = pkL b a l * 32 + (b (a + l) - 96)
  have lt : b (a + l) - 97 + 1 < 2 ^ 5 := by omega
  have e := Nat.two_pow_add_eq_or_of_lt lt (pkL b a l)
  rw [Nat.mul_comm, show (32 : Nat) = 2 ^ 5 from rfl, ← e]
  omega
theorem pkS_pad {d : Nat → Nat} {l : Nat} (h : ∀ i, l ≤ i → d i = 0) : ∀ j, pkS d (l + j) = pkS d l * 32 ^ j
  | 0 => by rw [Nat.pow_zero, Nat.mul_one]; rfl
  | j + 1 => by
    show pkS d (l + j) * 32 + d (l + j) = _
    rw [pkS_pad h j, h (l + j) (by omega), Nat.pow_succ]
    rw [Nat.add_zero, Nat.mul_assoc]
theorem pkS_cg2 {d e : Nat → Nat} : ∀ j, (∀ i, i < j → d i = e i) → pkS d j = pkS e j
  | 0, _ => rfl
  | j + 1, h => by
    show pkS d j * 32 + d j = pkS e j * 32 + e j
    rw [pkS_cg2 j (fun i hi => h i (by omega)), h j (by omega)]
theorem pkF_L {b : Nat → Nat} {a l : Nat} (hl : l ≤ 6) : pkF b a (a + l) = pkL b a l * 32 ^ (6 - l) := by
  have z : ∀ i, l ≤ i → pkD b a (a + l) i = 0 := fun i hi => by unfold pkD; rw [if_neg (by omega)]
  have p := pkS_pad z (6 - l)
  rw [show l + (6 - l) = 6 by omega] at p
  unfold pkF pkL
  rw [p, pkS_cg2 l (e := fun i => b (a + i) - 96) (fun i hi => by unfold pkD; rw [if_pos (by omega)])]
def kwU (v : Nat) : Nat → Nat
  | 0 => 25
  | w + 1 => if rfW (wmN w) = v then w else kwU v w
theorem rfW_inj : ∀ i, i < 25 → ∀ j, j < 25 → rfW i = rfW j → i = j := by decide +kernel
theorem wmN_in : ∀ i, i < 25 → wmN i < 25 ∧ wmN (wmN i) = i := by decide +kernel
theorem rfW_lt : ∀ i, i < 25 → rfW i < 2 ^ 30 := by decide +kernel
theorem reW_rf : ∀ w, w < 25 → reW.getD w 0 = nI (rfW (wmN w)) := by decide +kernel
theorem kwU_no {v : Nat} : ∀ w, (∀ i, i < w → ¬ rfW (wmN i) = v) → kwU v w = 25
  | 0, _ => rfl
  | w + 1, h => by
    unfold kwU
    rw [if_neg (h w (by omega))]
    exact kwU_no w (fun i hi => h i (by omega))
theorem kwU_is {v k : Nat} (hk : k < 25) (hv : rfW k = v) : ∀ w, w ≤ 25 → wmN k < w → kwU v w = wmN k
  | 0, _, h => absurd h (Nat.not_lt_zero _)
  | w + 1, hw, h => by
    obtain ⟨m1, m2⟩ := wmN_in k hk
    unfold kwU
    by_cases e : w = wmN k
    · rw [if_pos (by rw [e, m2]; exact hv)]
      exact e
    · rw [if_neg (fun q => e (by
        have := rfW_inj _ (wmN_in w (by omega)).1 k hk (q.trans hv.symm)
        rw [← this, (wmN_in w (by omega)).2]))]
      exact kwU_is hk hv w (by omega) (by omega)
/-- the word at a place, as the class sees it -/
theorem kwU_r (v : Nat) : kwU v 25 = if wIx v < 25 then wmN (wIx v) else 25 := by
  by_cases z : wIx v < 25
  · rw [if_pos z]
    exact kwU_is z (wIx_is z) 25 (Nat.le_refl _) (wmN_in _ z).1
  · rw [if_neg z]
    refine kwU_no 25 fun i hi q => z ?_
    have m := (wmN_in i hi).1
    rcases Nat.lt_or_ge (wIx v) 25 with w | w
    · exact w
    · have no := fa_first_no (fun k => decide (rfW k = v)) 25 (wmN i) (by have : wIx v = fa_first (fun k => decide (rfW k = v)) 25 := rfl; omega)
      rw [decide_eq_true q] at no
      cases no
def kWd (b : Nat → Nat) (a e : Nat) : Nat := if e - a ≤ 6 then kwU (pkF b a e) 25 else 41
def vWd (b : Nat → Nat) (a e : Nat) : Nat := if e - a ≤ 6 then pkF b a e else 0
theorem pkL_lt {b : Nat → Nat} {a : Nat} : ∀ l, (∀ i, i < l → b (a + i) ≤ 122) → pkL b a l < 32 ^ l
  | 0, _ => by show 0 < 1; decide
  | l + 1, h => by
    have ih := pkL_lt l (fun i hi => h i (by omega))
    have := h l (by omega)
    show pkL b a l * 32 + (b (a + l) - 96) < 32 ^ (l + 1)
    rw [Nat.pow_succ]
    omega
theorem pkF_lt {b : Nat → Nat} {a l : Nat} (hl : l ≤ 6) (h : ∀ i, i < l → b (a + i) ≤ 122) : pkF b a (a + l) < 2 ^ 30 := by
  rw [pkF_L hl]
  have := Nat.mul_lt_mul_of_pos_right (pkL_lt (b := b) (a := a) l h) (show 0 < 32 ^ (6 - l) from Nat.pow_pos (by decide))
  rw [← Nat.pow_add, show l + (6 - l) = 6 by omega] at this
  exact this
set_option maxHeartbeats 8000000 in
theorem ct_Re_readWord {sh : List pSh} {I : Nat → Nat → Int32} {L : Nat → Nat → Int64} {P : Nat → Nat → Option Nat} (hA : kA sh P) (hrb : P 58 3 = some 2) {n : Nat} (hln : I 58 4 = nI n) (hn7 : n ≤ 700) {b : Nat → Nat} (hb : ∀ k, k < n → I 2 k = sgB (b k)) (hb2 : ∀ k, k < n → b k < 256) (hw60 : ∀ w, w < 25 → I 60 w = nI (rfW (wmN w))) {a : Nat} (han : a ≤ n) (kd pl : Int32) : pCn m_Re_readWord 1 [.ref 58] sh (reQ I kd 0 pl (nI a), L, P) (rV (reQ I (nI (kWd b a (tkW b n a))) (nI (vWd b a (tkW b n a))) pl (nI (tkW b n a)), L, P)) := by
  refine pCn_of (by decide +kernel) (Nat.le_of_ble_eq_true rfl) ?_
  obtain ⟨e, he⟩ : ∃ e, tkW b n a = e := ⟨_, rfl⟩
  have hele := runTo_le (fun k => decide (smP b n k)) (n - a) a
  have hae : a ≤ e ∧ e ≤ n := by rw [← he]; exact ⟨hele.1, by show runTo _ _ _ ≤ n; omega⟩
  have hlet : ∀ i, a ≤ i → i < e → 97 ≤ b i ∧ b i ≤ 122 := fun i h1 h2 => (of_decide_eq_true (runTo_in (fun k => decide (smP b n k)) (n - a) a i h1 (by rw [← he] at h2; exact h2))).2
  have h117 : ∀ {l q : Nat}, e - a ≤ 6 → ∀ w, w ≤ 25 → pWn m_Re_readWord 1 sh (rV (reQ I (nI (kWd b a (tkW b n a))) (nI (vWd b a (tkW b n a))) pl (nI (tkW b n a)), L, P)) 117 [some (.ref 58), some (.int (nI l)), some (.int (nI q)), some (.int (nI w))] [] (reQ I (nI (kwU (pkF b a e) w)) (nI (pkF b a e)) pl (nI e), L, P) := by
    intro l q h6
    have hpl : pkF b a e < 2 ^ 30 := by
      have := pkF_lt (b := b) (a := a) (l := e - a) h6 (fun i hi => (hlet (a + i) (by omega) (by omega)).2)
      rwa [show a + (e - a) = e by omega] at this
    refine pUpTo 25 _ ?_
    intro w hw ih
    refine pw_iload_n (k4 := 3) rfl (by decide +kernel) ?_
    refine pw_bipush (n := 25) (v := 25) (by decide) (by decide +kernel) ?_
    refine pn_icmp_ge (off := 27) (tgt := 147) w 25 rfl rfl (by omega) (by omega) (by decide +kernel) (by decide +kernel) (fun z120 => ?_) (fun z120 => ?_)
    · exact pq_vret rfl (by decide +kernel) ⟨rfl, by rw [he, kWd, vWd, if_pos h6, if_pos h6, show w = 25 by omega]⟩
    · refine pw_aload_n (k4 := 0) rfl (by decide +kernel) ?_
      refine pq_getP (c := 3) (k := 6) (ks_re hA) (by decide) (by decide) (kp_re_words hA) lf_Re_15 (by decide +kernel) ?_
      refine pw_iload_n (k4 := 3) rfl (by decide +kernel) ?_
      refine pq_iald w rfl (by omega) (by decide) (ks_re_words hA) (by decide +kernel) ?_
      refine pw_aload_n (k4 := 0) rfl (by decide +kernel) ?_
      refine pq_getI (c := 3) (k := 1) (ks_re hA) (by decide) (by decide) lf_Re_52 (by decide +kernel) ?_
      refine pn_val (nI (pkF b a e)) rfl ?_
      refine pw_icmp_ne (off := 8) (tgt := 141) (by decide +kernel) (by decide +kernel) (fun z133 => ?_) (fun z133 => ?_)
      · have hne : ¬ rfW (wmN w) = pkF b a e := fun z => z133 (show I 60 w = nI (pkF b a e) by rw [hw60 w (by omega), z])
        refine pn_iinc (i := 3) (n := 1) 1 w rfl rfl (by decide) rfl (by decide +kernel) ?_
        refine pw_goto (off := -27) (tgt := 117) (by decide +kernel) (by decide +kernel) ?_
        have ek : kwU (pkF b a e) (w + 1) = kwU (pkF b a e) w := if_neg hne
        rw [← ek]
        exact ih (by omega)
      · have heq : rfW (wmN w) = pkF b a e := by
          have z : I 60 w = nI (pkF b a e) := z133
          rw [hw60 w (by omega)] at z
          exact (nI_eq (by have := rfW_lt _ (wmN_in w (by omega)).1; omega) (by omega)).mp z
        refine pw_aload_n (k4 := 0) rfl (by decide +kernel) ?_
        refine pw_iload_n (k4 := 3) rfl (by decide +kernel) ?_
        refine pq_putI (c := 3) (k := 0) (ks_re hA) (by decide) (by decide) lf_Re_55 (Or.inl rfl) (by decide +kernel) ?_
        rw [reQ_0]
        refine pn_iinc (i := 3) (n := 1) 1 w rfl rfl (by decide) rfl (by decide +kernel) ?_
        refine pw_goto (off := -27) (tgt := 117) (by decide +kernel) (by decide +kernel) ?_
        have ek : kwU (pkF b a e) (w + 1) = w := if_pos heq
        have g := ih (by omega)
        rw [ek] at g
        exact g
  have h84 : ∀ {k : Nat} (l q : Nat), a + l = k → k = e → q = pkL b a (min l 6) → pWn m_Re_readWord 1 sh (rV (reQ I (nI (kWd b a (tkW b n a))) (nI (vWd b a (tkW b n a))) pl (nI (tkW b n a)), L, P)) 84 [some (.ref 58), some (.int (nI l)), some (.int (nI q)), none] [] (reQ I kd 0 pl (nI k), L, P) := by
    intro k l q hkl hke hq
    refine pw_iload_n (k4 := 1) rfl (by decide +kernel) ?_
    refine pw_bipush (n := 6) (v := 6) (by decide) (by decide +kernel) ?_
    refine pn_icmp_le (off := 10) (tgt := 97) l 6 rfl rfl (by omega) (by omega) (by decide +kernel) (by decide +kernel) (fun z87 => ?_) (fun z87 => ?_)
    · have hval : nI q <<< (nI (5 * (6 - l)) &&& 31) = nI (pkF b a e) := by rw [hq, show min l 6 = l by omega, shlN l (by omega), ← pkF_L (by omega), hkl, hke]
      refine pw_aload_n (k4 := 0) rfl (by decide +kernel) ?_
      refine pw_iload_n (k4 := 2) rfl (by decide +kernel) ?_
      refine pw_iconst (n := 5) (v := 5) (by decide) (by decide +kernel) ?_
      refine pw_bipush (n := 6) (v := 6) (by decide) (by decide +kernel) ?_
      refine pw_iload_n (k4 := 1) rfl (by decide +kernel) ?_
      refine pn_isub 6 l rfl rfl (by omega) (by decide +kernel) ?_
      refine pn_imul 5 (6 - l) rfl rfl (by decide +kernel) ?_
      refine pw_ishl (by decide +kernel) ?_
      refine pn_val (nI (pkF b a e)) hval ?_
      refine pq_putI (c := 3) (k := 1) (ks_re hA) (by decide) (by decide) lf_Re_52 (Or.inl rfl) (by decide +kernel) ?_
      rw [reQ_1]
      refine pw_aload_n (k4 := 0) rfl (by decide +kernel) ?_
      refine pw_bipush (n := 25) (v := 25) (by decide) (by decide +kernel) ?_
      refine pq_putI (c := 3) (k := 0) (ks_re hA) (by decide) (by decide) lf_Re_55 (Or.inl rfl) (by decide +kernel) ?_
      rw [reQ_0]
      refine pw_iconst (n := 0) (v := 0) (by decide) (by decide +kernel) ?_
      refine pq_istore_n (k4 := 3) (Nat.le_of_ble_eq_true rfl) rfl (by decide +kernel) ?_
      rw [hke]
      exact h117 (by omega) 0 (Nat.zero_le _)
    · refine pw_aload_n (k4 := 0) rfl (by decide +kernel) ?_
      refine pw_bipush (n := 41) (v := 41) (by decide) (by decide +kernel) ?_
      refine pq_putI (c := 3) (k := 0) (ks_re hA) (by decide) (by decide) lf_Re_55 (Or.inl rfl) (by decide +kernel) ?_
      rw [reQ_0]
      exact pq_vret rfl (by decide +kernel) ⟨rfl, by rw [he, kWd, vWd, if_neg (by omega), if_neg (by omega), hke]; rfl⟩
  have hL := pDown (fun c => ∀ k l q, k + c = n → runTo (fun k => decide (smP b n k)) c k = e → a + l = k → q = pkL b a (min l 6) → pWn m_Re_readWord 1 sh (rV (reQ I (nI (kWd b a (tkW b n a))) (nI (vWd b a (tkW b n a))) pl (nI (tkW b n a)), L, P)) 4 [some (.ref 58), some (.int (nI l)), some (.int (nI q)), none] [] (reQ I kd 0 pl (nI k), L, P)) (by
    intro c ih k l q hkc hr hkl hq
    refine pw_aload_n (k4 := 0) rfl (by decide +kernel) ?_
    refine pq_getI (c := 3) (k := 5) (ks_re hA) (by decide) (by decide) lf_Re_43 (by decide +kernel) ?_
    refine pn_val (nI (k)) rfl ?_
    refine pw_aload_n (k4 := 0) rfl (by decide +kernel) ?_
    refine pq_getI (c := 3) (k := 4) (ks_re hA) (by decide) (by decide) lf_Re_40 (by decide +kernel) ?_
    refine pn_val (nI (n)) (by exact hln) ?_
    refine pn_icmp_ge (off := 72) (tgt := 84) k n rfl rfl (by omega) (by omega) (by decide +kernel) (by decide +kernel) (fun z12 => ?_) (fun z12 => ?_)
    · have hke : k = e := (runTo_n (fun q => absurd (of_decide_eq_true q).1 (by omega)) c).symm.trans hr
      exact h84 l q hkl hke hq
    · have hs : sgA b n k = sgB (b k) := if_pos (by omega)
      have hx := sg_sm (b k) (hb2 k (by omega))
      rw [← hs] at hx
      refine pw_aload_n (k4 := 0) rfl (by decide +kernel) ?_
      refine pq_getP (c := 3) (k := 3) (ks_re hA) (by decide) (by decide) hrb lf_Re_9 (by decide +kernel) ?_
      refine pw_aload_n (k4 := 0) rfl (by decide +kernel) ?_
      refine pq_getI (c := 3) (k := 5) (ks_re hA) (by decide) (by decide) lf_Re_43 (by decide +kernel) ?_
      refine pn_val (nI (k)) rfl ?_
      refine pq_bald k rfl (by omega) (by decide) (ks_x_tape hA) (by decide +kernel) ?_
      refine pn_val (sgA b n k) (by exact (hb k (by omega)).trans hs.symm) ?_
      refine pw_bipush (n := 97) (v := 97) (by decide) (by decide +kernel) ?_
      refine pw_icmp_lt (off := 58) (tgt := 84) (by decide +kernel) (by decide +kernel) (fun z26 => ?_) (fun z26 => ?_)
      · have hke : k = e := (runTo_n (fun q => (hx.mpr (of_decide_eq_true q).2).1 z26) c).symm.trans hr
        exact h84 l q hkl hke hq
      · refine pw_aload_n (k4 := 0) rfl (by decide +kernel) ?_
        refine pq_getP (c := 3) (k := 3) (ks_re hA) (by decide) (by decide) hrb lf_Re_9 (by decide +kernel) ?_
        refine pw_aload_n (k4 := 0) rfl (by decide +kernel) ?_
        refine pq_getI (c := 3) (k := 5) (ks_re hA) (by decide) (by decide) lf_Re_43 (by decide +kernel) ?_
        refine pn_val (nI (k)) rfl ?_
        refine pq_bald k rfl (by omega) (by decide) (ks_x_tape hA) (by decide +kernel) ?_
        refine pn_val (sgA b n k) (by exact (hb k (by omega)).trans hs.symm) ?_
        refine pw_bipush (n := 122) (v := 122) (by decide) (by decide +kernel) ?_
        refine pw_icmp_gt (off := 44) (tgt := 84) (by decide +kernel) (by decide +kernel) (fun z40 => ?_) (fun z40 => ?_)
        · have hke : k = e := (runTo_n (fun q => (hx.mpr (of_decide_eq_true q).2).2 z40) c).symm.trans hr
          exact h84 l q hkl hke hq
        · have hd := hx.mp ⟨z26, z40⟩
          have hsn : sgA b n k = nI (b k) := hs.trans (sg_nI (by omega))
          refine pw_iload_n (k4 := 1) rfl (by decide +kernel) ?_
          refine pw_bipush (n := 6) (v := 6) (by decide) (by decide +kernel) ?_
          refine pn_icmp_ge (off := 22) (tgt := 68) l 6 rfl rfl (by omega) (by omega) (by decide +kernel) (by decide +kernel) (fun z46 => ?_) (fun z46 => ?_)
          · refine pn_iinc (i := 1) (n := 1) 1 l rfl rfl (by decide) rfl (by decide +kernel) ?_
            refine pw_aload_n (k4 := 0) rfl (by decide +kernel) ?_
            refine pw_dup rfl (by decide +kernel) ?_
            refine pq_getI (c := 3) (k := 5) (ks_re hA) (by decide) (by decide) lf_Re_43 (by decide +kernel) ?_
            refine pn_val (nI (k)) rfl ?_
            refine pw_iconst (n := 1) (v := 1) (by decide) (by decide +kernel) ?_
            refine pn_iadd k 1 rfl rfl (by decide +kernel) ?_
            refine pq_putI (c := 3) (k := 5) (ks_re hA) (by decide) (by decide) lf_Re_43 (Or.inl rfl) (by decide +kernel) ?_
            rw [reQ_5]
            refine pw_goto (off := -77) (tgt := 4) (by decide +kernel) (by decide +kernel) ?_
            obtain ⟨c, rfl⟩ : ∃ j, c = j + 1 := ⟨c - 1, by omega⟩
            have hr2 : runTo (fun k => decide (smP b n k)) c (k + 1) = e := (if_pos (decide_eq_true ⟨by omega, hd⟩)).symm.trans hr
            exact ih c rfl (k + 1) (l + 1) q (by omega) hr2 (by omega) (by rw [hq, show min l 6 = 6 by omega, show min (l + 1) 6 = 6 by omega])
          · have hpk : (nI q <<< ((5 : Int32) &&& 31)) ||| nI (b k - 97 + 1) = nI (pkL b a (l + 1)) := by
              rw [hq, show min l 6 = l by omega, ← hkl]
              rw [← hkl] at hd
              exact pkL_s hd.1 hd.2
            refine pw_iload_n (k4 := 2) rfl (by decide +kernel) ?_
            refine pw_iconst (n := 5) (v := 5) (by decide) (by decide +kernel) ?_
            refine pw_ishl (by decide +kernel) ?_
            refine pw_aload_n (k4 := 0) rfl (by decide +kernel) ?_
            refine pq_getP (c := 3) (k := 3) (ks_re hA) (by decide) (by decide) hrb lf_Re_9 (by decide +kernel) ?_
            refine pw_aload_n (k4 := 0) rfl (by decide +kernel) ?_
            refine pq_getI (c := 3) (k := 5) (ks_re hA) (by decide) (by decide) lf_Re_43 (by decide +kernel) ?_
            refine pn_val (nI (k)) rfl ?_
            refine pq_bald k rfl (by omega) (by decide) (ks_x_tape hA) (by decide +kernel) ?_
            refine pn_val (sgA b n k) (by exact (hb k (by omega)).trans hs.symm) ?_
            refine pn_val (nI (b k)) hsn ?_
            refine pw_bipush (n := 97) (v := 97) (by decide) (by decide +kernel) ?_
            refine pn_isub (b k) 97 rfl rfl (by omega) (by decide +kernel) ?_
            refine pw_iconst (n := 1) (v := 1) (by decide) (by decide +kernel) ?_
            refine pn_iadd ((b k) - 97) 1 rfl rfl (by decide +kernel) ?_
            refine pw_ior (by decide +kernel) ?_
            refine pn_val (nI (pkL b a (l + 1))) hpk ?_
            refine pq_istore_n (k4 := 2) (Nat.le_of_ble_eq_true rfl) rfl (by decide +kernel) ?_
            refine pn_iinc (i := 1) (n := 1) 1 l rfl rfl (by decide) rfl (by decide +kernel) ?_
            refine pw_aload_n (k4 := 0) rfl (by decide +kernel) ?_
            refine pw_dup rfl (by decide +kernel) ?_
            refine pq_getI (c := 3) (k := 5) (ks_re hA) (by decide) (by decide) lf_Re_43 (by decide +kernel) ?_
            refine pn_val (nI (k)) rfl ?_
            refine pw_iconst (n := 1) (v := 1) (by decide) (by decide +kernel) ?_
            refine pn_iadd k 1 rfl rfl (by decide +kernel) ?_
            refine pq_putI (c := 3) (k := 5) (ks_re hA) (by decide) (by decide) lf_Re_43 (Or.inl rfl) (by decide +kernel) ?_
            rw [reQ_5]
            refine pw_goto (off := -77) (tgt := 4) (by decide +kernel) (by decide +kernel) ?_
            obtain ⟨c, rfl⟩ : ∃ j, c = j + 1 := ⟨c - 1, by omega⟩
            have hr2 : runTo (fun k => decide (smP b n k)) c (k + 1) = e := (if_pos (decide_eq_true ⟨by omega, hd⟩)).symm.trans hr
            exact ih c rfl (k + 1) (l + 1) (pkL b a (l + 1)) (by omega) hr2 (by omega) (by rw [show min (l + 1) 6 = l + 1 by omega]))
  refine pw_iconst (n := 0) (v := 0) (by decide) (by decide +kernel) ?_
  refine pq_istore_n (k4 := 1) (Nat.le_of_ble_eq_true rfl) rfl (by decide +kernel) ?_
  refine pw_iconst (n := 0) (v := 0) (by decide) (by decide +kernel) ?_
  refine pq_istore_n (k4 := 2) (Nat.le_of_ble_eq_true rfl) rfl (by decide +kernel) ?_
  exact hL (n - a) a 0 0 (by omega) he rfl rfl

