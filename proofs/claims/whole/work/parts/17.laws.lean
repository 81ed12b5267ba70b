/-! ===== the laws of the class: names set, joins, values ===== -/
theorem swIn (x : Int32) (lo hi : Int) (hl : 0 ≤ lo) (hh : hi < 2147483648) : (x.toInt < lo ∨ hi < x.toInt) ∨ ∃ j : Nat, lo ≤ (j : Int) ∧ (j : Int) ≤ hi ∧ x = nI j := by
  by_cases h : x.toInt < lo ∨ hi < x.toInt
  · exact Or.inl h
  · refine Or.inr ⟨x.toInt.toNat, by omega, by omega, ?_⟩
    apply Int32.toInt_inj.mp
    rw [nI_toInt (by omega)]
    omega
def ERR : Int64 := -9223372036854775808
def xName (nm : Nat → Int64) (i : Int32) : Int64 := if 0 ≤ i ∧ i < 7 then nm (ixn i) else 0
def lAbs (a : Int64) : Int64 := if 0 ≤ a then a else -a
def bL (c : Prop) [Decidable c] : Int64 := if c then 1 else 0
/-- two values joined by a sign: the class's numbers of tokens -/
def xJoin (k : Int32) (a b : Int64) : Int64 :=
  if k = 36 then a + b else if k = 37 then a - b
  else if k = 38 then (if ¬ lAbs a = 0 ∧ 1000000000000 / lAbs a < lAbs b then ERR else a * b)
  else if k = 39 then (if b = 0 then ERR else a / b)
  else if k = 30 then bL (a < b) else if k = 31 then bL (a ≤ b) else if k = 32 then bL (a = b) else if k = 33 then bL (¬ a = b) else if k = 34 then bL (b ≤ a) else if k = 35 then bL (b < a)
  else if k = 17 then bL (¬ a = 0 ∧ ¬ b = 0) else if k = 16 then bL (¬ a = 0 ∨ ¬ b = 0) else ERR

theorem ct_La_setShoe {sh : List pSh} {I : Nat → Nat → Int32} {L : Nat → Nat → Int64} {P : Nat → Nat → Option Nat} (hA : kA sh P) {t : Nat} (ht : t = 3 ∨ t = 30) (a b c d : Int32) : pCn m_La_setShoe 0 [.ref (t + 19), .int a, .int b, .int c, .int d] sh (I, L, P) (rV (I, sL (sL (sL (sL L (t + 25) 0 a.toInt64) (t + 25) 1 b.toInt64) (t + 25) 2 c.toInt64) (t + 25) 6 d.toInt64, P)) := by
  refine pCn_of (by decide +kernel) (Nat.le_of_ble_eq_true rfl) ?_
  refine pw_aload_n (k4 := 0) rfl (by decide +kernel) ?_
  refine pq_getP (c := 2) (k := 7) (ks_t_laws hA ht) (by decide) (by decide) (kp_t_laws_names hA ht) lf_La_28 (by decide +kernel) ?_
  refine pw_iconst (n := 0) (v := 0) (by decide) (by decide +kernel) ?_
  refine pw_iload_n (k4 := 1) rfl (by decide +kernel) ?_
  refine pw_i2l (by decide +kernel) ?_
  refine pq_last 0 rfl (by decide) (by decide) (ks_t_laws_names hA ht) (by decide +kernel) ?_
  refine pw_aload_n (k4 := 0) rfl (by decide +kernel) ?_
  refine pq_getP (c := 2) (k := 7) (ks_t_laws hA ht) (by decide) (by decide) (kp_t_laws_names hA ht) lf_La_28 (by decide +kernel) ?_
  refine pw_iconst (n := 1) (v := 1) (by decide) (by decide +kernel) ?_
  refine pw_iload_n (k4 := 2) rfl (by decide +kernel) ?_
  refine pw_i2l (by decide +kernel) ?_
  refine pq_last 1 rfl (by decide) (by decide) (ks_t_laws_names hA ht) (by decide +kernel) ?_
  refine pw_aload_n (k4 := 0) rfl (by decide +kernel) ?_
  refine pq_getP (c := 2) (k := 7) (ks_t_laws hA ht) (by decide) (by decide) (kp_t_laws_names hA ht) lf_La_28 (by decide +kernel) ?_
  refine pw_iconst (n := 2) (v := 2) (by decide) (by decide +kernel) ?_
  refine pw_iload_n (k4 := 3) rfl (by decide +kernel) ?_
  refine pw_i2l (by decide +kernel) ?_
  refine pq_last 2 rfl (by decide) (by decide) (ks_t_laws_names hA ht) (by decide +kernel) ?_
  refine pw_aload_n (k4 := 0) rfl (by decide +kernel) ?_
  refine pq_getP (c := 2) (k := 7) (ks_t_laws hA ht) (by decide) (by decide) (kp_t_laws_names hA ht) lf_La_28 (by decide +kernel) ?_
  refine pw_bipush (n := 6) (v := 6) (by decide) (by decide +kernel) ?_
  refine pw_iload (i := 4) rfl (by decide +kernel) ?_
  refine pw_i2l (by decide +kernel) ?_
  refine pq_last 6 rfl (by decide) (by decide) (ks_t_laws_names hA ht) (by decide +kernel) ?_
  exact pq_vret rfl (by decide +kernel) ⟨rfl, rfl⟩

theorem ct_La_setOwner {sh : List pSh} {I : Nat → Nat → Int32} {L : Nat → Nat → Int64} {P : Nat → Nat → Option Nat} (hA : kA sh P) {t : Nat} (ht : t = 3 ∨ t = 30) (a b c : Int32) : pCn m_La_setOwner 0 [.ref (t + 19), .int a, .int b, .int c] sh (I, L, P) (rV (I, sL (sL (sL L (t + 25) 3 a.toInt64) (t + 25) 5 b.toInt64) (t + 25) 4 c.toInt64, P)) := by
  refine pCn_of (by decide +kernel) (Nat.le_of_ble_eq_true rfl) ?_
  refine pw_aload_n (k4 := 0) rfl (by decide +kernel) ?_
  refine pq_getP (c := 2) (k := 7) (ks_t_laws hA ht) (by decide) (by decide) (kp_t_laws_names hA ht) lf_La_28 (by decide +kernel) ?_
  refine pw_iconst (n := 3) (v := 3) (by decide) (by decide +kernel) ?_
  refine pw_iload_n (k4 := 1) rfl (by decide +kernel) ?_
  refine pw_i2l (by decide +kernel) ?_
  refine pq_last 3 rfl (by decide) (by decide) (ks_t_laws_names hA ht) (by decide +kernel) ?_
  refine pw_aload_n (k4 := 0) rfl (by decide +kernel) ?_
  refine pq_getP (c := 2) (k := 7) (ks_t_laws hA ht) (by decide) (by decide) (kp_t_laws_names hA ht) lf_La_28 (by decide +kernel) ?_
  refine pw_iconst (n := 5) (v := 5) (by decide) (by decide +kernel) ?_
  refine pw_iload_n (k4 := 2) rfl (by decide +kernel) ?_
  refine pw_i2l (by decide +kernel) ?_
  refine pq_last 5 rfl (by decide) (by decide) (ks_t_laws_names hA ht) (by decide +kernel) ?_
  refine pw_aload_n (k4 := 0) rfl (by decide +kernel) ?_
  refine pq_getP (c := 2) (k := 7) (ks_t_laws hA ht) (by decide) (by decide) (kp_t_laws_names hA ht) lf_La_28 (by decide +kernel) ?_
  refine pw_iconst (n := 4) (v := 4) (by decide) (by decide +kernel) ?_
  refine pw_iload_n (k4 := 3) rfl (by decide +kernel) ?_
  refine pw_i2l (by decide +kernel) ?_
  refine pq_last 4 rfl (by decide) (by decide) (ks_t_laws_names hA ht) (by decide +kernel) ?_
  exact pq_vret rfl (by decide +kernel) ⟨rfl, rfl⟩

theorem ct_La_isTold {sh : List pSh} {I : Nat → Nat → Int32} {L : Nat → Nat → Int64} {P : Nat → Nat → Option Nat} (hA : kA sh P) {t : Nat} (ht : t = 3 ∨ t = 30) (r : Int32) : pCn m_La_isTold 0 [.ref (t + 19), .int r] sh (I, L, P) (rI (B (0 ≤ r ∧ r < 3 ∧ ¬ I (t + 24) (ixn r) = 0)) (I, L, P)) := by
  refine pCn_of (by decide +kernel) (Nat.le_of_ble_eq_true rfl) ?_
  refine pw_iload_n (k4 := 1) rfl (by decide +kernel) ?_
  refine pw_if_lt (off := 21) (tgt := 22) (by decide +kernel) (by decide +kernel) (fun z1 => ?_) (fun z1 => ?_)
  · refine pw_iconst (n := 0) (v := 0) (by decide) (by decide +kernel) ?_
    exact pq_zret rfl (by decide) (by decide +kernel) ⟨congrArg (fun z => some (Value.int z)) (B_f (fun q => Int32.not_lt.mpr q.1 z1)).symm, rfl⟩
  · refine pw_iload_n (k4 := 1) rfl (by decide +kernel) ?_
    refine pw_iconst (n := 3) (v := 3) (by decide) (by decide +kernel) ?_
    refine pw_icmp_ge (off := 16) (tgt := 22) (by decide +kernel) (by decide +kernel) (fun z6 => ?_) (fun z6 => ?_)
    · refine pw_iconst (n := 0) (v := 0) (by decide) (by decide +kernel) ?_
      exact pq_zret rfl (by decide) (by decide +kernel) ⟨congrArg (fun z => some (Value.int z)) (B_f (fun q => Int32.not_le.mpr q.2.1 z6)).symm, rfl⟩
    · have hv : 0 ≤ r ∧ r < 3 := ⟨Int32.not_lt.mp z1, Int32.not_le.mp z6⟩
      obtain ⟨j, hj, rfl⟩ := nIn (show (3 : Int32) = nI 3 from rfl) (by decide) hv
      refine pw_aload_n (k4 := 0) rfl (by decide +kernel) ?_
      refine pq_getP (c := 2) (k := 6) (ks_t_laws hA ht) (by decide) (by decide) (kp_t_laws_told hA ht) lf_La_24 (by decide +kernel) ?_
      refine pw_iload_n (k4 := 1) rfl (by decide +kernel) ?_
      refine pq_zald j rfl hj (by decide) (ks_t_laws_told hA ht) (by decide +kernel) ?_
      refine pw_if_eq (off := 7) (tgt := 22) (by decide +kernel) (by decide +kernel) (fun z15 => ?_) (fun z15 => ?_)
      · refine pw_iconst (n := 0) (v := 0) (by decide) (by decide +kernel) ?_
        exact pq_zret rfl (by decide) (by decide +kernel) ⟨congrArg (fun z => some (Value.int z)) (B_f (fun q => q.2.2 (by rw [ixn_nI (by omega)]; exact z15))).symm, rfl⟩
      · refine pw_iconst (n := 1) (v := 1) (by decide) (by decide +kernel) ?_
        refine pw_goto (off := 4) (tgt := 23) (by decide +kernel) (by decide +kernel) ?_
        exact pq_zret rfl (by decide) (by decide +kernel) ⟨congrArg (fun z => some (Value.int z)) (B_t ⟨hv.1, hv.2, by rw [ixn_nI (by omega)]; exact z15⟩).symm, rfl⟩

theorem ct_La_nameAt {sh : List pSh} {I : Nat → Nat → Int32} {L : Nat → Nat → Int64} {P : Nat → Nat → Option Nat} (hA : kA sh P) {t : Nat} (ht : t = 3 ∨ t = 30) (r : Int32) : pCn m_La_nameAt 0 [.ref (t + 19), .int r] sh (I, L, P) (rL (xName (L (t + 25)) r) (I, L, P)) := by
  refine pCn_of (by decide +kernel) (Nat.le_of_ble_eq_true rfl) ?_
  refine pw_iload_n (k4 := 1) rfl (by decide +kernel) ?_
  refine pw_if_lt (off := 18) (tgt := 19) (by decide +kernel) (by decide +kernel) (fun z1 => ?_) (fun z1 => ?_)
  · refine pw_lconst (n := 0) (v := 0) (by decide) (by decide +kernel) ?_
    exact pq_lret rfl (by decide +kernel) ⟨congrArg (fun z => some (Value.long z)) (by unfold xName; rw [if_neg (fun q => Int32.not_lt.mpr q.1 z1)]), rfl⟩
  · refine pw_iload_n (k4 := 1) rfl (by decide +kernel) ?_
    refine pw_bipush (n := 7) (v := 7) (by decide) (by decide +kernel) ?_
    refine pw_icmp_ge (off := 12) (tgt := 19) (by decide +kernel) (by decide +kernel) (fun z7 => ?_) (fun z7 => ?_)
    · refine pw_lconst (n := 0) (v := 0) (by decide) (by decide +kernel) ?_
      exact pq_lret rfl (by decide +kernel) ⟨congrArg (fun z => some (Value.long z)) (by unfold xName; rw [if_neg (fun q => Int32.not_le.mpr q.2 z7)]), rfl⟩
    · have hv : 0 ≤ r ∧ r < 7 := ⟨Int32.not_lt.mp z1, Int32.not_le.mp z7⟩
      obtain ⟨j, hj, rfl⟩ := nIn (show (7 : Int32) = nI 7 from rfl) (by decide) hv
      refine pw_aload_n (k4 := 0) rfl (by decide +kernel) ?_
      refine pq_getP (c := 2) (k := 7) (ks_t_laws hA ht) (by decide) (by decide) (kp_t_laws_names hA ht) lf_La_28 (by decide +kernel) ?_
      refine pw_iload_n (k4 := 1) rfl (by decide +kernel) ?_
      refine pq_lald j rfl hj (by decide) (ks_t_laws_names hA ht) (by decide +kernel) ?_
      refine pw_goto (off := 4) (tgt := 20) (by decide +kernel) (by decide +kernel) ?_
      exact pq_lret rfl (by decide +kernel) ⟨congrArg (fun z => some (Value.long z)) (by unfold xName; rw [if_pos hv, ixn_nI (by omega)]), rfl⟩

theorem xJoin_out {k : Int32} {a b : Int64} (h : k.toInt < 16 ∨ 39 < k.toInt) : xJoin k a b = ERR := by
  have ne : ∀ n : Nat, 16 ≤ n → n ≤ 39 → ¬ k = nI n := by
    intro n h1 h2 q
    rw [q, nI_toInt (by omega)] at h
    omega
  unfold xJoin
  rw [if_neg (show ¬ k = 36 from ne 36 (by decide) (by decide)), if_neg (show ¬ k = 37 from ne 37 (by decide) (by decide)), if_neg (show ¬ k = 38 from ne 38 (by decide) (by decide)), if_neg (show ¬ k = 39 from ne 39 (by decide) (by decide)), if_neg (show ¬ k = 30 from ne 30 (by decide) (by decide)), if_neg (show ¬ k = 31 from ne 31 (by decide) (by decide)), if_neg (show ¬ k = 32 from ne 32 (by decide) (by decide)), if_neg (show ¬ k = 33 from ne 33 (by decide) (by decide)), if_neg (show ¬ k = 34 from ne 34 (by decide) (by decide)), if_neg (show ¬ k = 35 from ne 35 (by decide) (by decide)), if_neg (show ¬ k = 17 from ne 17 (by decide) (by decide)), if_neg (show ¬ k = 16 from ne 16 (by decide) (by decide))]

theorem ct_La_join {sh : List pSh} {I : Nat → Nat → Int32} {L : Nat → Nat → Int64} {P : Nat → Nat → Option Nat} (k : Int32) (a b : Int64) : pCn m_La_join 0 [.int k, .long a, .long b] sh (I, L, P) (rL (xJoin k a b) (I, L, P)) := by
  refine pCn_of (by decide +kernel) (Nat.le_of_ble_eq_true rfl) ?_
  refine pw_iload_n (k4 := 0) rfl (by decide +kernel) ?_
  have hsw1 : decode m_La_join.2.1 1 = .ok (.tableswitch 300 16 39 #[282, 264, 300, 300, 300, 300, 300, 300, 300, 300, 300, 300, 300, 300, 192, 204, 216, 228, 240, 252, 111, 115, 119, 176], 111) := by decide +kernel
  rcases swIn k 16 39 (by decide) (by decide) with z1 | ⟨j1, z1, y1, e1⟩
  · refine pw_tableOut (tgt := 301) hsw1 z1 (by decide +kernel) ?_
    refine pw_ldc2 lc_La_46 (by decide +kernel) ?_
    exact pq_lret rfl (by decide +kernel) ⟨congrArg (fun z => some (Value.long z)) (by have e1 := z1; exact (xJoin_out (by omega)).symm), rfl⟩
  · rcases (show j1 = 16 ∨ j1 = 17 ∨ j1 = 18 ∨ j1 = 19 ∨ j1 = 20 ∨ j1 = 21 ∨ j1 = 22 ∨ j1 = 23 ∨ j1 = 24 ∨ j1 = 25 ∨ j1 = 26 ∨ j1 = 27 ∨ j1 = 28 ∨ j1 = 29 ∨ j1 = 30 ∨ j1 = 31 ∨ j1 = 32 ∨ j1 = 33 ∨ j1 = 34 ∨ j1 = 35 ∨ j1 = 36 ∨ j1 = 37 ∨ j1 = 38 ∨ j1 = 39 by omega) with rfl | rfl | rfl | rfl | rfl | rfl | rfl | rfl | rfl | rfl | rfl | rfl | rfl | rfl | rfl | rfl | rfl | rfl | rfl | rfl | rfl | rfl | rfl | rfl
    · refine pw_tableIn (off := 282) (tgt := 283) hsw1 (by rw [e1]; decide) (by rw [e1]; decide) (by rw [e1]; decide) (by decide +kernel) ?_
      refine pw_lload_n (k4 := 1) rfl (by decide +kernel) ?_
      refine pw_lconst (n := 0) (v := 0) (by decide) (by decide +kernel) ?_
      refine pw_lcmp (by decide +kernel) ?_
      refine pw_if_ne (off := 9) (tgt := 295) (by decide +kernel) (by decide +kernel) (fun z286 => ?_) (fun z286 => ?_)
      · rw [lge] at z286
        refine pw_lconst (n := 1) (v := 1) (by decide) (by decide +kernel) ?_
        refine pw_goto (off := 4) (tgt := 300) (by decide +kernel) (by decide +kernel) ?_
        exact pq_lret rfl (by decide +kernel) ⟨congrArg (fun z => some (Value.long z)) (by rw [e1]; exact (if_pos (Or.inl z286) : bL _ = _).symm), rfl⟩
      · rw [lge] at z286
        refine pw_lload_n (k4 := 3) rfl (by decide +kernel) ?_
        refine pw_lconst (n := 0) (v := 0) (by decide) (by decide +kernel) ?_
        refine pw_lcmp (by decide +kernel) ?_
        refine pw_if_eq (off := 7) (tgt := 299) (by decide +kernel) (by decide +kernel) (fun z292 => ?_) (fun z292 => ?_)
        · rw [lge] at z292
          refine pw_lconst (n := 0) (v := 0) (by decide) (by decide +kernel) ?_
          exact pq_lret rfl (by decide +kernel) ⟨congrArg (fun z => some (Value.long z)) (by rw [e1]; exact (if_neg (fun q => q.elim (fun q => q z286) (fun q => q z292)) : bL _ = _).symm), rfl⟩
        · rw [lge] at z292
          refine pw_lconst (n := 1) (v := 1) (by decide) (by decide +kernel) ?_
          refine pw_goto (off := 4) (tgt := 300) (by decide +kernel) (by decide +kernel) ?_
          exact pq_lret rfl (by decide +kernel) ⟨congrArg (fun z => some (Value.long z)) (by rw [e1]; exact (if_pos (Or.inr z292) : bL _ = _).symm), rfl⟩
    · refine pw_tableIn (off := 264) (tgt := 265) hsw1 (by rw [e1]; decide) (by rw [e1]; decide) (by rw [e1]; decide) (by decide +kernel) ?_
      refine pw_lload_n (k4 := 1) rfl (by decide +kernel) ?_
      refine pw_lconst (n := 0) (v := 0) (by decide) (by decide +kernel) ?_
      refine pw_lcmp (by decide +kernel) ?_
      refine pw_if_eq (off := 13) (tgt := 281) (by decide +kernel) (by decide +kernel) (fun z268 => ?_) (fun z268 => ?_)
      · rw [lge] at z268
        refine pw_lconst (n := 0) (v := 0) (by decide) (by decide +kernel) ?_
        exact pq_lret rfl (by decide +kernel) ⟨congrArg (fun z => some (Value.long z)) (by rw [e1]; exact (if_neg (fun q => q.1 z268) : bL _ = _).symm), rfl⟩
      · rw [lge] at z268
        refine pw_lload_n (k4 := 3) rfl (by decide +kernel) ?_
        refine pw_lconst (n := 0) (v := 0) (by decide) (by decide +kernel) ?_
        refine pw_lcmp (by decide +kernel) ?_
        refine pw_if_eq (off := 7) (tgt := 281) (by decide +kernel) (by decide +kernel) (fun z274 => ?_) (fun z274 => ?_)
        · rw [lge] at z274
          refine pw_lconst (n := 0) (v := 0) (by decide) (by decide +kernel) ?_
          exact pq_lret rfl (by decide +kernel) ⟨congrArg (fun z => some (Value.long z)) (by rw [e1]; exact (if_neg (fun q => q.2 z274) : bL _ = _).symm), rfl⟩
        · rw [lge] at z274
          refine pw_lconst (n := 1) (v := 1) (by decide) (by decide +kernel) ?_
          refine pw_goto (off := 4) (tgt := 282) (by decide +kernel) (by decide +kernel) ?_
          exact pq_lret rfl (by decide +kernel) ⟨congrArg (fun z => some (Value.long z)) (by rw [e1]; exact (if_pos ⟨z268, z274⟩ : bL _ = _).symm), rfl⟩
    · refine pw_tableIn (off := 300) (tgt := 301) hsw1 (by rw [e1]; decide) (by rw [e1]; decide) (by rw [e1]; decide) (by decide +kernel) ?_
      refine pw_ldc2 lc_La_46 (by decide +kernel) ?_
      exact pq_lret rfl (by decide +kernel) ⟨congrArg (fun z => some (Value.long z)) (by rw [e1]; exact (show xJoin (nI 18) a b = ERR from rfl).symm), rfl⟩
    · refine pw_tableIn (off := 300) (tgt := 301) hsw1 (by rw [e1]; decide) (by rw [e1]; decide) (by rw [e1]; decide) (by decide +kernel) ?_
      refine pw_ldc2 lc_La_46 (by decide +kernel) ?_
      exact pq_lret rfl (by decide +kernel) ⟨congrArg (fun z => some (Value.long z)) (by rw [e1]; exact (show xJoin (nI 19) a b = ERR from rfl).symm), rfl⟩
    · refine pw_tableIn (off := 300) (tgt := 301) hsw1 (by rw [e1]; decide) (by rw [e1]; decide) (by rw [e1]; decide) (by decide +kernel) ?_
      refine pw_ldc2 lc_La_46 (by decide +kernel) ?_
      exact pq_lret rfl (by decide +kernel) ⟨congrArg (fun z => some (Value.long z)) (by rw [e1]; exact (show xJoin (nI 20) a b = ERR from rfl).symm), rfl⟩
    · refine pw_tableIn (off := 300) (tgt := 301) hsw1 (by rw [e1]; decide) (by rw [e1]; decide) (by rw [e1]; decide) (by decide +kernel) ?_
      refine pw_ldc2 lc_La_46 (by decide +kernel) ?_
      exact pq_lret rfl (by decide +kernel) ⟨congrArg (fun z => some (Value.long z)) (by rw [e1]; exact (show xJoin (nI 21) a b = ERR from rfl).symm), rfl⟩
    · refine pw_tableIn (off := 300) (tgt := 301) hsw1 (by rw [e1]; decide) (by rw [e1]; decide) (by rw [e1]; decide) (by decide +kernel) ?_
      refine pw_ldc2 lc_La_46 (by decide +kernel) ?_
      exact pq_lret rfl (by decide +kernel) ⟨congrArg (fun z => some (Value.long z)) (by rw [e1]; exact (show xJoin (nI 22) a b = ERR from rfl).symm), rfl⟩
    · refine pw_tableIn (off := 300) (tgt := 301) hsw1 (by rw [e1]; decide) (by rw [e1]; decide) (by rw [e1]; decide) (by decide +kernel) ?_
      refine pw_ldc2 lc_La_46 (by decide +kernel) ?_
      exact pq_lret rfl (by decide +kernel) ⟨congrArg (fun z => some (Value.long z)) (by rw [e1]; exact (show xJoin (nI 23) a b = ERR from rfl).symm), rfl⟩
    · refine pw_tableIn (off := 300) (tgt := 301) hsw1 (by rw [e1]; decide) (by rw [e1]; decide) (by rw [e1]; decide) (by decide +kernel) ?_
      refine pw_ldc2 lc_La_46 (by decide +kernel) ?_
      exact pq_lret rfl (by decide +kernel) ⟨congrArg (fun z => some (Value.long z)) (by rw [e1]; exact (show xJoin (nI 24) a b = ERR from rfl).symm), rfl⟩
    · refine pw_tableIn (off := 300) (tgt := 301) hsw1 (by rw [e1]; decide) (by rw [e1]; decide) (by rw [e1]; decide) (by decide +kernel) ?_
      refine pw_ldc2 lc_La_46 (by decide +kernel) ?_
      exact pq_lret rfl (by decide +kernel) ⟨congrArg (fun z => some (Value.long z)) (by rw [e1]; exact (show xJoin (nI 25) a b = ERR from rfl).symm), rfl⟩
    · refine pw_tableIn (off := 300) (tgt := 301) hsw1 (by rw [e1]; decide) (by rw [e1]; decide) (by rw [e1]; decide) (by decide +kernel) ?_
      refine pw_ldc2 lc_La_46 (by decide +kernel) ?_
      exact pq_lret rfl (by decide +kernel) ⟨congrArg (fun z => some (Value.long z)) (by rw [e1]; exact (show xJoin (nI 26) a b = ERR from rfl).symm), rfl⟩
    · refine pw_tableIn (off := 300) (tgt := 301) hsw1 (by rw [e1]; decide) (by rw [e1]; decide) (by rw [e1]; decide) (by decide +kernel) ?_
      refine pw_ldc2 lc_La_46 (by decide +kernel) ?_
      exact pq_lret rfl (by decide +kernel) ⟨congrArg (fun z => some (Value.long z)) (by rw [e1]; exact (show xJoin (nI 27) a b = ERR from rfl).symm), rfl⟩
    · refine pw_tableIn (off := 300) (tgt := 301) hsw1 (by rw [e1]; decide) (by rw [e1]; decide) (by rw [e1]; decide) (by decide +kernel) ?_
      refine pw_ldc2 lc_La_46 (by decide +kernel) ?_
      exact pq_lret rfl (by decide +kernel) ⟨congrArg (fun z => some (Value.long z)) (by rw [e1]; exact (show xJoin (nI 28) a b = ERR from rfl).symm), rfl⟩
    · refine pw_tableIn (off := 300) (tgt := 301) hsw1 (by rw [e1]; decide) (by rw [e1]; decide) (by rw [e1]; decide) (by decide +kernel) ?_
      refine pw_ldc2 lc_La_46 (by decide +kernel) ?_
      exact pq_lret rfl (by decide +kernel) ⟨congrArg (fun z => some (Value.long z)) (by rw [e1]; exact (show xJoin (nI 29) a b = ERR from rfl).symm), rfl⟩
    · refine pw_tableIn (off := 192) (tgt := 193) hsw1 (by rw [e1]; decide) (by rw [e1]; decide) (by rw [e1]; decide) (by decide +kernel) ?_
      refine pw_lload_n (k4 := 1) rfl (by decide +kernel) ?_
      refine pw_lload_n (k4 := 3) rfl (by decide +kernel) ?_
      refine pw_lcmp (by decide +kernel) ?_
      refine pw_if_ge (off := 7) (tgt := 203) (by decide +kernel) (by decide +kernel) (fun z196 => ?_) (fun z196 => ?_)
      · rw [lg_cmp_ge] at z196
        refine pw_lconst (n := 0) (v := 0) (by decide) (by decide +kernel) ?_
        exact pq_lret rfl (by decide +kernel) ⟨congrArg (fun z => some (Value.long z)) (by rw [e1]; exact (if_neg (Int64.not_lt.mpr z196) : bL _ = _).symm), rfl⟩
      · rw [lg_cmp_ge] at z196
        refine pw_lconst (n := 1) (v := 1) (by decide) (by decide +kernel) ?_
        refine pw_goto (off := 4) (tgt := 204) (by decide +kernel) (by decide +kernel) ?_
        exact pq_lret rfl (by decide +kernel) ⟨congrArg (fun z => some (Value.long z)) (by rw [e1]; exact (if_pos (Int64.not_le.mp z196) : bL _ = _).symm), rfl⟩
    · refine pw_tableIn (off := 204) (tgt := 205) hsw1 (by rw [e1]; decide) (by rw [e1]; decide) (by rw [e1]; decide) (by decide +kernel) ?_
      refine pw_lload_n (k4 := 1) rfl (by decide +kernel) ?_
      refine pw_lload_n (k4 := 3) rfl (by decide +kernel) ?_
      refine pw_lcmp (by decide +kernel) ?_
      refine pw_if_gt (off := 7) (tgt := 215) (by decide +kernel) (by decide +kernel) (fun z208 => ?_) (fun z208 => ?_)
      · rw [lgt] at z208
        refine pw_lconst (n := 0) (v := 0) (by decide) (by decide +kernel) ?_
        exact pq_lret rfl (by decide +kernel) ⟨congrArg (fun z => some (Value.long z)) (by rw [e1]; exact (if_neg (Int64.not_le.mpr z208) : bL _ = _).symm), rfl⟩
      · rw [lgt] at z208
        refine pw_lconst (n := 1) (v := 1) (by decide) (by decide +kernel) ?_
        refine pw_goto (off := 4) (tgt := 216) (by decide +kernel) (by decide +kernel) ?_
        exact pq_lret rfl (by decide +kernel) ⟨congrArg (fun z => some (Value.long z)) (by rw [e1]; exact (if_pos (Int64.not_lt.mp z208) : bL _ = _).symm), rfl⟩
    · refine pw_tableIn (off := 216) (tgt := 217) hsw1 (by rw [e1]; decide) (by rw [e1]; decide) (by rw [e1]; decide) (by decide +kernel) ?_
      refine pw_lload_n (k4 := 1) rfl (by decide +kernel) ?_
      refine pw_lload_n (k4 := 3) rfl (by decide +kernel) ?_
      refine pw_lcmp (by decide +kernel) ?_
      refine pw_if_ne (off := 7) (tgt := 227) (by decide +kernel) (by decide +kernel) (fun z220 => ?_) (fun z220 => ?_)
      · rw [lge] at z220
        refine pw_lconst (n := 0) (v := 0) (by decide) (by decide +kernel) ?_
        exact pq_lret rfl (by decide +kernel) ⟨congrArg (fun z => some (Value.long z)) (by rw [e1]; exact (if_neg z220 : bL _ = _).symm), rfl⟩
      · rw [lge] at z220
        refine pw_lconst (n := 1) (v := 1) (by decide) (by decide +kernel) ?_
        refine pw_goto (off := 4) (tgt := 228) (by decide +kernel) (by decide +kernel) ?_
        exact pq_lret rfl (by decide +kernel) ⟨congrArg (fun z => some (Value.long z)) (by rw [e1]; exact (if_pos z220 : bL _ = _).symm), rfl⟩
    · refine pw_tableIn (off := 228) (tgt := 229) hsw1 (by rw [e1]; decide) (by rw [e1]; decide) (by rw [e1]; decide) (by decide +kernel) ?_
      refine pw_lload_n (k4 := 1) rfl (by decide +kernel) ?_
      refine pw_lload_n (k4 := 3) rfl (by decide +kernel) ?_
      refine pw_lcmp (by decide +kernel) ?_
      refine pw_if_eq (off := 7) (tgt := 239) (by decide +kernel) (by decide +kernel) (fun z232 => ?_) (fun z232 => ?_)
      · rw [lge] at z232
        refine pw_lconst (n := 0) (v := 0) (by decide) (by decide +kernel) ?_
        exact pq_lret rfl (by decide +kernel) ⟨congrArg (fun z => some (Value.long z)) (by rw [e1]; exact (if_neg (fun q => q z232) : bL _ = _).symm), rfl⟩
      · rw [lge] at z232
        refine pw_lconst (n := 1) (v := 1) (by decide) (by decide +kernel) ?_
        refine pw_goto (off := 4) (tgt := 240) (by decide +kernel) (by decide +kernel) ?_
        exact pq_lret rfl (by decide +kernel) ⟨congrArg (fun z => some (Value.long z)) (by rw [e1]; exact (if_pos z232 : bL _ = _).symm), rfl⟩
    · refine pw_tableIn (off := 240) (tgt := 241) hsw1 (by rw [e1]; decide) (by rw [e1]; decide) (by rw [e1]; decide) (by decide +kernel) ?_
      refine pw_lload_n (k4 := 1) rfl (by decide +kernel) ?_
      refine pw_lload_n (k4 := 3) rfl (by decide +kernel) ?_
      refine pw_lcmp (by decide +kernel) ?_
      refine pw_if_lt (off := 7) (tgt := 251) (by decide +kernel) (by decide +kernel) (fun z244 => ?_) (fun z244 => ?_)
      · rw [llt] at z244
        refine pw_lconst (n := 0) (v := 0) (by decide) (by decide +kernel) ?_
        exact pq_lret rfl (by decide +kernel) ⟨congrArg (fun z => some (Value.long z)) (by rw [e1]; exact (if_neg (Int64.not_le.mpr z244) : bL _ = _).symm), rfl⟩
      · rw [llt] at z244
        refine pw_lconst (n := 1) (v := 1) (by decide) (by decide +kernel) ?_
        refine pw_goto (off := 4) (tgt := 252) (by decide +kernel) (by decide +kernel) ?_
        exact pq_lret rfl (by decide +kernel) ⟨congrArg (fun z => some (Value.long z)) (by rw [e1]; exact (if_pos (Int64.not_lt.mp z244) : bL _ = _).symm), rfl⟩
    · refine pw_tableIn (off := 252) (tgt := 253) hsw1 (by rw [e1]; decide) (by rw [e1]; decide) (by rw [e1]; decide) (by decide +kernel) ?_
      refine pw_lload_n (k4 := 1) rfl (by decide +kernel) ?_
      refine pw_lload_n (k4 := 3) rfl (by decide +kernel) ?_
      refine pw_lcmp (by decide +kernel) ?_
      refine pw_if_le (off := 7) (tgt := 263) (by decide +kernel) (by decide +kernel) (fun z256 => ?_) (fun z256 => ?_)
      · rw [lg_cmp_le] at z256
        refine pw_lconst (n := 0) (v := 0) (by decide) (by decide +kernel) ?_
        exact pq_lret rfl (by decide +kernel) ⟨congrArg (fun z => some (Value.long z)) (by rw [e1]; exact (if_neg (Int64.not_lt.mpr z256) : bL _ = _).symm), rfl⟩
      · rw [lg_cmp_le] at z256
        refine pw_lconst (n := 1) (v := 1) (by decide) (by decide +kernel) ?_
        refine pw_goto (off := 4) (tgt := 264) (by decide +kernel) (by decide +kernel) ?_
        exact pq_lret rfl (by decide +kernel) ⟨congrArg (fun z => some (Value.long z)) (by rw [e1]; exact (if_pos (Int64.not_le.mp z256) : bL _ = _).symm), rfl⟩
    · refine pw_tableIn (off := 111) (tgt := 112) hsw1 (by rw [e1]; decide) (by rw [e1]; decide) (by rw [e1]; decide) (by decide +kernel) ?_
      refine pw_lload_n (k4 := 1) rfl (by decide +kernel) ?_
      refine pw_lload_n (k4 := 3) rfl (by decide +kernel) ?_
      refine pw_ladd (by decide +kernel) ?_
      exact pq_lret rfl (by decide +kernel) ⟨congrArg (fun z => some (Value.long z)) (by rw [e1]; rfl), rfl⟩
    · refine pw_tableIn (off := 115) (tgt := 116) hsw1 (by rw [e1]; decide) (by rw [e1]; decide) (by rw [e1]; decide) (by decide +kernel) ?_
      refine pw_lload_n (k4 := 1) rfl (by decide +kernel) ?_
      refine pw_lload_n (k4 := 3) rfl (by decide +kernel) ?_
      refine pw_lsub (by decide +kernel) ?_
      exact pq_lret rfl (by decide +kernel) ⟨congrArg (fun z => some (Value.long z)) (by rw [e1]; rfl), rfl⟩
    · refine pw_tableIn (off := 119) (tgt := 120) hsw1 (by rw [e1]; decide) (by rw [e1]; decide) (by rw [e1]; decide) (by decide +kernel) ?_
      refine pw_lload_n (k4 := 1) rfl (by decide +kernel) ?_
      refine pw_lconst (n := 0) (v := 0) (by decide) (by decide +kernel) ?_
      refine pw_lcmp (by decide +kernel) ?_
      refine pw_if_ge (off := 8) (tgt := 131) (by decide +kernel) (by decide +kernel) (fun z123 => ?_) (fun z123 => ?_)
      · rw [lg_cmp_ge] at z123
        refine pw_lload_n (k4 := 1) rfl (by decide +kernel) ?_
        refine pw_lstore (i := 5) (Nat.le_of_ble_eq_true rfl) (by decide +kernel) ?_
        refine pw_lload_n (k4 := 3) rfl (by decide +kernel) ?_
        refine pw_lconst (n := 0) (v := 0) (by decide) (by decide +kernel) ?_
        refine pw_lcmp (by decide +kernel) ?_
        refine pw_if_ge (off := 8) (tgt := 145) (by decide +kernel) (by decide +kernel) (fun z137 => ?_) (fun z137 => ?_)
        · rw [lg_cmp_ge] at z137
          refine pw_lload_n (k4 := 3) rfl (by decide +kernel) ?_
          refine pw_lstore (i := 7) (Nat.le_of_ble_eq_true rfl) (by decide +kernel) ?_
          refine pw_lload (i := 5) rfl (by decide +kernel) ?_
          refine pw_lconst (n := 0) (v := 0) (by decide) (by decide +kernel) ?_
          refine pw_lcmp (by decide +kernel) ?_
          refine pw_if_eq (off := 21) (tgt := 173) (by decide +kernel) (by decide +kernel) (fun z152 => ?_) (fun z152 => ?_)
          · rw [lge] at z152
            refine pw_lload_n (k4 := 1) rfl (by decide +kernel) ?_
            refine pw_lload_n (k4 := 3) rfl (by decide +kernel) ?_
            refine pw_lmul (by decide +kernel) ?_
            exact pq_lret rfl (by decide +kernel) ⟨congrArg (fun z => some (Value.long z)) (by rw [e1]; have ha : lAbs a = a := (if_pos z123); have hb : lAbs b = b := (if_pos z137); show _ = (if ¬ lAbs a = 0 ∧ 1000000000000 / lAbs a < lAbs b then ERR else a * b); exact (if_neg (fun q => q.1 (by rw [ha]; exact z152))).symm), rfl⟩
          · rw [lge] at z152
            refine pw_lload (i := 7) rfl (by decide +kernel) ?_
            refine pw_ldc2 lc_La_56 (by decide +kernel) ?_
            refine pw_lload (i := 5) rfl (by decide +kernel) ?_
            refine pw_ldiv (fun q => z152 q) (by decide +kernel) ?_
            refine pw_lcmp (by decide +kernel) ?_
            refine pw_if_le (off := 9) (tgt := 173) (by decide +kernel) (by decide +kernel) (fun z164 => ?_) (fun z164 => ?_)
            · rw [lg_cmp_le] at z164
              refine pw_lload_n (k4 := 1) rfl (by decide +kernel) ?_
              refine pw_lload_n (k4 := 3) rfl (by decide +kernel) ?_
              refine pw_lmul (by decide +kernel) ?_
              exact pq_lret rfl (by decide +kernel) ⟨congrArg (fun z => some (Value.long z)) (by rw [e1]; have ha : lAbs a = a := (if_pos z123); have hb : lAbs b = b := (if_pos z137); show _ = (if ¬ lAbs a = 0 ∧ 1000000000000 / lAbs a < lAbs b then ERR else a * b); exact (if_neg (fun q => Int64.not_lt.mpr z164 (by have := q.2; rwa [ha, hb] at this))).symm), rfl⟩
            · rw [lg_cmp_le] at z164
              refine pw_ldc2 lc_La_46 (by decide +kernel) ?_
              refine pw_goto (off := 6) (tgt := 176) (by decide +kernel) (by decide +kernel) ?_
              exact pq_lret rfl (by decide +kernel) ⟨congrArg (fun z => some (Value.long z)) (by rw [e1]; have ha : lAbs a = a := (if_pos z123); have hb : lAbs b = b := (if_pos z137); show _ = (if ¬ lAbs a = 0 ∧ 1000000000000 / lAbs a < lAbs b then ERR else a * b); exact (if_pos ⟨by rw [ha]; exact z152, by rw [ha, hb]; exact Int64.not_le.mp z164⟩).symm), rfl⟩
        · rw [lg_cmp_ge] at z137
          refine pw_lload_n (k4 := 3) rfl (by decide +kernel) ?_
          refine pw_lneg (by decide +kernel) ?_
          refine pw_goto (off := 4) (tgt := 146) (by decide +kernel) (by decide +kernel) ?_
          refine pw_lstore (i := 7) (Nat.le_of_ble_eq_true rfl) (by decide +kernel) ?_
          refine pw_lload (i := 5) rfl (by decide +kernel) ?_
          refine pw_lconst (n := 0) (v := 0) (by decide) (by decide +kernel) ?_
          refine pw_lcmp (by decide +kernel) ?_
          refine pw_if_eq (off := 21) (tgt := 173) (by decide +kernel) (by decide +kernel) (fun z152 => ?_) (fun z152 => ?_)
          · rw [lge] at z152
            refine pw_lload_n (k4 := 1) rfl (by decide +kernel) ?_
            refine pw_lload_n (k4 := 3) rfl (by decide +kernel) ?_
            refine pw_lmul (by decide +kernel) ?_
            exact pq_lret rfl (by decide +kernel) ⟨congrArg (fun z => some (Value.long z)) (by rw [e1]; have ha : lAbs a = a := (if_pos z123); have hb : lAbs b = -b := (if_neg z137); show _ = (if ¬ lAbs a = 0 ∧ 1000000000000 / lAbs a < lAbs b then ERR else a * b); exact (if_neg (fun q => q.1 (by rw [ha]; exact z152))).symm), rfl⟩
          · rw [lge] at z152
            refine pw_lload (i := 7) rfl (by decide +kernel) ?_
            refine pw_ldc2 lc_La_56 (by decide +kernel) ?_
            refine pw_lload (i := 5) rfl (by decide +kernel) ?_
            refine pw_ldiv (fun q => z152 q) (by decide +kernel) ?_
            refine pw_lcmp (by decide +kernel) ?_
            refine pw_if_le (off := 9) (tgt := 173) (by decide +kernel) (by decide +kernel) (fun z164 => ?_) (fun z164 => ?_)
            · rw [lg_cmp_le] at z164
              refine pw_lload_n (k4 := 1) rfl (by decide +kernel) ?_
              refine pw_lload_n (k4 := 3) rfl (by decide +kernel) ?_
              refine pw_lmul (by decide +kernel) ?_
              exact pq_lret rfl (by decide +kernel) ⟨congrArg (fun z => some (Value.long z)) (by rw [e1]; have ha : lAbs a = a := (if_pos z123); have hb : lAbs b = -b := (if_neg z137); show _ = (if ¬ lAbs a = 0 ∧ 1000000000000 / lAbs a < lAbs b then ERR else a * b); exact (if_neg (fun q => Int64.not_lt.mpr z164 (by have := q.2; rwa [ha, hb] at this))).symm), rfl⟩
            · rw [lg_cmp_le] at z164
              refine pw_ldc2 lc_La_46 (by decide +kernel) ?_
              refine pw_goto (off := 6) (tgt := 176) (by decide +kernel) (by decide +kernel) ?_
              exact pq_lret rfl (by decide +kernel) ⟨congrArg (fun z => some (Value.long z)) (by rw [e1]; have ha : lAbs a = a := (if_pos z123); have hb : lAbs b = -b := (if_neg z137); show _ = (if ¬ lAbs a = 0 ∧ 1000000000000 / lAbs a < lAbs b then ERR else a * b); exact (if_pos ⟨by rw [ha]; exact z152, by rw [ha, hb]; exact Int64.not_le.mp z164⟩).symm), rfl⟩
      · rw [lg_cmp_ge] at z123
        refine pw_lload_n (k4 := 1) rfl (by decide +kernel) ?_
        refine pw_lneg (by decide +kernel) ?_
        refine pw_goto (off := 4) (tgt := 132) (by decide +kernel) (by decide +kernel) ?_
        refine pw_lstore (i := 5) (Nat.le_of_ble_eq_true rfl) (by decide +kernel) ?_
        refine pw_lload_n (k4 := 3) rfl (by decide +kernel) ?_
        refine pw_lconst (n := 0) (v := 0) (by decide) (by decide +kernel) ?_
        refine pw_lcmp (by decide +kernel) ?_
        refine pw_if_ge (off := 8) (tgt := 145) (by decide +kernel) (by decide +kernel) (fun z137 => ?_) (fun z137 => ?_)
        · rw [lg_cmp_ge] at z137
          refine pw_lload_n (k4 := 3) rfl (by decide +kernel) ?_
          refine pw_lstore (i := 7) (Nat.le_of_ble_eq_true rfl) (by decide +kernel) ?_
          refine pw_lload (i := 5) rfl (by decide +kernel) ?_
          refine pw_lconst (n := 0) (v := 0) (by decide) (by decide +kernel) ?_
          refine pw_lcmp (by decide +kernel) ?_
          refine pw_if_eq (off := 21) (tgt := 173) (by decide +kernel) (by decide +kernel) (fun z152 => ?_) (fun z152 => ?_)
          · rw [lge] at z152
            refine pw_lload_n (k4 := 1) rfl (by decide +kernel) ?_
            refine pw_lload_n (k4 := 3) rfl (by decide +kernel) ?_
            refine pw_lmul (by decide +kernel) ?_
            exact pq_lret rfl (by decide +kernel) ⟨congrArg (fun z => some (Value.long z)) (by rw [e1]; have ha : lAbs a = -a := (if_neg z123); have hb : lAbs b = b := (if_pos z137); show _ = (if ¬ lAbs a = 0 ∧ 1000000000000 / lAbs a < lAbs b then ERR else a * b); exact (if_neg (fun q => q.1 (by rw [ha]; exact z152))).symm), rfl⟩
          · rw [lge] at z152
            refine pw_lload (i := 7) rfl (by decide +kernel) ?_
            refine pw_ldc2 lc_La_56 (by decide +kernel) ?_
            refine pw_lload (i := 5) rfl (by decide +kernel) ?_
            refine pw_ldiv (fun q => z152 q) (by decide +kernel) ?_
            refine pw_lcmp (by decide +kernel) ?_
            refine pw_if_le (off := 9) (tgt := 173) (by decide +kernel) (by decide +kernel) (fun z164 => ?_) (fun z164 => ?_)
            · rw [lg_cmp_le] at z164
              refine pw_lload_n (k4 := 1) rfl (by decide +kernel) ?_
              refine pw_lload_n (k4 := 3) rfl (by decide +kernel) ?_
              refine pw_lmul (by decide +kernel) ?_
              exact pq_lret rfl (by decide +kernel) ⟨congrArg (fun z => some (Value.long z)) (by rw [e1]; have ha : lAbs a = -a := (if_neg z123); have hb : lAbs b = b := (if_pos z137); show _ = (if ¬ lAbs a = 0 ∧ 1000000000000 / lAbs a < lAbs b then ERR else a * b); exact (if_neg (fun q => Int64.not_lt.mpr z164 (by have := q.2; rwa [ha, hb] at this))).symm), rfl⟩
            · rw [lg_cmp_le] at z164
              refine pw_ldc2 lc_La_46 (by decide +kernel) ?_
              refine pw_goto (off := 6) (tgt := 176) (by decide +kernel) (by decide +kernel) ?_
              exact pq_lret rfl (by decide +kernel) ⟨congrArg (fun z => some (Value.long z)) (by rw [e1]; have ha : lAbs a = -a := (if_neg z123); have hb : lAbs b = b := (if_pos z137); show _ = (if ¬ lAbs a = 0 ∧ 1000000000000 / lAbs a < lAbs b then ERR else a * b); exact (if_pos ⟨by rw [ha]; exact z152, by rw [ha, hb]; exact Int64.not_le.mp z164⟩).symm), rfl⟩
        · rw [lg_cmp_ge] at z137
          refine pw_lload_n (k4 := 3) rfl (by decide +kernel) ?_
          refine pw_lneg (by decide +kernel) ?_
          refine pw_goto (off := 4) (tgt := 146) (by decide +kernel) (by decide +kernel) ?_
          refine pw_lstore (i := 7) (Nat.le_of_ble_eq_true rfl) (by decide +kernel) ?_
          refine pw_lload (i := 5) rfl (by decide +kernel) ?_
          refine pw_lconst (n := 0) (v := 0) (by decide) (by decide +kernel) ?_
          refine pw_lcmp (by decide +kernel) ?_
          refine pw_if_eq (off := 21) (tgt := 173) (by decide +kernel) (by decide +kernel) (fun z152 => ?_) (fun z152 => ?_)
          · rw [lge] at z152
            refine pw_lload_n (k4 := 1) rfl (by decide +kernel) ?_
            refine pw_lload_n (k4 := 3) rfl (by decide +kernel) ?_
            refine pw_lmul (by decide +kernel) ?_
            exact pq_lret rfl (by decide +kernel) ⟨congrArg (fun z => some (Value.long z)) (by rw [e1]; have ha : lAbs a = -a := (if_neg z123); have hb : lAbs b = -b := (if_neg z137); show _ = (if ¬ lAbs a = 0 ∧ 1000000000000 / lAbs a < lAbs b then ERR else a * b); exact (if_neg (fun q => q.1 (by rw [ha]; exact z152))).symm), rfl⟩
          · rw [lge] at z152
            refine pw_lload (i := 7) rfl (by decide +kernel) ?_
            refine pw_ldc2 lc_La_56 (by decide +kernel) ?_
            refine pw_lload (i := 5) rfl (by decide +kernel) ?_
            refine pw_ldiv (fun q => z152 q) (by decide +kernel) ?_
            refine pw_lcmp (by decide +kernel) ?_
            refine pw_if_le (off := 9) (tgt := 173) (by decide +kernel) (by decide +kernel) (fun z164 => ?_) (fun z164 => ?_)
            · rw [lg_cmp_le] at z164
              refine pw_lload_n (k4 := 1) rfl (by decide +kernel) ?_
              refine pw_lload_n (k4 := 3) rfl (by decide +kernel) ?_
              refine pw_lmul (by decide +kernel) ?_
              exact pq_lret rfl (by decide +kernel) ⟨congrArg (fun z => some (Value.long z)) (by rw [e1]; have ha : lAbs a = -a := (if_neg z123); have hb : lAbs b = -b := (if_neg z137); show _ = (if ¬ lAbs a = 0 ∧ 1000000000000 / lAbs a < lAbs b then ERR else a * b); exact (if_neg (fun q => Int64.not_lt.mpr z164 (by have := q.2; rwa [ha, hb] at this))).symm), rfl⟩
            · rw [lg_cmp_le] at z164
              refine pw_ldc2 lc_La_46 (by decide +kernel) ?_
              refine pw_goto (off := 6) (tgt := 176) (by decide +kernel) (by decide +kernel) ?_
              exact pq_lret rfl (by decide +kernel) ⟨congrArg (fun z => some (Value.long z)) (by rw [e1]; have ha : lAbs a = -a := (if_neg z123); have hb : lAbs b = -b := (if_neg z137); show _ = (if ¬ lAbs a = 0 ∧ 1000000000000 / lAbs a < lAbs b then ERR else a * b); exact (if_pos ⟨by rw [ha]; exact z152, by rw [ha, hb]; exact Int64.not_le.mp z164⟩).symm), rfl⟩
    · refine pw_tableIn (off := 176) (tgt := 177) hsw1 (by rw [e1]; decide) (by rw [e1]; decide) (by rw [e1]; decide) (by decide +kernel) ?_
      refine pw_lload_n (k4 := 3) rfl (by decide +kernel) ?_
      refine pw_lconst (n := 0) (v := 0) (by decide) (by decide +kernel) ?_
      refine pw_lcmp (by decide +kernel) ?_
      refine pw_if_ne (off := 9) (tgt := 189) (by decide +kernel) (by decide +kernel) (fun z180 => ?_) (fun z180 => ?_)
      · rw [lge] at z180
        refine pw_lload_n (k4 := 1) rfl (by decide +kernel) ?_
        refine pw_lload_n (k4 := 3) rfl (by decide +kernel) ?_
        refine pw_ldiv z180 (by decide +kernel) ?_
        exact pq_lret rfl (by decide +kernel) ⟨congrArg (fun z => some (Value.long z)) (by rw [e1]; exact (if_neg z180).symm), rfl⟩
      · rw [lge] at z180
        refine pw_ldc2 lc_La_46 (by decide +kernel) ?_
        refine pw_goto (off := 6) (tgt := 192) (by decide +kernel) (by decide +kernel) ?_
        exact pq_lret rfl (by decide +kernel) ⟨congrArg (fun z => some (Value.long z)) (by rw [e1]; exact (if_pos z180).symm), rfl⟩
