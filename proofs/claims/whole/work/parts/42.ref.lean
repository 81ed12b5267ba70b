/-! ===== the reference: small methods, and the value of a law ===== -/
/-- how many persons, shoes, debts the reference has -/
def mOK (I : Nat → Nat → Int32) (np ns nd : Nat) : Prop := I 134 12 = nI np ∧ np ≤ 5 ∧ I 134 13 = nI ns ∧ ns ≤ 16 ∧ I 134 14 = nI nd ∧ nd ≤ 8
theorem sI_same (I : Nat → Nat → Int32) (a k : Nat) : sI I a k (I a k) = I := by
  funext b j
  by_cases hb : b = a
  · subst hb
    by_cases hj : j = k
    · subst hj; exact sI_rs
    · exact sI_rd hj
  · rw [sI_ne hb]
theorem sI_sI (I : Nat → Nat → Int32) (a k : Nat) (x y : Int32) : sI (sI I a k x) a k y = sI I a k y := by
  funext b j
  by_cases hb : b = a
  · subst hb
    by_cases hj : j = k
    · subst hj; rw [sI_rs, sI_rs]
    · rw [sI_rd hj, sI_rd hj, sI_rd hj]
  · rw [sI_ne hb, sI_ne hb, sI_ne hb]
abbrev yHasP (I : Nat → Nat → Int32) (p : Int32) : Prop := 0 ≤ p ∧ p < I 134 12
abbrev yHasS (I : Nat → Nat → Int32) (s : Int32) : Prop := 0 ≤ s ∧ s < I 134 13
abbrev yThere (I : Nat → Nat → Int32) (s : Int32) : Prop := yHasS I s ∧ I 163 (ixn s) ≠ -2
def ySide (I : Nat → Nat → Int32) (s : Nat) : Int32 := if I 134 64 = 0 then I 142 s else 0

theorem ct_Mo_isIn {sh : List pSh} {I : Nat → Nat → Int32} {L : Nat → Nat → Int64} {P : Nat → Nat → Option Nat} (x a b : Int32) : pCn m_Mo_isIn 0 [.int x, .int a, .int b] sh (I, L, P) (rI (B (a ≤ x ∧ x ≤ b)) (I, L, P)) := by
  refine pCn_of (by decide +kernel) (Nat.le_of_ble_eq_true rfl) ?_
  refine pw_iload_n (k4 := 0) rfl (by decide +kernel) ?_
  refine pw_iload_n (k4 := 1) rfl (by decide +kernel) ?_
  refine pw_icmp_lt (off := 12) (tgt := 14) (by decide +kernel) (by decide +kernel) (fun z2 => ?_) (fun z2 => ?_)
  · refine pw_iconst (n := 0) (v := 0) (by decide) (by decide +kernel) ?_
    exact pq_zret rfl (by decide) (by decide +kernel) ⟨congrArg (fun z => some (Value.int z)) (B_f (fun q => Int32.not_lt.mpr q.1 z2)).symm, rfl⟩
  · refine pw_iload_n (k4 := 0) rfl (by decide +kernel) ?_
    refine pw_iload_n (k4 := 2) rfl (by decide +kernel) ?_
    refine pw_icmp_gt (off := 7) (tgt := 14) (by decide +kernel) (by decide +kernel) (fun z7 => ?_) (fun z7 => ?_)
    · refine pw_iconst (n := 0) (v := 0) (by decide) (by decide +kernel) ?_
      exact pq_zret rfl (by decide) (by decide +kernel) ⟨congrArg (fun z => some (Value.int z)) (B_f (fun q => Int32.not_lt.mpr q.2 z7)).symm, rfl⟩
    · refine pw_iconst (n := 1) (v := 1) (by decide) (by decide +kernel) ?_
      refine pw_goto (off := 4) (tgt := 15) (by decide +kernel) (by decide +kernel) ?_
      exact pq_zret rfl (by decide) (by decide +kernel) ⟨congrArg (fun z => some (Value.int z)) (B_t ⟨Int32.not_lt.mp z2, Int32.not_lt.mp z7⟩).symm, rfl⟩

theorem ct_Mo_isOf {sh : List pSh} {I : Nat → Nat → Int32} {L : Nat → Nat → Int64} {P : Nat → Nat → Option Nat} (x y : Int32) : pCn m_Mo_isOf 0 [.int x, .int y] sh (I, L, P) (rI (B ((x >>> (y &&& 31)) &&& 1 = 1)) (I, L, P)) := by
  refine pCn_of (by decide +kernel) (Nat.le_of_ble_eq_true rfl) ?_
  refine pw_iload_n (k4 := 0) rfl (by decide +kernel) ?_
  refine pw_iload_n (k4 := 1) rfl (by decide +kernel) ?_
  refine pw_ishr (by decide +kernel) ?_
  refine pw_iconst (n := 1) (v := 1) (by decide) (by decide +kernel) ?_
  refine pw_iand (by decide +kernel) ?_
  refine pw_iconst (n := 1) (v := 1) (by decide) (by decide +kernel) ?_
  refine pw_icmp_ne (off := 7) (tgt := 13) (by decide +kernel) (by decide +kernel) (fun z6 => ?_) (fun z6 => ?_)
  · refine pw_iconst (n := 0) (v := 0) (by decide) (by decide +kernel) ?_
    exact pq_zret rfl (by decide) (by decide +kernel) ⟨congrArg (fun z => some (Value.int z)) (B_f z6).symm, rfl⟩
  · refine pw_iconst (n := 1) (v := 1) (by decide) (by decide +kernel) ?_
    refine pw_goto (off := 4) (tgt := 14) (by decide +kernel) (by decide +kernel) ?_
    exact pq_zret rfl (by decide) (by decide +kernel) ⟨congrArg (fun z => some (Value.int z)) (B_t z6).symm, rfl⟩

theorem ct_Mo_isPerson {sh : List pSh} {I : Nat → Nat → Int32} {L : Nat → Nat → Int64} {P : Nat → Nat → Option Nat} (hA : kA sh P) (x : Int32) : pCn m_Mo_isPerson 0 [.ref 134, .int x] sh (I, L, P) (rI (B (yHasP I x)) (I, L, P)) := by
  refine pCn_of (by decide +kernel) (Nat.le_of_ble_eq_true rfl) ?_
  refine pw_iload_n (k4 := 1) rfl (by decide +kernel) ?_
  refine pw_if_lt (off := 15) (tgt := 16) (by decide +kernel) (by decide +kernel) (fun z1 => ?_) (fun z1 => ?_)
  · refine pw_iconst (n := 0) (v := 0) (by decide) (by decide +kernel) ?_
    exact pq_zret rfl (by decide) (by decide +kernel) ⟨congrArg (fun z => some (Value.int z)) (B_f (fun q => Int32.not_lt.mpr q.1 z1)).symm, rfl⟩
  · refine pw_iload_n (k4 := 1) rfl (by decide +kernel) ?_
    refine pw_aload_n (k4 := 0) rfl (by decide +kernel) ?_
    refine pq_getI (c := 11) (k := 12) (ks_m hA) (by decide) (by decide) lf_Mo_259 (by decide +kernel) ?_
    refine pw_icmp_ge (off := 7) (tgt := 16) (by decide +kernel) (by decide +kernel) (fun z9 => ?_) (fun z9 => ?_)
    · refine pw_iconst (n := 0) (v := 0) (by decide) (by decide +kernel) ?_
      exact pq_zret rfl (by decide) (by decide +kernel) ⟨congrArg (fun z => some (Value.int z)) (B_f (fun q => Int32.not_lt.mpr z9 q.2)).symm, rfl⟩
    · refine pw_iconst (n := 1) (v := 1) (by decide) (by decide +kernel) ?_
      refine pw_goto (off := 4) (tgt := 17) (by decide +kernel) (by decide +kernel) ?_
      exact pq_zret rfl (by decide) (by decide +kernel) ⟨congrArg (fun z => some (Value.int z)) (B_t ⟨Int32.not_lt.mp z1, Int32.not_le.mp z9⟩).symm, rfl⟩

theorem ct_Mo_isShoe {sh : List pSh} {I : Nat → Nat → Int32} {L : Nat → Nat → Int64} {P : Nat → Nat → Option Nat} (hA : kA sh P) (x : Int32) : pCn m_Mo_isShoe 0 [.ref 134, .int x] sh (I, L, P) (rI (B (yHasS I x)) (I, L, P)) := by
  refine pCn_of (by decide +kernel) (Nat.le_of_ble_eq_true rfl) ?_
  refine pw_iload_n (k4 := 1) rfl (by decide +kernel) ?_
  refine pw_if_lt (off := 15) (tgt := 16) (by decide +kernel) (by decide +kernel) (fun z1 => ?_) (fun z1 => ?_)
  · refine pw_iconst (n := 0) (v := 0) (by decide) (by decide +kernel) ?_
    exact pq_zret rfl (by decide) (by decide +kernel) ⟨congrArg (fun z => some (Value.int z)) (B_f (fun q => Int32.not_lt.mpr q.1 z1)).symm, rfl⟩
  · refine pw_iload_n (k4 := 1) rfl (by decide +kernel) ?_
    refine pw_aload_n (k4 := 0) rfl (by decide +kernel) ?_
    refine pq_getI (c := 11) (k := 13) (ks_m hA) (by decide) (by decide) lf_Mo_262 (by decide +kernel) ?_
    refine pw_icmp_ge (off := 7) (tgt := 16) (by decide +kernel) (by decide +kernel) (fun z9 => ?_) (fun z9 => ?_)
    · refine pw_iconst (n := 0) (v := 0) (by decide) (by decide +kernel) ?_
      exact pq_zret rfl (by decide) (by decide +kernel) ⟨congrArg (fun z => some (Value.int z)) (B_f (fun q => Int32.not_lt.mpr z9 q.2)).symm, rfl⟩
    · refine pw_iconst (n := 1) (v := 1) (by decide) (by decide +kernel) ?_
      refine pw_goto (off := 4) (tgt := 17) (by decide +kernel) (by decide +kernel) ?_
      exact pq_zret rfl (by decide) (by decide +kernel) ⟨congrArg (fun z => some (Value.int z)) (B_t ⟨Int32.not_lt.mp z1, Int32.not_le.mp z9⟩).symm, rfl⟩

theorem ct_Mo_isThere {sh : List pSh} {I : Nat → Nat → Int32} {L : Nat → Nat → Int64} {P : Nat → Nat → Option Nat} (hA : kA sh P) {np ns nd : Nat} (hm : mOK I np ns nd) (x : Int32) : pCn m_Mo_isThere 1 [.ref 134, .int x] sh (I, L, P) (rI (B (yThere I x)) (I, L, P)) := by
  refine pCn_of (by decide +kernel) (Nat.le_of_ble_eq_true rfl) ?_
  have h5 := hm.2.1
  have h16 := hm.2.2.2.1
  have h8 := hm.2.2.2.2.2
  refine pw_aload_n (k4 := 0) rfl (by decide +kernel) ?_
  refine pw_iload_n (k4 := 1) rfl (by decide +kernel) ?_
  refine pq_callV (ν := m_Mo_isShoe) (d' := 0) (av := [_]) (c := 11) (by decide +kernel) lm_Mo_399 ok_Mo_isShoe (show _ = some 1 by decide +kernel) (ks_m hA) rfl (by decide) (by omega) (Nat.le_of_ble_eq_true rfl) (ct_Mo_isShoe hA _) ?_
  rintro _ _ ⟨rfl, rfl⟩
  refine pn_ifB_eq (off := 18) (tgt := 23) (by decide +kernel) (by decide +kernel) (fun z5 => ?_) (fun z5 => ?_)
  · refine pw_iconst (n := 0) (v := 0) (by decide) (by decide +kernel) ?_
    exact pq_zret rfl (by decide) (by decide +kernel) ⟨congrArg (fun z => some (Value.int z)) (B_f (fun q => z5 q.1)).symm, rfl⟩
  · obtain ⟨j, hj, rfl⟩ := nIn hm.2.2.1 (by omega) z5
    refine pw_aload_n (k4 := 0) rfl (by decide +kernel) ?_
    refine pq_getP (c := 11) (k := 56) (ks_m hA) (by decide) (by decide) (kp_m_whose hA) lf_Mo_100 (by decide +kernel) ?_
    refine pw_iload_n (k4 := 1) rfl (by decide +kernel) ?_
    refine pq_iald j rfl (by omega) (by decide) (ks_m_whose hA) (by decide +kernel) ?_
    refine pw_bipush (n := -2) (v := -2) (by decide) (by decide +kernel) ?_
    refine pw_icmp_eq (off := 7) (tgt := 23) (by decide +kernel) (by decide +kernel) (fun z16 => ?_) (fun z16 => ?_)
    · refine pw_iconst (n := 0) (v := 0) (by decide) (by decide +kernel) ?_
      exact pq_zret rfl (by decide) (by decide +kernel) ⟨congrArg (fun z => some (Value.int z)) (B_f (fun q => q.2 (by rw [ixn_nI (by omega)]; exact z16))).symm, rfl⟩
    · refine pw_iconst (n := 1) (v := 1) (by decide) (by decide +kernel) ?_
      refine pw_goto (off := 4) (tgt := 24) (by decide +kernel) (by decide +kernel) ?_
      exact pq_zret rfl (by decide) (by decide +kernel) ⟨congrArg (fun z => some (Value.int z)) (B_t ⟨z5, by rw [ixn_nI (by omega)]; exact z16⟩).symm, rfl⟩

theorem ct_Mo_sideNow {sh : List pSh} {I : Nat → Nat → Int32} {L : Nat → Nat → Int64} {P : Nat → Nat → Option Nat} (hA : kA sh P) {j : Nat} (hj : j < 16) : pCn m_Mo_sideNow 0 [.ref 134, .int (nI j)] sh (I, L, P) (rI (ySide I j) (I, L, P)) := by
  refine pCn_of (by decide +kernel) (Nat.le_of_ble_eq_true rfl) ?_
  refine pw_aload_n (k4 := 0) rfl (by decide +kernel) ?_
  refine pq_getI (c := 11) (k := 64) (ks_m hA) (by decide) (by decide) lf_Mo_387 (by decide +kernel) ?_
  refine pw_if_eq (off := 7) (tgt := 11) (by decide +kernel) (by decide +kernel) (fun z4 => ?_) (fun z4 => ?_)
  · refine pw_aload_n (k4 := 0) rfl (by decide +kernel) ?_
    refine pq_getP (c := 11) (k := 28) (ks_m hA) (by decide) (by decide) (kp_m_sideOf hA) lf_Mo_35 (by decide +kernel) ?_
    refine pw_iload_n (k4 := 1) rfl (by decide +kernel) ?_
    refine pq_iald j rfl (by omega) (by decide) (ks_m_sideOf hA) (by decide +kernel) ?_
    exact pq_iret rfl (by decide +kernel) ⟨congrArg (fun z => some (Value.int z)) (if_pos z4).symm, rfl⟩
  · refine pw_iconst (n := 0) (v := 0) (by decide) (by decide +kernel) ?_
    refine pw_goto (off := 9) (tgt := 17) (by decide +kernel) (by decide +kernel) ?_
    exact pq_iret rfl (by decide +kernel) ⟨congrArg (fun z => some (Value.int z)) (if_neg z4).symm, rfl⟩

def yNm (size used left sort steps day foot : Int64) : Nat → Int64
  | 0 => size
  | 1 => used
  | 2 => left
  | 3 => sort
  | 4 => steps
  | 5 => day
  | _ => foot
/-- the names of shoe j, used u, somebody's, on day d -/
def yNmS (I : Nat → Nat → Int32) (j : Nat) (u q d : Int32) : Nat → Int64 := yNm (I 143 j).toInt64 u.toInt64 (bL (ySide I j = 0)) (I 145 j).toInt64 (if q < 0 then 0 else (I 139 (ixn q)).toInt64) d.toInt64 (if q < 0 then 0 else (I 138 (ixn q)).toInt64)
theorem yNm_set (L : Nat → Nat → Int64) (a : Nat) (x0 x1 x2 x3 x4 x5 x6 : Int64) : ∀ k, k < 7 → sL (sL (sL (sL (sL (sL (sL L a 0 x0) a 1 x1) a 2 x2) a 3 x3) a 4 x4) a 5 x5) a 6 x6 a k = yNm x0 x1 x2 x3 x4 x5 x6 k := by
  intro k hk
  rcases (show k = 0 ∨ k = 1 ∨ k = 2 ∨ k = 3 ∨ k = 4 ∨ k = 5 ∨ k = 6 by omega) with rfl | rfl | rfl | rfl | rfl | rfl | rfl <;> simp [sL, va_up, vp_updL, yNm]
def rNm (I : Nat → Nat → Int32) (L : Nat → Nat → Int64) (P : Nat → Nat → Option Nat) (nm : Nat → Int64) : Option Value → pM → Prop := fun r M => r = none ∧ ∃ L', M = (I, L', P) ∧ (∀ k, k < 7 → L' 160 k = nm k) ∧ ∀ a, a ≠ 160 → L' a = L a

theorem ct_Mo_layNames {sh : List pSh} {I : Nat → Nat → Int32} {L : Nat → Nat → Int64} {P : Nat → Nat → Option Nat} (hA : kA sh P) {j : Nat} (hj : j < 16) (u q d : Int32) (hq : ¬ q < 0 → ∃ p, p < 5 ∧ q = nI p) : pCn m_Mo_layNames 1 [.ref 134, .int (nI j), .int u, .int q, .int d] sh (I, L, P) (rNm I L P (yNmS I j u q d)) := by
  refine pCn_of (by decide +kernel) (Nat.le_of_ble_eq_true rfl) ?_
  refine pw_aload_n (k4 := 0) rfl (by decide +kernel) ?_
  refine pq_getP (c := 11) (k := 52) (ks_m hA) (by decide) (by decide) (kp_m_names hA) lf_Mo_90 (by decide +kernel) ?_
  refine pw_iconst (n := 0) (v := 0) (by decide) (by decide +kernel) ?_
  refine pw_aload_n (k4 := 0) rfl (by decide +kernel) ?_
  refine pq_getP (c := 11) (k := 29) (ks_m hA) (by decide) (by decide) (kp_m_sizeOf hA) lf_Mo_38 (by decide +kernel) ?_
  refine pw_iload_n (k4 := 1) rfl (by decide +kernel) ?_
  refine pq_iald j rfl (by omega) (by decide) (ks_m_sizeOf hA) (by decide +kernel) ?_
  refine pw_i2l (by decide +kernel) ?_
  refine pq_last 0 rfl (by omega) (by decide) (ks_m_names hA) (by decide +kernel) ?_
  refine pw_aload_n (k4 := 0) rfl (by decide +kernel) ?_
  refine pq_getP (c := 11) (k := 52) (ks_m hA) (by decide) (by decide) (kp_m_names hA) lf_Mo_90 (by decide +kernel) ?_
  refine pw_iconst (n := 1) (v := 1) (by decide) (by decide +kernel) ?_
  refine pw_iload_n (k4 := 2) rfl (by decide +kernel) ?_
  refine pw_i2l (by decide +kernel) ?_
  refine pq_last 1 rfl (by omega) (by decide) (ks_m_names hA) (by decide +kernel) ?_
  refine pw_aload_n (k4 := 0) rfl (by decide +kernel) ?_
  refine pq_getP (c := 11) (k := 52) (ks_m hA) (by decide) (by decide) (kp_m_names hA) lf_Mo_90 (by decide +kernel) ?_
  refine pw_iconst (n := 2) (v := 2) (by decide) (by decide +kernel) ?_
  refine pw_aload_n (k4 := 0) rfl (by decide +kernel) ?_
  refine pw_iload_n (k4 := 1) rfl (by decide +kernel) ?_
  refine pq_callV (ν := m_Mo_sideNow) (d' := 0) (av := [_]) (c := 11) (by decide +kernel) lm_Mo_402 ok_Mo_sideNow (show _ = some 1 by decide +kernel) (ks_m hA) rfl (by decide) (by omega) (Nat.le_of_ble_eq_true rfl) (ct_Mo_sideNow hA (by omega)) ?_
  rintro _ _ ⟨rfl, rfl⟩
  refine pw_if_ne (off := 7) (tgt := 38) (by decide +kernel) (by decide +kernel) (fun z31 => ?_) (fun z31 => ?_)
  · refine pw_lconst (n := 0) (v := 0) (by decide) (by decide +kernel) ?_
    refine pq_last 2 rfl (by omega) (by decide) (ks_m_names hA) (by decide +kernel) ?_
    refine pw_aload_n (k4 := 0) rfl (by decide +kernel) ?_
    refine pq_getP (c := 11) (k := 52) (ks_m hA) (by decide) (by decide) (kp_m_names hA) lf_Mo_90 (by decide +kernel) ?_
    refine pw_iconst (n := 3) (v := 3) (by decide) (by decide +kernel) ?_
    refine pw_aload_n (k4 := 0) rfl (by decide +kernel) ?_
    refine pq_getP (c := 11) (k := 31) (ks_m hA) (by decide) (by decide) (kp_m_kindOf hA) lf_Mo_44 (by decide +kernel) ?_
    refine pw_iload_n (k4 := 1) rfl (by decide +kernel) ?_
    refine pq_iald j rfl (by omega) (by decide) (ks_m_kindOf hA) (by decide +kernel) ?_
    refine pw_i2l (by decide +kernel) ?_
    refine pq_last 3 rfl (by omega) (by decide) (ks_m_names hA) (by decide +kernel) ?_
    refine pw_aload_n (k4 := 0) rfl (by decide +kernel) ?_
    refine pq_getP (c := 11) (k := 52) (ks_m hA) (by decide) (by decide) (kp_m_names hA) lf_Mo_90 (by decide +kernel) ?_
    refine pw_iconst (n := 4) (v := 4) (by decide) (by decide +kernel) ?_
    refine pw_iload_n (k4 := 3) rfl (by decide +kernel) ?_
    refine pw_if_ge (off := 7) (tgt := 66) (by decide +kernel) (by decide +kernel) (fun z59 => ?_) (fun z59 => ?_)
    · obtain ⟨p, hp, rfl⟩ := hq (Int32.not_lt.mpr z59)
      refine pw_aload_n (k4 := 0) rfl (by decide +kernel) ?_
      refine pq_getP (c := 11) (k := 25) (ks_m hA) (by decide) (by decide) (kp_m_stepsOf hA) lf_Mo_26 (by decide +kernel) ?_
      refine pw_iload_n (k4 := 3) rfl (by decide +kernel) ?_
      refine pq_iald p rfl (by omega) (by decide) (ks_m_stepsOf hA) (by decide +kernel) ?_
      refine pw_i2l (by decide +kernel) ?_
      refine pq_last 4 rfl (by omega) (by decide) (ks_m_names hA) (by decide +kernel) ?_
      refine pw_aload_n (k4 := 0) rfl (by decide +kernel) ?_
      refine pq_getP (c := 11) (k := 52) (ks_m hA) (by decide) (by decide) (kp_m_names hA) lf_Mo_90 (by decide +kernel) ?_
      refine pw_iconst (n := 5) (v := 5) (by decide) (by decide +kernel) ?_
      refine pw_iload (i := 4) rfl (by decide +kernel) ?_
      refine pw_i2l (by decide +kernel) ?_
      refine pq_last 5 rfl (by omega) (by decide) (ks_m_names hA) (by decide +kernel) ?_
      refine pw_aload_n (k4 := 0) rfl (by decide +kernel) ?_
      refine pq_getP (c := 11) (k := 52) (ks_m hA) (by decide) (by decide) (kp_m_names hA) lf_Mo_90 (by decide +kernel) ?_
      refine pw_bipush (n := 6) (v := 6) (by decide) (by decide +kernel) ?_
      refine pw_iload_n (k4 := 3) rfl (by decide +kernel) ?_
      refine pw_if_ge (off := 7) (tgt := 97) (by decide +kernel) (by decide +kernel) (fun z90 => ?_) (fun z90 => ?_)
      · refine pw_aload_n (k4 := 0) rfl (by decide +kernel) ?_
        refine pq_getP (c := 11) (k := 24) (ks_m hA) (by decide) (by decide) (kp_m_footOf hA) lf_Mo_23 (by decide +kernel) ?_
        refine pw_iload_n (k4 := 3) rfl (by decide +kernel) ?_
        refine pq_iald p rfl (by omega) (by decide) (ks_m_footOf hA) (by decide +kernel) ?_
        refine pw_i2l (by decide +kernel) ?_
        refine pq_last 6 rfl (by omega) (by decide) (ks_m_names hA) (by decide +kernel) ?_
        exact pq_vret rfl (by decide +kernel) ⟨rfl, _, rfl, fun k hk => (yNm_set _ _ _ _ _ _ _ _ _ k hk).trans (by unfold yNmS bL; rw [if_neg z31, if_neg (Int32.not_lt.mpr z59), if_neg (Int32.not_lt.mpr z59), ixn_nI (by omega)]), fun a ha => by rw [sL_ne ha, sL_ne ha, sL_ne ha, sL_ne ha, sL_ne ha, sL_ne ha, sL_ne ha]⟩
      · exact absurd z59 z90
    · refine pw_lconst (n := 0) (v := 0) (by decide) (by decide +kernel) ?_
      refine pw_goto (off := 10) (tgt := 73) (by decide +kernel) (by decide +kernel) ?_
      refine pq_last 4 rfl (by omega) (by decide) (ks_m_names hA) (by decide +kernel) ?_
      refine pw_aload_n (k4 := 0) rfl (by decide +kernel) ?_
      refine pq_getP (c := 11) (k := 52) (ks_m hA) (by decide) (by decide) (kp_m_names hA) lf_Mo_90 (by decide +kernel) ?_
      refine pw_iconst (n := 5) (v := 5) (by decide) (by decide +kernel) ?_
      refine pw_iload (i := 4) rfl (by decide +kernel) ?_
      refine pw_i2l (by decide +kernel) ?_
      refine pq_last 5 rfl (by omega) (by decide) (ks_m_names hA) (by decide +kernel) ?_
      refine pw_aload_n (k4 := 0) rfl (by decide +kernel) ?_
      refine pq_getP (c := 11) (k := 52) (ks_m hA) (by decide) (by decide) (kp_m_names hA) lf_Mo_90 (by decide +kernel) ?_
      refine pw_bipush (n := 6) (v := 6) (by decide) (by decide +kernel) ?_
      refine pw_iload_n (k4 := 3) rfl (by decide +kernel) ?_
      refine pw_if_ge (off := 7) (tgt := 97) (by decide +kernel) (by decide +kernel) (fun z90 => ?_) (fun z90 => ?_)
      · exact absurd z90 z59
      · refine pw_lconst (n := 0) (v := 0) (by decide) (by decide +kernel) ?_
        refine pw_goto (off := 10) (tgt := 104) (by decide +kernel) (by decide +kernel) ?_
        refine pq_last 6 rfl (by omega) (by decide) (ks_m_names hA) (by decide +kernel) ?_
        exact pq_vret rfl (by decide +kernel) ⟨rfl, _, rfl, fun k hk => (yNm_set _ _ _ _ _ _ _ _ _ k hk).trans (by unfold yNmS bL; rw [if_neg z31, if_pos (Int32.not_le.mp z59), if_pos (Int32.not_le.mp z59)]), fun a ha => by rw [sL_ne ha, sL_ne ha, sL_ne ha, sL_ne ha, sL_ne ha, sL_ne ha, sL_ne ha]⟩
  · refine pw_lconst (n := 1) (v := 1) (by decide) (by decide +kernel) ?_
    refine pw_goto (off := 4) (tgt := 39) (by decide +kernel) (by decide +kernel) ?_
    refine pq_last 2 rfl (by omega) (by decide) (ks_m_names hA) (by decide +kernel) ?_
    refine pw_aload_n (k4 := 0) rfl (by decide +kernel) ?_
    refine pq_getP (c := 11) (k := 52) (ks_m hA) (by decide) (by decide) (kp_m_names hA) lf_Mo_90 (by decide +kernel) ?_
    refine pw_iconst (n := 3) (v := 3) (by decide) (by decide +kernel) ?_
    refine pw_aload_n (k4 := 0) rfl (by decide +kernel) ?_
    refine pq_getP (c := 11) (k := 31) (ks_m hA) (by decide) (by decide) (kp_m_kindOf hA) lf_Mo_44 (by decide +kernel) ?_
    refine pw_iload_n (k4 := 1) rfl (by decide +kernel) ?_
    refine pq_iald j rfl (by omega) (by decide) (ks_m_kindOf hA) (by decide +kernel) ?_
    refine pw_i2l (by decide +kernel) ?_
    refine pq_last 3 rfl (by omega) (by decide) (ks_m_names hA) (by decide +kernel) ?_
    refine pw_aload_n (k4 := 0) rfl (by decide +kernel) ?_
    refine pq_getP (c := 11) (k := 52) (ks_m hA) (by decide) (by decide) (kp_m_names hA) lf_Mo_90 (by decide +kernel) ?_
    refine pw_iconst (n := 4) (v := 4) (by decide) (by decide +kernel) ?_
    refine pw_iload_n (k4 := 3) rfl (by decide +kernel) ?_
    refine pw_if_ge (off := 7) (tgt := 66) (by decide +kernel) (by decide +kernel) (fun z59 => ?_) (fun z59 => ?_)
    · obtain ⟨p, hp, rfl⟩ := hq (Int32.not_lt.mpr z59)
      refine pw_aload_n (k4 := 0) rfl (by decide +kernel) ?_
      refine pq_getP (c := 11) (k := 25) (ks_m hA) (by decide) (by decide) (kp_m_stepsOf hA) lf_Mo_26 (by decide +kernel) ?_
      refine pw_iload_n (k4 := 3) rfl (by decide +kernel) ?_
      refine pq_iald p rfl (by omega) (by decide) (ks_m_stepsOf hA) (by decide +kernel) ?_
      refine pw_i2l (by decide +kernel) ?_
      refine pq_last 4 rfl (by omega) (by decide) (ks_m_names hA) (by decide +kernel) ?_
      refine pw_aload_n (k4 := 0) rfl (by decide +kernel) ?_
      refine pq_getP (c := 11) (k := 52) (ks_m hA) (by decide) (by decide) (kp_m_names hA) lf_Mo_90 (by decide +kernel) ?_
      refine pw_iconst (n := 5) (v := 5) (by decide) (by decide +kernel) ?_
      refine pw_iload (i := 4) rfl (by decide +kernel) ?_
      refine pw_i2l (by decide +kernel) ?_
      refine pq_last 5 rfl (by omega) (by decide) (ks_m_names hA) (by decide +kernel) ?_
      refine pw_aload_n (k4 := 0) rfl (by decide +kernel) ?_
      refine pq_getP (c := 11) (k := 52) (ks_m hA) (by decide) (by decide) (kp_m_names hA) lf_Mo_90 (by decide +kernel) ?_
      refine pw_bipush (n := 6) (v := 6) (by decide) (by decide +kernel) ?_
      refine pw_iload_n (k4 := 3) rfl (by decide +kernel) ?_
      refine pw_if_ge (off := 7) (tgt := 97) (by decide +kernel) (by decide +kernel) (fun z90 => ?_) (fun z90 => ?_)
      · refine pw_aload_n (k4 := 0) rfl (by decide +kernel) ?_
        refine pq_getP (c := 11) (k := 24) (ks_m hA) (by decide) (by decide) (kp_m_footOf hA) lf_Mo_23 (by decide +kernel) ?_
        refine pw_iload_n (k4 := 3) rfl (by decide +kernel) ?_
        refine pq_iald p rfl (by omega) (by decide) (ks_m_footOf hA) (by decide +kernel) ?_
        refine pw_i2l (by decide +kernel) ?_
        refine pq_last 6 rfl (by omega) (by decide) (ks_m_names hA) (by decide +kernel) ?_
        exact pq_vret rfl (by decide +kernel) ⟨rfl, _, rfl, fun k hk => (yNm_set _ _ _ _ _ _ _ _ _ k hk).trans (by unfold yNmS bL; rw [if_pos z31, if_neg (Int32.not_lt.mpr z59), if_neg (Int32.not_lt.mpr z59), ixn_nI (by omega)]), fun a ha => by rw [sL_ne ha, sL_ne ha, sL_ne ha, sL_ne ha, sL_ne ha, sL_ne ha, sL_ne ha]⟩
      · exact absurd z59 z90
    · refine pw_lconst (n := 0) (v := 0) (by decide) (by decide +kernel) ?_
      refine pw_goto (off := 10) (tgt := 73) (by decide +kernel) (by decide +kernel) ?_
      refine pq_last 4 rfl (by omega) (by decide) (ks_m_names hA) (by decide +kernel) ?_
      refine pw_aload_n (k4 := 0) rfl (by decide +kernel) ?_
      refine pq_getP (c := 11) (k := 52) (ks_m hA) (by decide) (by decide) (kp_m_names hA) lf_Mo_90 (by decide +kernel) ?_
      refine pw_iconst (n := 5) (v := 5) (by decide) (by decide +kernel) ?_
      refine pw_iload (i := 4) rfl (by decide +kernel) ?_
      refine pw_i2l (by decide +kernel) ?_
      refine pq_last 5 rfl (by omega) (by decide) (ks_m_names hA) (by decide +kernel) ?_
      refine pw_aload_n (k4 := 0) rfl (by decide +kernel) ?_
      refine pq_getP (c := 11) (k := 52) (ks_m hA) (by decide) (by decide) (kp_m_names hA) lf_Mo_90 (by decide +kernel) ?_
      refine pw_bipush (n := 6) (v := 6) (by decide) (by decide +kernel) ?_
      refine pw_iload_n (k4 := 3) rfl (by decide +kernel) ?_
      refine pw_if_ge (off := 7) (tgt := 97) (by decide +kernel) (by decide +kernel) (fun z90 => ?_) (fun z90 => ?_)
      · exact absurd z90 z59
      · refine pw_lconst (n := 0) (v := 0) (by decide) (by decide +kernel) ?_
        refine pw_goto (off := 10) (tgt := 104) (by decide +kernel) (by decide +kernel) ?_
        refine pq_last 6 rfl (by omega) (by decide) (ks_m_names hA) (by decide +kernel) ?_
        exact pq_vret rfl (by decide +kernel) ⟨rfl, _, rfl, fun k hk => (yNm_set _ _ _ _ _ _ _ _ _ k hk).trans (by unfold yNmS bL; rw [if_pos z31, if_pos (Int32.not_le.mp z59), if_pos (Int32.not_le.mp z59)]), fun a ha => by rw [sL_ne ha, sL_ne ha, sL_ne ha, sL_ne ha, sL_ne ha, sL_ne ha, sL_ne ha]⟩

def yBnd (n : Int64) : Option Int64 := if 1000000000000 < n ∨ n < -1000000000000 then none else some n
abbrev yMuch (a b : Int64) : Prop := ¬ a = 0 ∧ ¬ b = 0 ∧ 1000000000000 / (if 0 ≤ a then a else -a) < (if 0 ≤ b then b else -b)
def yTim (a b : Int64) : Option Int64 := if yMuch a b then none else some (a * b)
abbrev yCmp (k : Int32) (a b : Int64) : Prop := if k = 5 then a < b else if k = 6 then a ≤ b else if k = 7 then a = b else if k = 8 then ¬ a = b else if k = 9 then b ≤ a else b < a
def yBin (k : Int32) (a b : Int64) : Option Int64 :=
  if k = 3 then some (bL (¬ a = 0 ∧ ¬ b = 0)) else if k = 4 then some (bL (¬ a = 0 ∨ ¬ b = 0)) else if k = 11 then yBnd (a + b) else if k = 12 then yBnd (a - b)
  else if k = 13 then yTim a b else if k = 14 then (if b = 0 then none else some (a / b)) else some (bL (yCmp k a b))
/-- an answer that may be an error: the field isError is e before it -/
def rEr (x : Option Int64) (e : Int32) (I : Nat → Nat → Int32) (L : Nat → Nat → Int64) (P : Nat → Nat → Option Nat) : Option Value → pM → Prop := fun r M => ∃ v e', r = some (.long v) ∧ M = (sI I 134 54 e', L, P) ∧ (e' = 0 ∨ e' = 1) ∧ (¬ e = 0 → e' = 1) ∧ (e = 0 → (x = none → e' = 1) ∧ ∀ y, x = some y → e' = 0 ∧ v = y)
theorem rEr_no {x : Int64} {I : Nat → Nat → Int32} {L : Nat → Nat → Int64} {P : Nat → Nat → Option Nat} (he : I 134 54 = 0 ∨ I 134 54 = 1) : rEr (some x) (I 134 54) I L P (some (.long x)) (I, L, P) :=
  ⟨x, I 134 54, rfl, by rw [sI_same], he, fun h => he.resolve_left h, fun h => ⟨fun h2 => (by cases h2), fun y hy => (by cases hy; exact ⟨h, rfl⟩)⟩⟩
theorem rEr_er {x : Option Int64} {v : Int64} {e : Int32} {I : Nat → Nat → Int32} {L : Nat → Nat → Int64} {P : Nat → Nat → Option Nat} (h : ¬ e = 0 ∨ x = none) : rEr x e I L P (some (.long v)) (sI I 134 54 1, L, P) :=
  ⟨v, 1, rfl, rfl, Or.inr rfl, fun _ => rfl, fun h0 => ⟨fun _ => rfl, fun y hy => (by rcases h with h | h; exact absurd h0 h; rw [h] at hy; cases hy)⟩⟩
theorem rEr_ok {x : Option Int64} {v : Int64} {e : Int32} {I : Nat → Nat → Int32} {L : Nat → Nat → Int64} {P : Nat → Nat → Option Nat} (he : e = 0) (h : x = some v) : rEr x e I L P (some (.long v)) (sI I 134 54 0, L, P) :=
  ⟨v, 0, rfl, rfl, Or.inl rfl, fun h0 => absurd he h0, fun _ => ⟨fun h2 => (by rw [h] at h2; cases h2), fun y hy => (by rw [h] at hy; cases hy; exact ⟨rfl, rfl⟩)⟩⟩

theorem ct_Mo_bounded {sh : List pSh} {I : Nat → Nat → Int32} {L : Nat → Nat → Int64} {P : Nat → Nat → Option Nat} (hA : kA sh P) (n : Int64) : pCn m_Mo_bounded 0 [.ref 134, .long n] sh (I, L, P) (rEr (yBnd n) (I 134 54) I L P) := by
  refine pCn_of (by decide +kernel) (Nat.le_of_ble_eq_true rfl) ?_
  refine pw_aload_n (k4 := 0) rfl (by decide +kernel) ?_
  refine pw_aload_n (k4 := 0) rfl (by decide +kernel) ?_
  refine pq_getI (c := 11) (k := 54) (ks_m hA) (by decide) (by decide) lf_Mo_362 (by decide +kernel) ?_
  refine pw_if_ne (off := 19) (tgt := 24) (by decide +kernel) (by decide +kernel) (fun z5 => ?_) (fun z5 => ?_)
  · refine pw_iconst (n := 1) (v := 1) (by decide) (by decide +kernel) ?_
    refine pw_goto (off := 4) (tgt := 29) (by decide +kernel) (by decide +kernel) ?_
    refine pq_putZ (c := 11) (k := 54) (ks_m hA) (by decide) (by decide) (by decide) lf_Mo_362 (Or.inl rfl) (by decide +kernel) ?_
    refine pw_aload_n (k4 := 0) rfl (by decide +kernel) ?_
    refine pq_getI (c := 11) (k := 54) (ks_m hA) (by decide) (by decide) lf_Mo_362 (by decide +kernel) ?_
    refine pw_if_eq (off := 7) (tgt := 43) (by decide +kernel) (by decide +kernel) (fun z36 => ?_) (fun z36 => ?_)
    · exact absurd (show _ = _ from z36) (by rw [sI_rs]; decide)
    · refine pw_lconst (n := 0) (v := 0) (by decide) (by decide +kernel) ?_
      refine pw_goto (off := 4) (tgt := 44) (by decide +kernel) (by decide +kernel) ?_
      exact pq_lret rfl (by decide +kernel) (rEr_er (Or.inl z5))
  · refine pw_lload_n (k4 := 1) rfl (by decide +kernel) ?_
    refine pw_ldc2 lc_Mo_365 (by decide +kernel) ?_
    refine pw_lcmp (by decide +kernel) ?_
    refine pw_if_gt (off := 11) (tgt := 24) (by decide +kernel) (by decide +kernel) (fun z13 => ?_) (fun z13 => ?_)
    · rw [lgt] at z13
      refine pw_iconst (n := 1) (v := 1) (by decide) (by decide +kernel) ?_
      refine pw_goto (off := 4) (tgt := 29) (by decide +kernel) (by decide +kernel) ?_
      refine pq_putZ (c := 11) (k := 54) (ks_m hA) (by decide) (by decide) (by decide) lf_Mo_362 (Or.inl rfl) (by decide +kernel) ?_
      refine pw_aload_n (k4 := 0) rfl (by decide +kernel) ?_
      refine pq_getI (c := 11) (k := 54) (ks_m hA) (by decide) (by decide) lf_Mo_362 (by decide +kernel) ?_
      refine pw_if_eq (off := 7) (tgt := 43) (by decide +kernel) (by decide +kernel) (fun z36 => ?_) (fun z36 => ?_)
      · exact absurd (show _ = _ from z36) (by rw [sI_rs]; decide)
      · refine pw_lconst (n := 0) (v := 0) (by decide) (by decide +kernel) ?_
        refine pw_goto (off := 4) (tgt := 44) (by decide +kernel) (by decide +kernel) ?_
        exact pq_lret rfl (by decide +kernel) (rEr_er (Or.inr (if_pos (Or.inl z13))))
    · rw [lgt] at z13
      refine pw_lload_n (k4 := 1) rfl (by decide +kernel) ?_
      refine pw_ldc2 lc_Mo_367 (by decide +kernel) ?_
      refine pw_lcmp (by decide +kernel) ?_
      refine pw_if_ge (off := 7) (tgt := 28) (by decide +kernel) (by decide +kernel) (fun z21 => ?_) (fun z21 => ?_)
      · have z21 := z21
        rw [← Int32.not_lt, llt] at z21
        refine pw_iconst (n := 0) (v := 0) (by decide) (by decide +kernel) ?_
        refine pq_putZ (c := 11) (k := 54) (ks_m hA) (by decide) (by decide) (by decide) lf_Mo_362 (Or.inl rfl) (by decide +kernel) ?_
        refine pw_aload_n (k4 := 0) rfl (by decide +kernel) ?_
        refine pq_getI (c := 11) (k := 54) (ks_m hA) (by decide) (by decide) lf_Mo_362 (by decide +kernel) ?_
        refine pw_if_eq (off := 7) (tgt := 43) (by decide +kernel) (by decide +kernel) (fun z36 => ?_) (fun z36 => ?_)
        · refine pw_lload_n (k4 := 1) rfl (by decide +kernel) ?_
          exact pq_lret rfl (by decide +kernel) (rEr_ok z5 (if_neg (fun h => h.elim z13 z21)))
        · exact absurd sI_rs z36
      · have z21 := z21
        rw [← Int32.not_lt, llt] at z21
        refine pw_iconst (n := 1) (v := 1) (by decide) (by decide +kernel) ?_
        refine pw_goto (off := 4) (tgt := 29) (by decide +kernel) (by decide +kernel) ?_
        refine pq_putZ (c := 11) (k := 54) (ks_m hA) (by decide) (by decide) (by decide) lf_Mo_362 (Or.inl rfl) (by decide +kernel) ?_
        refine pw_aload_n (k4 := 0) rfl (by decide +kernel) ?_
        refine pq_getI (c := 11) (k := 54) (ks_m hA) (by decide) (by decide) lf_Mo_362 (by decide +kernel) ?_
        refine pw_if_eq (off := 7) (tgt := 43) (by decide +kernel) (by decide +kernel) (fun z36 => ?_) (fun z36 => ?_)
        · exact absurd (show _ = _ from z36) (by rw [sI_rs]; decide)
        · refine pw_lconst (n := 0) (v := 0) (by decide) (by decide +kernel) ?_
          refine pw_goto (off := 4) (tgt := 44) (by decide +kernel) (by decide +kernel) ?_
          exact pq_lret rfl (by decide +kernel) (rEr_er (Or.inr (if_pos (Or.inr (Decidable.not_not.mp z21)))))
