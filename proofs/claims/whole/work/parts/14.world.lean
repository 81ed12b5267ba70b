/-! ===== the tale's and the world's small methods ===== -/
theorem cLe {x y : Int32} {a b : Nat} (hx : x = nI a) (hy : y = nI b) (ha : a < 2 ^ 31) (hb : b < 2 ^ 31) : x ≤ y ↔ a ≤ b := by rw [hx, hy]; exact nI_leI ha hb
theorem cLt {x y : Int32} {a b : Nat} (hx : x = nI a) (hy : y = nI b) (ha : a < 2 ^ 31) (hb : b < 2 ^ 31) : x < y ↔ a < b := by rw [hx, hy]; exact nI_ltI ha hb
theorem cEq {x y : Int32} {a b : Nat} (hx : x = nI a) (hy : y = nI b) (ha : a < 2 ^ 31) (hb : b < 2 ^ 31) : x = y ↔ a = b := by rw [hx, hy]; exact nI_eq ha hb
def rI (v : Int32) (M : pM) : Option Value → pM → Prop := fun r M' => r = some (.int v) ∧ M' = M
def rL (v : Int64) (M : pM) : Option Value → pM → Prop := fun r M' => r = some (.long v) ∧ M' = M
def rV (M : pM) : Option Value → pM → Prop := fun r M' => r = none ∧ M' = M
/-- a truth as an int -/
def B (c : Prop) [Decidable c] : Int32 := if c then 1 else 0
theorem B_t {c : Prop} [Decidable c] (h : c) : B c = 1 := if_pos h
theorem B_f {c : Prop} [Decidable c] (h : ¬ c) : B c = 0 := if_neg h
theorem B_01 (c : Prop) [Decidable c] : B c = 0 ∨ B c = 1 := by unfold B; split <;> simp
theorem B_0 {c : Prop} [Decidable c] : B c = 0 ↔ ¬ c := by unfold B; split <;> simp_all
theorem B_ne {c : Prop} [Decidable c] : ¬ B c = 0 ↔ c := by unfold B; split <;> simp_all
/-- the first place below n that holds x, or -1 -/
def fFind (f : Nat → Int32) (x : Int32) : Nat → Nat → Int32
  | 0, _ => -1
  | j + 1, k => if f k = x then nI k else fFind f x j (k + 1)

theorem ct_Ta_hasPerson {sh : List pSh} {I : Nat → Nat → Int32} {L : Nat → Nat → Int64} {P : Nat → Nat → Option Nat} (hA : kA sh P) {t : Nat} (ht : t = 3 ∨ t = 30) (s : Int32) : pCn m_Ta_hasPerson 0 [.ref t, .int s] sh (I, L, P) (rI (B (0 ≤ s ∧ s < I t 0)) (I, L, P)) := by
  refine pCn_of (by decide +kernel) (Nat.le_of_ble_eq_true rfl) ?_
  refine pw_iload_n (k4 := 1) rfl (by decide +kernel) ?_
  refine pw_if_lt (off := 15) (tgt := 16) (by decide +kernel) (by decide +kernel) (fun z1 => ?_) (fun z1 => ?_)
  · refine pw_iconst (n := 0) (v := 0) (by decide) (by decide +kernel) ?_
    exact pq_zret rfl (by decide) (by decide +kernel) ⟨congrArg (fun z => some (Value.int z)) (by first | exact (B_t ⟨Int32.not_lt.mp z1, Int32.not_le.mp z9⟩).symm | exact (B_f (fun q => Int32.not_le.mpr z1 q.1)).symm | exact (B_f (fun q => Int32.not_lt.mpr z9 q.2)).symm), rfl⟩
  · refine pw_iload_n (k4 := 1) rfl (by decide +kernel) ?_
    refine pw_aload_n (k4 := 0) rfl (by decide +kernel) ?_
    refine pq_getI (c := 7) (k := 0) (ks_t hA ht) (by decide) (by decide) lf_Ta_68 (by decide +kernel) ?_
    refine pw_icmp_ge (off := 7) (tgt := 16) (by decide +kernel) (by decide +kernel) (fun z9 => ?_) (fun z9 => ?_)
    · refine pw_iconst (n := 0) (v := 0) (by decide) (by decide +kernel) ?_
      exact pq_zret rfl (by decide) (by decide +kernel) ⟨congrArg (fun z => some (Value.int z)) (by first | exact (B_t ⟨Int32.not_lt.mp z1, Int32.not_le.mp z9⟩).symm | exact (B_f (fun q => Int32.not_le.mpr z1 q.1)).symm | exact (B_f (fun q => Int32.not_lt.mpr z9 q.2)).symm), rfl⟩
    · refine pw_iconst (n := 1) (v := 1) (by decide) (by decide +kernel) ?_
      refine pw_goto (off := 4) (tgt := 17) (by decide +kernel) (by decide +kernel) ?_
      exact pq_zret rfl (by decide) (by decide +kernel) ⟨congrArg (fun z => some (Value.int z)) (by first | exact (B_t ⟨Int32.not_lt.mp z1, Int32.not_le.mp z9⟩).symm | exact (B_f (fun q => Int32.not_le.mpr z1 q.1)).symm | exact (B_f (fun q => Int32.not_lt.mpr z9 q.2)).symm), rfl⟩

theorem ct_Ta_hasShoe {sh : List pSh} {I : Nat → Nat → Int32} {L : Nat → Nat → Int64} {P : Nat → Nat → Option Nat} (hA : kA sh P) {t : Nat} (ht : t = 3 ∨ t = 30) (s : Int32) : pCn m_Ta_hasShoe 0 [.ref t, .int s] sh (I, L, P) (rI (B (0 ≤ s ∧ s < I t 6)) (I, L, P)) := by
  refine pCn_of (by decide +kernel) (Nat.le_of_ble_eq_true rfl) ?_
  refine pw_iload_n (k4 := 1) rfl (by decide +kernel) ?_
  refine pw_if_lt (off := 15) (tgt := 16) (by decide +kernel) (by decide +kernel) (fun z1 => ?_) (fun z1 => ?_)
  · refine pw_iconst (n := 0) (v := 0) (by decide) (by decide +kernel) ?_
    exact pq_zret rfl (by decide) (by decide +kernel) ⟨congrArg (fun z => some (Value.int z)) (by first | exact (B_t ⟨Int32.not_lt.mp z1, Int32.not_le.mp z9⟩).symm | exact (B_f (fun q => Int32.not_le.mpr z1 q.1)).symm | exact (B_f (fun q => Int32.not_lt.mpr z9 q.2)).symm), rfl⟩
  · refine pw_iload_n (k4 := 1) rfl (by decide +kernel) ?_
    refine pw_aload_n (k4 := 0) rfl (by decide +kernel) ?_
    refine pq_getI (c := 7) (k := 6) (ks_t hA ht) (by decide) (by decide) lf_Ta_72 (by decide +kernel) ?_
    refine pw_icmp_ge (off := 7) (tgt := 16) (by decide +kernel) (by decide +kernel) (fun z9 => ?_) (fun z9 => ?_)
    · refine pw_iconst (n := 0) (v := 0) (by decide) (by decide +kernel) ?_
      exact pq_zret rfl (by decide) (by decide +kernel) ⟨congrArg (fun z => some (Value.int z)) (by first | exact (B_t ⟨Int32.not_lt.mp z1, Int32.not_le.mp z9⟩).symm | exact (B_f (fun q => Int32.not_le.mpr z1 q.1)).symm | exact (B_f (fun q => Int32.not_lt.mpr z9 q.2)).symm), rfl⟩
    · refine pw_iconst (n := 1) (v := 1) (by decide) (by decide +kernel) ?_
      refine pw_goto (off := 4) (tgt := 17) (by decide +kernel) (by decide +kernel) ?_
      exact pq_zret rfl (by decide) (by decide +kernel) ⟨congrArg (fun z => some (Value.int z)) (by first | exact (B_t ⟨Int32.not_lt.mp z1, Int32.not_le.mp z9⟩).symm | exact (B_f (fun q => Int32.not_le.mpr z1 q.1)).symm | exact (B_f (fun q => Int32.not_lt.mpr z9 q.2)).symm), rfl⟩

theorem n2 (p : Nat) : (2 : Int32) * nI p = nI (2 * p) := pk_mul 2 p
theorem n21 (p : Nat) : (2 : Int32) * nI p + 1 = nI (2 * p + 1) := by rw [n2]; exact nI_1 _
theorem n0 : (0 : Int32) = nI 0 := rfl
theorem nIn {s x : Int32} {n : Nat} (hx : x = nI n) (hn : n < 2 ^ 31) (h : 0 ≤ s ∧ s < x) : ∃ j, j < n ∧ s = nI j := by
  obtain ⟨j, hj, rfl⟩ := nI_of (Int32.not_lt.mpr h.1)
  rw [hx] at h
  exact ⟨j, (nI_ltI hj hn).mp h.2, rfl⟩
theorem nVal {n j : Nat} {x : Int32} (hx : x = nI n) (hn : n < 2 ^ 31) (hj : j < n) : 0 ≤ nI j ∧ nI j < x := by
  rw [hx]
  exact ⟨nI_pos' (by omega), nI_lt hj hn⟩
def ixn (s : Int32) : Nat := s.toNatClampNeg
theorem ixn_nI {j : Nat} (h : j < 2 ^ 31) : ixn (nI j) = j := nI_clamp h
/-- an array becomes another -/
def aU (I : Nat → Nat → Int32) (a : Nat) (f : Nat → Int32) : Nat → Nat → Int32 := va_up I a f
theorem sI_aU (I : Nat → Nat → Int32) (a k : Nat) (x : Int32) : sI I a k x = aU I a (upd (I a) k x) := rfl
theorem aU_eq (I : Nat → Nat → Int32) (a : Nat) (f : Nat → Int32) : aU I a f a = f := va_up_eq2 _ _ _
theorem aU_ne {I : Nat → Nat → Int32} {a b : Nat} {f : Nat → Int32} (h : b ≠ a) : aU I a f b = I b := va_up_ne2 _ _ h
theorem aU_aU (I : Nat → Nat → Int32) (a : Nat) (f g : Nat → Int32) : aU (aU I a f) a g = aU I a g := by
  funext b
  by_cases h : b = a
  · subst h; rw [aU_eq, aU_eq]
  · rw [aU_ne h, aU_ne h, aU_ne h]
theorem aU_self (I : Nat → Nat → Int32) (a : Nat) : aU I a (I a) = I := by
  funext b
  by_cases h : b = a
  · subst h; rw [aU_eq]
  · rw [aU_ne h]
theorem sI_aU2 (I : Nat → Nat → Int32) (a k : Nat) (f : Nat → Int32) (x : Int32) : sI (aU I a f) a k x = aU I a (upd f k x) := by rw [sI_aU, aU_aU, aU_eq]
/-- how many persons, shoes, debts the tale at t has -/
def tOK (I : Nat → Nat → Int32) (t np ns nd : Nat) : Prop := I t 0 = nI np ∧ np ≤ 5 ∧ I t 6 = nI ns ∧ ns ≤ 16 ∧ I t 12 = nI nd ∧ nd ≤ 8
abbrev xHasS (I : Nat → Nat → Int32) (t : Nat) (s : Int32) : Prop := 0 ≤ s ∧ s < I t 6
abbrev xHasP (I : Nat → Nat → Int32) (t : Nat) (s : Int32) : Prop := 0 ≤ s ∧ s < I t 0
abbrev xThere (I : Nat → Nat → Int32) (t w : Nat) (s : Int32) : Prop := xHasS I t s ∧ I (w + 3) (ixn s) ≠ -2
abbrev xPairs (I : Nat → Nat → Int32) (t w : Nat) (l r : Int32) : Prop := xThere I t w l ∧ xThere I t w r ∧ I (w + 1) (ixn l) = 0 ∧ I (w + 1) (ixn r) = 1

theorem ct_Wo_isThere {sh : List pSh} {I : Nat → Nat → Int32} {L : Nat → Nat → Int64} {P : Nat → Nat → Option Nat} (hA : kA sh P) {w t : Nat} (hw : w = 62 ∨ w = 68 ∨ w = 74) (ht : t = 3 ∨ t = 30) (hwt : P w 0 = some t) {np ns nd : Nat} (hn : tOK I t np ns nd) (s : Int32) : pCn m_Wo_isThere 1 [.ref w, .int s] sh (I, L, P) (rI (B (xThere I t w s)) (I, L, P)) := by
  refine pCn_of (by decide +kernel) (Nat.le_of_ble_eq_true rfl) ?_
  refine pw_aload_n (k4 := 0) rfl (by decide +kernel) ?_
  refine pq_getP (c := 9) (k := 0) (ks_w hA hw) (by decide) (by decide) hwt lf_Wo_29 (by decide +kernel) ?_
  refine pw_iload_n (k4 := 1) rfl (by decide +kernel) ?_
  refine pq_callV (ν := m_Ta_hasShoe) (d' := 0) (av := [_]) (c := 7) (by decide +kernel) lm_Wo_58 ok_Ta_hasShoe (show _ = some 1 by decide +kernel) (ks_t hA ht) rfl (by decide) (by omega) (Nat.le_of_ble_eq_true rfl) (ct_Ta_hasShoe hA ht _) ?_
  rintro _ _ ⟨rfl, rfl⟩
  refine pw_if_eq (off := 18) (tgt := 26) (by decide +kernel) (by decide +kernel) (fun z8 => ?_) (fun z8 => ?_)
  · refine pw_iconst (n := 0) (v := 0) (by decide) (by decide +kernel) ?_
    exact pq_zret rfl (by decide) (by decide +kernel) ⟨congrArg (fun z => some (Value.int z)) (by first | exact (B_t ⟨hv, by rw [ixn_nI (by omega)]; exact z19⟩).symm | exact (B_f (fun q => B_0.mp z8 q.1)).symm | exact (B_f (fun q => q.2 (by rw [ixn_nI (by omega)]; exact z19))).symm), rfl⟩
  · have hv := B_ne.mp z8
    obtain ⟨j, hj, rfl⟩ := nIn hn.2.2.1 (by have := hn.2.2.2.1; omega) hv
    have h16 := hn.2.2.2.1
    refine pw_aload_n (k4 := 0) rfl (by decide +kernel) ?_
    refine pq_getP (c := 9) (k := 6) (ks_w hA hw) (by decide) (by decide) (kp_w_owner hA hw) lf_Wo_20 (by decide +kernel) ?_
    refine pw_iload_n (k4 := 1) rfl (by decide +kernel) ?_
    refine pq_iald j rfl (by omega) (by decide) (ks_w_owner hA hw) (by decide +kernel) ?_
    refine pw_bipush (n := -2) (v := -2) (by decide) (by decide +kernel) ?_
    refine pw_icmp_eq (off := 7) (tgt := 26) (by decide +kernel) (by decide +kernel) (fun z19 => ?_) (fun z19 => ?_)
    · refine pw_iconst (n := 0) (v := 0) (by decide) (by decide +kernel) ?_
      exact pq_zret rfl (by decide) (by decide +kernel) ⟨congrArg (fun z => some (Value.int z)) (by first | exact (B_t ⟨hv, by rw [ixn_nI (by omega)]; exact z19⟩).symm | exact (B_f (fun q => B_0.mp z8 q.1)).symm | exact (B_f (fun q => q.2 (by rw [ixn_nI (by omega)]; exact z19))).symm), rfl⟩
    · refine pw_iconst (n := 1) (v := 1) (by decide) (by decide +kernel) ?_
      refine pw_goto (off := 4) (tgt := 27) (by decide +kernel) (by decide +kernel) ?_
      exact pq_zret rfl (by decide) (by decide +kernel) ⟨congrArg (fun z => some (Value.int z)) (by first | exact (B_t ⟨hv, by rw [ixn_nI (by omega)]; exact z19⟩).symm | exact (B_f (fun q => B_0.mp z8 q.1)).symm | exact (B_f (fun q => q.2 (by rw [ixn_nI (by omega)]; exact z19))).symm), rfl⟩

theorem ct_Wo_arePair {sh : List pSh} {I : Nat → Nat → Int32} {L : Nat → Nat → Int64} {P : Nat → Nat → Option Nat} (hA : kA sh P) {w t : Nat} (hw : w = 62 ∨ w = 68 ∨ w = 74) (ht : t = 3 ∨ t = 30) (hwt : P w 0 = some t) {np ns nd : Nat} (hn : tOK I t np ns nd) (l r : Int32) : pCn m_Wo_arePair 2 [.ref w, .int l, .int r] sh (I, L, P) (rI (B (xPairs I t w l r)) (I, L, P)) := by
  refine pCn_of (by decide +kernel) (Nat.le_of_ble_eq_true rfl) ?_
  refine pw_aload_n (k4 := 0) rfl (by decide +kernel) ?_
  refine pw_iload_n (k4 := 1) rfl (by decide +kernel) ?_
  refine pq_callV (ν := m_Wo_isThere) (d' := 1) (av := [_]) (c := 9) (by decide +kernel) lm_Wo_62 ok_Wo_isThere (show _ = some 1 by decide +kernel) (ks_w hA hw) rfl (by decide) (by omega) (Nat.le_of_ble_eq_true rfl) (ct_Wo_isThere hA hw ht hwt hn _) ?_
  rintro _ _ ⟨rfl, rfl⟩
  refine pw_if_eq (off := 34) (tgt := 39) (by decide +kernel) (by decide +kernel) (fun z5 => ?_) (fun z5 => ?_)
  · refine pw_iconst (n := 0) (v := 0) (by decide) (by decide +kernel) ?_
    exact pq_zret rfl (by decide) (by decide +kernel) ⟨congrArg (fun z => some (Value.int z)) (by first | exact (B_t ⟨hv, hw2, by rw [ixn_nI (by omega)]; exact z22, by rw [ixn_nI (by omega)]; exact z32⟩).symm | exact (B_f (fun q => B_0.mp z5 q.1)).symm | exact (B_f (fun q => B_0.mp z13 q.2.1)).symm | exact (B_f (fun q => z22 (by have := q.2.2.1; rwa [ixn_nI (by omega)] at this))).symm | exact (B_f (fun q => z32 (by have := q.2.2.2; rwa [ixn_nI (by omega)] at this))).symm), rfl⟩
  · have hv := B_ne.mp z5
    obtain ⟨i, hi, rfl⟩ := nIn hn.2.2.1 (by have := hn.2.2.2.1; omega) hv.1
    have h16 := hn.2.2.2.1
    refine pw_aload_n (k4 := 0) rfl (by decide +kernel) ?_
    refine pw_iload_n (k4 := 2) rfl (by decide +kernel) ?_
    refine pq_callV (ν := m_Wo_isThere) (d' := 1) (av := [_]) (c := 9) (by decide +kernel) lm_Wo_62 ok_Wo_isThere (show _ = some 1 by decide +kernel) (ks_w hA hw) rfl (by decide) (by omega) (Nat.le_of_ble_eq_true rfl) (ct_Wo_isThere hA hw ht hwt hn _) ?_
    rintro _ _ ⟨rfl, rfl⟩
    refine pw_if_eq (off := 26) (tgt := 39) (by decide +kernel) (by decide +kernel) (fun z13 => ?_) (fun z13 => ?_)
    · refine pw_iconst (n := 0) (v := 0) (by decide) (by decide +kernel) ?_
      exact pq_zret rfl (by decide) (by decide +kernel) ⟨congrArg (fun z => some (Value.int z)) (by first | exact (B_t ⟨hv, hw2, by rw [ixn_nI (by omega)]; exact z22, by rw [ixn_nI (by omega)]; exact z32⟩).symm | exact (B_f (fun q => B_0.mp z5 q.1)).symm | exact (B_f (fun q => B_0.mp z13 q.2.1)).symm | exact (B_f (fun q => z22 (by have := q.2.2.1; rwa [ixn_nI (by omega)] at this))).symm | exact (B_f (fun q => z32 (by have := q.2.2.2; rwa [ixn_nI (by omega)] at this))).symm), rfl⟩
    · have hw2 := B_ne.mp z13
      obtain ⟨j, hj, rfl⟩ := nIn hn.2.2.1 (by omega) hw2.1
      refine pw_aload_n (k4 := 0) rfl (by decide +kernel) ?_
      refine pq_getP (c := 9) (k := 4) (ks_w hA hw) (by decide) (by decide) (kp_w_side hA hw) lf_Wo_11 (by decide +kernel) ?_
      refine pw_iload_n (k4 := 1) rfl (by decide +kernel) ?_
      refine pq_iald i rfl (by omega) (by decide) (ks_w_side hA hw) (by decide +kernel) ?_
      refine pw_if_ne (off := 17) (tgt := 39) (by decide +kernel) (by decide +kernel) (fun z22 => ?_) (fun z22 => ?_)
      · refine pw_iconst (n := 0) (v := 0) (by decide) (by decide +kernel) ?_
        exact pq_zret rfl (by decide) (by decide +kernel) ⟨congrArg (fun z => some (Value.int z)) (by first | exact (B_t ⟨hv, hw2, by rw [ixn_nI (by omega)]; exact z22, by rw [ixn_nI (by omega)]; exact z32⟩).symm | exact (B_f (fun q => B_0.mp z5 q.1)).symm | exact (B_f (fun q => B_0.mp z13 q.2.1)).symm | exact (B_f (fun q => z22 (by have := q.2.2.1; rwa [ixn_nI (by omega)] at this))).symm | exact (B_f (fun q => z32 (by have := q.2.2.2; rwa [ixn_nI (by omega)] at this))).symm), rfl⟩
      · refine pw_aload_n (k4 := 0) rfl (by decide +kernel) ?_
        refine pq_getP (c := 9) (k := 4) (ks_w hA hw) (by decide) (by decide) (kp_w_side hA hw) lf_Wo_11 (by decide +kernel) ?_
        refine pw_iload_n (k4 := 2) rfl (by decide +kernel) ?_
        refine pq_iald j rfl (by omega) (by decide) (ks_w_side hA hw) (by decide +kernel) ?_
        refine pw_iconst (n := 1) (v := 1) (by decide) (by decide +kernel) ?_
        refine pw_icmp_ne (off := 7) (tgt := 39) (by decide +kernel) (by decide +kernel) (fun z32 => ?_) (fun z32 => ?_)
        · refine pw_iconst (n := 0) (v := 0) (by decide) (by decide +kernel) ?_
          exact pq_zret rfl (by decide) (by decide +kernel) ⟨congrArg (fun z => some (Value.int z)) (by first | exact (B_t ⟨hv, hw2, by rw [ixn_nI (by omega)]; exact z22, by rw [ixn_nI (by omega)]; exact z32⟩).symm | exact (B_f (fun q => B_0.mp z5 q.1)).symm | exact (B_f (fun q => B_0.mp z13 q.2.1)).symm | exact (B_f (fun q => z22 (by have := q.2.2.1; rwa [ixn_nI (by omega)] at this))).symm | exact (B_f (fun q => z32 (by have := q.2.2.2; rwa [ixn_nI (by omega)] at this))).symm), rfl⟩
        · refine pw_iconst (n := 1) (v := 1) (by decide) (by decide +kernel) ?_
          refine pw_goto (off := 4) (tgt := 40) (by decide +kernel) (by decide +kernel) ?_
          exact pq_zret rfl (by decide) (by decide +kernel) ⟨congrArg (fun z => some (Value.int z)) (by first | exact (B_t ⟨hv, hw2, by rw [ixn_nI (by omega)]; exact z22, by rw [ixn_nI (by omega)]; exact z32⟩).symm | exact (B_f (fun q => B_0.mp z5 q.1)).symm | exact (B_f (fun q => B_0.mp z13 q.2.1)).symm | exact (B_f (fun q => z22 (by have := q.2.2.1; rwa [ixn_nI (by omega)] at this))).symm | exact (B_f (fun q => z32 (by have := q.2.2.2; rwa [ixn_nI (by omega)] at this))).symm), rfl⟩
