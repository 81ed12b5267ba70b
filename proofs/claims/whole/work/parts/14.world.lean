/-! ===== the tale's and the world's small methods ===== -/
theorem cLe {x y : Int32} {a b : Nat} (hx : x = nI a) (hy : y = nI b) (ha : a < 2 ^ 31) (hb : b < 2 ^ 31) : x ≤ y ↔ a ≤ b := by rw [hx, hy]; exact nI_leI ha hb
theorem cLt {x y : Int32} {a b : Nat} (hx : x = nI a) (hy : y = nI b) (ha : a < 2 ^ 31) (hb : b < 2 ^ 31) : x < y ↔ a < b := by rw [hx, hy]; exact nI_ltI ha hb
theorem cEq {x y : Int32} {a b : Nat} (hx : x = nI a) (hy : y = nI b) (ha : a < 2 ^ 31) (hb : b < 2 ^ 31) : x = y ↔ a = b := by rw [hx, hy]; exact nI_eq ha hb
def rI (v : Int32) (M : pM) : Option Value → pM → Prop := fun r M' => r = some (.int v) ∧ M' = M
def rL (v : Int64) (M : pM) : Option Value → pM → Prop := fun r M' => r = some (.long v) ∧ M' = M
def rV (M : pM) : Option Value → pM → Prop := fun r M' => r = none ∧ M' = M
/-- a truth as an int -/
def B (c : Prop) [Decidable c] : Int32 := if c then 1 else 0
theorem B_t {c : Prop} [Decidable c] (h : c) : B c = 1 := if_pos h
theorem B_f {c : Prop} [Decidable c] (h : ¬ c) : B c = 0 := if_neg h
theorem B_01 (c : Prop) [Decidable c] : B c = 0 ∨ B c = 1 := by unfold B; split <;> simp
theorem B_0 {c : Prop} [Decidable c] : B c = 0 ↔ ¬ c := by unfold B; split <;> simp_all
theorem B_ne {c : Prop} [Decidable c] : ¬ B c = 0 ↔ c := by unfold B; split <;> simp_all
/-- the first place below n that holds x, or -1 -/
def fFind (f : Nat → Int32) (x : Int32) : Nat → Nat → Int32
  | 0, _ => -1
  | j + 1, k => if f k = x then nI k else fFind f x j (k + 1)

theorem ct_Ta_hasPerson {sh : List pSh} {I : Nat → Nat → Int32} {L : Nat → Nat → Int64} {P : Nat → Nat → Option Nat} (hA : kA sh P) {t : Nat} (ht : t = 3 ∨ t = 30) (s : Int32) : pCn m_Ta_hasPerson 0 [.ref t, .int s] sh (I, L, P) (rI (B (0 ≤ s ∧ s < I t 0)) (I, L, P)) := by
  refine pCn_of (by decide +kernel) (Nat.le_of_ble_eq_true rfl) ?_
  refine pw_iload_n (k4 := 1) rfl (by decide +kernel) ?_
  refine pw_if_lt (off := 15) (tgt := 16) (by decide +kernel) (by decide +kernel) (fun c1 => ?_) (fun c1 => ?_)
  · refine pw_iconst (n := 0) (v := 0) (by decide) (by decide +kernel) ?_
    exact pq_zret rfl (by decide) (by decide +kernel) ⟨congrArg (fun z => some (Value.int z)) (by first | exact (B_t ⟨Int32.not_lt.mp c1, Int32.not_le.mp c2⟩).symm | exact (B_f (fun q => Int32.not_le.mpr c1 q.1)).symm | exact (B_f (fun q => Int32.not_lt.mpr c2 q.2)).symm), rfl⟩
  · refine pw_iload_n (k4 := 1) rfl (by decide +kernel) ?_
    refine pw_aload_n (k4 := 0) rfl (by decide +kernel) ?_
    refine pq_getI (c := 7) (k := 0) (ks_t hA ht) (by decide) (by decide) lf_Ta_68 (by decide +kernel) ?_
    refine pw_icmp_ge (off := 7) (tgt := 16) (by decide +kernel) (by decide +kernel) (fun c2 => ?_) (fun c2 => ?_)
    · refine pw_iconst (n := 0) (v := 0) (by decide) (by decide +kernel) ?_
      exact pq_zret rfl (by decide) (by decide +kernel) ⟨congrArg (fun z => some (Value.int z)) (by first | exact (B_t ⟨Int32.not_lt.mp c1, Int32.not_le.mp c2⟩).symm | exact (B_f (fun q => Int32.not_le.mpr c1 q.1)).symm | exact (B_f (fun q => Int32.not_lt.mpr c2 q.2)).symm), rfl⟩
    · refine pw_iconst (n := 1) (v := 1) (by decide) (by decide +kernel) ?_
      refine pw_goto (off := 4) (tgt := 17) (by decide +kernel) (by decide +kernel) ?_
      exact pq_zret rfl (by decide) (by decide +kernel) ⟨congrArg (fun z => some (Value.int z)) (by first | exact (B_t ⟨Int32.not_lt.mp c1, Int32.not_le.mp c2⟩).symm | exact (B_f (fun q => Int32.not_le.mpr c1 q.1)).symm | exact (B_f (fun q => Int32.not_lt.mpr c2 q.2)).symm), rfl⟩

theorem ct_Ta_hasShoe {sh : List pSh} {I : Nat → Nat → Int32} {L : Nat → Nat → Int64} {P : Nat → Nat → Option Nat} (hA : kA sh P) {t : Nat} (ht : t = 3 ∨ t = 30) (s : Int32) : pCn m_Ta_hasShoe 0 [.ref t, .int s] sh (I, L, P) (rI (B (0 ≤ s ∧ s < I t 6)) (I, L, P)) := by
  refine pCn_of (by decide +kernel) (Nat.le_of_ble_eq_true rfl) ?_
  refine pw_iload_n (k4 := 1) rfl (by decide +kernel) ?_
  refine pw_if_lt (off := 15) (tgt := 16) (by decide +kernel) (by decide +kernel) (fun c1 => ?_) (fun c1 => ?_)
  · refine pw_iconst (n := 0) (v := 0) (by decide) (by decide +kernel) ?_
    exact pq_zret rfl (by decide) (by decide +kernel) ⟨congrArg (fun z => some (Value.int z)) (by first | exact (B_t ⟨Int32.not_lt.mp c1, Int32.not_le.mp c2⟩).symm | exact (B_f (fun q => Int32.not_le.mpr c1 q.1)).symm | exact (B_f (fun q => Int32.not_lt.mpr c2 q.2)).symm), rfl⟩
  · refine pw_iload_n (k4 := 1) rfl (by decide +kernel) ?_
    refine pw_aload_n (k4 := 0) rfl (by decide +kernel) ?_
    refine pq_getI (c := 7) (k := 6) (ks_t hA ht) (by decide) (by decide) lf_Ta_72 (by decide +kernel) ?_
    refine pw_icmp_ge (off := 7) (tgt := 16) (by decide +kernel) (by decide +kernel) (fun c2 => ?_) (fun c2 => ?_)
    · refine pw_iconst (n := 0) (v := 0) (by decide) (by decide +kernel) ?_
      exact pq_zret rfl (by decide) (by decide +kernel) ⟨congrArg (fun z => some (Value.int z)) (by first | exact (B_t ⟨Int32.not_lt.mp c1, Int32.not_le.mp c2⟩).symm | exact (B_f (fun q => Int32.not_le.mpr c1 q.1)).symm | exact (B_f (fun q => Int32.not_lt.mpr c2 q.2)).symm), rfl⟩
    · refine pw_iconst (n := 1) (v := 1) (by decide) (by decide +kernel) ?_
      refine pw_goto (off := 4) (tgt := 17) (by decide +kernel) (by decide +kernel) ?_
      exact pq_zret rfl (by decide) (by decide +kernel) ⟨congrArg (fun z => some (Value.int z)) (by first | exact (B_t ⟨Int32.not_lt.mp c1, Int32.not_le.mp c2⟩).symm | exact (B_f (fun q => Int32.not_le.mpr c1 q.1)).symm | exact (B_f (fun q => Int32.not_lt.mpr c2 q.2)).symm), rfl⟩
