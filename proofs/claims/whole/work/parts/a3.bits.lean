/-! ===== bits and counts ===== -/
def cbN (v : Nat) : Nat → Nat
  | 0 => 0
  | k + 1 => cbN v k + v / 2 ^ k % 2
def cbF (v : Nat) : Nat := Nat.add (Nat.add (Nat.add (Nat.add (Nat.add (Nat.add (Nat.add (Nat.add (Nat.add (Nat.add (Nat.add (Nat.add (Nat.add (Nat.add (Nat.add (Nat.add (0) (Nat.mod (Nat.div v 1) 2)) (Nat.mod (Nat.div v 2) 2)) (Nat.mod (Nat.div v 4) 2)) (Nat.mod (Nat.div v 8) 2)) (Nat.mod (Nat.div v 16) 2)) (Nat.mod (Nat.div v 32) 2)) (Nat.mod (Nat.div v 64) 2)) (Nat.mod (Nat.div v 128) 2)) (Nat.mod (Nat.div v 256) 2)) (Nat.mod (Nat.div v 512) 2)) (Nat.mod (Nat.div v 1024) 2)) (Nat.mod (Nat.div v 2048) 2)) (Nat.mod (Nat.div v 4096) 2)) (Nat.mod (Nat.div v 8192) 2)) (Nat.mod (Nat.div v 16384) 2)) (Nat.mod (Nat.div v 32768) 2)
theorem cbF_eq (v : Nat) : cbF v = cbN v 16 := rfl
def eB1 (v : Nat) : Nat := Nat.mod (Nat.add (Nat.sub 4294967296 (Nat.land (Nat.shiftRight v 1) 1431655765)) v) 4294967296
def eB2 (v : Nat) : Nat := Nat.mod (Nat.add (Nat.land v 858993459) (Nat.land (Nat.shiftRight v 2) 858993459)) 4294967296
def eB4 (v : Nat) : Nat := Nat.land (Nat.mod (Nat.add v (Nat.shiftRight v 4)) 4294967296) 252645135
def eB8 (v : Nat) : Nat := Nat.mod (Nat.add v (Nat.shiftRight v 8)) 4294967296
def eB16 (v : Nat) : Nat := Nat.land (Nat.mod (Nat.add v (Nat.shiftRight v 16)) 4294967296) 63
def ck : Nat → Nat → Bool
  | 0, _ => true
  | k + 1, v => bif Nat.beq (eB16 (eB8 (eB4 (eB2 (eB1 v))))) (cbF v) then ck k (Nat.succ v) else false
theorem ck_ok : ∀ (k v u : Nat), ck k v = true → v ≤ u → u < v + k → eB16 (eB8 (eB4 (eB2 (eB1 u)))) = cbF u
  | 0, v, u, _, h1, h2 => absurd h2 (by omega)
  | k + 1, v, u, h, h1, h2 => by
    unfold ck at h
    cases hb : Nat.beq (eB16 (eB8 (eB4 (eB2 (eB1 v))))) (cbF v) with
    | false => rw [hb] at h; cases h
    | true =>
      rw [hb] at h
      by_cases e : u = v
      · subst e; exact Nat.eq_of_beq_eq_true hb
      · exact ck_ok k (Nat.succ v) u h (Nat.lt_of_le_of_ne h1 (Ne.symm e)) (by show u < v + 1 + k; omega)
theorem ck_0 : ck 4096 0 = true := by decide +kernel
theorem ck_1 : ck 4096 4096 = true := by decide +kernel
theorem ck_2 : ck 4096 8192 = true := by decide +kernel
theorem ck_3 : ck 4096 12288 = true := by decide +kernel
theorem ck_4 : ck 4096 16384 = true := by decide +kernel
theorem ck_5 : ck 4096 20480 = true := by decide +kernel
theorem ck_6 : ck 4096 24576 = true := by decide +kernel
theorem ck_7 : ck 4096 28672 = true := by decide +kernel
theorem ck_8 : ck 4096 32768 = true := by decide +kernel
theorem ck_9 : ck 4096 36864 = true := by decide +kernel
theorem ck_10 : ck 4096 40960 = true := by decide +kernel
theorem ck_11 : ck 4096 45056 = true := by decide +kernel
theorem ck_12 : ck 4096 49152 = true := by decide +kernel
theorem ck_13 : ck 4096 53248 = true := by decide +kernel
theorem ck_14 : ck 4096 57344 = true := by decide +kernel
theorem ck_15 : ck 4096 61440 = true := by decide +kernel
theorem ck_all : ∀ c, c < 16 → ck 4096 (4096 * c) = true
  | 0, _ => ck_0
  | 1, _ => ck_1
  | 2, _ => ck_2
  | 3, _ => ck_3
  | 4, _ => ck_4
  | 5, _ => ck_5
  | 6, _ => ck_6
  | 7, _ => ck_7
  | 8, _ => ck_8
  | 9, _ => ck_9
  | 10, _ => ck_10
  | 11, _ => ck_11
  | 12, _ => ck_12
  | 13, _ => ck_13
  | 14, _ => ck_14
  | 15, _ => ck_15
  | c + 16, h => absurd h (by omega)
theorem eB1_ok (x : Int32) : (xBc1 x).toBitVec.toNat = eB1 x.toBitVec.toNat := by
  unfold xBc1 eB1
  rw [Int32.toBitVec_sub, BitVec.toNat_sub, Int32.toBitVec_and, BitVec.toNat_and]
  rfl
theorem eB2_ok (x : Int32) : (xBc2 x).toBitVec.toNat = eB2 x.toBitVec.toNat := by
  unfold xBc2 eB2
  rw [Int32.toBitVec_add, BitVec.toNat_add, Int32.toBitVec_and, BitVec.toNat_and, Int32.toBitVec_and, BitVec.toNat_and]
  rfl
theorem eB4_ok (x : Int32) : (xBc4 x).toBitVec.toNat = eB4 x.toBitVec.toNat := by
  unfold xBc4 eB4
  rw [Int32.toBitVec_and, BitVec.toNat_and, Int32.toBitVec_add, BitVec.toNat_add]
  rfl
theorem eB8_ok (x : Int32) : (xBc8 x).toBitVec.toNat = eB8 x.toBitVec.toNat := by
  unfold xBc8 eB8
  rw [Int32.toBitVec_add, BitVec.toNat_add]
  rfl
theorem eB16_ok (x : Int32) : (xBc16 x &&& 63).toBitVec.toNat = eB16 x.toBitVec.toNat := by
  unfold xBc16 eB16
  rw [Int32.toBitVec_and, BitVec.toNat_and, Int32.toBitVec_add, BitVec.toNat_add]
  rfl
theorem cbN_le (v : Nat) : ∀ k, cbN v k ≤ k
  | 0 => Nat.le_refl _
  | k + 1 => by
    show cbN v k + v / 2 ^ k % 2 ≤ k + 1
    have := Nat.mod_lt (v / 2 ^ k) (show 2 > 0 by decide)
    have := cbN_le v k
    omega
theorem xBc_nI {v : Nat} (h : v < 65536) : xBc (nI v) = nI (cbN v 16) := by
  apply Int32.toBitVec_inj.mp
  apply BitVec.eq_of_toNat_eq
  have e0 : (nI v).toBitVec.toNat = v := by
    show v % 2 ^ 32 = v
    omega
  have e1 : (xBc (nI v)).toBitVec.toNat = eB16 (eB8 (eB4 (eB2 (eB1 v)))) := by
    unfold xBc
    rw [eB16_ok, eB8_ok, eB4_ok, eB2_ok, eB1_ok, e0]
  have e2 := ck_ok 4096 (4096 * (v / 4096)) v (ck_all (v / 4096) (by omega)) (by omega) (by omega)
  rw [e1, e2, cbF_eq]
  show _ = cbN v 16 % 2 ^ 32
  have := cbN_le v 16
  omega
theorem cbN_add {s n : Nat} (hs : s < 2 ^ n) : ∀ k, cbN (s + 2 ^ n) k = cbN s k + (if n < k then 1 else 0)
  | 0 => by rw [if_neg (by omega)]; rfl
  | k + 1 => by
    show cbN (s + 2 ^ n) k + (s + 2 ^ n) / 2 ^ k % 2 = cbN s k + s / 2 ^ k % 2 + _
    rw [cbN_add hs k]
    rcases Nat.lt_trichotomy k n with h | h | h
    · have e : 2 ^ n = 2 ^ k * (2 * 2 ^ (n - k - 1)) := by
        rw [← Nat.mul_assoc, ← Nat.pow_succ, ← Nat.pow_add]
        congr 1
        omega
      rw [if_neg (by omega), if_neg (by omega), e, Nat.add_mul_div_left _ _ (Nat.two_pow_pos k), Nat.add_mul_mod_self_left, Nat.add_zero, Nat.add_zero]
    · subst h
      rw [if_neg (by omega), if_pos (by omega), Nat.add_div_right _ (Nat.two_pow_pos k), Nat.div_eq_of_lt hs]
    · have h2 : 2 ^ (n + 1) ≤ 2 ^ k := Nat.pow_le_pow_right (by decide) h
      rw [Nat.pow_succ] at h2
      rw [if_pos h, if_pos (by omega), Nat.div_eq_of_lt (show s + 2 ^ n < 2 ^ k by omega), Nat.div_eq_of_lt (show s < 2 ^ k by omega)]
theorem or_pw {v k : Nat} (h : v < 2 ^ k) (hk : k < 31) : nI v ||| nI (2 ^ k) = nI (v + 2 ^ k) := by
  have p : 2 ^ k ≤ 2 ^ 30 := Nat.pow_le_pow_right (by decide) (by omega)
  have p2 : (2 : Nat) ^ 30 = 1073741824 := rfl
  apply Int32.toBitVec_inj.mp
  apply BitVec.eq_of_toNat_eq
  rw [Int32.toBitVec_or, BitVec.toNat_or]
  show (v % 2 ^ 32) ||| (2 ^ k % 2 ^ 32) = (v + 2 ^ k) % 2 ^ 32
  rw [Nat.mod_eq_of_lt (show v < 2 ^ 32 by omega), Nat.mod_eq_of_lt (show 2 ^ k < 2 ^ 32 by omega), Nat.mod_eq_of_lt (show v + 2 ^ k < 2 ^ 32 by omega), Nat.add_comm]
  have e := Nat.two_pow_add_eq_or_of_lt h 1
  rw [Nat.mul_one] at e
  rw [e, Nat.or_comm]
/-- the set of those before n of which R holds -/
def sbN (R : Nat → Bool) : Nat → Nat
  | 0 => 0
  | k + 1 => if R k then sbN R k + 2 ^ k else sbN R k
theorem sbN_lt (R : Nat → Bool) : ∀ n, sbN R n < 2 ^ n
  | 0 => Nat.one_pos
  | k + 1 => by
    have := sbN_lt R k
    unfold sbN
    rw [Nat.pow_succ]
    split <;> omega
theorem sbN_cb (R : Nat → Bool) : ∀ n, n ≤ 16 → cbN (sbN R n) 16 = fb_ct R n
  | 0, _ => by show cbN 0 16 = 0; decide
  | k + 1, h => by
    have ih := sbN_cb R k (by omega)
    show cbN (if R k then sbN R k + 2 ^ k else sbN R k) 16 = fb_ct R k + (if R k then 1 else 0)
    by_cases z : R k = true
    · rw [if_pos z, if_pos z, cbN_add (sbN_lt R k), ih, if_pos (by omega)]
    · rw [if_neg z, if_neg z, ih]
      rfl
theorem shBits_nI (f : Nat → Int32) (q : Int32) : ∀ n, n ≤ 16 → shBits f q n = nI (sbN (fun k => decide (f k = q)) n)
  | 0, _ => rfl
  | k + 1, h => by
    have ih := shBits_nI f q k (by omega)
    unfold shBits sbN
    by_cases z : f k = q
    · rw [if_pos z, if_pos (by simpa using z), ih, nI_pow (by omega), or_pw (sbN_lt _ k) (by omega)]
    · rw [if_neg z, if_neg (by simpa using z), ih]
theorem fb_cg {p q : Nat → Bool} : ∀ n, (∀ k, k < n → p k = q k) → fb_ct p n = fb_ct q n
  | 0, _ => rfl
  | n + 1, h => by
    show fb_ct p n + _ = fb_ct q n + _
    rw [fb_cg n (fun k hk => h k (by omega)), h n (by omega)]
theorem sbN_cg {p q : Nat → Bool} : ∀ n, (∀ k, k < n → p k = q k) → sbN p n = sbN q n
  | 0, _ => rfl
  | n + 1, h => by
    show (if p n then sbN p n + 2 ^ n else sbN p n) = (if q n then sbN q n + 2 ^ n else sbN q n)
    rw [sbN_cg n (fun k hk => h k (by omega)), h n (by omega)]
theorem yOf_set (Y : Nat → Nat → Int32) (b : Nat) (q : Int32) : ∀ n, n ≤ 16 → yOf Y b q 2 n = nI (sbN (fun k => decide (Y 163 (16 * b + k) = q)) n)
  | 0, _ => rfl
  | k + 1, h => by
    have ih := yOf_set Y b q k (by omega)
    by_cases z : Y 163 (16 * b + k) = q
    · rw [yOf_y z, ih]
      show nI _ + (1 <<< (nI k &&& 31)) = nI (if decide (Y 163 (16 * b + k) = q) then _ else _)
      rw [if_pos (by simpa using z), nI_pow (by omega)]
      exact (nI_add _ _)
    · rw [yOf_n z, ih]
      show nI _ = nI (if decide (Y 163 (16 * b + k) = q) then _ else _)
      rw [if_neg (by simpa using z)]
theorem bc_y {X Y : Nat → Nat → Int32} {w b np ns nd : Nat} (hW : wR X Y w b np ns nd) (hns : ns ≤ 16) (q : Int32) : xBc (shBits (X (w + 3)) q ns) = yOf Y b q 1 ns ∧ shBits (X (w + 3)) q ns = yOf Y b q 2 ns := by
  have e : sbN (fun k => decide (X (w + 3) k = q)) ns = sbN (fun k => decide (Y 163 (16 * b + k) = q)) ns := sbN_cg ns fun k hk => by rw [(hW.1 k hk).2.2]
  have lt := sbN_lt (fun k => decide (Y 163 (16 * b + k) = q)) ns
  have p : 2 ^ ns ≤ 2 ^ 16 := Nat.pow_le_pow_right (by decide) hns
  have p2 : (2 : Nat) ^ 16 = 65536 := rfl
  rw [shBits_nI _ _ ns hns, e, yOf_ct, yOf_set _ _ _ ns hns, xBc_nI (by omega), sbN_cb _ ns hns]
  exact ⟨rfl, rfl⟩
