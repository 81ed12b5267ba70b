/-! ===== class and reference: halves, a run on the bank ===== -/
def hN (a b p : Nat) : Nat := if p < a + b then 0 else a
theorem hN_max {a b q : Nat} (ha : a ≤ 9) : (∀ c, c < 10 → ¬ hN a b q < hN c b q) ↔ hN a b q = min 9 (q - b) := by
  have up : ∀ c, c ≤ 9 → hN c b q ≤ min 9 (q - b) := by
    intro c hc
    unfold hN
    split <;> omega
  have at' : hN (min 9 (q - b)) b q = min 9 (q - b) := by
    unfold hN
    split <;> omega
  constructor
  · intro h
    have := h (min 9 (q - b)) (by omega)
    rw [at'] at this
    have := up a ha
    omega
  · intro h c hc
    have := up c (by omega)
    omega
theorem xMA_n : ∀ a, a < 10 → ∀ q, q < 20 → xMA (nI a) (nI q) = nI (min 9 (q - a)) := by decide +kernel
theorem xMA_b {a q : Nat} (ha : a < 10) (hq : 20 ≤ q) (hq2 : q ≤ 999) : xMA (nI a) (nI q) = nI 9 := by
  have e : nI q - nI a = nI (q - a) := by
    have := nI_add (q - a) a
    rw [Nat.sub_add_cancel (by omega)] at this
    rw [← this, Int32.add_sub_cancel]
  unfold xMA
  rw [e]
  unfold iMin
  rw [if_neg (fun z => absurd ((cLt rfl (show (9 : Int32) = nI 9 from rfl) (by omega) (by decide)).mp z) (by omega))]
  decide
theorem xMA_nI {a q : Nat} (ha : a < 10) (hq : q ≤ 999) : xMA (nI a) (nI q) = nI (min 9 (q - a)) := by
  by_cases z : q < 20
  · exact xMA_n a ha q z
  · rw [xMA_b ha (by omega) hq, show min 9 (q - a) = 9 by omega]
theorem yHas_nI {a b q : Nat} (ha : a < 10) (hb : b < 10) (hq : q ≤ 999) : yHas (nI a) (nI b) (nI q) = nI (hN a b q) := by
  unfold yHas hN
  rw [nI_add]
  by_cases z : q < a + b
  · rw [if_pos z, if_pos ((nI_ltI (by omega) (by omega)).mpr z)]
    rfl
  · rw [if_neg z, if_neg (fun k => z ((nI_ltI (by omega) (by omega)).mp k))]
theorem hN_le {a b q : Nat} (h : a < 10) : hN a b q < 10 := by unfold hN; split <;> omega
theorem rest_y {q k : Nat} (hq : q ≤ 999) (hk : k < 100) : restB (nI q) k = yRestB (nI q) k := by
  have hm : k / 10 < 10 := by omega
  have hy : k % 10 < 10 := Nat.mod_lt _ (by decide)
  have cl : ∀ a b, a < 10 → b < 10 → (if nI a + nI b ≤ nI q then nI a else 0) = nI (hN a b q) := by
    intro a b ha hb
    unfold hN
    rw [nI_add]
    by_cases z : q < a + b
    · rw [if_pos z, if_neg (fun k => absurd ((nI_leI (by omega) (by omega)).mp k) (by omega))]
      rfl
    · rw [if_neg z, if_pos ((nI_leI (by omega) (by omega)).mpr (by omega))]
  have e1 : xRest (nI (k / 10)) (nI (k % 10)) (nI q) ↔ (hN (k / 10) (k % 10) q = min 9 (q - k % 10) ∧ hN (k % 10) (k / 10) q = min 9 (q - k / 10)) := by
    unfold xRest
    have c2 : (if nI (k / 10) + nI (k % 10) ≤ nI q then nI (k % 10) else 0) = nI (hN (k % 10) (k / 10) q) := by
      rw [← cl _ _ hy hm, Int32.add_comm]
    rw [cl _ _ hm hy, c2, xMA_nI hy hq, xMA_nI hm hq, nI_eq (by have := hN_le (b := k % 10) (q := q) hm; omega) (by omega), nI_eq (by have := hN_le (b := k / 10) (q := q) hy; omega) (by omega)]
  have e2 : yRest (nI (k / 10)) (nI (k % 10)) (nI q) ↔ (hN (k / 10) (k % 10) q = min 9 (q - k % 10) ∧ hN (k % 10) (k / 10) q = min 9 (q - k / 10)) := by
    rw [← hN_max (by omega), ← hN_max (by omega)]
    unfold yRest
    have lt : ∀ a b c d, a < 10 → b < 10 → c < 10 → d < 10 → (yHas (nI a) (nI b) (nI q) < yHas (nI c) (nI d) (nI q) ↔ hN a b q < hN c d q) := by
      intro a b c d h1 h2 h3 h4
      rw [yHas_nI h1 h2 hq, yHas_nI h3 h4 hq]
      exact nI_ltI (by have := hN_le (b := b) (q := q) h1; omega) (by have := hN_le (b := d) (q := q) h3; omega)
    constructor
    · intro h
      exact ⟨fun c hc z => (h c hc).1 ((lt _ _ _ _ hm hy hc hy).mpr z), fun c hc z => (h c hc).2 ((lt _ _ _ _ hy hm hc hm).mpr z)⟩
    · rintro ⟨h1, h2⟩ c hc
      exact ⟨fun z => h1 c hc ((lt _ _ _ _ hm hy hc hy).mp z), fun z => h2 c hc ((lt _ _ _ _ hy hm hc hm).mp z)⟩
  unfold restB yRestB
  exact decide_eq_decide.mpr (e1.trans e2.symm)
theorem kth_cg {R S : Nat → Bool} {want : Int32} : ∀ (c i n : Nat), (∀ k, k < i + c → R k = S k) → kth R want c i n = kth S want c i n
  | 0, _, _, _ => rfl
  | c + 1, i, n, h => by
    unfold kth
    rw [h i (by omega), kth_cg c (i + 1) (n + 1) (fun k hk => h k (by omega)), kth_cg c (i + 1) n (fun k hk => h k (by omega))]
theorem rests_y {X Y : Nat → Nat → Int32} {t w np ns nd : Nat} (h : hR X Y t w np ns nd) {l r : Int32} (hz : yHalves Y l r) : fb_ct (restB (xPair X t w (ixn l) (ixn r))) 100 = fb_ct (yRestB (yPairB Y (ixn l) (ixn r))) 100 ∧ ∀ q, kth (restB (xPair X t w (ixn l) (ixn r))) q 100 0 0 = kth (yRestB (yPairB Y (ixn l) (ixn r))) q 100 0 0 := by
  rw [pair_y h.1.1 h.2.1 h.1.2.1 (h.1.1.S hz.1.1.1).1 (h.1.1.S hz.1.2.1.1).1]
  obtain ⟨q, hq, e⟩ := yPairB_in Y (ixn l) (ixn r)
  rw [e]
  exact ⟨fb_cg 100 fun k hk => rest_y hq hk, fun z => kth_cg 100 0 0 fun k hk => rest_y hq (by omega)⟩
theorem nI_or (a b : Nat) : nI a ||| nI b = nI (a ||| b) := by
  apply Int32.toBitVec_inj.mp
  apply BitVec.eq_of_toNat_eq
  rw [Int32.toBitVec_or, BitVec.toNat_or]
  show (a % 2 ^ 32) ||| (b % 2 ^ 32) = (a ||| b) % 2 ^ 32
  rw [Nat.or_mod_two_pow]
theorem nI_subN {a b : Nat} (ha : a < 2 ^ 30) (hb : b < 2 ^ 30) : iMax 0 (nI a - nI b) = nI (a - b) := by
  unfold iMax
  by_cases z : b < a
  · have e : nI a - nI b = nI (a - b) := by
      have := nI_add (a - b) b
      rw [Nat.sub_add_cancel (by omega)] at this
      rw [← this, Int32.add_sub_cancel]
    rw [e, if_pos ((cLt n0 rfl (by decide) (by omega)).mpr (by omega))]
  · have e : a - b = 0 := by omega
    rw [e, if_neg]
    · rfl
    · intro q
      have h1 := Int32.lt_iff_toInt_lt.mp q
      rw [Int32.toInt_sub, nI_toInt (by omega), nI_toInt (by omega), Int.bmod_eq_of_le (by omega) (by omega)] at h1
      have e0 : (0 : Int32).toInt = 0 := rfl
      omega
section
variable {f : Nat → Int32} {c : Nat → Nat} {np : Nat}
theorem xCl_nI (hf : ∀ p, p < np → f p = nI (c p)) {b : Nat} (hb : b < 2 ^ 31) (h31 : np ≤ 30) : ∀ n, n ≤ np → xCl f (nI b) n = nI (sumB c b n)
  | 0, _ => rfl
  | n + 1, hn => by
    have ih := xCl_nI hf hb h31 n (by omega)
    show (if xBit (nI b) n then xCl f (nI b) n + f n else xCl f (nI b) n) = nI (sumB c b n + (if b.testBit n then c n else 0))
    by_cases z : b.testBit n = true
    · rw [if_pos ((nbit_1 hb (by omega)).mpr z), if_pos z, ih, hf n (by omega), nI_add]
    · rw [if_neg (fun q => z ((nbit_1 hb (by omega)).mp q)), if_neg z, ih, Nat.add_zero]
theorem xFr_nI (hf : ∀ p, p < np → f p = nI (c p)) (hc : ∀ p, c p ≤ 9) {lf : Nat} (hl : lf < 1000) (h16 : np ≤ 16) (b : Nat) : ∀ n, n ≤ np → nI b ||| xFr f (nI lf) n = nI (rnx c lf b n)
  | 0, _ => by
    show nI b ||| nI 0 = nI b
    rw [nI_or, Nat.or_zero]
  | n + 1, hn => by
    have ih := xFr_nI hf hc hl h16 b n (by omega)
    have e : (2 : Int32) * f n = nI (2 * c n) := by rw [hf n (by omega)]; exact n2 _
    have hcn := hc n
    show nI b ||| (if 2 * f n ≤ nI lf then xFr f (nI lf) n else xFr f (nI lf) n ||| 1 <<< (nI n &&& 31)) = nI (if lf < 2 * c n then rnx c lf b n ||| 2 ^ n else rnx c lf b n)
    rw [e]
    by_cases z : lf < 2 * c n
    · rw [if_pos z, if_neg (fun q => absurd ((nI_leI (by omega) (by omega)).mp q) (by omega)), nI_pow (by omega), ← Int32.or_assoc, ih, nI_or]
    · rw [if_neg z, if_pos ((nI_leI (by omega) (by omega)).mpr (by omega)), ih]
theorem sumB_le (hc : ∀ p, c p ≤ 9) (b : Nat) : ∀ n, sumB c b n ≤ 9 * n
  | 0 => Nat.le_refl _
  | n + 1 => by
    have := sumB_le hc b n
    have := hc n
    show sumB c b n + (if b.testBit n then c n else 0) ≤ 9 * (n + 1)
    split <;> omega
theorem itN_lt {M b : Nat} (hb : b < 2 ^ np) : ∀ k, itN c M np b k < 2 ^ np
  | 0 => hb
  | k + 1 => rnx_lt (itN_lt hb k) np (Nat.le_refl _)
theorem xRun_nI (hf : ∀ p, p < np → f p = nI (c p)) (hc : ∀ p, c p ≤ 9) (h5 : np ≤ 5) {M b : Nat} (hM : M ≤ 16) (hb : b < 2 ^ np) : ∀ k, xRun f (nI M) (nI b) np k = nI (itN c M np b k)
  | 0 => rfl
  | k + 1 => by
    have p5 : 2 ^ np ≤ 2 ^ 5 := Nat.pow_le_pow_right (by decide) h5
    have l := itN_lt (c := c) (M := M) hb k
    have ih := xRun_nI hf hc h5 hM hb k
    have s9 := sumB_le hc (itN c M np b k) np
    show xRun f (nI M) (nI b) np k ||| xFr f (iMax 0 (nI M - xCl f (xRun f (nI M) (nI b) np k) np)) np = nI (rnx c (M - sumB c (itN c M np b k) np) (itN c M np b k) np)
    rw [ih, xCl_nI hf (by omega) (by omega) np (Nat.le_refl _), nI_subN (by omega) (by omega), xFr_nI hf hc (by omega) (by omega) _ np (Nat.le_refl _)]
theorem rnx_or (lf b : Nat) : ∀ n, b ||| rnx c lf b n = rnx c lf b n
  | 0 => Nat.or_self _
  | n + 1 => by
    unfold rnx
    split
    · rw [← Nat.or_assoc, rnx_or lf b n]
    · exact rnx_or lf b n
theorem grow5 : ∀ S, S < 32 → ∀ T, T < 32 → S ||| T = T → S ≠ T → cbN S 5 < cbN T 5 := by decide +kernel
theorem full5 : ∀ S, S < 32 → cbN S 5 = 5 → S = 31 := by decide +kernel
theorem it_fix {M b j : Nat} (h : stN c M np (itN c M np b j) = itN c M np b j) : ∀ i, itN c M np b (j + i) = itN c M np b j
  | 0 => rfl
  | i + 1 => by
    show stN c M np (itN c M np b (j + i)) = _
    rw [it_fix h i, h]
theorem it_5 (h5 : np ≤ 5) {M b : Nat} (hb : b < 2 ^ np) : stN c M np (itN c M np b 5) = itN c M np b 5 := by
  have p5 : 2 ^ np ≤ 2 ^ 5 := Nat.pow_le_pow_right (by decide) h5
  have l : ∀ k, itN c M np b k < 32 := fun k => by have := itN_lt (c := c) (M := M) hb k; omega
  have key : ∀ k, (∃ j, j ≤ k ∧ stN c M np (itN c M np b j) = itN c M np b j) ∨ k ≤ cbN (itN c M np b k) 5 := by
    intro k
    induction k with
    | zero => exact Or.inr (Nat.zero_le _)
    | succ k ih =>
      rcases ih with ⟨j, hj, e⟩ | ih
      · exact Or.inl ⟨j, by omega, e⟩
      · by_cases e : stN c M np (itN c M np b k) = itN c M np b k
        · exact Or.inl ⟨k, by omega, e⟩
        · have g := grow5 (itN c M np b k) (l k) (itN c M np b (k + 1)) (l (k + 1)) (rnx_or _ _ np) (fun q => e q.symm)
          exact Or.inr (by omega)
  rcases key 5 with ⟨j, hj, e⟩ | h
  · have q := it_fix e (5 - j)
    rw [show j + (5 - j) = 5 by omega] at q
    rw [q, e]
  · have e31 := full5 _ (l 5) (Nat.le_antisymm (cbN_le _ _) h)
    have o := rnx_or (c := c) (M - sumB c (itN c M np b 5) np) (itN c M np b 5) np
    have l6 : stN c M np (itN c M np b 5) < 32 := l 6
    have ge := rnx_ge c (M - sumB c (itN c M np b 5) np) (itN c M np b 5) np
    have : itN c M np b 5 ≤ stN c M np (itN c M np b 5) := ge
    omega
theorem run_fix (h5 : np ≤ 5) {M b j : Nat} (hb : b < 2 ^ np) (hj : stN c M np (itN c M np b j) = itN c M np b j) : itN c M np b 5 = itN c M np b j := by
  rcases Nat.le_total j 5 with h | h
  · have := it_fix hj (5 - j)
    rwa [show j + (5 - j) = 5 by omega] at this
  · have := it_fix (it_5 (c := c) (M := M) h5 hb) (j - 5)
    rw [show 5 + (j - 5) = j by omega] at this
    exact this.symm
theorem rnx_fix {lf b : Nat} : ∀ n, rnx c lf b n = b ↔ ∀ k, k < n → lf < 2 * c k → b.testBit k = true
  | 0 => ⟨fun _ k hk => absurd hk (Nat.not_lt_zero _), fun _ => rfl⟩
  | n + 1 => by
    have ih := rnx_fix (lf := lf) (b := b) n
    show (if lf < 2 * c n then rnx c lf b n ||| 2 ^ n else rnx c lf b n) = b ↔ _
    by_cases z : lf < 2 * c n
    · rw [if_pos z]
      constructor
      · intro h k hk hl
        have b1 : b.testBit n = true := by
          rw [← h, Nat.testBit_or, Nat.testBit_two_pow_self, Bool.or_true]
        by_cases e : k = n
        · subst e; exact b1
        · have h2 : rnx c lf b n = b := by
            have g := rnx_ge c lf b n
            have g2 : rnx c lf b n ≤ rnx c lf b n ||| 2 ^ n := Nat.left_le_or
            omega
          exact ih.mp h2 k (by omega) hl
      · intro h
        rw [ih.mpr (fun k hk hl => h k (by omega) hl)]
        have b1 := h n (by omega) z
        apply Nat.eq_of_testBit_eq
        intro i
        rw [Nat.testBit_or]
        by_cases e : i = n
        · subst e; rw [b1, Bool.true_or]
        · rw [Nat.testBit_two_pow_of_ne (Ne.symm e), Bool.or_false]
    · rw [if_neg z, ih]
      constructor
      · intro h k hk hl
        by_cases e : k = n
        · subst e; exact absurd hl z
        · exact h k (by omega) hl
      · intro h k hk hl
        exact h k (by omega) hl
def grN (c : Nat → Nat) (b : Nat) : Nat → Nat
  | 0 => 0
  | k + 1 => if b.testBit k then grN c b k else max (grN c b k) (c k)
theorem grN_le (hc : ∀ p, c p ≤ 9) (b : Nat) : ∀ n, grN c b n ≤ 9
  | 0 => Nat.zero_le _
  | n + 1 => by
    have := grN_le hc b n
    have := hc n
    unfold grN
    split <;> omega
theorem grN_max {lf b : Nat} : ∀ n, (∀ k, k < n → lf < 2 * c k → b.testBit k = true) ↔ 2 * grN c b n ≤ lf
  | 0 => ⟨fun _ => Nat.zero_le _, fun _ k hk => absurd hk (Nat.not_lt_zero _)⟩
  | n + 1 => by
    have ih := grN_max (lf := lf) (b := b) n
    have sp : (∀ k, k < n + 1 → lf < 2 * c k → b.testBit k = true) ↔ ((∀ k, k < n → lf < 2 * c k → b.testBit k = true) ∧ (lf < 2 * c n → b.testBit n = true)) := by
      constructor
      · intro h
        exact ⟨fun k hk => h k (by omega), h n (by omega)⟩
      · rintro ⟨h1, h2⟩ k hk
        by_cases e : k = n
        · subst e; exact h2
        · exact h1 k (by omega)
    have eg : grN c b (n + 1) = if b.testBit n = true then grN c b n else max (grN c b n) (c n) := rfl
    rw [sp, ih, eg]
    by_cases z : b.testBit n = true
    · rw [if_pos z]
      exact ⟨fun h => h.1, fun h => ⟨h, fun _ => z⟩⟩
    · rw [if_neg z]
      constructor
      · rintro ⟨h1, h2⟩
        have : ¬ lf < 2 * c n := fun q => z (h2 q)
        omega
      · intro h
        exact ⟨by omega, fun q => by omega⟩
theorem xGr_nI (hf : ∀ p, p < np → f p = nI (c p)) (hc : ∀ p, c p ≤ 9) {b : Nat} (hb : b < 2 ^ 31) (h30 : np ≤ 30) : ∀ n, n ≤ np → xGr f (nI b) n = nI (grN c b n)
  | 0, _ => rfl
  | n + 1, hn => by
    have ih := xGr_nI hf hc hb h30 n (by omega)
    have g9 := grN_le hc b n
    have hcn := hc n
    have bz : ((nI b >>> (nI n &&& 31)) &&& 1 = 0) ↔ ¬ b.testBit n = true := by
      rw [shrN hb (by omega)]
      have e : (nI (b / 2 ^ n) &&& 1 : Int32) = nI (b / 2 ^ n % 2) := by
        apply Int32.toBitVec_inj.mp
        apply BitVec.eq_of_toNat_eq
        rw [Int32.toBitVec_and, BitVec.toNat_and]
        show (b / 2 ^ n % 2 ^ 32) &&& 1 = (b / 2 ^ n % 2) % 2 ^ 32
        rw [Nat.and_one_is_mod]
        omega
      rw [e, Nat.testBit_eq_decide_div_mod_eq]
      have l2 := Nat.mod_lt (b / 2 ^ n) (show 2 > 0 by decide)
      rw [show (0 : Int32) = nI 0 from rfl, nI_eq (by omega) (by decide)]
      simp
    unfold xGr grN
    by_cases z : b.testBit n = true
    · rw [if_neg (fun q => bz.mp q z), if_pos z, ih]
    · rw [if_pos (bz.mpr z), if_neg z, ih, hf n (by omega)]
      unfold iMax
      by_cases q : grN c b n < c n
      · rw [if_pos ((nI_ltI (by omega) (by omega)).mpr q), show max (grN c b n) (c n) = c n by omega]
      · rw [if_neg (fun k => q ((nI_ltI (by omega) (by omega)).mp k)), show max (grN c b n) (c n) = grN c b n by omega]
theorem xSave_nI (hf : ∀ p, p < np → f p = nI (c p)) (hc : ∀ p, c p ≤ 9) (h5 : np ≤ 5) {M b x : Nat} (hM : M ≤ 16) (hb : b < 2 ^ np) (hx : stN c (M + x) np b = b) (hl : ∀ y, y < x → ¬ stN c (M + y) np b = b) : xSave f (nI M) (nI b) np = nI x := by
  have p5 : 2 ^ np ≤ 2 ^ 5 := Nat.pow_le_pow_right (by decide) h5
  have s9 := sumB_le hc b np
  have g9 := grN_le hc b np
  have fx : ∀ y, stN c (M + y) np b = b ↔ 2 * grN c b np ≤ M + y - sumB c b np := fun y => (rnx_fix np).trans (grN_max np)
  have hx1 := (fx x).mp hx
  unfold xSave
  rw [xGr_nI hf hc (by omega) (by omega) np (Nat.le_refl _), xCl_nI hf (by omega) (by omega) np (Nat.le_refl _)]
  by_cases z : grN c b np = 0
  · rw [if_pos (by rw [z]; rfl)]
    have : x = 0 := by
      rcases Nat.eq_zero_or_pos x with q | q
      · exact q
      · exact absurd ((fx 0).mpr (by rw [z]; omega)) (hl 0 q)
    rw [this]
    rfl
  · rw [if_neg (show ¬ nI (grN c b np) = 0 from fun q => z ((nI_eq (by omega) (by decide)).mp (q.trans n0))), n2, nI_add, nI_subN (by omega) (by omega)]
    congr 1
    have hx2 : x ≤ 2 * grN c b np + sumB c b np - M := by
      rcases Nat.lt_or_ge (2 * grN c b np + sumB c b np - M) x with q | q
      · exact absurd ((fx _).mpr (by omega)) (hl _ q)
      · exact q
    omega
end
theorem claims_y {X Y : Nat → Nat → Int32} {t np : Nat} {c : Nat → Nat} (hc : clM Y np c) (hf : ∀ p, p < np → X (t + 5) p = nI (c p)) (h5 : np ≤ 5) (b : Int32) : xClaims (X (t + 5)) b np ↔ yClaims Y b np := by
  have k3 : (∀ k, k < np → xBit b k → ¬ X (t + 5) k = 0) ↔ (∀ k, k < np → xBit b k → ¬ Y 141 k < 0) := by
    refine forall_congr' fun k => forall_congr' fun hk => forall_congr' fun _ => ?_
    have h9 := hc.2.1 k
    rw [hf k hk]
    rcases hc.1 k hk with ⟨q1, q2⟩ | ⟨q1, q2⟩
    · rw [q1, q2]
      exact ⟨fun q => absurd rfl q, fun q => absurd (by decide) q⟩
    · rw [q1]
      exact ⟨fun _ => nI_pos (by omega), fun _ q => absurd ((nI_eq (by omega) (by decide)).mp (q.trans n0)) (by omega)⟩
  unfold xClaims yClaims
  rw [k3]
  refine and_congr_right fun hb => and_congr_left fun _ => ?_
  obtain ⟨b0, hb0, rfl⟩ := nI_of hb
  have p5 : 2 ^ np ≤ 2 ^ 5 := Nat.pow_le_pow_right (by decide) h5
  rw [nI_pow (by omega), shrN hb0 (by omega), nI_ltI hb0 (by omega)]
  constructor
  · intro q
    rw [Nat.div_eq_of_lt q]
    rfl
  · intro q
    have h3 : b0 / 2 ^ np = 0 := (nI_eq (Nat.lt_of_le_of_lt (Nat.div_le_self _ _) hb0) (by decide)).mp q
    rcases Nat.lt_or_ge b0 (2 ^ np) with z | z
    · exact z
    · have := Nat.div_pos z (Nat.two_pow_pos np)
      omega
theorem bank_y {X Y : Nat → Nat → Int32} {t w np ns nd : Nat} (h : hR X Y t w np ns nd) : xBank X w ns = nI (bkN Y ns) ∧ bkN Y ns ≤ 16 := by
  have hns := h.lns
  refine ⟨?_, Nat.le_trans (fb_ct_le _ _) hns⟩
  unfold xBank
  rw [(bc_y h.2.1 hns (-1)).1, yOf_ct]
  rfl
