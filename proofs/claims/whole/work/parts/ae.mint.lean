/-! ===== class and reference: counts, feed, mint ===== -/
section
variable {X Y : Nat → Nat → Int32} {t np ns nd nx sz : Nat}
theorem cntI_cg {f g : Nat → Int32} {x : Int32} : ∀ n, (∀ k, k < n → f k = g k) → cntI f x n = cntI g x n
  | 0, _ => rfl
  | n + 1, h => by
    unfold cntI
    rw [h n (by omega), cntI_cg n (fun k hk => h k (by omega))]
theorem count_y (h : gR X Y t np ns nd nx sz) : ∀ j, j < 14 → xCount X t 62 ns nd j = yCount Y ns nd j := by
  obtain ⟨kn, tk, k1, k2, k3, k4, k5, k6, k7, k8⟩ := who_y h.1 h.2.2.2.2.2.2.1.2.1
  obtain ⟨nr, r1, r2, r3, -⟩ := h.2.2.2.2.2.2.1.2.2.2.1
  obtain ⟨tk', q1, q2, q3, -⟩ := h.2.2.2.2.2.2.1.2.1
  have hs := h.2.2.2.2.2.1
  intro j hj
  have hc : j = 0 ∨ j = 1 ∨ j = 2 ∨ j = 3 ∨ j = 4 ∨ j = 5 ∨ j = 6 ∨ j = 7 ∨ j = 8 ∨ j = 9 ∨ j = 10 ∨ j = 11 ∨ j = 12 ∨ j = 13 := by omega
  rcases hc with rfl | rfl | rfl | rfl | rfl | rfl | rfl | rfl | rfl | rfl | rfl | rfl | rfl | rfl
  · exact h.1.1.1.np
  · exact h.1.1.1.ns
  · exact h.1.1.1.nd
  · exact r2.trans r3.symm
  · exact h.2.2.2.2.2.2.1.2.2.2.2.2.2.2
  · exact h.1.2.1.2.2.2.1
  · exact (bc_y h.1.2.1 h.1.lns (-2)).1
  · exact (bc_y h.1.2.1 h.1.lns (-1)).1
  · exact sumA_y h.1 ns (Nat.le_refl _)
  · exact cntI_cg nd fun k hk => h.1.w5 hk
  · exact cntI_cg nd fun k hk => h.1.w5 hk
  · exact q2.trans q3.symm
  · exact k6.trans k1.symm
  · exact hs.2.2.1.trans hs.2.2.2.2.1.symm
end
/-! mint -/
theorem sh64 : ∀ c, c < 64 → ((nI c).toInt64 &&& 63).toBitVec.smod 64 = BitVec.ofNat 64 c := by decide +kernel
theorem shl64 {x : Int64} {c : Nat} (hc : c < 64) : (x <<< ((nI c).toInt64 &&& 63)).toBitVec = x.toBitVec <<< c := by
  show x.toBitVec <<< (((nI c).toInt64 &&& 63).toBitVec.smod 64) = _
  rw [sh64 c hc, BitVec.shiftLeft_eq', BitVec.toNat_ofNat]
  congr 1
  omega
/-- bit s of a long -/
def b64 (x : Int64) (s : Nat) : Bool := x.toBitVec.getLsbD s
theorem b64_or (x y : Int64) (s : Nat) : b64 (x ||| y) s = (b64 x s || b64 y s) := by
  unfold b64
  rw [Int64.toBitVec_or, BitVec.getLsbD_or]
theorem b64_and (x y : Int64) (s : Nat) : b64 (x &&& y) s = (b64 x s && b64 y s) := by
  unfold b64
  rw [Int64.toBitVec_and, BitVec.getLsbD_and]
theorem b64_shl {x : Int64} {c s : Nat} (hc : c < 64) (hs : s < 64) : b64 (x <<< ((nI c).toInt64 &&& 63)) s = (decide (c ≤ s) && b64 x (s - c)) := by
  unfold b64
  rw [shl64 hc, BitVec.getLsbD_shiftLeft, decide_eq_true hs, Bool.true_and]
  by_cases z : s < c
  · rw [decide_eq_true z, decide_eq_false (show ¬ c ≤ s by omega)]
    rfl
  · rw [decide_eq_false z, decide_eq_true (show c ≤ s by omega)]
    rfl
theorem b64_all : ∀ n, n < 41 → ∀ s, s < 64 → b64 (xAllL (nI n)) s = decide (s ≤ n) := by decide +kernel
theorem b64_ext {x y : Int64} (h : ∀ s, s < 64 → b64 x s = b64 y s) : x = y := by
  apply Int64.toBitVec_inj.mp
  exact BitVec.eq_of_getLsbD_eq fun i hi => h i hi
section
variable {f : Nat → Int32} {c : Nat → Nat} {n b : Nat}
theorem xMk_b (hf : ∀ i, i < 10 → f i = nI (c (i + 1))) (hb : b < 1024) (hu : ∀ i, i < 10 → b.testBit i = true → 1 ≤ c (i + 1) ∧ c (i + 1) ≤ n) (hn : n ≤ 40) (made : Int64) : ∀ m, m ≤ 10 → ∀ s, s < 64 → (b64 (xMk f (nI b) made m) s = true ↔ (b64 made s = true ∨ ∃ i, i < m ∧ b.testBit i = true ∧ c (i + 1) ≤ s ∧ b64 made (s - c (i + 1)) = true))
  | 0, _, s, _ => ⟨fun q => Or.inl q, fun q => q.elim id (fun ⟨i, hi, _⟩ => absurd hi (Nat.not_lt_zero _))⟩
  | m + 1, hm, s, hs => by
    have ih := xMk_b hf hb hu hn made m (by omega) s hs
    have eb : xBit (nI b) m ↔ b.testBit m = true := nbit_1 (by omega) (by omega)
    show b64 (if xBit (nI b) m then xMk f (nI b) made m ||| made <<< ((f m).toInt64 &&& 63) else xMk f (nI b) made m) s = true ↔ _
    by_cases z : b.testBit m = true
    · obtain ⟨u1, u2⟩ := hu m (by omega) z
      rw [if_pos (eb.mpr z), b64_or, Bool.or_eq_true, ih, hf m (by omega), b64_shl (by omega) hs, Bool.and_eq_true, decide_eq_true_eq]
      constructor
      · rintro ((q | ⟨i, i1, i2, i3, i4⟩) | ⟨q1, q2⟩)
        · exact Or.inl q
        · exact Or.inr ⟨i, by omega, i2, i3, i4⟩
        · exact Or.inr ⟨m, by omega, z, q1, q2⟩
      · rintro (q | ⟨i, i1, i2, i3, i4⟩)
        · exact Or.inl (Or.inl q)
        · by_cases e : i = m
          · subst e; exact Or.inr ⟨i3, i4⟩
          · exact Or.inl (Or.inr ⟨i, by omega, i2, i3, i4⟩)
    · rw [if_neg (fun q => z (eb.mp q)), ih]
      constructor
      · rintro (q | ⟨i, i1, i2, i3, i4⟩)
        · exact Or.inl q
        · exact Or.inr ⟨i, by omega, i2, i3, i4⟩
      · rintro (q | ⟨i, i1, i2, i3, i4⟩)
        · exact Or.inl q
        · by_cases e : i = m
          · subst e; exact absurd i2 z
          · exact Or.inr ⟨i, by omega, i2, i3, i4⟩
theorem xMade_b (hf : ∀ i, i < 10 → f i = nI (c (i + 1))) (hb : b < 1024) (hu : ∀ i, i < 10 → b.testBit i = true → 1 ≤ c (i + 1) ∧ c (i + 1) ≤ n) (hn : n ≤ 40) : ∀ k s, s < 64 → (b64 (xMade f (nI b) (xAllL (nI n)) k) s = true ↔ (s ≤ n ∧ mkB c b k s))
  | 0, s, hs => by
    have e1 : ∀ s, s < 64 → (b64 (1 : Int64) s = true ↔ s = 0) := by decide +kernel
    show b64 1 s = true ↔ (s ≤ n ∧ s = 0)
    rw [e1 s hs]
    exact ⟨fun q => ⟨by omega, q⟩, fun q => q.2⟩
  | k + 1, s, hs => by
    have ih := xMade_b hf hb hu hn k
    show b64 (xMk f (nI b) (xMade f (nI b) (xAllL (nI n)) k) 10 &&& xAllL (nI n)) s = true ↔ (s ≤ n ∧ (mkB c b k s ∨ ∃ i, i < 10 ∧ b.testBit i = true ∧ ¬ c (i + 1) = 0 ∧ c (i + 1) ≤ s ∧ mkB c b k (s - c (i + 1))))
    rw [b64_and, Bool.and_eq_true, xMk_b hf hb hu hn _ 10 (Nat.le_refl _) s hs, b64_all n (by omega) s hs, decide_eq_true_eq, ih s hs]
    constructor
    · rintro ⟨q, hsn⟩
      refine ⟨hsn, ?_⟩
      rcases q with q | ⟨i, i1, i2, i3, i4⟩
      · exact Or.inl q.2
      · exact Or.inr ⟨i, i1, i2, by have := (hu i i1 i2).1; omega, i3, ((ih _ (by omega)).mp i4).2⟩
    · rintro ⟨hsn, q⟩
      refine ⟨?_, hsn⟩
      rcases q with q | ⟨i, i1, i2, i3, i4, i5⟩
      · exact Or.inl ⟨hsn, q⟩
      · exact Or.inr ⟨i, i1, i2, i4, (ih _ (by omega)).mpr ⟨by omega, i5⟩⟩
theorem xMade_all (hf : ∀ i, i < 10 → f i = nI (c (i + 1))) (hb : b < 1024) (hu : ∀ i, i < 10 → b.testBit i = true → 1 ≤ c (i + 1) ∧ c (i + 1) ≤ n) (hn : n ≤ 40) (k : Nat) : xMade f (nI b) (xAllL (nI n)) k = xAllL (nI n) ↔ mOKn c b n k := by
  constructor
  · intro h s h1 h2
    have q := (xMade_b hf hb hu hn k s (by omega)).mp (by rw [h, b64_all n (by omega) s (by omega)]; exact decide_eq_true h2)
    exact q.2
  · intro h
    refine b64_ext fun s hs => ?_
    rw [b64_all n (by omega) s hs]
    have q := xMade_b hf hb hu hn k s hs
    by_cases z : s ≤ n
    · rw [decide_eq_true z]
      refine q.mpr ⟨z, ?_⟩
      rcases Nat.eq_zero_or_pos s with e | e
      · subst e; exact mkB_zero k
      · exact h s e z
    · rw [decide_eq_false z]
      cases e : b64 (xMade f (nI b) (xAllL (nI n)) k) s with
      | false => rfl
      | true => exact absurd (q.mp e).1 z
/-- the usable sizes -/
def usB (c : Nat → Nat) (n : Nat) : Nat := sbN (fun i => decide (1 ≤ c (i + 1) ∧ c (i + 1) ≤ n)) 10
theorem xSz_us (hf : ∀ i, i < 10 → f i = nI (c (i + 1))) (hc : ∀ i, c i ≤ 999 ∨ 10 < i) (hn : n ≤ 40) : ∀ m, m ≤ 10 → xSz f (nI n) m = nI (sbN (fun i => decide (1 ≤ c (i + 1) ∧ c (i + 1) ≤ n)) m)
  | 0, _ => rfl
  | m + 1, hm => by
    have ih := xSz_us hf hc hn m (by omega)
    have hcm : c (m + 1) ≤ 999 := (hc (m + 1)).resolve_right (by omega)
    unfold xSz sbN
    rw [hf m (by omega)]
    have e1 : (nI (c (m + 1)) < 1 ∨ nI n < nI (c (m + 1))) ↔ ¬ (1 ≤ c (m + 1) ∧ c (m + 1) ≤ n) := by
      rw [show (1 : Int32) = nI 1 from rfl, nI_ltI (by omega) (by decide), nI_ltI (by omega) (by omega)]
      omega
    by_cases z : 1 ≤ c (m + 1) ∧ c (m + 1) ≤ n
    · rw [if_neg (fun q => e1.mp q z), if_pos (decide_eq_true z), ih, nI_pow (by omega), or_pw (sbN_lt _ m) (by omega)]
    · rw [if_pos (e1.mpr z), if_neg (by simpa using z), ih]
theorem sub_us {u : Nat} (hu : u < 1024) (hb : b < 1024) : nI b &&& (nI u ^^^ -1) = 0 ↔ ∀ i, i < 10 → b.testBit i = true → u.testBit i = true := by
  have m1 : ∀ i, i < 32 → bt (-1) i = true := by decide +kernel
  have m0 : ∀ i, i < 32 → bt 0 i = false := by decide +kernel
  have ev : ∀ i, i < 32 → bt (nI b &&& (nI u ^^^ -1)) i = (b.testBit i && !(u.testBit i)) := by
    intro i hi
    rw [b_and, b_xor, m1 i hi, bt_nI _ _ hi, bt_nI _ _ hi]
    cases u.testBit i <;> rfl
  constructor
  · intro h i hi hb1
    have := ev i (by omega)
    rw [h, m0 i (by omega), hb1, Bool.true_and] at this
    cases e : u.testBit i with
    | true => rfl
    | false => rw [e] at this; cases this
  · intro h
    refine b_ext fun i hi => ?_
    rw [ev i hi, m0 i hi]
    by_cases z : b.testBit i = true
    · have i10 : i < 10 := by
        rcases Nat.lt_or_ge i 10 with q | q
        · exact q
        · rw [tb_hi (k := 10) hb q] at z; cases z
      rw [z, h i i10 z]
      rfl
    · simp at z
      rw [z]
      rfl
end
theorem cnt_cb : ∀ b, b < 1024 → cntB b 31 = cbN b 16 := by decide +kernel
theorem mk_less {c : Nat → Nat} {b i n : Nat} (hi : ¬ (1 ≤ c (i + 1) ∧ c (i + 1) ≤ n)) : ∀ k s, s ≤ n → mkB c b k s → mkB c (b &&& (1023 ^^^ 2 ^ i)) k s
  | 0, _, _, h => h
  | k + 1, s, hs, h => by
    rcases h with h | ⟨j, j1, j2, j3, j4, j5⟩
    · exact Or.inl (mk_less hi k s hs h)
    · refine Or.inr ⟨j, j1, ?_, j3, j4, mk_less hi k _ (by omega) j5⟩
      have ne : j ≠ i := by
        rintro rfl
        exact hi ⟨by omega, by omega⟩
      rw [Nat.testBit_and, j2, Bool.true_and, Nat.testBit_xor, Nat.testBit_two_pow_of_ne (Ne.symm ne)]
      have : ∀ j, j < 10 → (1023 : Nat).testBit j = true := by decide +kernel
      rw [this j j1]
      rfl
theorem drop_lt : ∀ i, i < 10 → ∀ b, b < 1024 → b.testBit i = true → cntB (b &&& (1023 ^^^ 2 ^ i)) 31 < cntB b 31 ∧ b &&& (1023 ^^^ 2 ^ i) < 1024 := by decide +kernel
theorem mkB_0 {c : Nat → Nat} : ∀ k s, 1 ≤ s → ¬ mkB c 0 k s
  | 0, s, h, q => by have : s = 0 := q; omega
  | k + 1, s, h, q => by
    rcases q with q | ⟨i, _, i2, _⟩
    · exact mkB_0 k s h q
    · rw [Nat.zero_testBit] at i2; cases i2
/-- the class's choice is the reference's -/
theorem mint_pick {c : Nat → Nat} {n k : Nat} (hn1 : 1 ≤ n) {v : Int32} (hv : msf (fun b => mOKn c b n k) 1024 v) :
    (v = -2 ∧ ∀ b, 1 ≤ b → b < 1024 → ¬ mOKn c b n k) ∨ ∃ b, 1 ≤ b ∧ b < 1024 ∧ v = nI b ∧ mOKn c b n k ∧ (∀ i, i < 10 → b.testBit i = true → 1 ≤ c (i + 1) ∧ c (i + 1) ≤ n) ∧ ∀ b', 1 ≤ b' → b' < 1024 → mOKn c b' n k → cntB b 31 < cntB b' 31 ∨ (cntB b 31 = cntB b' 31 ∧ b ≤ b') := by
  rcases hv with h | ⟨b, b1, b2, b3, b4, b5⟩
  · exact Or.inl h
  · refine Or.inr ⟨b, b1, b2, b3, b4, fun i hi hb => ?_, b5⟩
    by_cases z : 1 ≤ c (i + 1) ∧ c (i + 1) ≤ n
    · exact z
    · obtain ⟨d1, d2⟩ := drop_lt i hi b b2 hb
      have ok : mOKn c (b &&& (1023 ^^^ 2 ^ i)) n k := fun s s1 s2 => mk_less z k s s2 (b4 s s1 s2)
      have pos : 1 ≤ b &&& (1023 ^^^ 2 ^ i) := by
        rcases Nat.eq_zero_or_pos (b &&& (1023 ^^^ 2 ^ i)) with q | q
        · rw [q] at ok
          exact absurd (ok 1 (Nat.le_refl _) hn1) (mkB_0 k 1 (Nat.le_refl _))
        · exact q
      rcases b5 _ pos d2 ok with q | q <;> omega
theorem coin_y {X Y : Nat → Nat → Int32} {t w np ns nd k : Nat} (h : hR X Y t w np ns nd) (hk : k < 10) : coinF X t w k = nI (cnN Y (k + 1)) ∧ cnN Y (k + 1) ≤ 999 := by
  obtain ⟨e1, e2⟩ := cnN_eq Y (show k + 1 ≤ 10 by omega)
  rw [← e1]
  refine ⟨?_, e2⟩
  unfold coinF xFresh yCoin
  rw [(xLaw_y (r := 0) (ny := yNm (nI (k + 1)).toInt64 0 1 0 0 (Y 167 0).toInt64 0) h.1.1.2.2.2.2.2 h.1.2.1 (by decide) (fun q hq => ⟨by rw [h.2.1.2.2.2.1]; exact nm_pm q hq, nm_bd (bd_i32 _) (by decide) (by decide) (by decide) (by decide) (bd_i32 _) (by decide) q hq⟩)).2 999 _ (Or.inl rfl), n2]
  rfl
theorem cb_mono : ∀ b, b < 1024 → ∀ u, u < 1024 → b ||| u = u → cbN b 16 ≤ cbN u 16 := by
  intro b hb u hu h
  have key : ∀ k, cbN b k ≤ cbN u k := by
    intro k
    induction k with
    | zero => exact Nat.le_refl _
    | succ k ih =>
      have e : b.testBit k = true → u.testBit k = true := by
        intro q
        rw [← h, Nat.testBit_or, q, Bool.true_or]
      show cbN b k + b / 2 ^ k % 2 ≤ cbN u k + u / 2 ^ k % 2
      rw [cnt_bit, cnt_bit]
      by_cases q : b.testBit k = true
      · rw [if_pos q, if_pos (e q)]; omega
      · rw [if_neg q]; omega
  exact key 16
theorem cb_pos : ∀ b, b < 1024 → 1 ≤ b → 1 ≤ cbN b 16 := by decide +kernel
/-- mint: both give the same set -/
theorem mint_y {X Y : Nat → Nat → Int32} {t w np ns nd n k : Nat} (h : hR X Y t w np ns nd) (hn1 : 1 ≤ n) (hn : n ≤ 40) {rx : Int32} {v : Int32} (hv : msf (fun b => mOKn (cnN Y) b n k) 1024 v)
    (hx : (∃ b, rx = nI b ∧ 1 ≤ b ∧ b < 1024 ∧ miT X t w (nI n) k b ∧ (∀ b', 1 ≤ b' → nI b' ≤ xSz (coinF X t w) (nI n) 10 → miT X t w (nI n) k b' → b' < 1024 → ¬ (1 ≤ xBc (nI b') ∧ xBc (nI b') < xBc (nI b)) ∧ (xBc (nI b') = xBc (nI b) → b ≤ b'))) ∨ (rx = -2 ∧ ∀ b', 1 ≤ b' → nI b' ≤ xSz (coinF X t w) (nI n) 10 → miT X t w (nI n) k b' → b' < 1024 → ¬ (1 ≤ xBc (nI b') ∧ xBc (nI b') ≤ xBc (xSz (coinF X t w) (nI n) 10)))) : rx = v := by
  have hf : ∀ i, i < 10 → coinF X t w i = nI (cnN Y (i + 1)) := fun i hi => (coin_y h hi).1
  have hc : ∀ i, cnN Y i ≤ 999 ∨ 10 < i := by
    intro i
    by_cases q : 10 < i
    · exact Or.inr q
    · exact Or.inl (cnN_eq Y (by omega)).2
  have eu : xSz (coinF X t w) (nI n) 10 = nI (usB (cnN Y) n) := xSz_us hf hc hn 10 (Nat.le_refl _)
  have lu : usB (cnN Y) n < 1024 := sbN_lt _ 10
  have ub : ∀ i, i < 10 → ((usB (cnN Y) n).testBit i = true ↔ (1 ≤ cnN Y (i + 1) ∧ cnN Y (i + 1) ≤ n)) := by
    intro i hi
    unfold usB
    rw [sbN_tb, decide_eq_true hi, Bool.true_and, decide_eq_true_eq]
  have mi : ∀ b, b < 1024 → (miT X t w (nI n) k b ↔ ((∀ i, i < 10 → b.testBit i = true → 1 ≤ cnN Y (i + 1) ∧ cnN Y (i + 1) ≤ n) ∧ mOKn (cnN Y) b n k)) := by
    intro b hb
    unfold miT
    rw [eu, sub_us lu hb]
    have e1 : (∀ i, i < 10 → b.testBit i = true → (usB (cnN Y) n).testBit i = true) ↔ (∀ i, i < 10 → b.testBit i = true → 1 ≤ cnN Y (i + 1) ∧ cnN Y (i + 1) ≤ n) := forall_congr' fun i => forall_congr' fun hi => imp_congr_right fun _ => ub i hi
    rw [e1]
    exact and_congr_right fun hu => xMade_all hf hb hu hn k
  have sub : ∀ b, b < 1024 → (∀ i, i < 10 → b.testBit i = true → 1 ≤ cnN Y (i + 1) ∧ cnN Y (i + 1) ≤ n) → b ||| usB (cnN Y) n = usB (cnN Y) n := by
    intro b hb hu
    apply Nat.eq_of_testBit_eq
    intro i
    rw [Nat.testBit_or]
    by_cases z : b.testBit i = true
    · have i10 : i < 10 := by
        rcases Nat.lt_or_ge i 10 with q | q
        · exact q
        · rw [tb_hi (k := 10) hb q] at z; cases z
      rw [z, (ub i i10).mpr (hu i i10 z)]
      rfl
    · simp at z
      rw [z, Bool.false_or]
  have le : ∀ b, b < 1024 → b ||| usB (cnN Y) n = usB (cnN Y) n → nI b ≤ nI (usB (cnN Y) n) := fun b hb e => (nI_leI (by omega) (by omega)).mpr (by rw [← e]; exact Nat.left_le_or)
  have xb : ∀ b, b < 1024 → xBc (nI b) = nI (cntB b 31) := fun b hb => by rw [xBc_nI (by omega), cnt_cb b hb]
  have c31 : ∀ b, b < 1024 → cntB b 31 ≤ 16 := fun b hb => by rw [cnt_cb b hb]; exact cbN_le _ _
  rw [eu] at hx
  rcases mint_pick hn1 hv with ⟨v1, v2⟩ | ⟨b2, p1, p2, p3, p4, p5, p6⟩
  · rcases hx with ⟨b, q1, q2, q3, q4, -⟩ | ⟨q1, -⟩
    · exact absurd ((mi b q3).mp q4).2 (v2 b q2 q3)
    · rw [q1, v1]
  · have m2 := (mi b2 p2).mpr ⟨p5, p4⟩
    have s2 := sub b2 p2 p5
    rcases hx with ⟨b, q1, q2, q3, q4, q5⟩ | ⟨q1, q2⟩
    · obtain ⟨r1, r2⟩ := q5 b2 p1 (le b2 p2 s2) m2 p2
      rw [xb b2 p2, xb b q3] at r1 r2
      have g1 := cb_pos b2 p2 p1
      rw [← cnt_cb b2 p2] at g1
      have h1 := c31 b2 p2
      have h2 := c31 b q3
      have n1 : ¬ cntB b2 31 < cntB b 31 := fun q => r1 ⟨(nI_leI (a := 1) (by decide) (by omega)).mpr g1, (nI_ltI (by omega) (by omega)).mpr q⟩
      rcases p6 b q2 q3 ((mi b q3).mp q4).2 with z | ⟨z1, z2⟩
      · exact absurd z n1
      · have := r2 (by rw [z1])
        rw [q1, p3, show b = b2 by omega]
    · refine absurd ⟨?_, ?_⟩ (q2 b2 p1 (le b2 p2 s2) m2 p2)
      · rw [xb b2 p2]
        have g1 := cb_pos b2 p2 p1
        rw [← cnt_cb b2 p2] at g1
        have h1 := c31 b2 p2
        exact (nI_leI (a := 1) (by decide) (by omega)).mpr g1
      · rw [xb b2 p2, xb _ lu]
        have g := cb_mono b2 p2 _ lu s2
        rw [← cnt_cb b2 p2, ← cnt_cb _ lu] at g
        exact (nI_leI (by have := c31 b2 p2; omega) (by have := c31 _ lu; omega)).mpr g
