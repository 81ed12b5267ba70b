/-! ===== class and reference: walking or paying a fare ===== -/
section
variable {X Y : Nat → Nat → Int32} {t w np ns nd : Nat}
/-- the wear of the shoe on a foot after k days of a code of n days -/
def luX (X : Nat → Nat → Int32) (t w : Nat) (ft : Int32) (cd n : Nat) : Nat → Int32
  | 0 => xUN X t w ft
  | k + 1 => if cd.testBit (n - 1 - k) = true then luX X t w ft cd n k else xUA X t w ft (luX X t w ft cd n k) (X w 1 + nI k)
theorem luX_cg {ft : Int32} {cd ce n : Nat} : ∀ k, (∀ i, i < k → cd.testBit (n - 1 - i) = ce.testBit (n - 1 - i)) → luX X t w ft cd n k = luX X t w ft ce n k
  | 0, _ => rfl
  | k + 1, h => by
    unfold luX
    rw [h k (by omega), luX_cg k (fun i hi => h i (by omega))]
theorem wkF_cg {f : Int32} {cd ce n : Nat} : ∀ k, (∀ i, i < k → cd.testBit (n - 1 - i) = ce.testBit (n - 1 - i)) → wkF f cd n k = wkF f ce n k
  | 0, _ => rfl
  | k + 1, h => by
    unfold wkF
    rw [h k (by omega), wkF_cg k (fun i hi => h i (by omega))]
theorem wkS_cg {cd ce n : Nat} : ∀ k, (∀ i, i < k → cd.testBit (n - 1 - i) = ce.testBit (n - 1 - i)) → wkS cd n k = wkS ce n k
  | 0, _ => rfl
  | k + 1, h => by
    unfold wkS
    rw [h k (by omega), wkS_cg k (fun i hi => h i (by omega))]
/-- what the class reckons of a code -/
def coX (X : Nat → Nat → Int32) (t w : Nat) (fl fr fare g7 : Int32) (n cd : Nat) : Int32 := wkF fare cd n n + g7 - xWT X t w (nI n) fl (luX X t w fl cd n n) - xWT X t w (nI n) fr (luX X t w fr cd n n)
theorem go_y {fl fr fare g7 : Int32} {n : Nat} (hn : n ≤ 8) : ∀ (r k cd : Nat) (g : Nat → Int32), k + r = n → cd % 2 ^ r = 0 → cd + 2 ^ r ≤ 2 ^ n → g 3 = nI n → g 4 = fare → g 5 = fl → g 6 = fr → g 7 = g7 → wbf (coX X t w fl fr fare g7 n) (fun c => wkS c n n) cd (g 8) (g 0) (g 1) →
    wbf (coX X t w fl fr fare g7 n) (fun c => wkS c n n) (cd + 2 ^ r) (xGo X t w r k (luX X t w fl cd n k) (luX X t w fr cd n k) (wkF fare cd n k) (nI (wkS cd n k)) g 8) (xGo X t w r k (luX X t w fl cd n k) (luX X t w fr cd n k) (wkF fare cd n k) (nI (wkS cd n k)) g 0) (xGo X t w r k (luX X t w fl cd n k) (luX X t w fr cd n k) (wkF fare cd n k) (nI (wkS cd n k)) g 1) ∧
    ∀ i, 2 ≤ i → i ≤ 7 → xGo X t w r k (luX X t w fl cd n k) (luX X t w fr cd n k) (wkF fare cd n k) (nI (wkS cd n k)) g i = g i
  | 0, k, cd, g, hk, _, _, h3, h4, h5, h6, h7, hw => by
    have e : k = n := by omega
    subst e
    have ec : wkF fare cd k k + g 7 - xWT X t w (g 3) (g 5) (luX X t w fl cd k k) - xWT X t w (g 3) (g 6) (luX X t w fr cd k k) = coX X t w fl fr fare g7 k cd := by
      rw [h3, h5, h6, h7]
      rfl
    unfold xGo
    rw [ec]
    by_cases z : ¬ g 8 = 0 ∧ g 0 ≤ coX X t w fl fr fare g7 k cd
    · rw [if_pos z]
      exact ⟨wbf_old hw z.1 z.2, fun _ _ _ => rfl⟩
    · rw [if_neg z]
      refine ⟨?_, fun i i2 i7 => by rw [upd_ne (by omega), upd_ne (by omega), upd_ne (by omega)]⟩
      rw [upd_ne (by decide), upd_ne (by decide), upd_eq, upd_ne (by decide), upd_eq, upd_eq]
      refine wbf_new hw ?_
      by_cases q : g 8 = 0
      · exact Or.inl q
      · exact Or.inr (Int32.not_le.mp fun q2 => z ⟨q, q2⟩)
  | r + 1, k, cd, g, hk, hm, hle, h3, h4, h5, h6, h7, hw => by
    have pr : 2 ^ (r + 1) = 2 * 2 ^ r := by rw [Nat.pow_succ, Nat.mul_comm]
    have e1 : n - 1 - k = r := by omega
    have hm0 : cd % 2 ^ r = 0 := by
      have := Nat.mod_mod_of_dvd cd (show 2 ^ r ∣ 2 ^ (r + 1) from ⟨2, by rw [pr, Nat.mul_comm]⟩)
      rw [hm, Nat.zero_mod] at this
      exact this.symm
    have b0 : cd.testBit r = false := by
      rw [Nat.testBit_eq_decide_div_mod_eq, decide_eq_false_iff_not]
      have d := Nat.div_add_mod cd (2 ^ (r + 1))
      rw [hm, Nat.add_zero, pr] at d
      have : cd / 2 ^ r = 2 * (cd / (2 * 2 ^ r)) := by
        conv => lhs; rw [← d]
        rw [show 2 * 2 ^ r * (cd / (2 * 2 ^ r)) = 2 ^ r * (2 * (cd / (2 * 2 ^ r))) by rw [Nat.mul_comm 2 (2 ^ r), Nat.mul_assoc], Nat.mul_div_cancel_left _ (Nat.two_pow_pos r)]
      omega
    have eo : cd + 2 ^ r = cd ||| 2 ^ r := by
      apply Eq.symm
      obtain ⟨q, hq⟩ : ∃ q, cd = 2 ^ (r + 1) * q := ⟨cd / 2 ^ (r + 1), by have := Nat.div_add_mod cd (2 ^ (r + 1)); rw [hm, Nat.add_zero] at this; exact this.symm⟩
      have lt : 2 ^ r < 2 ^ (r + 1) := by rw [pr]; have := Nat.two_pow_pos r; omega
      rw [hq, Nat.two_pow_add_eq_or_of_lt lt q]
    have bh : ∀ i, i < k → (cd + 2 ^ r).testBit (n - 1 - i) = cd.testBit (n - 1 - i) := by
      intro i hi
      rw [eo, fb_bit_set, decide_eq_false (show ¬ n - 1 - i = r by omega), Bool.or_false]
    have b1 : (cd + 2 ^ r).testBit r = true := by rw [eo, fb_bit_set, decide_eq_true rfl, Bool.or_true]
    have lw : ∀ ft, luX X t w ft cd n (k + 1) = xUA X t w ft (luX X t w ft cd n k) (X w 1 + nI k) := by
      intro ft
      show (if cd.testBit (n - 1 - k) = true then _ else _) = _
      rw [e1, b0, if_neg (by decide)]
    have lf : ∀ ft, luX X t w ft (cd + 2 ^ r) n (k + 1) = luX X t w ft cd n k := by
      intro ft
      show (if (cd + 2 ^ r).testBit (n - 1 - k) = true then _ else _) = _
      rw [e1, if_pos b1]
      exact luX_cg k bh
    have fw : wkF fare cd n (k + 1) = wkF fare cd n k := by
      show (if cd.testBit (n - 1 - k) = true then _ else _) = _
      rw [e1, b0, if_neg (by decide)]
    have ff : wkF fare (cd + 2 ^ r) n (k + 1) = wkF fare cd n k + fare := by
      show (if (cd + 2 ^ r).testBit (n - 1 - k) = true then wkF fare (cd + 2 ^ r) n k + fare else _) = _
      rw [e1, if_pos b1, wkF_cg k bh]
    have sw : wkS cd n (k + 1) = wkS cd n k ||| 2 ^ k := by
      show (if cd.testBit (n - 1 - k) = true then _ else _) = _
      rw [e1, b0, if_neg (by decide)]
    have sf : wkS (cd + 2 ^ r) n (k + 1) = wkS cd n k := by
      show (if (cd + 2 ^ r).testBit (n - 1 - k) = true then _ else _) = _
      rw [e1, if_pos b1]
      exact wkS_cg k bh
    obtain ⟨i1, i2⟩ := go_y hn r (k + 1) cd g (by omega) hm0 (by omega) h3 h4 h5 h6 h7 hw
    rw [lw, lw, fw, sw] at i1 i2
    have j := go_y hn r (k + 1) (cd + 2 ^ r) _ (by omega) (by rw [Nat.add_mod_right]; exact hm0) (by omega) ((i2 3 (by decide) (by decide)).trans h3) ((i2 4 (by decide) (by decide)).trans h4) ((i2 5 (by decide) (by decide)).trans h5) ((i2 6 (by decide) (by decide)).trans h6) ((i2 7 (by decide) (by decide)).trans h7) i1
    rw [lf, lf, ff, sf] at j
    have eg : xGo X t w (r + 1) k (luX X t w fl cd n k) (luX X t w fr cd n k) (wkF fare cd n k) (nI (wkS cd n k)) g = xGo X t w r (k + 1) (luX X t w fl cd n k) (luX X t w fr cd n k) (wkF fare cd n k + fare) (nI (wkS cd n k)) (xGo X t w r (k + 1) (xUA X t w fl (luX X t w fl cd n k) (X w 1 + nI k)) (xUA X t w fr (luX X t w fr cd n k) (X w 1 + nI k)) (wkF fare cd n k) (nI (wkS cd n k ||| 2 ^ k)) g) := by
      show xGo X t w r (k + 1) _ _ (wkF fare cd n k + g 4) _ (xGo X t w r (k + 1) (xUA X t w (g 5) (luX X t w fl cd n k) (X w 1 + nI k)) (xUA X t w (g 6) (luX X t w fr cd n k) (X w 1 + nI k)) _ (nI (wkS cd n k) ||| (1 <<< (nI k &&& 31))) g) = _
      rw [h4, h5, h6, nI_pow (by omega), nI_or]
    rw [eg, show cd + 2 ^ (r + 1) = cd + 2 ^ r + 2 ^ r by omega]
    exact ⟨j.1, fun i h2 h7' => (j.2 i h2 h7').trans (i2 i h2 h7')⟩
theorem wkS_bit (cd n : Nat) : ∀ k i, (wkS cd n k).testBit i = (decide (i < k) && !(cd.testBit (n - 1 - i)))
  | 0, i => by simp [wkS]
  | k + 1, i => by
    have ih := wkS_bit cd n k i
    unfold wkS
    by_cases z : cd.testBit (n - 1 - k) = true
    · rw [if_pos z, ih]
      by_cases e : i = k
      · subst e; simp [z]
      · by_cases q : i < k
        · simp [q, show i < k + 1 by omega]
        · simp [q, show ¬ i < k + 1 by omega]
    · rw [if_neg z, fb_bit_set, ih]
      simp at z
      by_cases e : i = k
      · subst e; simp [z]
      · by_cases q : i < k
        · simp [q, e, show i < k + 1 by omega]
        · simp [q, e, show ¬ i < k + 1 by omega]
theorem lu_y (h : hR X Y t w np ns nd) {j p n cd : Nat} (hj : j < ns) (hp : p < np) (ho : Y 163 j = nI p) (hn : n ≤ 8) : ∀ k, k ≤ n → luX X t w (nI j) cd n k = yUB Y j p (nI (wkS cd n n)) k
  | 0, _ => by
    have hns := h.lns
    have hnp := h.lnp
    show xUN X t w (nI j) = Y 162 j
    unfold xUN
    have e : ixn (nI j) = j := ixn_nI (by omega)
    rw [if_pos ((h.there (nI j)).mpr ⟨h.1.1.ofS hj, by rw [e, ho]; exact nI_ne2 (by omega)⟩), e]
    exact h.w2 hj
  | k + 1, hk => by
    have hns := h.lns
    have hnp := h.lnp
    have ih := lu_y h hj hp ho hn (cd := cd) k (by omega)
    have p8 : 2 ^ n ≤ 2 ^ 8 := Nat.pow_le_pow_right (by decide) hn
    have lS := wkS_lt cd n n
    have eb : xBit (nI (wkS cd n n)) k ↔ ¬ cd.testBit (n - 1 - k) = true := by
      have : xBit (nI (wkS cd n n)) k ↔ (wkS cd n n).testBit k = true := nbit_1 (by omega) (by omega)
      rw [this, wkS_bit, decide_eq_true (show k < n by omega), Bool.true_and]
      simp
    show (if cd.testBit (n - 1 - k) = true then luX X t w (nI j) cd n k else xUA X t w (nI j) (luX X t w (nI j) cd n k) (X w 1 + nI k)) = (if yUB Y j p (nI (wkS cd n n)) k < 50 then yUB Y j p (nI (wkS cd n n)) k + (if xBit (nI (wkS cd n n)) k then yWearB Y j (yUB Y j p (nI (wkS cd n n)) k) p (Y 167 0 + nI k) else 0) else yUB Y j p (nI (wkS cd n n)) k)
    rw [ih]
    by_cases z : cd.testBit (n - 1 - k) = true
    · rw [if_pos z, if_neg (fun q => eb.mp q z), Int32.add_zero]
      split <;> rfl
    · rw [if_neg z, if_pos (eb.mpr z)]
      unfold xUA
      rw [ixn_nI (by omega), wear_y h.1.1 h.2.1 h.1.2.1 h.2.2.1 hj hp (by rw [Nat.mul_zero, Nat.zero_add]; exact ho), h.2.1.2.2.2.1]
theorem wt_y (h : hR X Y t w np ns nd) {j p n : Nat} (hj : j < ns) (hp : p < np) (ho : Y 163 j = nI p) (u : Int32) : xWT X t w (nI n) (nI j) u = if u < 50 then yWorthB Y j u (nI p) (Y 167 0 + nI n) else 0 := by
  have hns := h.lns
  have hnp := h.lnp
  unfold xWT
  have ho' : Y 163 (16 * 0 + j) = nI p := by rw [Nat.mul_zero, Nat.zero_add]; exact ho
  rw [ixn_nI (by omega), worth_y h.1.1 h.2.1 h.1.2.1 h.2.2.1 hj u _ (by rw [ho']; exact nI_ne2 (by omega)), ho', h.2.1.2.2.2.1]
theorem yUB_0 (j p : Nat) : ∀ k, yUB Y j p 0 k = Y 162 j
  | 0 => rfl
  | k + 1 => by
    have ih := yUB_0 j p k
    show (if yUB Y j p 0 k < 50 then yUB Y j p 0 k + (if xBit 0 k then _ else 0) else yUB Y j p 0 k) = _
    have nb : ¬ xBit 0 k := by
      unfold xBit
      have : (0 : Int32) >>> (nI k &&& 31) = 0 := by
        apply Int32.toBitVec_inj.mp
        show BitVec.sshiftRight' (0#32) _ = 0#32
        simp [BitVec.sshiftRight']
      rw [this]
      decide
    rw [if_neg nb, Int32.add_zero, ih]
    split <;> rfl
/-- one foot's part of a code -/
theorem foot_y (h : hR X Y t w np ns nd) {p n cd : Nat} (hn : n ≤ 8) {ft : Int32} (hp : p < np) (hf : ftOK Y 0 ns p ft) : (ft < 0 ∧ xWT X t w (nI n) ft (xUN X t w ft) = 0 ∧ xWT X t w (nI n) ft (luX X t w ft cd n n) = 0) ∨ (¬ ft < 0 ∧ xWT X t w (nI n) ft (xUN X t w ft) = yBe Y (ixn ft) p n 0 ∧ xWT X t w (nI n) ft (luX X t w ft cd n n) = yBe Y (ixn ft) p n (nI (wkS cd n n))) := by
  have hns := h.lns
  rcases hf with rfl | ⟨j, hj, rfl, ho, -⟩
  · have u0 : xUN X t w (-1) = 50 := by
      unfold xUN
      rw [if_neg (fun q => absurd q.1.1 (by decide))]
    have l0 : ∀ k, luX X t w (-1) cd n k = 50 := by
      intro k
      induction k with
      | zero => exact u0
      | succ k ih =>
        unfold luX
        rw [ih]
        split
        · rfl
        · unfold xUA
          rw [if_neg (by decide)]
    refine Or.inl ⟨by decide, ?_, ?_⟩
    · rw [u0]; unfold xWT; rw [if_neg (by decide)]
    · rw [l0]; unfold xWT; rw [if_neg (by decide)]
  · rw [Nat.mul_zero, Nat.zero_add] at ho
    refine Or.inr ⟨nI_pos (by omega), ?_, ?_⟩
    · have e : xUN X t w (nI j) = Y 162 j := lu_y h hj hp ho hn (cd := 0) 0 (Nat.zero_le _)
      rw [e, wt_y h hj hp ho, ixn_nI (by omega)]
      unfold yBe
      rw [yUB_0]
    · rw [lu_y h hj hp ho hn n (Nat.le_refl _), wt_y h hj hp ho, ixn_nI (by omega)]
      rfl
theorem co_y (h : hR X Y t w np ns nd) {p n cd : Nat} (hn : n ≤ 8) (hp : p < np) : coX X t w (X (w + 4) (2 * p)) (X (w + 4) (2 * p + 1)) (X (t + 4) p) (xWT X t w (nI n) (X (w + 4) (2 * p)) (xUN X t w (X (w + 4) (2 * p))) + xWT X t w (nI n) (X (w + 4) (2 * p + 1)) (xUN X t w (X (w + 4) (2 * p + 1)))) n cd = yWS Y p n cd := by
  have hf := h.2.2.1.2 p hp
  rw [Nat.mul_zero, Nat.zero_add] at hf
  unfold coX yWS yFo
  rw [h.f0 hp, h.f1 hp, (h.1.1.2.2.1 p hp).2.2.2]
  rcases foot_y h (cd := cd) hn hp hf.1 with ⟨a1, a2, a3⟩ | ⟨a1, a2, a3⟩ <;> rcases foot_y h (cd := cd) hn hp hf.2 with ⟨b1, b2, b3⟩ | ⟨b1, b2, b3⟩
  · rw [if_pos a1, if_pos b1, a2, a3, b2, b3]
    simp
  · rw [if_pos a1, if_neg b1, a2, a3, b2, b3]
    simp only [Int32.sub_eq_add_neg, Int32.neg_zero, Int32.add_zero, Int32.zero_add]
    ac_rfl
  · rw [if_neg a1, if_pos b1, a2, a3, b2, b3]
    simp only [Int32.sub_eq_add_neg, Int32.neg_zero, Int32.add_zero, Int32.zero_add]
    ac_rfl
  · rw [if_neg a1, if_neg b1, a2, a3, b2, b3]
    simp only [Int32.sub_eq_add_neg]
    ac_rfl
/-- walk: the class's answer is that of the reference's code -/
theorem walk_y (h : hR X Y t w np ns nd) {p n cs : Nat} (hn : n ≤ 8) (hp : p < np) (hcs : cs < 2 ^ n) (hmin : ∀ cd, cd < 2 ^ n → yWS Y p n cs ≤ yWS Y p n cd ∧ (cd < cs → yWS Y p n cs < yWS Y p n cd)) : xPlan X t w p n 0 = yWS Y p n cs ∧ xPlan X t w p n 1 = nI (wkS cs n n) := by
  have hS : ∀ cd, coX X t w (X (w + 4) (2 * p)) (X (w + 4) (2 * p + 1)) (X (t + 4) p) (xWT X t w (nI n) (X (w + 4) (2 * p)) (xUN X t w (X (w + 4) (2 * p))) + xWT X t w (nI n) (X (w + 4) (2 * p + 1)) (xUN X t w (X (w + 4) (2 * p + 1)))) n cd = yWS Y p n cd := fun cd => co_y h hn hp
  have g := (go_y (X := X) (t := t) (w := w) (fl := X (w + 4) (2 * p)) (fr := X (w + 4) (2 * p + 1)) (fare := X (t + 4) p) (g7 := xWT X t w (nI n) (X (w + 4) (2 * p)) (xUN X t w (X (w + 4) (2 * p))) + xWT X t w (nI n) (X (w + 4) (2 * p + 1)) (xUN X t w (X (w + 4) (2 * p + 1)))) hn n 0 0 (xPl X t w p n) (by omega) (Nat.zero_mod _) (by omega) (by unfold xPl; simp [upd]) (by unfold xPl; simp [upd]) (by unfold xPl; simp [upd]) (by unfold xPl; simp [upd]) (by unfold xPl; simp [upd]) (Or.inl ⟨by unfold xPl; simp [upd], rfl⟩)).1
  rw [Nat.zero_add] at g
  have e0 : xPlan X t w p n = xGo X t w n 0 (luX X t w (X (w + 4) (2 * p)) 0 n 0) (luX X t w (X (w + 4) (2 * p + 1)) 0 n 0) (wkF (X (t + 4) p) 0 n 0) (nI (wkS 0 n 0)) (xPl X t w p n) := rfl
  rw [← e0] at g
  rcases g with ⟨-, q⟩ | ⟨-, c', c1, c2, c3, c4⟩
  · have := Nat.two_pow_pos n
    omega
  · rw [hS] at c2
    have ec : c' = cs := by
      obtain ⟨m1, m2⟩ := hmin c' c1
      obtain ⟨k1, k2⟩ := c4 cs hcs
      rw [hS, hS] at k1 k2
      rcases Nat.lt_trichotomy c' cs with q | q | q
      · exact absurd k1 (Int32.not_le.mpr (m2 q))
      · exact q
      · exact absurd m1 (Int32.not_le.mpr (k2 q))
    subst ec
    exact ⟨c2, c3⟩
end
