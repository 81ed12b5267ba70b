/-! ===== class and reference: who it was ===== -/
theorem sbN_tb (R : Nat → Bool) : ∀ n i, (sbN R n).testBit i = (decide (i < n) && R i)
  | 0, i => by simp [sbN]
  | n + 1, i => by
    have ih := sbN_tb R n
    have l := sbN_lt R n
    show (if R n then sbN R n + 2 ^ n else sbN R n).testBit i = _
    by_cases z : R n = true
    · rw [if_pos z]
      have e := Nat.two_pow_add_eq_or_of_lt l 1
      rw [Nat.mul_one] at e
      rw [Nat.add_comm, e, Nat.or_comm, fb_bit_set, ih i]
      by_cases q : i = n
      · subst q; simp [z]
      · by_cases q2 : i < n
        · simp [q, q2, show i < n + 1 by omega]
        · simp [q, q2, show ¬ i < n + 1 by omega]
    · rw [if_neg z, ih i]
      by_cases q : i = n
      · subst q; simp at z; simp [z]
      · by_cases q2 : i < n
        · simp [q2, show i < n + 1 by omega]
        · simp [q2, show ¬ i < n + 1 by omega]
theorem wBi_sb (R : Nat → Bool) : ∀ n, wBi R n = sbN R n
  | 0 => rfl
  | n + 1 => by
    have l := sbN_lt R n
    have e := Nat.two_pow_add_eq_or_of_lt l 1
    rw [Nat.mul_one] at e
    unfold wBi sbN
    rw [wBi_sb R n]
    split
    · rw [Nat.add_comm, e, Nat.or_comm]
    · rfl
section
variable {X Y : Nat → Nat → Int32} {t w np ns nd : Nat}
theorem print_y (h : hR X Y t w np ns nd) {p : Nat} (hp : p < np) (side : Int32) : xPrint X t w side p = yPr Y side p := by
  have hns := h.lns
  have hf := h.2.2.1.2 p hp
  rw [Nat.mul_zero, Nat.zero_add] at hf
  have key : ∀ x, ftOK Y 0 ns p x → (if xHasS X t x then X (t + 7) (ixn x) else X (t + 2) p) = (if x < 0 then Y 138 p else Y 143 (ixn x)) := by
    rintro x (rfl | ⟨j, hj, rfl, -, -⟩)
    · rw [if_neg (fun q => absurd q.1 (by decide)), if_pos (by decide)]
      exact (h.1.1.2.2.1 p hp).2.1
    · rw [if_pos ((h.1.1.hasS _).mpr (h.1.1.ofS hj)), if_neg (nI_pos (by omega)), ixn_nI (by omega)]
      exact (h.1.1.2.2.2.1 j hj).2.1
  unfold xPrint yPr
  by_cases z : side = 0
  · rw [if_pos z, if_pos z]
    simp only [Nat.add_zero]
    rw [h.f0 hp]
    exact key _ hf.1
  · rw [if_neg z, if_neg z, h.f1 hp]
    exact key _ hf.2
theorem xFit_nI (h : hR X Y t w np ns nd) {p : Nat} (hp : p < 2 ^ 31) (side size : Int32) : ∀ n, n ≤ np → xFit X t w (nI p) side size n = nI (sbN (fun i => decide (p.testBit i = true ∧ yPr Y side i = size)) n)
  | 0, _ => rfl
  | n + 1, hn => by
    have h5 := h.lnp
    have ih := xFit_nI h hp side size n (by omega)
    unfold xFit sbN
    rw [print_y h (show n < np by omega)]
    have eb : xBit (nI p) n ↔ p.testBit n = true := nbit_1 hp (by omega)
    by_cases z : p.testBit n = true ∧ yPr Y side n = size
    · rw [if_pos ⟨eb.mpr z.1, z.2⟩, if_pos (decide_eq_true z), ih, nI_pow (by omega), or_pw (sbN_lt _ n) (by omega)]
    · rw [if_neg (fun q => z ⟨eb.mp q.1, q.2⟩), if_neg (by simpa using z), ih]
/-- print k of person i is as the track says, or the track does not count -/
def fitK (Y : Nat → Nat → Int32) (F : Nat → Int32) (i k : Nat) : Prop := F k = 0 ∨ Y 178 (2 * k) < 0 ∨ Y 178 (2 * k + 1) = yPr Y (Y 178 (2 * k)) i
theorem wAl_iff {F : Nat → Int32} {i : Nat} : ∀ n, wAl (Y 178) F (fun a => yPr Y a i) n = true ↔ ∀ k, k < n → fitK Y F i k
  | 0 => ⟨fun _ k hk => absurd hk (Nat.not_lt_zero _), fun _ => rfl⟩
  | n + 1 => by
    have ih := wAl_iff (F := F) (i := i) n
    show (wAl (Y 178) F (fun a => yPr Y a i) n && (decide (F n = 0 ∨ Y 178 (2 * n) < 0) || decide (Y 178 (2 * n + 1) = yPr Y (Y 178 (2 * n)) i))) = true ↔ _
    rw [Bool.and_eq_true, ih, Bool.or_eq_true, decide_eq_true_eq, decide_eq_true_eq]
    constructor
    · rintro ⟨h1, h2⟩ k hk
      by_cases e : k = n
      · subst e
        unfold fitK
        rcases h2 with (q | q) | q
        · exact Or.inl q
        · exact Or.inr (Or.inl q)
        · exact Or.inr (Or.inr q)
      · exact h1 k (by omega)
    · intro h
      refine ⟨fun k hk => h k (by omega), ?_⟩
      rcases h n (by omega) with q | q | q
      · exact Or.inl (Or.inl q)
      · exact Or.inl (Or.inr q)
      · exact Or.inr q
theorem wC2_hi {tr : Nat → Int32} : ∀ (n : Nat) (f : Nat → Int32), (∀ m, m < n → tr (2 * m) < 0 → ∃ j, j < m ∧ tr (2 * m + 1) = nI j) → n ≤ 1000 → ∀ k, n ≤ k + 1 → wC2 tr n f k = f k
  | 0, _, _, _, _, _ => rfl
  | n + 1, f, h, hn, k, hk => by
    show wC2 tr n (if ¬ f n = 0 ∧ tr (2 * n) < 0 then upd f (ixn (tr (2 * n + 1))) 0 else f) k = f k
    rw [wC2_hi n _ (fun m hm => h m (by omega)) (by omega) k (by omega)]
    split
    · rename_i z
      obtain ⟨j, hj, e⟩ := h n (by omega) z.2
      rw [e, ixn_nI (by omega), upd_ne (by omega)]
    · rfl
theorem sus_y (h : hR X Y t w np ns nd) {tk : Nat} (h24 : tk ≤ 24) (htk : tkM Y tk) (hx : ∀ k, k < tk → (Y 178 (2 * k) = -1 → X 124 k = 2) ∧ (¬ Y 178 (2 * k) = -1 → X 124 k = Y 178 (2 * k)) ∧ X 125 k = Y 178 (2 * k + 1)) :
    ∀ (n p s : Nat) (f : Nat → Int32), n ≤ tk → p < 2 ^ np → s < 2 ^ 24 → (∀ k, k < n → (s.testBit k = true ↔ f k = 0)) → ∃ R, xSus X t w np n (nI p) (nI s) = nI R ∧ R < 2 ^ np ∧ ∀ i, i < np → (R.testBit i = true ↔ (p.testBit i = true ∧ ∀ k, k < n → fitK Y (wC2 (Y 178) n f) i k))
  | 0, p, s, f, _, hp, _, _ => ⟨p, rfl, hp, fun i _ => ⟨fun q => ⟨q, fun k hk => absurd hk (Nat.not_lt_zero _)⟩, fun q => q.1⟩⟩
  | n + 1, p, s, f, hn, hp, hs, hf => by
    have h5 := h.lnp
    have p5 : 2 ^ np ≤ 2 ^ 5 := Nat.pow_le_pow_right (by decide) h5
    have s24 : (2 : Nat) ^ 24 = 16777216 := rfl
    have hj := fun m (hm : m < n + 1) (hs : Y 178 (2 * m) < 0) => tkM_j htk (show m < tk by omega) hs
    have fin : wC2 (Y 178) (n + 1) f n = f n := wC2_hi (n + 1) f (fun m hm hs => hj m hm hs) (by omega) n (Nat.le_refl _)
    have eb : (nI s >>> (nI n &&& 31)) &&& 1 = 1 ↔ s.testBit n = true := nbit_1 (by omega) (by omega)
    have eb0 : ¬ ((nI s >>> (nI n &&& 31)) &&& 1 = 0) ↔ s.testBit n = true := by
      rw [shrN (by omega) (by omega)] at eb ⊢
      have e : (nI (s / 2 ^ n) &&& 1 : Int32) = nI (s / 2 ^ n % 2) := by
        apply Int32.toBitVec_inj.mp
        apply BitVec.eq_of_toNat_eq
        rw [Int32.toBitVec_and, BitVec.toNat_and]
        show (s / 2 ^ n % 2 ^ 32) &&& 1 = (s / 2 ^ n % 2) % 2 ^ 32
        rw [Nat.and_one_is_mod]
        omega
      rw [e, Nat.testBit_eq_decide_div_mod_eq]
      have l2 := Nat.mod_lt (s / 2 ^ n) (show 2 > 0 by decide)
      rw [show (0 : Int32) = nI 0 from rfl, nI_eq (by omega) (by decide)]
      simp
    have split1 : ∀ (G : Nat → Int32) i, G n = f n → ((∀ k, k < n + 1 → fitK Y G i k) ↔ ((∀ k, k < n → fitK Y G i k) ∧ (f n = 0 ∨ Y 178 (2 * n) < 0 ∨ Y 178 (2 * n + 1) = yPr Y (Y 178 (2 * n)) i))) := by
      intro G i hG
      constructor
      · intro q
        have := q n (by omega)
        unfold fitK at this
        rw [hG] at this
        exact ⟨fun k hk => q k (by omega), this⟩
      · rintro ⟨q1, q2⟩ k hk
        by_cases e : k = n
        · subst e; unfold fitK; rw [hG]; exact q2
        · exact q1 k (by omega)
    show ∃ R, (if ¬ (nI s >>> (nI n &&& 31)) &&& 1 = 0 then xSus X t w np n (nI p) (nI s) else if X 124 n = 2 then xSus X t w np n (nI p) (nI s ||| (1 <<< (X 125 n &&& 31))) else xSus X t w np n (xFit X t w (nI p) (X 124 n) (X 125 n) np) (nI s)) = nI R ∧ _
    obtain ⟨x1, x2, x3⟩ := hx n (by omega)
    by_cases z : s.testBit n = true
    · have f0 : f n = 0 := (hf n (by omega)).mp z
      rw [if_pos (eb0.mpr z)]
      obtain ⟨R, r1, r2, r3⟩ := sus_y h h24 htk hx n p s f (by omega) hp hs (fun k hk => hf k (by omega))
      have eC : wC2 (Y 178) (n + 1) f = wC2 (Y 178) n f := by
        show wC2 (Y 178) n (if ¬ f n = 0 ∧ Y 178 (2 * n) < 0 then upd f (ixn (Y 178 (2 * n + 1))) 0 else f) = _
        rw [if_neg (fun q => q.1 f0)]
      refine ⟨R, r1, r2, fun i hi => ?_⟩
      rw [r3 i hi, split1 _ i fin, eC]
      exact ⟨fun q => ⟨q.1, q.2, Or.inl f0⟩, fun q => ⟨q.1, q.2.1⟩⟩
    · have f0 : ¬ f n = 0 := fun q => z ((hf n (by omega)).mpr q)
      rw [if_neg (fun q => z (eb0.mp q))]
      rcases htk n (by omega) with ⟨t1, j, hjn, t2⟩ | ⟨a, b, ha, hb1, hb2, t1, t2⟩
      · rw [if_pos (x1 t1), x3, t2, nI_pw j (by omega), nI_or]
        have eC : wC2 (Y 178) (n + 1) f = wC2 (Y 178) n (upd f j 0) := by
          show wC2 (Y 178) n (if ¬ f n = 0 ∧ Y 178 (2 * n) < 0 then upd f (ixn (Y 178 (2 * n + 1))) 0 else f) = _
          rw [if_pos ⟨f0, by rw [t1]; decide⟩, t2, ixn_nI (by omega)]
        obtain ⟨R, r1, r2, r3⟩ := sus_y h h24 htk hx n p (s ||| 2 ^ j) (upd f j 0) (by omega) hp (Nat.or_lt_two_pow hs (Nat.pow_lt_pow_right (by decide) (by omega))) (fun k hk => by
          rw [fb_bit_set, Bool.or_eq_true, decide_eq_true_eq]
          by_cases e : k = j
          · subst e; rw [upd_eq]; exact ⟨fun _ => rfl, fun _ => Or.inr rfl⟩
          · rw [upd_ne e, ← hf k (by omega)]
            exact ⟨fun q => q.elim id (fun q => absurd q e), fun q => Or.inl q⟩)
        refine ⟨R, r1, r2, fun i hi => ?_⟩
        rw [r3 i hi, split1 _ i fin, eC]
        exact ⟨fun q => ⟨q.1, q.2, Or.inr (Or.inl (by rw [t1]; decide))⟩, fun q => ⟨q.1, q.2.1⟩⟩
      · have hn1 : ¬ Y 178 (2 * n) = -1 := by rw [t1]; exact nI_neg1 (by omega)
        have h124 : X 124 n = nI a := (x2 hn1).trans t1
        rw [if_neg (by rw [h124]; exact fun q => absurd ((nI_eq (by omega) (by decide)).mp (q.trans (show (2 : Int32) = nI 2 from rfl))) (by omega)), xFit_nI h (by omega) _ _ np (Nat.le_refl _)]
        have eC : wC2 (Y 178) (n + 1) f = wC2 (Y 178) n f := by
          show wC2 (Y 178) n (if ¬ f n = 0 ∧ Y 178 (2 * n) < 0 then upd f (ixn (Y 178 (2 * n + 1))) 0 else f) = _
          rw [if_neg (fun q => by rw [t1] at q; exact absurd q.2 (nI_pos (by omega)))]
        obtain ⟨R, r1, r2, r3⟩ := sus_y h h24 htk hx n _ s f (by omega) (sbN_lt _ np) hs (fun k hk => hf k (by omega))
        refine ⟨R, r1, r2, fun i hi => ?_⟩
        rw [r3 i hi, split1 _ i fin, eC, sbN_tb, Bool.and_eq_true, decide_eq_true_eq, decide_eq_true_eq, x2 hn1, x3]
        constructor
        · rintro ⟨⟨-, q1, q2⟩, q3⟩
          exact ⟨q1, q3, Or.inr (Or.inr q2.symm)⟩
        · rintro ⟨q1, q3, q4⟩
          refine ⟨⟨hi, q1, ?_⟩, q3⟩
          rcases q4 with q | q | q
          · exact absurd q f0
          · rw [t1] at q; exact absurd q (nI_pos (by omega))
          · exact q.symm
theorem who_y (h : hR X Y t w np ns nd) (ht : tkR X Y) : ∃ kn tk, (if Y 134 81 < 0 then Y 134 80 else Y 134 81) = nI kn ∧ kn ≤ tk ∧ tk ≤ 24 ∧ tkM Y tk ∧ Y 134 80 = nI tk ∧ xKn X = nI kn ∧ iMin (X 123 0) (xKn X) = nI kn ∧ xWho X t w np = nI (yWho Y kn np) := by
  have h5 := h.lnp
  obtain ⟨tk, t1, t2, t3, t4, t5, t6, t7⟩ := ht
  have hk : ∃ kn, (if Y 134 81 < 0 then Y 134 80 else Y 134 81) = nI kn ∧ kn ≤ tk ∧ xKn X = nI kn := by
    unfold xKn
    rw [t5, t2]
    by_cases z : Y 134 81 < 0
    · have e : Y 134 81 = -1 := by
        have a1 := Int32.le_iff_toInt_le.mp t6.1
        have a2 := Int32.lt_iff_toInt_lt.mp z
        have e0 : (0 : Int32).toInt = 0 := rfl
        have e1 : (-1 : Int32).toInt = -1 := rfl
        exact Int32.toInt_inj.mp (by omega)
      rw [if_pos z, if_pos e]
      exact ⟨tk, t3, Nat.le_refl _, rfl⟩
    · obtain ⟨k, hk, e⟩ := nI_of z
      have hl := t6.2
      rw [e] at hl
      rw [if_neg z, if_neg (fun q => by rw [q] at z; exact z (by decide))]
      exact ⟨k, e, (nI_leI hk (by omega)).mp hl, e⟩
  obtain ⟨kn, k1, k2, k3⟩ := hk
  have k4 : iMin (X 123 0) (xKn X) = nI kn := by
    rw [t2, k3]
    unfold iMin
    by_cases z : kn < tk
    · rw [if_pos ((nI_ltI (by omega) (by omega)).mpr z)]
    · rw [if_neg (fun q => z ((nI_ltI (by omega) (by omega)).mp q)), show kn = tk by omega]
  refine ⟨kn, tk, k1, k2, t1, t4, t3, k3, k4, ?_⟩
  obtain ⟨R, r1, r2, r3⟩ := sus_y h t1 t4 t7 kn (2 ^ np - 1) 0 (fil (fun _ => 1) (Y 179) kn) k2 (by have := Nat.two_pow_pos np; omega) (by decide) (fun k hk => by
    rw [fil_lt hk, Nat.zero_testBit]
    exact ⟨fun q => absurd q (by decide), fun q => absurd q (by decide)⟩)
  unfold xWho
  rw [k4, ixn_nI (by omega), h.1.1.1.1, nI_pow (by omega)]
  have e1 : nI (2 ^ np) - 1 = nI (2 ^ np - 1) := by
    have := nI_add (2 ^ np - 1) 1
    rw [Nat.sub_add_cancel (Nat.two_pow_pos np)] at this
    rw [← this]
    show nI (2 ^ np - 1) + 1 - 1 = _
    rw [Int32.add_sub_cancel]
  rw [e1]
  refine (show xSus X t w np kn (nI (2 ^ np - 1)) 0 = nI R from r1).trans (congrArg nI ?_)
  unfold yWho
  rw [wBi_sb]
  apply Nat.eq_of_testBit_eq
  intro i
  rw [sbN_tb]
  by_cases hi : i < np
  · rw [decide_eq_true hi, Bool.true_and]
    have := r3 i hi
    rw [Nat.testBit_two_pow_sub_one, decide_eq_true hi] at this
    have e := wAl_iff (Y := Y) (F := yCts Y kn) (i := i) kn
    exact Bool.eq_iff_iff.mpr (this.trans (Iff.trans ⟨fun q => q.2, fun q => ⟨rfl, q⟩⟩ e.symm))
  · rw [decide_eq_false hi, Bool.false_and]
    exact tb_hi r2 (by omega)
/-- what tells most -/
def tlR (x y : Int32 × Int32) (C : Nat → Nat) : Prop := (x = (-2, 6) ∧ y = (-2, 99)) ∨ ∃ k c, k < 40 ∧ 1 ≤ c ∧ c ≤ 5 ∧ C k = c ∧ x = (nI (21 * (k / 20) + (k % 20 + 1)), nI c) ∧ y = (nI k, nI c)
theorem tl_step {x y : Int32 × Int32} {C : Nat → Nat} {k : Nat} (hk : k < 40) (h5 : C k ≤ 5) (h : tlR x y C) : tlR (if ¬ nI (C k) < 1 ∧ ¬ x.2 ≤ nI (C k) then (nI (21 * (k / 20) + (k % 20 + 1)), nI (C k)) else x) (if C k = 0 ∨ ¬ nI (C k) < y.2 then y else (nI k, nI (C k))) C := by
  have c1 : (nI (C k) < 1) ↔ C k = 0 := by
    rw [show (1 : Int32) = nI 1 from rfl, nI_ltI (by omega) (by decide)]
    omega
  have c2 : (¬ x.2 ≤ nI (C k)) ↔ (nI (C k) < y.2) := by
    rw [Int32.not_le]
    rcases h with ⟨rfl, rfl⟩ | ⟨k', c, -, -, -, -, rfl, rfl⟩
    · show nI (C k) < 6 ↔ nI (C k) < 99
      rw [show (6 : Int32) = nI 6 from rfl, show (99 : Int32) = nI 99 from rfl, nI_ltI (by omega) (by decide), nI_ltI (by omega) (by decide)]
      omega
    · exact Iff.rfl
  by_cases z : C k = 0 ∨ ¬ nI (C k) < y.2
  · rw [if_pos z, if_neg]
    · exact h
    · rintro ⟨q1, q2⟩
      rcases z with z | z
      · exact q1 (c1.mpr z)
      · exact z (c2.mp q2)
  · rw [if_neg z, if_pos]
    · exact Or.inr ⟨k, C k, hk, by omega, h5, rfl, rfl, rfl⟩
    · refine ⟨fun q => z (Or.inl (c1.mp q)), c2.mpr ?_⟩
      by_cases q : nI (C k) < y.2
      · exact q
      · exact absurd (Or.inr q) z
theorem tellC (h : hR X Y t w np ns nd) {W k : Nat} (hW : W < 2 ^ 31) (hk : k < 40) : xBc (xFit X t w (nI W) (nI (k / 20)) (nI (k % 20 + 1)) np) = nI (tlC Y (nI W) np k) ∧ tlC Y (nI W) np k ≤ 5 := by
  have h5 := h.lnp
  have e : tlC Y (nI W) np k = fb_ct (fun i => decide (W.testBit i = true ∧ yPr Y (nI (k / 20)) i = nI (k % 20 + 1))) np := by
    unfold tlC
    refine fb_cg np fun i hi => decide_eq_decide.mpr ?_
    have eb : xBit (nI W) i ↔ W.testBit i = true := nbit_1 hW (by omega)
    rw [eb, Nat.add_comm 1 (k % 20)]
    exact and_congr_right fun _ => eq_comm
  have lt := sbN_lt (fun i => decide (W.testBit i = true ∧ yPr Y (nI (k / 20)) i = nI (k % 20 + 1))) np
  have p5 : 2 ^ np ≤ 2 ^ 5 := Nat.pow_le_pow_right (by decide) h5
  rw [e, xFit_nI h hW _ _ np (Nat.le_refl _), xBc_nI (by omega), sbN_cb _ np (by omega)]
  exact ⟨rfl, Nat.le_trans (fb_ct_le _ _) h5⟩
theorem tl_20 (h : hR X Y t w np ns nd) {W side : Nat} (hW : W < 2 ^ 31) (hs : side < 2) {x : Int32 × Int32} (hx : tlR x (tlS (tlC Y (nI W) np) (20 * side)) (tlC Y (nI W) np)) : ∀ n, n ≤ 20 → tlR (xTl X t w np (nI W) side n x) (tlS (tlC Y (nI W) np) (20 * side + n)) (tlC Y (nI W) np)
  | 0, _ => hx
  | n + 1, hn => by
    have ih := tl_20 h hW hs hx n (by omega)
    have hk : 20 * side + n < 40 := by omega
    have e1 : (20 * side + n) / 20 = side := by omega
    have e2 : (20 * side + n) % 20 + 1 = n + 1 := by omega
    obtain ⟨c1, c2⟩ := tellC h hW hk
    have st := tl_step hk c2 ih
    rw [e1, e2] at c1 st
    have em : nI side * 21 + nI (n + 1) = nI (21 * side + (n + 1)) := by
      rw [show nI side * 21 = nI (21 * side) from by rw [Int32.mul_comm]; exact pk_mul 21 side, nI_add]
    show tlR (if ¬ xBc (xFit X t w (nI W) (nI side) (nI (n + 1)) np) < 1 ∧ ¬ (xTl X t w np (nI W) side n x).2 ≤ xBc (xFit X t w (nI W) (nI side) (nI (n + 1)) np) then (nI side * 21 + nI (n + 1), xBc (xFit X t w (nI W) (nI side) (nI (n + 1)) np)) else xTl X t w np (nI W) side n x) (tlS (tlC Y (nI W) np) (20 * side + n + 1)) _
    rw [c1, em]
    exact st
theorem tells_y (h : hR X Y t w np ns nd) {kn : Nat} (hw : xWho X t w np = nI (yWho Y kn np)) (q : Int32) : xTellsQ X t w np q = yTellQ Y kn np q := by
  have h5 := h.lnp
  have p5 : 2 ^ np ≤ 2 ^ 5 := Nat.pow_le_pow_right (by decide) h5
  have lW : yWho Y kn np < 2 ^ 31 := by
    unfold yWho
    rw [wBi_sb]
    have := sbN_lt (fun p => wAl (Y 178) (yCts Y kn) (fun a => yPr Y a p) kn) np
    omega
  have r0 : tlR (-2, 6) (tlS (tlC Y (nI (yWho Y kn np)) np) (20 * 0)) (tlC Y (nI (yWho Y kn np)) np) := Or.inl ⟨rfl, rfl⟩
  have r1 := tl_20 h lW (side := 0) (by decide) r0 20 (Nat.le_refl _)
  have r2 := tl_20 h lW (side := 1) (by decide) r1 20 (Nat.le_refl _)
  have ex : xTell X t w np = xTl X t w np (nI (yWho Y kn np)) 1 20 (xTl X t w np (nI (yWho Y kn np)) 0 20 (-2, 6)) := by
    unfold xTell
    rw [hw]
  have ey : yTl Y kn np = tlS (tlC Y (nI (yWho Y kn np)) np) (20 * 1 + 20) := rfl
  rw [← ex, ← ey] at r2
  unfold xTellsQ yTellQ
  by_cases zq : 0 ≤ q ∧ q ≤ 2
  · rw [if_neg (show ¬ ¬ (0 ≤ q ∧ q ≤ 2) from fun k => k zq), if_neg (show ¬ ¬ (0 ≤ q ∧ q ≤ 2) from fun k => k zq)]
    rcases r2 with ⟨e1, e2⟩ | ⟨k, c, hk, c1, c5, hC, e1, e2⟩
    · rw [e1, e2, if_pos rfl, if_pos (by decide)]
    · rw [e1, e2]
      have hk2 : k / 20 < 2 := by omega
      have d1 : nI (21 * (k / 20) + (k % 20 + 1)) / 21 = nI (k / 20) ∧ nI (21 * (k / 20) + (k % 20 + 1)) - nI (21 * (k / 20) + (k % 20 + 1)) / 21 * 21 = nI (k % 20 + 1) ∧ nI k / 20 = nI (k / 20) ∧ 1 + (nI k - nI k / 20 * 20) = nI (k % 20 + 1) := by
        have key : ∀ k, k < 40 → nI (21 * (k / 20) + (k % 20 + 1)) / 21 = nI (k / 20) ∧ nI (21 * (k / 20) + (k % 20 + 1)) - nI (21 * (k / 20) + (k % 20 + 1)) / 21 * 21 = nI (k % 20 + 1) ∧ nI k / 20 = nI (k / 20) ∧ 1 + (nI k - nI k / 20 * 20) = nI (k % 20 + 1) := by decide +kernel
        exact key k hk
      dsimp only
      rw [if_neg (nI_ne2 (show 21 * (k / 20) + (k % 20 + 1) < 100 by omega)), if_neg (nI_pos (by omega)), d1.2.1, d1.1, d1.2.2.2, d1.2.2.1, hw, (tellC h lW hk).1, hC]
      obtain ⟨z, hz, rfl⟩ := nI_of (Int32.not_lt.mpr zq.1)
      have z2 : z ≤ 2 := (nI_leI hz (by decide)).mp (show nI z ≤ nI 2 from zq.2)
      rcases (show z = 0 ∨ z = 1 ∨ z = 2 by omega) with rfl | rfl | rfl
      · rfl
      · rfl
      · rfl
  · rw [if_pos zq, if_pos zq]
end
