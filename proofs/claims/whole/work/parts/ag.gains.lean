/-! ===== class and reference: rings of gain ===== -/
theorem pf_s {n c k : Nat} (hk : k < n) : c / 6 ^ (n - (k + 1)) = 6 * (c / 6 ^ (n - k)) + dig n c k := by
  have e : 6 ^ (n - k) = 6 ^ (n - (k + 1)) * 6 := by rw [← Nat.pow_succ]; congr 1; omega
  unfold dig
  rw [e, ← Nat.div_div_eq_div_mul]
  have := Nat.div_add_mod (c / 6 ^ (n - (k + 1))) 6
  omega
theorem pf_eq {n c c' : Nat} (h : c < 6 ^ n) (h' : c' < 6 ^ n) : ∀ k, k ≤ n → (∀ i, i < k → dig n c i = dig n c' i) → c / 6 ^ (n - k) = c' / 6 ^ (n - k)
  | 0, _, _ => by rw [Nat.sub_zero, Nat.div_eq_of_lt h, Nat.div_eq_of_lt h']
  | k + 1, hk, hd => by rw [pf_s (by omega), pf_s (by omega), pf_eq h h' k (by omega) (fun i hi => hd i (by omega)), hd k (by omega)]
theorem dig_inj {n c c' : Nat} (h : c < 6 ^ n) (h' : c' < 6 ^ n) (hd : ∀ i, i < n → dig n c i = dig n c' i) : c = c' := by
  have := pf_eq h h' n (Nat.le_refl _) hd
  rwa [Nat.sub_self, Nat.pow_zero, Nat.div_one, Nat.div_one] at this
theorem dig_lt {n c c' k : Nat} (h : c < 6 ^ n) (h' : c' < 6 ^ n) (hk : k < n) (hd : ∀ i, i < k → dig n c i = dig n c' i) (hl : dig n c k < dig n c' k) : c < c' := by
  have e := pf_eq h h' k (by omega) hd
  have s1 := pf_s (n := n) (c := c) hk
  have s2 := pf_s (n := n) (c := c') hk
  rcases Nat.lt_or_ge c c' with q | q
  · exact q
  · have := Nat.div_le_div_right (c := 6 ^ (n - (k + 1))) q
    omega
theorem dig_6 (n c k : Nat) : dig n c k < 6 := Nat.mod_lt _ (by decide)
theorem cod_ex {p : Nat → Nat} (hp : ∀ i, p i < 6) : ∀ n, ∃ c, c < 6 ^ n ∧ ∀ i, i < n → dig n c i = p i
  | 0 => ⟨0, by decide, fun i hi => absurd hi (Nat.not_lt_zero _)⟩
  | n + 1 => by
    obtain ⟨c, h1, h2⟩ := cod_ex hp n
    have h6 := hp n
    refine ⟨6 * c + p n, by rw [Nat.pow_succ]; omega, fun i hi => ?_⟩
    unfold dig
    by_cases e : i = n
    · subst e
      rw [show i + 1 - (i + 1) = 0 by omega, Nat.pow_zero, Nat.div_one]
      omega
    · have e2 : 6 ^ (n + 1 - (i + 1)) = 6 * 6 ^ (n - (i + 1)) := by
        rw [Nat.mul_comm, ← Nat.pow_succ]; congr 1; omega
      rw [e2, ← Nat.div_div_eq_div_mul, show (6 * c + p n) / 6 = c by omega]
      exact h2 i (by omega)
def pUd (p : Nat → Nat) (dep d : Nat) : Nat → Nat := fun i => if i = dep then d else p i
section
variable {gv gt r : Nat → Int32} {nr : Nat}
/-- the class's tables and the reference's row of rates hold the same -/
def RT (gv gt r : Nat → Int32) (nr : Nat) : Prop := ∀ a b, a < 6 → b < 6 → (¬ gt (6 * a + b) ≤ 0 → ∃ j, j < nr ∧ rtF r (nI a) (nI b) nr 0 = nI j ∧ r (4 * j + 3) = gt (6 * a + b) ∧ r (4 * j + 1) = gv (6 * a + b) ∧ r (4 * j) = nI a) ∧ (gt (6 * a + b) ≤ 0 → rtF r (nI a) (nI b) nr 0 < 0)
def stK (gt : Nat → Int32) (p : Nat → Nat) (n i : Nat) : Prop := (∀ k, k < i → ¬ p k = p i) ∧ (0 < i → p 0 ≤ p i) ∧ ¬ gt (6 * p i + p ((i + 1) % n)) ≤ 0
def prG (g : Nat → Int32) (p : Nat → Nat) (n : Nat) : Nat → Int64
  | 0 => 1
  | i + 1 => prG g p n i * (g (6 * p i + p ((i + 1) % n))).toInt64
theorem rgG_iff (hR : RT gv gt r nr) (h8 : nr ≤ 8) {p : Nat → Nat} (hp : ∀ i, p i < 6) {n i : Nat} : rgG r (fun i => nI (p i)) nr n i ↔ stK gt p n i := by
  unfold rgG stK
  have e : ∀ a b, (nI (p a) = nI (p b)) ↔ p a = p b := fun a b => nI_eq (by have := hp a; omega) (by have := hp b; omega)
  have l : (nI (p i) < nI (p 0)) ↔ p i < p 0 := nI_ltI (by have := hp i; omega) (by have := hp 0; omega)
  simp only [e, l]
  refine and_congr_right fun _ => and_congr (imp_congr_right fun _ => Nat.not_lt) ?_
  obtain ⟨q1, q2⟩ := hR (p i) (p ((i + 1) % n)) (hp _) (hp _)
  constructor
  · intro h z
    exact h (q2 z)
  · intro h
    obtain ⟨j, hj, e, -⟩ := q1 h
    rw [e]
    exact nI_pos (by omega)
theorem rgP_iff (hR : RT gv gt r nr) (h8 : nr ≤ 8) {p : Nat → Nat} (hp : ∀ i, p i < 6) {n : Nat} : ∀ i, ((∀ k, k < i → stK gt p n k) → rgP r (fun i => nI (p i)) nr n i = some (prG gt p n i, prG gv p n i)) ∧ ((¬ ∀ k, k < i → stK gt p n k) → rgP r (fun i => nI (p i)) nr n i = none)
  | 0 => ⟨fun _ => rfl, fun h => absurd (fun k hk => absurd hk (Nat.not_lt_zero _)) h⟩
  | i + 1 => by
    obtain ⟨h1, h2⟩ := rgP_iff hR h8 hp (n := n) i
    show (_ → (rgP r (fun i => nI (p i)) nr n i).bind _ = _) ∧ (_ → (rgP r (fun i => nI (p i)) nr n i).bind _ = _)
    by_cases z : ∀ k, k < i → stK gt p n k
    · rw [h1 z]
      show (_ → (if _ then _ else _) = _) ∧ (_ → (if _ then _ else _) = _)
      by_cases zi : stK gt p n i
      · obtain ⟨j, hj, e, e3, e1, -⟩ := (hR (p i) (p ((i + 1) % n)) (hp _) (hp _)).1 zi.2.2
        rw [if_pos ((rgG_iff hR h8 hp).mpr zi), e, ixn_nI (by omega), e3, e1]
        refine ⟨fun _ => rfl, fun h => absurd (fun k hk => ?_) h⟩
        by_cases q : k = i
        · subst q; exact zi
        · exact z k (by omega)
      · rw [if_neg (fun q => zi ((rgG_iff hR h8 hp).mp q))]
        exact ⟨fun h => absurd (h i (by omega)) zi, fun _ => rfl⟩
    · rw [h2 z]
      exact ⟨fun h => absurd (fun k hk => h k (by omega)) z, fun _ => rfl⟩
/-- a ring that gains -/
def RGp (gv gt : Nat → Int32) (p : Nat → Nat) (n : Nat) : Prop := (∀ i, i < n → stK gt p n i) ∧ prG gv p n n < prG gt p n n
theorem rgB_iff (hR : RT gv gt r nr) (h8 : nr ≤ 8) {p : Nat → Nat} (hp : ∀ i, p i < 6) {n : Nat} : rgB r (fun i => nI (p i)) nr n = true ↔ RGp gv gt p n := by
  obtain ⟨h1, h2⟩ := rgP_iff hR h8 hp (n := n) n
  unfold rgB RGp
  by_cases z : ∀ k, k < n → stK gt p n k
  · rw [h1 z]
    simp only [decide_eq_true_eq]
    exact ⟨fun q => ⟨z, q⟩, fun q => q.2⟩
  · rw [h2 z]
    exact ⟨fun q => (by cases q), fun q => absurd q.1 z⟩
theorem stK_cg {p q : Nat → Nat} {n i : Nat} (h : ∀ k, k < n → p k = q k) (hi : i < n) : stK gt p n i ↔ stK gt q n i := by
  unfold stK
  rw [h i hi, h ((i + 1) % n) (Nat.mod_lt _ (by omega)), h 0 (by omega)]
  refine and_congr (forall_congr' fun k => forall_congr' fun hk => ?_) Iff.rfl
  rw [h k (by omega)]
theorem prG_cg {g : Nat → Int32} {p q : Nat → Nat} {n : Nat} (h : ∀ k, k < n → p k = q k) : ∀ i, i ≤ n → prG g p n i = prG g q n i
  | 0, _ => rfl
  | i + 1, hi => by
    unfold prG
    rw [prG_cg h i (by omega), h i (by omega), h ((i + 1) % n) (Nat.mod_lt _ (by omega))]
theorem RGp_cg {p q : Nat → Nat} {n : Nat} (h : ∀ k, k < n → p k = q k) : RGp gv gt p n ↔ RGp gv gt q n := by
  unfold RGp
  rw [prG_cg h n (Nat.le_refl _), prG_cg h n (Nat.le_refl _)]
  exact and_congr (forall_congr' fun i => forall_congr' fun hi => stK_cg h hi) Iff.rfl
/-- the way so far -/
def pvP (gt : Nat → Int32) (p : Nat → Nat) (dep : Nat) : Prop := (∀ i, i < dep → ∀ k, k < i → ¬ p k = p i) ∧ (∀ i, i < dep → p 0 ≤ p i) ∧ ∀ i, i + 1 < dep → ¬ gt (6 * p i + p (i + 1)) ≤ 0
def visP (vis : Int32) (p : Nat → Nat) (dep : Nat) : Prop := ∃ v, v < 64 ∧ vis = nI v ∧ ∀ b, b < 6 → (v.testBit b = true ↔ ∃ i, i < dep ∧ p i = b)
/-- what a search over the codes of some set finds -/
def fnd (gv gt : Nat → Int32) (n : Nat) (S : Nat → Prop) (q : Bool × (Nat → Int32)) : Prop := (q.1 = false → ∀ c, c < 6 ^ n → S c → ¬ RGp gv gt (dig n c) n) ∧ (q.1 = true → ∃ c, c < 6 ^ n ∧ S c ∧ RGp gv gt (dig n c) n ∧ (∀ i, i < n → q.2 i = nI (dig n c i)) ∧ ∀ c', c' < c → S c' → ¬ RGp gv gt (dig n c') n)
theorem home_y {n : Nat} {p : Nat → Nat} {f : Nat → Int32} (hp : ∀ i, p i < 6) (h1 : 1 ≤ n) (hf : ∀ i, i < n → f i = nI (p i)) (hv : pvP gt p n) {ga tk : Int64} (hga : ga = prG gv p n (n - 1)) (htk : tk = prG gt p n (n - 1)) : (¬ gt (6 * ixn (f (n - 1)) + ixn (f 0)) ≤ 0 ∧ ¬ tk * (gt (6 * ixn (f (n - 1)) + ixn (f 0))).toInt64 ≤ ga * (gv (6 * ixn (f (n - 1)) + ixn (f 0))).toInt64) ↔ RGp gv gt p n := by
  have e0 : ixn (f 0) = p 0 := by rw [hf 0 (by omega), ixn_nI (by have := hp 0; omega)]
  have e1 : ixn (f (n - 1)) = p (n - 1) := by rw [hf (n - 1) (by omega), ixn_nI (by have := hp (n - 1); omega)]
  have en : n = n - 1 + 1 := by omega
  have em : (n - 1 + 1) % n = 0 := by rw [← en, Nat.mod_self]
  have pl : ∀ g : Nat → Int32, prG g p n n = prG g p n (n - 1) * (g (6 * p (n - 1) + p 0)).toInt64 := by
    intro g
    conv => lhs; arg 4; rw [en]
    show prG g p n (n - 1) * (g (6 * p (n - 1) + p ((n - 1 + 1) % n))).toInt64 = _
    rw [em]
  rw [e0, e1, hga, htk, ← pl, ← pl, Int64.not_le]
  unfold RGp
  constructor
  · rintro ⟨q1, q2⟩
    refine ⟨fun i hi => ⟨fun k hk => hv.1 i hi k hk, fun _ => hv.2.1 i hi, ?_⟩, q2⟩
    by_cases z : i + 1 < n
    · rw [Nat.mod_eq_of_lt z]
      exact hv.2.2 i z
    · rw [show i = n - 1 by omega, em]
      exact q1
  · rintro ⟨q1, q2⟩
    have := (q1 (n - 1) (by omega)).2.2
    rw [em] at this
    exact ⟨this, q2⟩
theorem bit0_iff {v b : Nat} (hv : v < 64) (hb : b < 6) : (nI v >>> (nI b &&& 31)) &&& 1 = 0 ↔ ¬ v.testBit b = true := by
  have key : ∀ v, v < 64 → ∀ b, b < 6 → ((nI v >>> (nI b &&& 31)) &&& 1 = 0 ↔ ¬ v.testBit b = true) := by decide +kernel
  exact key v hv b hb
theorem gains_y {n : Nat} (hn : n ≤ 6) : ∀ (m dep : Nat) (p : Nat → Nat) (f : Nat → Int32) (vis : Int32) (ga tk : Int64), dep + m = n → 1 ≤ dep → (∀ i, p i < 6) → (∀ i, i < dep → f i = nI (p i)) → pvP gt p dep → visP vis p dep → ga = prG gv p n (dep - 1) → tk = prG gt p n (dep - 1) → fnd gv gt n (fun c => ∀ i, i < dep → dig n c i = p i) (xGn gv gt m dep f vis ga tk)
  | 0, dep, p, f, vis, ga, tk, hd, h1, hp, hf, hv, hvis, hga, htk => by
    have e : dep = n := by omega
    subst e
    have hh := home_y (gv := gv) (gt := gt) hp h1 hf hv hga htk
    show fnd gv gt dep _ (decide (¬ gt (6 * ixn (f (dep - 1)) + ixn (f 0)) ≤ 0 ∧ ¬ tk * (gt (6 * ixn (f (dep - 1)) + ixn (f 0))).toInt64 ≤ ga * (gv (6 * ixn (f (dep - 1)) + ixn (f 0))).toInt64), f)
    refine ⟨fun q c hc hS hR => ?_, fun q => ?_⟩
    · have q' := of_decide_eq_false q
      exact q' (hh.mpr ((RGp_cg (fun k hk => hS k hk)).mp hR))
    · have q' := of_decide_eq_true q
      obtain ⟨c, c1, c2⟩ := cod_ex hp dep
      refine ⟨c, c1, c2, (RGp_cg (fun k hk => c2 k hk)).mpr (hh.mp q'), fun i hi => by rw [c2 i hi]; exact hf i hi, fun c' hc' hS' _ => ?_⟩
      have := dig_inj (show c' < 6 ^ dep by omega) c1 (fun i hi => (hS' i hi).trans (c2 i hi).symm)
      omega
  | m + 1, dep, p, f, vis, ga, tk, hd, h1, hp, hf, hv, hvis, hga, htk => by
    have e0 : ixn (f 0) = p 0 := by rw [hf 0 (by omega), ixn_nI (by have := hp 0; omega)]
    have e1 : ixn (f (dep - 1)) = p (dep - 1) := by rw [hf (dep - 1) (by omega), ixn_nI (by have := hp (dep - 1); omega)]
    have hp0 := hp 0
    show fnd gv gt n _ (xGl (fun f v g k => xGn gv gt m (dep + 1) f v g k) gv gt dep (6 * ixn (f (dep - 1))) vis ga tk (5 - ixn (f 0)) f)
    rw [e0, e1]
    obtain ⟨v, v64, hvv, vb⟩ := hvis
    have loop : ∀ (k : Nat) (g : Nat → Int32), k ≤ 5 - p 0 → (∀ i, i < dep → g i = nI (p i)) → fnd gv gt n (fun c => (∀ i, i < dep → dig n c i = p i) ∧ 6 - k ≤ dig n c dep) (xGl (fun f v g k => xGn gv gt m (dep + 1) f v g k) gv gt dep (6 * p (dep - 1)) vis ga tk k g) := by
      intro k
      induction k with
      | zero =>
        intro g _ _
        refine ⟨fun _ c _ hS _ => ?_, fun q => by cases q⟩
        have := dig_6 n c dep
        omega
      | succ k ih =>
        intro g hk hg
        have d6 : 5 - k < 6 := by omega
        show fnd gv gt n _ (if (vis >>> (nI (5 - k) &&& 31)) &&& 1 = 0 ∧ ¬ gt (6 * p (dep - 1) + (5 - k)) ≤ 0 then (fun q : Bool × (Nat → Int32) => if q.1 = true then q else xGl (fun f v g k => xGn gv gt m (dep + 1) f v g k) gv gt dep (6 * p (dep - 1)) vis ga tk k q.2) (xGn gv gt m (dep + 1) (upd g dep (nI (5 - k))) (vis ||| (1 <<< (nI (5 - k) &&& 31))) (ga * (gv (6 * p (dep - 1) + (5 - k))).toInt64) (tk * (gt (6 * p (dep - 1) + (5 - k))).toInt64)) else xGl (fun f v g k => xGn gv gt m (dep + 1) f v g k) gv gt dep (6 * p (dep - 1)) vis ga tk k g)
        have bv := bit0_iff (v := v) (b := 5 - k) v64 d6
        rw [← hvv] at bv
        by_cases z : (vis >>> (nI (5 - k) &&& 31)) &&& 1 = 0 ∧ ¬ gt (6 * p (dep - 1) + (5 - k)) ≤ 0
        · rw [if_pos z]
          have nv : ∀ i, i < dep → ¬ p i = 5 - k := fun i hi q => (bv.mp z.1) ((vb _ d6).mpr ⟨i, hi, q⟩)
          have hp' : ∀ i, (pUd p dep (5 - k)) i < 6 := by
            intro i
            unfold pUd
            split
            · omega
            · exact hp i
          have pd : ∀ i, i ≠ dep → (pUd p dep (5 - k)) i = p i := fun i hi => if_neg hi
          have pdd : (pUd p dep (5 - k)) dep = 5 - k := if_pos rfl
          have prGs : ∀ g : Nat → Int32, prG g (pUd p dep (5 - k)) n (dep + 1 - 1) = prG g p n (dep - 1) * (g (6 * p (dep - 1) + (5 - k))).toInt64 := by
            intro g
            have ed : dep + 1 - 1 = dep - 1 + 1 := by omega
            rw [ed]
            show prG g (pUd p dep (5 - k)) n (dep - 1) * (g (6 * (pUd p dep (5 - k)) (dep - 1) + (pUd p dep (5 - k)) ((dep - 1 + 1) % n))).toInt64 = _
            rw [show dep - 1 + 1 = dep by omega, Nat.mod_eq_of_lt (show dep < n by omega), pdd, pd (dep - 1) (by omega)]
            congr 1
            have : ∀ i, i ≤ dep - 1 → prG g (pUd p dep (5 - k)) n i = prG g p n i := by
              intro i
              induction i with
              | zero => intro _; rfl
              | succ i ihh =>
                intro hi
                show prG g (pUd p dep (5 - k)) n i * (g (6 * (pUd p dep (5 - k)) i + (pUd p dep (5 - k)) ((i + 1) % n))).toInt64 = prG g p n i * (g (6 * p i + p ((i + 1) % n))).toInt64
                rw [ihh (by omega), Nat.mod_eq_of_lt (show i + 1 < n by omega), pd i (by omega), pd (i + 1) (by omega)]
            exact this _ (Nat.le_refl _)
          have rcq := gains_y hn m (dep + 1) (pUd p dep (5 - k)) (upd g dep (nI (5 - k))) (vis ||| (1 <<< (nI (5 - k) &&& 31))) (ga * (gv (6 * p (dep - 1) + (5 - k))).toInt64) (tk * (gt (6 * p (dep - 1) + (5 - k))).toInt64) (by omega) (by omega) hp' (fun i hi => by
            by_cases e : i = dep
            · subst e; rw [upd_eq, pdd]
            · rw [upd_ne e, pd i e]; exact hg i (by omega)) ⟨fun i hi j hj => by
              by_cases e : i = dep
              · subst e; rw [pdd, pd j (by omega)]; exact nv j hj
              · rw [pd i e, pd j (by omega)]; exact hv.1 i (by omega) j hj, fun i hi => by
              rw [pd 0 (by omega)]
              by_cases e : i = dep
              · subst e; rw [pdd]; omega
              · rw [pd i e]; exact hv.2.1 i (by omega), fun i hi => by
              rw [pd i (by omega)]
              by_cases e : i + 1 = dep
              · rw [e, pdd, show i = dep - 1 by omega]; exact z.2
              · rw [pd (i + 1) e]; exact hv.2.2 i (by omega)⟩ ⟨v ||| 2 ^ (5 - k), by
              have : 2 ^ (5 - k) < 2 ^ 6 := Nat.pow_lt_pow_right (by decide) (by omega)
              exact Nat.or_lt_two_pow (n := 6) v64 this, by rw [hvv, nI_pow (by omega), nI_or], fun b hb => by
              rw [fb_bit_set, Bool.or_eq_true, decide_eq_true_eq, vb b hb]
              constructor
              · rintro (⟨i, hi, q⟩ | q)
                · exact ⟨i, by omega, by rw [pd i (by omega)]; exact q⟩
                · exact ⟨dep, by omega, by rw [pdd]; exact q.symm⟩
              · rintro ⟨i, hi, q⟩
                by_cases e : i = dep
                · subst e; rw [pdd] at q; exact Or.inr q.symm
                · rw [pd i e] at q; exact Or.inl ⟨i, by omega, q⟩⟩ (by rw [prGs, hga]) (by rw [prGs, htk])
          have sub : ∀ c, (∀ i, i < dep + 1 → dig n c i = (pUd p dep (5 - k)) i) ↔ ((∀ i, i < dep → dig n c i = p i) ∧ dig n c dep = 5 - k) := by
            intro c
            constructor
            · intro q
              exact ⟨fun i hi => by rw [q i (by omega), pd i (by omega)], by rw [q dep (by omega), pdd]⟩
            · rintro ⟨q1, q2⟩ i hi
              by_cases e : i = dep
              · subst e; rw [pdd]; exact q2
              · rw [pd i e]; exact q1 i (by omega)
          have keep := fun i (hi : i < dep) => (xGn_keep (gv := gv) (gt := gt) m (dep + 1) (upd g dep (nI (5 - k))) (vis ||| (1 <<< (nI (5 - k) &&& 31))) (ga * (gv (6 * p (dep - 1) + (5 - k))).toInt64) (tk * (gt (6 * p (dep - 1) + (5 - k))).toInt64) i (by omega)).trans ((upd_ne (by omega)).trans (hg i hi))
          generalize xGn gv gt m (dep + 1) (upd g dep (nI (5 - k))) (vis ||| (1 <<< (nI (5 - k) &&& 31))) (ga * (gv (6 * p (dep - 1) + (5 - k))).toInt64) (tk * (gt (6 * p (dep - 1) + (5 - k))).toInt64) = Q at rcq keep ⊢
          show fnd gv gt n _ (if Q.1 = true then Q else xGl (fun f v g k => xGn gv gt m (dep + 1) f v g k) gv gt dep (6 * p (dep - 1)) vis ga tk k Q.2)
          by_cases zq : Q.1 = true
          · rw [if_pos zq]
            refine ⟨fun q => absurd zq (by rw [q]; decide), fun _ => ?_⟩
            obtain ⟨c, c1, c2, c3, c4, c5⟩ := rcq.2 zq
            obtain ⟨s1, s2⟩ := (sub c).mp c2
            refine ⟨c, c1, ⟨s1, by omega⟩, c3, c4, fun c' hc' hS' hR' => ?_⟩
            by_cases e : dig n c' dep = 5 - k
            · exact c5 c' hc' ((sub c').mpr ⟨hS'.1, e⟩) hR'
            · have := dig_lt c1 (show c' < 6 ^ n by omega) (show dep < n by omega) (fun i hi => (s1 i hi).trans (hS'.1 i hi).symm) (by omega)
              omega
          · rw [if_neg zq]
            have zf : Q.1 = false := by cases e : Q.1 with | false => rfl | true => exact absurd e zq
            obtain ⟨l1, l2⟩ := ih Q.2 (by omega) keep
            refine ⟨fun q c hc hS hR => ?_, fun q => ?_⟩
            · by_cases e : dig n c dep = 5 - k
              · exact rcq.1 zf c hc ((sub c).mpr ⟨hS.1, e⟩) hR
              · exact l1 q c hc ⟨hS.1, by omega⟩ hR
            · obtain ⟨c, c1, c2, c3, c4, c5⟩ := l2 q
              refine ⟨c, c1, ⟨c2.1, by omega⟩, c3, c4, fun c' hc' hS' hR' => ?_⟩
              by_cases e : dig n c' dep = 5 - k
              · exact rcq.1 zf c' (by omega) ((sub c').mpr ⟨hS'.1, e⟩) hR'
              · exact c5 c' hc' ⟨hS'.1, by omega⟩ hR'
        · rw [if_neg z]
          have no : ∀ c, c < 6 ^ n → (∀ i, i < dep → dig n c i = p i) → dig n c dep = 5 - k → ¬ RGp gv gt (dig n c) n := by
            intro c hc hS e hR
            apply z
            refine ⟨bv.mpr fun q => ?_, ?_⟩
            · obtain ⟨i, hi, e2⟩ := (vb _ d6).mp q
              exact (hR.1 dep (by omega)).1 i hi (by rw [hS i hi, e2, e])
            · have := (hR.1 (dep - 1) (by omega)).2.2
              rw [show dep - 1 + 1 = dep by omega, Nat.mod_eq_of_lt (show dep < n by omega), hS (dep - 1) (by omega), e] at this
              exact this
          obtain ⟨l1, l2⟩ := ih g (by omega) hg
          refine ⟨fun q c hc hS hR => ?_, fun q => ?_⟩
          · by_cases e : dig n c dep = 5 - k
            · exact no c hc hS.1 e hR
            · exact l1 q c hc ⟨hS.1, by omega⟩ hR
          · obtain ⟨c, c1, c2, c3, c4, c5⟩ := l2 q
            refine ⟨c, c1, ⟨c2.1, by omega⟩, c3, c4, fun c' hc' hS' hR' => ?_⟩
            by_cases e : dig n c' dep = 5 - k
            · exact no c' (by omega) hS'.1 e hR'
            · exact c5 c' hc' ⟨hS'.1, by omega⟩ hR'
    obtain ⟨l1, l2⟩ := loop (5 - p 0) f (Nat.le_refl _) hf
    have low : ∀ c, (∀ i, i < dep → dig n c i = p i) → RGp gv gt (dig n c) n → 6 - (5 - p 0) ≤ dig n c dep := by
      intro c hS hR
      have s := hR.1 dep (by omega)
      have a := s.2.1 (by omega)
      have b := s.1 0 (by omega)
      rw [hS 0 (by omega)] at a b
      omega
    refine ⟨fun q c hc hS hR => l1 q c hc ⟨hS, low c hS hR⟩ hR, fun q => ?_⟩
    obtain ⟨c, c1, c2, c3, c4, c5⟩ := l2 q
    exact ⟨c, c1, c2.1, c3, c4, fun c' hc' hS' hR' => c5 c' hc' ⟨hS', low c' hS' hR'⟩ hR'⟩
theorem first_y {n : Nat} (h2 : 2 ≤ n) (hn : n ≤ 6) : ∀ (k : Nat) (f : Nat → Int32), k ≤ 6 → fnd gv gt n (fun c => 6 - k ≤ dig n c 0) (xRf gv gt n k f)
  | 0, f, _ => by
    refine ⟨fun _ c _ hS _ => ?_, fun q => by cases q⟩
    have := dig_6 n c 0
    omega
  | k + 1, f, hk => by
    have rcq := gains_y (gv := gv) (gt := gt) hn (n - 1) 1 (fun _ => 5 - k) (upd f 0 (nI (5 - k))) (1 <<< (nI (5 - k) &&& 31)) 1 1 (by omega) (Nat.le_refl _) (fun _ => by omega) (fun i hi => by rw [show i = 0 by omega, upd_eq]) ⟨fun i hi j hj => absurd hj (by omega), fun i _ => Nat.le_refl _, fun i hi => absurd hi (by omega)⟩ ⟨2 ^ (5 - k), Nat.pow_lt_pow_right (n := 6) (by decide) (by omega), nI_pow (by omega), fun b hb => by
      constructor
      · intro q
        refine ⟨0, by omega, ?_⟩
        by_cases e : 5 - k = b
        · exact e
        · rw [Nat.testBit_two_pow_of_ne e] at q; cases q
      · rintro ⟨i, -, q⟩
        rw [← q, Nat.testBit_two_pow_self]⟩ rfl rfl
    show fnd gv gt n _ ((fun q : Bool × (Nat → Int32) => if q.1 = true then q else xRf gv gt n k q.2) (xGn gv gt (n - 1) 1 (upd f 0 (nI (5 - k))) (1 <<< (nI (5 - k) &&& 31)) 1 1))
    generalize xGn gv gt (n - 1) 1 (upd f 0 (nI (5 - k))) (1 <<< (nI (5 - k) &&& 31)) 1 1 = Q at rcq ⊢
    show fnd gv gt n _ (if Q.1 = true then Q else xRf gv gt n k Q.2)
    by_cases zq : Q.1 = true
    · rw [if_pos zq]
      refine ⟨fun q => absurd zq (by rw [q]; decide), fun _ => ?_⟩
      obtain ⟨c, c1, c2, c3, c4, c5⟩ := rcq.2 zq
      have s := c2 0 (by omega)
      refine ⟨c, c1, by omega, c3, c4, fun c' hc' hS' hR' => ?_⟩
      by_cases e : dig n c' 0 = 5 - k
      · exact c5 c' hc' (fun i hi => by rw [show i = 0 by omega]; exact e) hR'
      · have := dig_lt c1 (show c' < 6 ^ n by omega) (show 0 < n by omega) (fun i hi => absurd hi (by omega)) (show dig n c 0 < dig n c' 0 by omega)
        omega
    · rw [if_neg zq]
      have zf : Q.1 = false := by cases e : Q.1 with | false => rfl | true => exact absurd e zq
      obtain ⟨l1, l2⟩ := first_y h2 hn k Q.2 (by omega)
      refine ⟨fun q c hc hS hR => ?_, fun q => ?_⟩
      · by_cases e : dig n c 0 = 5 - k
        · exact rcq.1 zf c hc (fun i hi => by rw [show i = 0 by omega]; exact e) hR
        · exact l1 q c hc (by omega) hR
      · obtain ⟨c, c1, c2, c3, c4, c5⟩ := l2 q
        refine ⟨c, c1, by omega, c3, c4, fun c' hc' hS' hR' => ?_⟩
        by_cases e : dig n c' 0 = 5 - k
        · exact rcq.1 zf c' (by omega) (fun i hi => by rw [show i = 0 by omega]; exact e) hR'
        · exact c5 c' hc' (by omega) hR'
end
