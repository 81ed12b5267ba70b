/-! ===== the fewest shoes that make a sum: the class ===== -/
theorem xLawS_cg {I J : Nat → Nat → Int32} {t w : Nat} (h : ∀ a, (t ≤ a ∧ a < t + 27) ∨ (w ≤ a ∧ a < w + 6) → J a = I a) (r j : Nat) (u d : Int32) : xLawS J t w r j u d = xLawS I t w r j u d := by
  unfold xLawS xLaw xSteps xFoot xHasP
  rw [h t (by omega), h (t + 2) (by omega), h (t + 3) (by omega), h (t + 7) (by omega), h (t + 9) (by omega), h (t + 20) (by omega), h (t + 21) (by omega), h (t + 22) (by omega), h (t + 23) (by omega), h (t + 24) (by omega), h (w + 1) (by omega), h (w + 3) (by omega)]
theorem xLawP_cg {I J : Nat → Nat → Int32} {t w : Nat} (h : ∀ a, (t ≤ a ∧ a < t + 27) ∨ (w ≤ a ∧ a < w + 6) → J a = I a) (i j : Nat) : xLawP J t w i j = xLawP I t w i j := by
  unfold xLawP xLaw
  rw [h (t + 7) (by omega), h (t + 9) (by omega), h (t + 20) (by omega), h (t + 21) (by omega), h (t + 22) (by omega), h (t + 23) (by omega), h (t + 24) (by omega), h (w + 2) (by omega), h w (by omega)]
theorem xWorth_cg {I J : Nat → Nat → Int32} {t w : Nat} (h : ∀ a, (t ≤ a ∧ a < t + 27) ∨ (w ≤ a ∧ a < w + 6) → J a = I a) (j : Nat) (u d : Int32) : xWorth J t w j u d = xWorth I t w j u d := by
  unfold xWorth
  rw [xLawS_cg h, h (t + 7) (by omega), h (w + 1) (by omega)]
theorem xWear_cg {I J : Nat → Nat → Int32} {t w : Nat} (h : ∀ a, (t ≤ a ∧ a < t + 27) ∨ (w ≤ a ∧ a < w + 6) → J a = I a) (j : Nat) (u d : Int32) : xWear J t w j u d = xWear I t w j u d := by
  unfold xWear xHasP
  rw [xLawS_cg h, h t (by omega), h (t + 3) (by omega), h (w + 3) (by omega)]
theorem xPair_cg {I J : Nat → Nat → Int32} {t w : Nat} (h : ∀ a, (t ≤ a ∧ a < t + 27) ∨ (w ≤ a ∧ a < w + 6) → J a = I a) (i j : Nat) : xPair J t w i j = xPair I t w i j := by
  unfold xPair
  rw [xLawP_cg h, h (t + 7) (by omega), h (t + 9) (by omega)]
theorem xWorthNow_cg {I J : Nat → Nat → Int32} {t w : Nat} (h : ∀ a, (t ≤ a ∧ a < t + 27) ∨ (w ≤ a ∧ a < w + 6) → J a = I a) (j : Nat) : xWorthNow J t w j = xWorthNow I t w j := by
  unfold xWorthNow
  rw [xWorth_cg h, h (w + 2) (by omega), h (w + 3) (by omega), h w (by omega)]
theorem tOK_cg {I J : Nat → Nat → Int32} {t np ns nd : Nat} (h : J t = I t) (hn : tOK I t np ns nd) : tOK J t np ns nd := by
  unfold tOK
  rw [h]
  exact hn
theorem lOK_cg {I J : Nat → Nat → Int32} {t : Nat} (h1 : J (t + 22) = I (t + 22)) (h2 : J (t + 23) = I (t + 23)) (hn : lOK I t) : lOK J t := by
  unfold lOK
  rw [h1, h2]
  exact hn
def INF : Nat := 2147483647
/-- the least cost (65536 a shoe, and its bit) of a sum s by the first k shoes; INF: none -/
def dpR (wt : Nat → Nat) (q : Nat) : Nat → Nat → Nat
  | 0, s => if s = 0 then 0 else INF
  | k + 1, s => if wt k = 0 ∨ q < wt k then dpR wt q k s else if wt k ≤ s ∧ dpR wt q k (s - wt k) ≠ INF ∧ dpR wt q k (s - wt k) + 65536 + 2 ^ k < dpR wt q k s then dpR wt q k (s - wt k) + 65536 + 2 ^ k else dpR wt q k s
theorem dpR_le (wt : Nat → Nat) (q : Nat) : ∀ k s, dpR wt q k s = INF ∨ dpR wt q k s < k * 65536 + 2 ^ k
  | 0, s => by
    unfold dpR
    by_cases h : s = 0
    · rw [if_pos h]; exact Or.inr (by decide)
    · rw [if_neg h]; exact Or.inl rfl
  | k + 1, s => by
    have h1 := dpR_le wt q k s
    have h2 := dpR_le wt q k (s - wt k)
    have hp : 2 ^ (k + 1) = 2 ^ k + 2 ^ k := by rw [Nat.pow_succ, Nat.mul_two]
    unfold dpR
    by_cases h : wt k = 0 ∨ q < wt k
    · rw [if_pos h]
      rcases h1 with h1 | h1
      · exact Or.inl h1
      · exact Or.inr (by rw [hp, Nat.succ_mul]; exact Nat.lt_of_lt_of_le h1 (Nat.add_le_add (Nat.le_add_right _ _) (Nat.le_add_right _ _)))
    · rw [if_neg h]
      by_cases h3 : wt k ≤ s ∧ dpR wt q k (s - wt k) ≠ INF ∧ dpR wt q k (s - wt k) + 65536 + 2 ^ k < dpR wt q k s
      · rw [if_pos h3]
        rcases h2 with h2 | h2
        · exact absurd h2 h3.2.1
        · exact Or.inr (by rw [hp, Nat.succ_mul, Nat.add_assoc]; exact Nat.lt_of_lt_of_eq (Nat.add_lt_add_right h2 _) (Nat.add_add_add_comm _ _ _ _))
      · rw [if_neg h3]
        rcases h1 with h1 | h1
        · exact Or.inl h1
        · exact Or.inr (by rw [hp, Nat.succ_mul]; exact Nat.lt_of_lt_of_le h1 (Nat.add_le_add (Nat.le_add_right _ _) (Nat.le_add_right _ _)))
theorem dpR_lt (wt : Nat → Nat) (q : Nat) {k : Nat} (hk : k ≤ 16) (s : Nat) : dpR wt q k s = INF ∨ dpR wt q k s < 1114112 := by
  have hp : 2 ^ k ≤ 65536 := Nat.pow_le_pow_right (n := 2) (by decide) hk
  rcases dpR_le wt q k s with h | h
  · exact Or.inl h
  · exact Or.inr (by omega)
/-- what shoe k is worth to this person -/
def xWt (I : Nat → Nat → Int32) (t w : Nat) (p : Int32) (k : Nat) : Nat := if I (w + 3) k = p then ixn (xWorth I t w k (I (w + 2) k) (I w 1)) else 0
/-- the shoes by which a person pays, -2: none -/
def xFor (I : Nat → Nat → Int32) (t w ns : Nat) (p : Int32) (q : Nat) : Int32 := if dpR (xWt I t w p) q ns q = INF then -2 else nI (dpR (xWt I t w p) q ns q % 65536)
def rF (v : Int32) (I : Nat → Nat → Int32) (P : Nat → Nat → Option Nat) : Option Value → pM → Prop := fun r M => r = some (.int v) ∧ ∃ f L', M = (aU I 61 f, L', P)
theorem ixn_lt1 {x : Int32} (h : x < 1) : ixn x = 0 := by
  unfold ixn
  have h1 := Int32.lt_iff_toInt_lt.mp h
  show x.toInt.toNat = 0
  have : (1 : Int32).toInt = 1 := rfl
  omega
theorem ixn_ge1 {x : Int32} (h : ¬ x < 1) : x = nI (ixn x) ∧ 1 ≤ ixn x ∧ ixn x < 2 ^ 31 := by
  have h1 : ¬ x.toInt < 1 := fun q => h (Int32.lt_iff_toInt_lt.mpr q)
  have h2 := x.toInt_lt
  have e : ((ixn x : Nat) : Int) = x.toInt := by
    show ((x.toInt.toNat : Nat) : Int) = x.toInt
    omega
  refine ⟨Int32.toInt_inj.mp ?_, by omega, by omega⟩
  rw [nI_toInt (by omega), e]
theorem nI_pow {k : Nat} (hk : k < 16) : (1 : Int32) <<< (nI k &&& 31) = nI (2 ^ k) := by
  rcases (show k = 0 ∨ k = 1 ∨ k = 2 ∨ k = 3 ∨ k = 4 ∨ k = 5 ∨ k = 6 ∨ k = 7 ∨ k = 8 ∨ k = 9 ∨ k = 10 ∨ k = 11 ∨ k = 12 ∨ k = 13 ∨ k = 14 ∨ k = 15 by omega) with rfl | rfl | rfl | rfl | rfl | rfl | rfl | rfl | rfl | rfl | rfl | rfl | rfl | rfl | rfl | rfl <;> decide

/-- the row of sums holds the table as far as 'reach' R -/
def sOK (wt : Nat → Nat) (q k R : Nat) (f : Nat → Int32) : Prop := R ≤ q ∧ (∀ s, s ≤ R → f s = nI (dpR wt q k s)) ∧ ∀ s, R < s → s ≤ q → dpR wt q k s = INF

theorem fa_mask16 (n : Nat) : nI n &&& 65535 = nI (n % 65536) := by
  have h := pk_andN (n := n % 2 ^ 32) (Nat.mod_lt _ (by decide)) (m := 65535) 16 (by decide)
  have e : nI n = nI (n % 2 ^ 32) := by
    apply Int32.toBitVec_inj.mp
    show BitVec.ofNat 32 n = BitVec.ofNat 32 (n % 2 ^ 32)
    apply BitVec.eq_of_toNat_eq
    simp
  rw [e, h]
  congr 1
  omega

set_option maxHeartbeats 2000000 in
theorem ct_Wo_shoesFor {sh : List pSh} {I : Nat → Nat → Int32} {L : Nat → Nat → Int64} {P : Nat → Nat → Option Nat} (hA : kA sh P) {w t : Nat} (hw : w = 62 ∨ w = 68 ∨ w = 74) (ht : t = 3 ∨ t = 30) (hwt : P w 0 = some t) {np ns nd : Nat} (hn : tOK I t np ns nd) (hl : lOK I t) (p : Int32) (q : Nat) (hq : 1 ≤ q) (hq2 : q < 10000) : pCn m_Wo_shoesFor 4 [.ref w, .int p, .int (nI q)] sh (I, L, P) (rF (xFor I t w ns p q) I P) := by
  refine pCn_of (by decide +kernel) (Nat.le_of_ble_eq_true rfl) ?_
  have h16 := hn.2.2.2.1
  have h5 := hn.2.1
  have hL2 : ∀ (k : Nat) (hk : k < ns) (R F v : Nat) (hv : xWt I t w p k = v) (hF : min q (R + v) = F) (hv1 : 1 ≤ v) (hvq : v ≤ q) (hR : R ≤ q) (hRI : ∀ s, R < s → s ≤ q → dpR (xWt I t w p) q k s = INF) (L : Nat → Nat → Int64) (x : Nat) (f : Nat → Int32), x ≤ F + 1 → v ≤ x → (∀ s, s < x → f s = nI (dpR (xWt I t w p) q k s)) → (∀ s, x ≤ s → s ≤ F → f s = nI (dpR (xWt I t w p) q (k + 1) s)) → (∀ f2 L2, sOK (xWt I t w p) q (k + 1) F f2 → pWn m_Wo_shoesFor 4 sh (rF (xFor I t w ns p q) I P) 28 [some (.ref w), some (.int p), some (.int (nI q)), some (.int (nI F)), some (.int (nI (k + 1))), none, none, none, none] [] (aU I 61 f2, L2, P)) → pWn m_Wo_shoesFor 4 sh (rF (xFor I t w ns p q) I P) 132 [some (.ref w), some (.int p), some (.int (nI q)), some (.int (nI F)), some (.int (nI k)), some (.int (nI v)), some (.int (nI F)), some (.int (nI (x - 1))), none] [] (aU I 61 f, L, P) := by
    intro k hk R F v hv hF hv1 hvq hR hRI L
    have hnz : ¬ (xWt I t w p k = 0 ∨ q < xWt I t w p k) := by rw [hv]; omega
    refine pMeas _ id ?_
    intro x ih f hx hvx hlo hhi hn2
    replace ih := fun y (hy : y < x) f => ih y hy f
    refine pw_iload (i := 7) rfl (by decide +kernel) ?_
    refine pw_iload (i := 5) rfl (by decide +kernel) ?_
    refine pw_icmp_lt (off := 65) (tgt := 201) (by decide +kernel) (by decide +kernel) (fun z136 => ?_) (fun z136 => ?_)
    · rw [cLt rfl rfl (by omega) (by omega)] at z136
      refine pq_iinc (i := 4) (n := 1) (1) rfl (by decide) rfl (by decide +kernel) ?_
      refine pw_goto (off := -176) (tgt := 28) (by decide +kernel) (by decide +kernel) ?_
      have q1 := hn2 f L ⟨by omega, fun s hs => by rcases Nat.lt_or_ge s v with e | e; rw [hlo s (by omega), show dpR (xWt I t w p) q (k + 1) s = _ from (if_neg hnz).trans (if_neg (fun z => by have := z.1; rw [hv] at this; omega))]; exact hhi s (by omega) hs, fun s hs hsq => by rw [show dpR (xWt I t w p) q (k + 1) s = _ from (if_neg hnz).trans (if_neg (fun z => by have h3 := z.2.1; rw [hv] at h3; exact h3 (hRI (s - v) (by omega) (by omega))))]; exact hRI s (by omega) hsq⟩
      rw [nI_succ] at q1
      exact pw_forget [5, 6, 7] q1
    · rw [cLt rfl rfl (by omega) (by omega)] at z136
      refine pw_aload_n (k4 := 0) rfl (by decide +kernel) ?_
      refine pq_getP (c := 9) (k := 9) (ks_w hA hw) (by decide) (by decide) (kp_w_sums hA hw) lf_Wo_33 (by decide +kernel) ?_
      refine pw_iload (i := 7) rfl (by decide +kernel) ?_
      refine pw_iload (i := 5) rfl (by decide +kernel) ?_
      refine pw_isub (by decide +kernel) ?_
      refine pq_iald (x - 1 - v) (pk_sub (by omega)) (by omega) (by decide) (ks_sums hA) (by decide +kernel) ?_
      refine pq_istore (i := 8) (Nat.le_of_ble_eq_true rfl) rfl (by decide +kernel) ?_
      refine pw_iload (i := 8) rfl (by decide +kernel) ?_
      refine pw_ldc lc_Wo_151 (by decide +kernel) ?_
      refine pw_icmp_eq (off := 40) (tgt := 195) (by decide +kernel) (by decide +kernel) (fun z155 => ?_) (fun z155 => ?_)
      · rw [aU_eq, hlo (x - 1 - v) (by omega)] at z155
        refine pq_iinc (i := 7) (n := -1) (-1) rfl (by decide) rfl (by decide +kernel) ?_
        refine pw_goto (off := -66) (tgt := 132) (by decide +kernel) (by decide +kernel) ?_
        have q1 := ih (x - 1) (by omega) f (by omega) (by omega) (fun s hs => hlo s (by omega)) (fun s g1 g2 => by by_cases e3 : s = x - 1; rw [e3, hlo (x - 1) (by omega), show dpR (xWt I t w p) q (k + 1) (x - 1) = _ from (if_neg hnz).trans (if_neg (fun z => z.2.1 (Decidable.not_not.mp fun e2 => e2 (by rw [hv]; rcases dpR_lt (xWt I t w p) q (show k ≤ 16 by omega) (x - 1 - v) with e | e; exact e; exact absurd ((nI_eq (show dpR (xWt I t w p) q k (x - 1 - v) < 2 ^ 31 by omega) (show INF < 2 ^ 31 by decide)).mp z155) (by unfold INF; omega)))))]; exact hhi s (by omega) g2) hn2
        rw [show x - 1 - 1 = x - 1 - 1 from rfl] at q1
        rw [sb_m1 (show 0 < x - 1 by omega)]
        exact pw_forget [8] q1
      · rw [aU_eq, hlo (x - 1 - v) (by omega)] at z155
        refine pw_iload (i := 8) rfl (by decide +kernel) ?_
        refine pw_ldc lc_Wo_152 (by decide +kernel) ?_
        refine pw_iadd (by decide +kernel) ?_
        refine pw_iconst (n := 1) (v := 1) (by decide) (by decide +kernel) ?_
        refine pw_iload (i := 4) rfl (by decide +kernel) ?_
        refine pw_ishl (by decide +kernel) ?_
        refine pw_iadd (by decide +kernel) ?_
        refine pw_aload_n (k4 := 0) rfl (by decide +kernel) ?_
        refine pq_getP (c := 9) (k := 9) (ks_w hA hw) (by decide) (by decide) (kp_w_sums hA hw) lf_Wo_33 (by decide +kernel) ?_
        refine pw_iload (i := 7) rfl (by decide +kernel) ?_
        refine pq_iald (x - 1) rfl (by omega) (by decide) (ks_sums hA) (by decide +kernel) ?_
        refine pw_icmp_ge (off := 20) (tgt := 195) (by decide +kernel) (by decide +kernel) (fun z175 => ?_) (fun z175 => ?_)
        · rw [aU_eq, hlo (x - 1 - v) (by omega), hlo (x - 1) (by omega), show (65536 : Int32) = nI 65536 from rfl, nI_pow (by omega), nI_add, nI_add, cLe rfl rfl (by rcases dpR_lt (xWt I t w p) q (show k ≤ 16 by omega) (x - 1) with e | e; rw [e]; decide; omega) (by rcases dpR_lt (xWt I t w p) q (show k ≤ 16 by omega) (x - 1 - v) with e | e; exact absurd (by rw [e]; rfl) z155; have := Nat.pow_lt_pow_right (a := 2) (by decide) (show k < 16 by omega); omega)] at z175
          refine pq_iinc (i := 7) (n := -1) (-1) rfl (by decide) rfl (by decide +kernel) ?_
          refine pw_goto (off := -66) (tgt := 132) (by decide +kernel) (by decide +kernel) ?_
          have q1 := ih (x - 1) (by omega) f (by omega) (by omega) (fun s hs => hlo s (by omega)) (fun s g1 g2 => by by_cases e3 : s = x - 1; rw [e3, hlo (x - 1) (by omega), show dpR (xWt I t w p) q (k + 1) (x - 1) = _ from (if_neg hnz).trans (if_neg (fun z => by have := z.2.2; rw [hv] at this; omega))]; exact hhi s (by omega) g2) hn2
          rw [show x - 1 - 1 = x - 1 - 1 from rfl] at q1
          rw [sb_m1 (show 0 < x - 1 by omega)]
          exact pw_forget [8] q1
        · rw [aU_eq, hlo (x - 1 - v) (by omega), hlo (x - 1) (by omega), show (65536 : Int32) = nI 65536 from rfl, nI_pow (by omega), nI_add, nI_add, cLe rfl rfl (by rcases dpR_lt (xWt I t w p) q (show k ≤ 16 by omega) (x - 1) with e | e; rw [e]; decide; omega) (by rcases dpR_lt (xWt I t w p) q (show k ≤ 16 by omega) (x - 1 - v) with e | e; exact absurd (by rw [e]; rfl) z155; have := Nat.pow_lt_pow_right (a := 2) (by decide) (show k < 16 by omega); omega)] at z175
          refine pw_aload_n (k4 := 0) rfl (by decide +kernel) ?_
          refine pq_getP (c := 9) (k := 9) (ks_w hA hw) (by decide) (by decide) (kp_w_sums hA hw) lf_Wo_33 (by decide +kernel) ?_
          refine pw_iload (i := 7) rfl (by decide +kernel) ?_
          refine pw_iload (i := 8) rfl (by decide +kernel) ?_
          refine pw_ldc lc_Wo_152 (by decide +kernel) ?_
          refine pw_iadd (by decide +kernel) ?_
          refine pw_iconst (n := 1) (v := 1) (by decide) (by decide +kernel) ?_
          refine pw_iload (i := 4) rfl (by decide +kernel) ?_
          refine pw_ishl (by decide +kernel) ?_
          refine pw_iadd (by decide +kernel) ?_
          refine pq_iast (x - 1) rfl (by omega) (by decide) (ks_sums hA) (by decide +kernel) ?_
          refine pq_iinc (i := 7) (n := -1) (-1) rfl (by decide) rfl (by decide +kernel) ?_
          refine pw_goto (off := -66) (tgt := 132) (by decide +kernel) (by decide +kernel) ?_
          have hpos : v ≤ x - 1 ∧ True := ⟨by omega, trivial⟩
          have q1 := ih (x - 1) (by omega) (upd f (x - 1) (nI (dpR (xWt I t w p) q (k + 1) (x - 1)))) (by omega) (by omega) (fun s hs => (if_neg (by omega)).trans (hlo s (by omega))) (fun s g1 g2 => by by_cases e3 : s = x - 1; rw [e3]; exact if_pos rfl; exact (if_neg e3).trans (hhi s (by omega) g2)) hn2
          rw [sb_m1 (show 0 < x - 1 by omega), aU_eq, hlo (x - 1 - v) (by omega), show (65536 : Int32) = nI 65536 from rfl, nI_pow (by omega), nI_add, nI_add, sI_aU2]
          rw [show dpR (xWt I t w p) q (k + 1) (x - 1) = _ from (if_neg hnz).trans (if_pos ⟨by rw [hv]; omega, by rw [hv]; exact fun e => z155 (by rw [e]; rfl), by rw [hv]; omega⟩), hv] at q1
          exact pw_forget [8] q1
  have hL1 : ∀ (k : Nat) (hk : k < ns) (R F v : Nat) (hv : xWt I t w p k = v) (hF : min q (R + v) = F) (hv1 : 1 ≤ v) (hvq : v ≤ q) (hR : R ≤ q) (hRI : ∀ s, R < s → s ≤ q → dpR (xWt I t w p) q k s = INF) (L : Nat → Nat → Int64) (c : Nat) (f : Nat → Int32), c ≤ F - R → (∀ s, s ≤ R → f s = nI (dpR (xWt I t w p) q k s)) → (∀ s, R < s → s < F + 1 - c → f s = nI INF) → (∀ f2 L2, sOK (xWt I t w p) q (k + 1) F f2 → pWn m_Wo_shoesFor 4 sh (rF (xFor I t w ns p q) I P) 28 [some (.ref w), some (.int p), some (.int (nI q)), some (.int (nI F)), some (.int (nI (k + 1))), none, none, none, none] [] (aU I 61 f2, L2, P)) → pWn m_Wo_shoesFor 4 sh (rF (xFor I t w ns p q) I P) 104 [some (.ref w), some (.int p), some (.int (nI q)), some (.int (nI R)), some (.int (nI k)), some (.int (nI v)), some (.int (nI F)), some (.int (nI (F + 1 - c))), none] [] (aU I 61 f, L, P) := by
    intro k hk R F v hv hF hv1 hvq hR hRI L
    refine pMeas _ id ?_
    intro c ih f hc h1 h2 hn2
    replace ih := fun y (hy : y < c) f => ih y hy f
    refine pw_iload (i := 7) rfl (by decide +kernel) ?_
    refine pw_iload (i := 6) rfl (by decide +kernel) ?_
    refine pw_icmp_gt (off := 18) (tgt := 126) (by decide +kernel) (by decide +kernel) (fun z108 => ?_) (fun z108 => ?_)
    · rw [cLt rfl rfl (by omega) (by omega)] at z108
      refine pw_iload (i := 6) rfl (by decide +kernel) ?_
      refine pq_istore_n (k4 := 3) (Nat.le_of_ble_eq_true rfl) rfl (by decide +kernel) ?_
      refine pw_iload_n (k4 := 3) rfl (by decide +kernel) ?_
      refine pq_istore (i := 7) (Nat.le_of_ble_eq_true rfl) rfl (by decide +kernel) ?_
      exact hL2 k hk R F v hv hF hv1 hvq hR hRI L (F + 1) f (by omega) (by omega) (fun s hs => by rcases Nat.lt_or_ge R s with e | e; exact (h2 s e (by omega)).trans (by rw [hRI s e (by omega)]); exact h1 s e) (fun s g1 g2 => by omega) hn2
    · rw [cLt rfl rfl (by omega) (by omega)] at z108
      refine pw_aload_n (k4 := 0) rfl (by decide +kernel) ?_
      refine pq_getP (c := 9) (k := 9) (ks_w hA hw) (by decide) (by decide) (kp_w_sums hA hw) lf_Wo_33 (by decide +kernel) ?_
      refine pw_iload (i := 7) rfl (by decide +kernel) ?_
      refine pw_ldc lc_Wo_151 (by decide +kernel) ?_
      refine pq_iast (F + 1 - c) rfl (by omega) (by decide) (ks_sums hA) (by decide +kernel) ?_
      refine pq_iinc (i := 7) (n := 1) (1) rfl (by decide) rfl (by decide +kernel) ?_
      refine pw_goto (off := -19) (tgt := 104) (by decide +kernel) (by decide +kernel) ?_
      have q1 := ih (c - 1) (by omega) (upd f (F + 1 - c) (nI INF)) (by omega) (fun s hs => by rw [show upd f (F + 1 - c) (nI INF) s = f s from if_neg (by omega)]; exact h1 s hs) (fun s g1 g2 => by by_cases e : s = F + 1 - c; exact if_pos e; exact (if_neg e).trans (h2 s g1 (by omega))) hn2
      rw [← sI_aU2, show F + 1 - (c - 1) = F + 1 - c + 1 by omega, nI_succ] at q1
      exact q1
  have hL : ∀ k, k ≤ ns → ∀ R f L, sOK (xWt I t w p) q k R f → pWn m_Wo_shoesFor 4 sh (rF (xFor I t w ns p q) I P) 28 [some (.ref w), some (.int p), some (.int (nI q)), some (.int (nI R)), some (.int (nI k)), none, none, none, none] [] (aU I 61 f, L, P) := by
    refine pUpTo ns _ ?_
    intro k hk ih R f L hS
    have hRq := hS.1
    have hn' : tOK (aU I 61 f) t np ns nd := tOK_cg (aU_ne (by omega)) hn
    have hl' : lOK (aU I 61 f) t := lOK_cg (aU_ne (by omega)) (aU_ne (by omega)) hl
    refine pw_iload (i := 4) rfl (by decide +kernel) ?_
    refine pw_aload_n (k4 := 0) rfl (by decide +kernel) ?_
    refine pq_getP (c := 9) (k := 0) (ks_w hA hw) (by decide) (by decide) hwt lf_Wo_29 (by decide +kernel) ?_
    refine pq_getI (c := 7) (k := 6) (ks_t hA ht) (by decide) (by decide) lf_Wo_76 (by decide +kernel) ?_
    refine pw_icmp_ge (off := 170) (tgt := 207) (by decide +kernel) (by decide +kernel) (fun z37 => ?_) (fun z37 => ?_)
    · rw [cLe hn'.2.2.1 rfl (by omega) (by omega)] at z37
      have hkn : k = ns := by omega
      refine pw_iload_n (k4 := 3) rfl (by decide +kernel) ?_
      refine pw_iload_n (k4 := 2) rfl (by decide +kernel) ?_
      refine pw_icmp_lt (off := 14) (tgt := 223) (by decide +kernel) (by decide +kernel) (fun z209 => ?_) (fun z209 => ?_)
      · rw [cLt rfl rfl (by omega) (by omega)] at z209
        refine pw_bipush (n := -2) (v := -2) (by decide) (by decide +kernel) ?_
        refine pw_goto (off := 12) (tgt := 237) (by decide +kernel) (by decide +kernel) ?_
        exact pq_iret rfl (by decide +kernel) ⟨congrArg (fun z => some (Value.int z)) (by unfold xFor; rw [if_pos (by rw [← hkn]; exact hS.2.2 q (by omega) (Nat.le_refl _))]), f, L, rfl⟩
      · rw [cLt rfl rfl (by omega) (by omega)] at z209
        refine pw_aload_n (k4 := 0) rfl (by decide +kernel) ?_
        refine pq_getP (c := 9) (k := 9) (ks_w hA hw) (by decide) (by decide) (kp_w_sums hA hw) lf_Wo_33 (by decide +kernel) ?_
        refine pw_iload_n (k4 := 2) rfl (by decide +kernel) ?_
        refine pq_iald q rfl (by omega) (by decide) (ks_sums hA) (by decide +kernel) ?_
        refine pw_ldc lc_Wo_151 (by decide +kernel) ?_
        refine pw_icmp_ne (off := 8) (tgt := 228) (by decide +kernel) (by decide +kernel) (fun z220 => ?_) (fun z220 => ?_)
        · rw [aU_eq, hS.2.1 q (by omega)] at z220
          have hne : ¬ dpR (xWt I t w p) q k q = INF := fun e => z220 (by rw [e]; rfl)
          refine pw_aload_n (k4 := 0) rfl (by decide +kernel) ?_
          refine pq_getP (c := 9) (k := 9) (ks_w hA hw) (by decide) (by decide) (kp_w_sums hA hw) lf_Wo_33 (by decide +kernel) ?_
          refine pw_iload_n (k4 := 2) rfl (by decide +kernel) ?_
          refine pq_iald q rfl (by omega) (by decide) (ks_sums hA) (by decide +kernel) ?_
          refine pw_ldc lc_Wo_153 (by decide +kernel) ?_
          refine pw_iand (by decide +kernel) ?_
          exact pq_iret rfl (by decide +kernel) ⟨congrArg (fun z => some (Value.int z)) (by rw [aU_eq, hS.2.1 q (by omega)]; unfold xFor; rw [← hkn, if_neg hne]; exact (fa_mask16 _)), f, L, rfl⟩
        · rw [aU_eq, hS.2.1 q (by omega)] at z220
          refine pw_bipush (n := -2) (v := -2) (by decide) (by decide +kernel) ?_
          refine pw_goto (off := 12) (tgt := 237) (by decide +kernel) (by decide +kernel) ?_
          exact pq_iret rfl (by decide +kernel) ⟨congrArg (fun z => some (Value.int z)) (by unfold xFor; rw [← hkn, if_pos (by rcases dpR_lt (xWt I t w p) q (show k ≤ 16 by omega) q with e | e; exact e; exact absurd ((nI_eq (show dpR (xWt I t w p) q k q < 2 ^ 31 by omega) (show INF < 2 ^ 31 by decide)).mp z220) (by unfold INF; omega))]), f, L, rfl⟩
    · rw [cLe hn'.2.2.1 rfl (by omega) (by omega)] at z37
      refine pw_aload_n (k4 := 0) rfl (by decide +kernel) ?_
      refine pq_getP (c := 9) (k := 6) (ks_w hA hw) (by decide) (by decide) (kp_w_owner hA hw) lf_Wo_20 (by decide +kernel) ?_
      refine pw_iload (i := 4) rfl (by decide +kernel) ?_
      refine pq_iald k rfl (by omega) (by decide) (ks_w_owner hA hw) (by decide +kernel) ?_
      refine pw_iload_n (k4 := 1) rfl (by decide +kernel) ?_
      refine pw_icmp_ne (off := 23) (tgt := 71) (by decide +kernel) (by decide +kernel) (fun z48 => ?_) (fun z48 => ?_)
      · rw [aU_ne (by omega)] at z48
        refine pw_iconst (n := 0) (v := 0) (by decide) (by decide +kernel) ?_
        refine pq_istore (i := 5) (Nat.le_of_ble_eq_true rfl) rfl (by decide +kernel) ?_
        refine pw_iload (i := 5) rfl (by decide +kernel) ?_
        refine pw_iconst (n := 1) (v := 1) (by decide) (by decide +kernel) ?_
        refine pw_icmp_lt (off := 124) (tgt := 201) (by decide +kernel) (by decide +kernel) (fun z77 => ?_) (fun z77 => ?_)
        · have hz : xWt I t w p k = 0 := if_neg z48
          refine pq_iinc (i := 4) (n := 1) (1) rfl (by decide) rfl (by decide +kernel) ?_
          refine pw_goto (off := -176) (tgt := 28) (by decide +kernel) (by decide +kernel) ?_
          have q1 := ih (by omega) R f L ⟨hS.1, fun s hs => by rw [show dpR (xWt I t w p) q (k + 1) s = _ from if_pos (Or.inl hz)]; exact hS.2.1 s hs, fun s hs hsq => by rw [show dpR (xWt I t w p) q (k + 1) s = _ from if_pos (Or.inl hz)]; exact hS.2.2 s hs hsq⟩
          rw [nI_succ] at q1
          exact pw_forget [5] q1
        · exact absurd (show (0 : Int32) < 1 by decide) z77
      · rw [aU_ne (by omega)] at z48
        refine pw_aload_n (k4 := 0) rfl (by decide +kernel) ?_
        refine pw_iload (i := 4) rfl (by decide +kernel) ?_
        refine pw_aload_n (k4 := 0) rfl (by decide +kernel) ?_
        refine pq_getP (c := 9) (k := 5) (ks_w hA hw) (by decide) (by decide) (kp_w_used hA hw) lf_Wo_17 (by decide +kernel) ?_
        refine pw_iload (i := 4) rfl (by decide +kernel) ?_
        refine pq_iald k rfl (by omega) (by decide) (ks_w_used hA hw) (by decide +kernel) ?_
        refine pw_aload_n (k4 := 0) rfl (by decide +kernel) ?_
        refine pq_getI (c := 9) (k := 1) (ks_w hA hw) (by decide) (by decide) lf_Wo_43 (by decide +kernel) ?_
        refine pq_callV (ν := m_Wo_worthWhen) (d' := 3) (av := [_, _, _]) (c := 9) (by decide +kernel) lm_Wo_127 ok_Wo_worthWhen (show _ = some 3 by decide +kernel) (ks_w hA hw) rfl (by decide) (by omega) (Nat.le_of_ble_eq_true rfl) (ct_Wo_worthWhen hA hw ht hwt hn' hl' k (by omega) _ _) ?_
        rintro _ _ ⟨rfl, L', rfl⟩
        refine pw_goto (off := 4) (tgt := 72) (by decide +kernel) (by decide +kernel) ?_
        refine pq_istore (i := 5) (Nat.le_of_ble_eq_true rfl) rfl (by decide +kernel) ?_
        refine pw_iload (i := 5) rfl (by decide +kernel) ?_
        refine pw_iconst (n := 1) (v := 1) (by decide) (by decide +kernel) ?_
        refine pw_icmp_lt (off := 124) (tgt := 201) (by decide +kernel) (by decide +kernel) (fun z77 => ?_) (fun z77 => ?_)
        · rw [xWorth_cg (I := I) (fun a ha => aU_ne (by omega)), aU_ne (show w + 2 ≠ 61 by omega), aU_ne (show w ≠ 61 by omega)] at z77
          have hz : xWt I t w p k = 0 := (if_pos z48).trans (ixn_lt1 z77)
          refine pq_iinc (i := 4) (n := 1) (1) rfl (by decide) rfl (by decide +kernel) ?_
          refine pw_goto (off := -176) (tgt := 28) (by decide +kernel) (by decide +kernel) ?_
          have q1 := ih (by omega) R f L' ⟨hS.1, fun s hs => by rw [show dpR (xWt I t w p) q (k + 1) s = _ from if_pos (Or.inl hz)]; exact hS.2.1 s hs, fun s hs hsq => by rw [show dpR (xWt I t w p) q (k + 1) s = _ from if_pos (Or.inl hz)]; exact hS.2.2 s hs hsq⟩
          rw [nI_succ] at q1
          exact pw_forget [5] q1
        · rw [xWorth_cg (I := I) (fun a ha => aU_ne (by omega)), aU_ne (show w + 2 ≠ 61 by omega), aU_ne (show w ≠ 61 by omega)] at z77
          obtain ⟨hx, hx1, hx2⟩ := ixn_ge1 z77
          have hwt2 : xWt I t w p k = ixn (xWorth I t w k (I (w + 2) k) (I w 1)) := if_pos z48
          refine pw_iload (i := 5) rfl (by decide +kernel) ?_
          refine pw_iload_n (k4 := 2) rfl (by decide +kernel) ?_
          refine pw_icmp_le (off := 6) (tgt := 89) (by decide +kernel) (by decide +kernel) (fun z83 => ?_) (fun z83 => ?_)
          · rw [xWorth_cg (I := I) (fun a ha => aU_ne (by omega)), aU_ne (show w + 2 ≠ 61 by omega), aU_ne (show w ≠ 61 by omega), cLe hx rfl (by omega) (by omega), ← hwt2] at z83
            refine pw_iload_n (k4 := 2) rfl (by decide +kernel) ?_
            refine pw_iload_n (k4 := 3) rfl (by decide +kernel) ?_
            refine pw_iload (i := 5) rfl (by decide +kernel) ?_
            refine pw_iadd (by decide +kernel) ?_
            refine pw_mmin (by decide +kernel) lm_Wo_149 (by omega) (Nat.le_of_ble_eq_true rfl) (Nat.le_refl _) (Nat.le_refl _) ?_
            refine pq_istore (i := 6) (Nat.le_of_ble_eq_true rfl) rfl (by decide +kernel) ?_
            refine pw_iload_n (k4 := 3) rfl (by decide +kernel) ?_
            refine pw_iconst (n := 1) (v := 1) (by decide) (by decide +kernel) ?_
            refine pw_iadd (by decide +kernel) ?_
            refine pq_istore (i := 7) (Nat.le_of_ble_eq_true rfl) rfl (by decide +kernel) ?_
            rw [xWorth_cg (I := I) (fun a ha => aU_ne (by omega)), aU_ne (show w + 2 ≠ 61 by omega), aU_ne (show w ≠ 61 by omega), hx, ← hwt2, nI_add, nI_1]
            have hF : iMin (nI q) (nI (R + xWt I t w p k)) = nI (min q (R + xWt I t w p k)) := by
              unfold iMin
              by_cases hc : R + xWt I t w p k < q
              · rw [if_pos (nI_lt hc (by omega)), Nat.min_eq_right (by omega)]
              · rw [if_neg (nI_nlt (by omega) (by omega)), Nat.min_eq_left (by omega)]
            rw [hF]
            have q1 := hL1 k (by omega) R (min q (R + xWt I t w p k)) (xWt I t w p k) rfl rfl (by omega) (by omega) hS.1 (fun s hs hsq => hS.2.2 s hs hsq) L' (min q (R + xWt I t w p k) - R) f (by omega) (fun s hs => hS.2.1 s (by omega)) (fun s h1 h2 => by omega) (fun f2 L2 h2 => ih (by omega) _ f2 L2 h2)
            rw [show min q (R + xWt I t w p k) + 1 - (min q (R + xWt I t w p k) - R) = R + 1 by omega] at q1
            exact q1
          · rw [xWorth_cg (I := I) (fun a ha => aU_ne (by omega)), aU_ne (show w + 2 ≠ 61 by omega), aU_ne (show w ≠ 61 by omega), cLe hx rfl (by omega) (by omega), ← hwt2] at z83
            refine pw_goto (off := 115) (tgt := 201) (by decide +kernel) (by decide +kernel) ?_
            refine pq_iinc (i := 4) (n := 1) (1) rfl (by decide) rfl (by decide +kernel) ?_
            refine pw_goto (off := -176) (tgt := 28) (by decide +kernel) (by decide +kernel) ?_
            have q1 := ih (by omega) R f L' ⟨hS.1, fun s hs => by rw [show dpR (xWt I t w p) q (k + 1) s = _ from if_pos (Or.inr (by omega))]; exact hS.2.1 s hs, fun s hs hsq => by rw [show dpR (xWt I t w p) q (k + 1) s = _ from if_pos (Or.inr (by omega))]; exact hS.2.2 s hs hsq⟩
            rw [nI_succ] at q1
            exact pw_forget [5] q1
  refine pw_iload_n (k4 := 2) rfl (by decide +kernel) ?_
  refine pw_if_lt (off := 12) (tgt := 13) (by decide +kernel) (by decide +kernel) (fun z1 => ?_) (fun z1 => ?_)
  · exact absurd z1 (nI_pos (by omega))
  · refine pw_iload_n (k4 := 2) rfl (by decide +kernel) ?_
    refine pw_aload_n (k4 := 0) rfl (by decide +kernel) ?_
    refine pq_getP (c := 9) (k := 9) (ks_w hA hw) (by decide) (by decide) (kp_w_sums hA hw) lf_Wo_33 (by decide +kernel) ?_
    refine pq_alen (by decide) (ks_sums hA) (by decide +kernel) ?_
    refine pw_icmp_lt (off := 6) (tgt := 16) (by decide +kernel) (by decide +kernel) (fun z10 => ?_) (fun z10 => ?_)
    · refine pw_aload_n (k4 := 0) rfl (by decide +kernel) ?_
      refine pq_getP (c := 9) (k := 9) (ks_w hA hw) (by decide) (by decide) (kp_w_sums hA hw) lf_Wo_33 (by decide +kernel) ?_
      refine pw_iconst (n := 0) (v := 0) (by decide) (by decide +kernel) ?_
      refine pw_iconst (n := 0) (v := 0) (by decide) (by decide +kernel) ?_
      refine pq_iast 0 rfl (by decide) (by decide) (ks_sums hA) (by decide +kernel) ?_
      refine pw_iconst (n := 0) (v := 0) (by decide) (by decide +kernel) ?_
      refine pq_istore_n (k4 := 3) (Nat.le_of_ble_eq_true rfl) rfl (by decide +kernel) ?_
      refine pw_iconst (n := 0) (v := 0) (by decide) (by decide +kernel) ?_
      refine pq_istore (i := 4) (Nat.le_of_ble_eq_true rfl) rfl (by decide +kernel) ?_
      exact hL 0 (Nat.zero_le _) 0 (upd (I 61) 0 0) L ⟨by omega, fun s hs => by rw [show s = 0 by omega]; rfl, fun s hs _ => if_neg (by omega)⟩
    · exact absurd ((cLt rfl rfl (by omega) (by omega)).mpr hq2) z10
