/-! ===== the reference: words and tokens ===== -/
def wdTl : List Nat := [112, 101, 114, 115, 111, 110, 32, 115, 104, 111, 101, 32, 100, 101, 98, 116, 32, 99, 108, 97, 105, 109, 32, 115, 119, 97, 112, 32, 115, 101, 101, 100, 32, 108, 97, 119, 32, 108, 101, 102, 116, 32, 114, 105, 103, 104, 116, 32, 98, 111, 111, 116, 32, 115, 97, 110, 100, 97, 108, 32, 102, 101, 108, 116, 32, 98, 97, 110, 107, 32, 119, 111, 114, 116, 104, 32, 112, 97, 105, 114, 32, 119, 101, 97, 114, 32, 97, 110, 100, 32, 111, 114, 32, 110, 111, 116, 32, 115, 105, 122, 101, 32, 117, 115, 101, 100, 32, 115, 111, 114, 116, 32, 115, 116, 101, 112, 115, 32, 100, 97, 121, 32, 102, 111, 111, 116, 32]
def wdT (j : Nat) : Nat := wdTl.getD j 0
def wdS (k : Nat) : Nat := ([0, 7, 12, 17, 23, 28, 33, 37, 42, 48, 53, 60, 65, 70, 76, 81, 86, 90, 93, 97, 102, 107, 112, 118, 122, 127] : List Nat).getD k 0
def wdL (k : Nat) : Nat := ([6, 4, 4, 5, 4, 4, 3, 4, 5, 4, 6, 4, 4, 5, 4, 4, 3, 2, 3, 4, 4, 4, 5, 3, 4] : List Nat).getD k 0
theorem wd_ok : ∀ k, k < 25 → wdL k ≤ 6 ∧ 1 ≤ wdL k ∧ wdS (k + 1) = wdS k + (wdL k + 1) ∧ wdS k + wdL k < 127 ∧ wdT (wdS k + wdL k) = 32 := by decide +kernel
theorem wd_lt : ∀ k, k < 25 → ∀ i, i < wdL k → 97 ≤ wdT (wdS k + i) ∧ wdT (wdS k + i) ≤ 122 := by decide +kernel
theorem wdT_le : ∀ j, j < 127 → wdT j ≤ 122 := by decide +kernel
/-- from k on, as long as p says so -/
def runTo (p : Nat → Bool) : Nat → Nat → Nat
  | 0, k => k
  | c + 1, k => if p k = true then runTo p c (k + 1) else k
theorem runTo_n {p : Nat → Bool} {k : Nat} (h : ¬ p k = true) : ∀ c, runTo p c k = k
  | 0 => rfl
  | c + 1 => if_neg h
theorem runTo_le (p : Nat → Bool) : ∀ c k, k ≤ runTo p c k ∧ runTo p c k ≤ k + c
  | 0, k => ⟨Nat.le_refl _, Nat.le_refl _⟩
  | c + 1, k => by
    have ih := runTo_le p c (k + 1)
    by_cases h : p k = true
    · rw [show runTo p (c + 1) k = runTo p c (k + 1) from if_pos h]; omega
    · rw [runTo_n h]; omega
theorem runTo_in (p : Nat → Bool) : ∀ c k j, k ≤ j → j < runTo p c k → p j = true
  | 0, k, j, h1, h2 => absurd h2 (by show ¬ j < k; omega)
  | c + 1, k, j, h1, h2 => by
    by_cases h : p k = true
    · rw [show runTo p (c + 1) k = runTo p c (k + 1) from if_pos h] at h2
      by_cases e : j = k
      · subst e; exact h
      · exact runTo_in p c (k + 1) j (by omega) h2
    · rw [runTo_n h] at h2; omega
abbrev blP (b : Nat → Nat) (n k : Nat) : Prop := k < n ∧ (b k = 10 ∨ b k = 32)
abbrev smP (b : Nat → Nat) (n k : Nat) : Prop := k < n ∧ 97 ≤ b k ∧ b k ≤ 122
abbrev dgP (b : Nat → Nat) (n k : Nat) : Prop := k < n ∧ 48 ≤ b k ∧ b k ≤ 57
def tkA (b : Nat → Nat) (n p : Nat) : Nat := runTo (fun k => decide (blP b n k)) (n - p) p
def tkW (b : Nat → Nat) (n a : Nat) : Nat := runTo (fun k => decide (smP b n k)) (n - a) a
def tkD (b : Nat → Nat) (n a : Nat) : Nat := runTo (fun k => decide (dgP b n k)) (n - a) a
/-- a word's letters as digits of 32, six of them -/
def pkD (b : Nat → Nat) (a e i : Nat) : Nat := if a + i < e then b (a + i) - 96 else 0
def pkS (d : Nat → Nat) : Nat → Nat
  | 0 => 0
  | i + 1 => pkS d i * 32 + d i
def pkF (b : Nat → Nat) (a e : Nat) : Nat := pkS (pkD b a e) 6
def rfW (k : Nat) : Nat := pkS (fun i => if i < wdL k then wdT (wdS k + i) - 96 else 0) 6
def wIx (v : Nat) : Nat := fa_first (fun k => decide (rfW k = v)) 25
theorem pkS_cg {d d' : Nat → Nat} : ∀ n, (∀ i, i < n → d i = d' i) → pkS d n = pkS d' n
  | 0, _ => rfl
  | n + 1, h => by
    show pkS d n * 32 + d n = pkS d' n * 32 + d' n
    rw [pkS_cg n (fun i hi => h i (by omega)), h n (by omega)]
theorem pkS_lt {d : Nat → Nat} (h : ∀ i, d i < 32) : ∀ n, pkS d n < 32 ^ n
  | 0 => Nat.zero_lt_one
  | n + 1 => by
    have := pkS_lt h n
    have := h n
    show pkS d n * 32 + d n < 32 ^ (n + 1)
    rw [Nat.pow_succ]
    omega
theorem pkS_inj {d d' : Nat → Nat} (h : ∀ i, d i < 32) (h' : ∀ i, d' i < 32) : ∀ n, pkS d n = pkS d' n → ∀ i, i < n → d i = d' i
  | 0, _, i, hi => absurd hi (Nat.not_lt_zero _)
  | n + 1, e, i, hi => by
    have e2 : pkS d n * 32 + d n = pkS d' n * 32 + d' n := e
    have := h n
    have := h' n
    by_cases q : i = n
    · subst q; omega
    · exact pkS_inj h h' n (by omega) i (by omega)
/-- letters i .. of a word are the tape's -/
def mtc (b : Nat → Nat) (a k : Nat) : Nat → Bool
  | 0 => true
  | i + 1 => mtc b a k i && decide (wdT (wdS k + i) = b (a + i))
theorem mtc_all {b : Nat → Nat} {a k : Nat} : ∀ {n : Nat}, mtc b a k n = true ↔ ∀ i, i < n → wdT (wdS k + i) = b (a + i)
  | 0 => ⟨fun _ i hi => absurd hi (Nat.not_lt_zero _), fun _ => rfl⟩
  | n + 1 => by
    show (mtc b a k n && decide (wdT (wdS k + n) = b (a + n))) = true ↔ _
    rw [Bool.and_eq_true, mtc_all (n := n), decide_eq_true_eq]
    exact ⟨fun h i hi => by by_cases e : i = n; subst e; exact h.2; exact h.1 i (by omega), fun h => ⟨fun i hi => h i (by omega), h n (by omega)⟩⟩
theorem mt_pk {b : Nat → Nat} {a e k : Nat} (hae : a ≤ e) (hl : ∀ i, a ≤ i → i < e → 97 ≤ b i ∧ b i ≤ 122) (hk : k < 25) : (wdL k = e - a ∧ mtc b a k (wdL k) = true) ↔ (e - a ≤ 6 ∧ rfW k = pkF b a e) := by
  have hw := wd_ok k hk
  have hlt := wd_lt k hk
  have hd1 : ∀ i, (if i < wdL k then wdT (wdS k + i) - 96 else 0) < 32 := fun i => by
    by_cases h : i < wdL k
    · rw [if_pos h]; have := hlt i h; omega
    · rw [if_neg h]; decide
  have hd2 : ∀ i, pkD b a e i < 32 := fun i => by
    unfold pkD
    by_cases h : a + i < e
    · rw [if_pos h]; have := hl (a + i) (by omega) h; omega
    · rw [if_neg h]; decide
  constructor
  · rintro ⟨h1, h2⟩
    rw [mtc_all] at h2
    refine ⟨by omega, pkS_cg 6 fun i hi => ?_⟩
    unfold pkD
    by_cases h : i < wdL k
    · rw [if_pos h, if_pos (by omega), h2 i h]
    · rw [if_neg h, if_neg (by omega)]
  · rintro ⟨h1, h2⟩
    have hi := pkS_inj hd1 hd2 6 h2
    have hdig : ∀ i, i < 6 → (i < wdL k ↔ a + i < e) := fun i h6 => by
      have e1 := hi i h6
      unfold pkD at e1
      by_cases q1 : i < wdL k
      · rw [if_pos q1] at e1
        have := hlt i q1
        by_cases q2 : a + i < e
        · exact ⟨fun _ => q2, fun _ => q1⟩
        · rw [if_neg q2] at e1; omega
      · rw [if_neg q1] at e1
        by_cases q2 : a + i < e
        · rw [if_pos q2] at e1
          have := hl (a + i) (by omega) q2
          omega
        · exact ⟨fun q => absurd q q1, fun q => absurd q q2⟩
    have hlen : wdL k = e - a := by
      rcases Nat.lt_trichotomy (wdL k) (e - a) with q | q | q
      · have := (hdig (wdL k) (by omega)).mpr (by omega); omega
      · exact q
      · have := (hdig (e - a) (by omega)).mp q; omega
    refine ⟨hlen, mtc_all.mpr fun i q => ?_⟩
    have e1 := hi i (by omega)
    unfold pkD at e1
    rw [if_pos q, if_pos (by omega)] at e1
    have h3 := hlt i q
    have h4 := hl (a + i) (by omega) (by omega)
    omega
def wRes (b : Nat → Nat) (a e : Nat) : Int32 := if e - a ≤ 6 ∧ wIx (pkF b a e) < 25 then nI (wIx (pkF b a e)) else -1
theorem wIx_is {v : Nat} (h : wIx v < 25) : rfW (wIx v) = v := by
  unfold wIx at h ⊢
  have h2 := fa_first_yes (fun k => decide (rfW k = v)) 25 h
  generalize fa_first (fun k => decide (rfW k = v)) 25 = j at h2 ⊢
  exact of_decide_eq_true h2
theorem wRes_no {b : Nat → Nat} {a e : Nat} (h : ∀ k, k < 25 → ¬ (e - a ≤ 6 ∧ rfW k = pkF b a e)) : wRes b a e = -1 := by
  unfold wRes
  generalize pkF b a e = v at h ⊢
  by_cases q : e - a ≤ 6 ∧ wIx v < 25
  · exact absurd ⟨q.1, wIx_is q.2⟩ (h _ q.2)
  · exact if_neg q
theorem wRes_yes {b : Nat → Nat} {a e k : Nat} (hk : k < 25) (h6 : e - a ≤ 6) (h : rfW k = pkF b a e) (hn : ∀ k2, k2 < k → ¬ rfW k2 = pkF b a e) : wRes b a e = nI k := by
  unfold wRes
  generalize pkF b a e = v at h hn ⊢
  have e1 : wIx v = k := fa_first_is (Nat.le_of_lt hk) (fun k2 h2 => decide_eq_false (hn k2 h2)) (fun _ => decide_eq_true h)
  rw [e1]
  exact if_pos ⟨h6, hk⟩
/-- a number as the reference reads it: no digit more above 99999 -/
def numV (b : Nat → Nat) : Nat → Nat → Nat → Nat
  | 0, _, v => v
  | c + 1, k, v => numV b c (k + 1) (if 99999 < v then v else 10 * v + b k - 48)
/-- the tape's bytes -/
def bT (I : Nat → Nat → Int32) (k : Nat) : Nat := ixn (I 135 k)
def tpM (I : Nat → Nat → Int32) : Prop := ∀ k, k < 700 → ∃ x, x ≤ 255 ∧ I 135 k = nI x
theorem tpM_b {I : Nat → Nat → Int32} (h : tpM I) {k : Nat} (hk : k < 700) : bT I k ≤ 255 ∧ I 135 k = nI (bT I k) := by
  obtain ⟨x, hx, he⟩ := h k hk
  unfold bT
  rw [he, ixn_nI (by omega)]
  exact ⟨hx, rfl⟩
def wdM (I : Nat → Nat → Int32) : Prop := ∀ j, j < 127 → I 136 j = nI (wdT j)

theorem ct_Mo_isSmall {sh : List pSh} {I : Nat → Nat → Int32} {L : Nat → Nat → Int64} {P : Nat → Nat → Option Nat} (hA : kA sh P) (htp : tpM I) {n : Nat} (hst : I 134 6 = nI n) (hn7 : n ≤ 700) {k : Nat} (hk : k ≤ 700) : pCn m_Mo_isSmall 0 [.ref 134, .int (nI k)] sh (I, L, P) (rI (B (smP (bT I) n k)) (I, L, P)) := by
  refine pCn_of (by decide +kernel) (Nat.le_of_ble_eq_true rfl) ?_
  refine pw_iload_n (k4 := 1) rfl (by decide +kernel) ?_
  refine pw_aload_n (k4 := 0) rfl (by decide +kernel) ?_
  refine pq_getI (c := 11) (k := 6) (ks_m hA) (by decide) (by decide) lf_Mo_187 (by decide +kernel) ?_
  refine pn_val (nI (n)) (by exact hst) ?_
  refine pn_icmp_ge (off := 29) (tgt := 34) k n rfl rfl (by omega) (by omega) (by decide +kernel) (by decide +kernel) (fun z5 => ?_) (fun z5 => ?_)
  · refine pw_iconst (n := 0) (v := 0) (by decide) (by decide +kernel) ?_
    exact pq_zret rfl (by decide) (by decide +kernel) ⟨congrArg (fun z => some (Value.int z)) (B_f (fun q => absurd q.1 (by omega))).symm, rfl⟩
  · have hbk := (tpM_b htp (show k < 700 by omega)).1
    refine pw_aload_n (k4 := 0) rfl (by decide +kernel) ?_
    refine pq_getP (c := 11) (k := 0) (ks_m hA) (by decide) (by decide) (kp_m_tape hA) lf_Mo_7 (by decide +kernel) ?_
    refine pw_iload_n (k4 := 1) rfl (by decide +kernel) ?_
    refine pq_iald k rfl (by omega) (by decide) (ks_m_tape hA) (by decide +kernel) ?_
    refine pn_val (nI (bT I k)) (by exact (tpM_b htp (by omega)).2) ?_
    refine pw_bipush (n := 97) (v := 97) (by decide) (by decide +kernel) ?_
    refine pn_icmp_lt (off := 18) (tgt := 34) (bT I k) 97 rfl rfl (by omega) (by omega) (by decide +kernel) (by decide +kernel) (fun z16 => ?_) (fun z16 => ?_)
    · refine pw_iconst (n := 0) (v := 0) (by decide) (by decide +kernel) ?_
      exact pq_zret rfl (by decide) (by decide +kernel) ⟨congrArg (fun z => some (Value.int z)) (B_f (fun q => absurd q.2.1 (by omega))).symm, rfl⟩
    · refine pw_aload_n (k4 := 0) rfl (by decide +kernel) ?_
      refine pq_getP (c := 11) (k := 0) (ks_m hA) (by decide) (by decide) (kp_m_tape hA) lf_Mo_7 (by decide +kernel) ?_
      refine pw_iload_n (k4 := 1) rfl (by decide +kernel) ?_
      refine pq_iald k rfl (by omega) (by decide) (ks_m_tape hA) (by decide +kernel) ?_
      refine pn_val (nI (bT I k)) (by exact (tpM_b htp (by omega)).2) ?_
      refine pw_bipush (n := 122) (v := 122) (by decide) (by decide +kernel) ?_
      refine pn_icmp_gt (off := 7) (tgt := 34) (bT I k) 122 rfl rfl (by omega) (by omega) (by decide +kernel) (by decide +kernel) (fun z27 => ?_) (fun z27 => ?_)
      · refine pw_iconst (n := 0) (v := 0) (by decide) (by decide +kernel) ?_
        exact pq_zret rfl (by decide) (by decide +kernel) ⟨congrArg (fun z => some (Value.int z)) (B_f (fun q => absurd q.2.2 (by omega))).symm, rfl⟩
      · refine pw_iconst (n := 1) (v := 1) (by decide) (by decide +kernel) ?_
        refine pw_goto (off := 4) (tgt := 35) (by decide +kernel) (by decide +kernel) ?_
        exact pq_zret rfl (by decide) (by decide +kernel) ⟨congrArg (fun z => some (Value.int z)) (B_t ⟨by omega, by omega, by omega⟩).symm, rfl⟩

theorem ct_Mo_isDigit {sh : List pSh} {I : Nat → Nat → Int32} {L : Nat → Nat → Int64} {P : Nat → Nat → Option Nat} (hA : kA sh P) (htp : tpM I) {n : Nat} (hst : I 134 6 = nI n) (hn7 : n ≤ 700) {k : Nat} (hk : k ≤ 700) : pCn m_Mo_isDigit 0 [.ref 134, .int (nI k)] sh (I, L, P) (rI (B (dgP (bT I) n k)) (I, L, P)) := by
  refine pCn_of (by decide +kernel) (Nat.le_of_ble_eq_true rfl) ?_
  refine pw_iload_n (k4 := 1) rfl (by decide +kernel) ?_
  refine pw_aload_n (k4 := 0) rfl (by decide +kernel) ?_
  refine pq_getI (c := 11) (k := 6) (ks_m hA) (by decide) (by decide) lf_Mo_187 (by decide +kernel) ?_
  refine pn_val (nI (n)) (by exact hst) ?_
  refine pn_icmp_ge (off := 29) (tgt := 34) k n rfl rfl (by omega) (by omega) (by decide +kernel) (by decide +kernel) (fun z5 => ?_) (fun z5 => ?_)
  · refine pw_iconst (n := 0) (v := 0) (by decide) (by decide +kernel) ?_
    exact pq_zret rfl (by decide) (by decide +kernel) ⟨congrArg (fun z => some (Value.int z)) (B_f (fun q => absurd q.1 (by omega))).symm, rfl⟩
  · have hbk := (tpM_b htp (show k < 700 by omega)).1
    refine pw_aload_n (k4 := 0) rfl (by decide +kernel) ?_
    refine pq_getP (c := 11) (k := 0) (ks_m hA) (by decide) (by decide) (kp_m_tape hA) lf_Mo_7 (by decide +kernel) ?_
    refine pw_iload_n (k4 := 1) rfl (by decide +kernel) ?_
    refine pq_iald k rfl (by omega) (by decide) (ks_m_tape hA) (by decide +kernel) ?_
    refine pn_val (nI (bT I k)) (by exact (tpM_b htp (by omega)).2) ?_
    refine pw_bipush (n := 48) (v := 48) (by decide) (by decide +kernel) ?_
    refine pn_icmp_lt (off := 18) (tgt := 34) (bT I k) 48 rfl rfl (by omega) (by omega) (by decide +kernel) (by decide +kernel) (fun z16 => ?_) (fun z16 => ?_)
    · refine pw_iconst (n := 0) (v := 0) (by decide) (by decide +kernel) ?_
      exact pq_zret rfl (by decide) (by decide +kernel) ⟨congrArg (fun z => some (Value.int z)) (B_f (fun q => absurd q.2.1 (by omega))).symm, rfl⟩
    · refine pw_aload_n (k4 := 0) rfl (by decide +kernel) ?_
      refine pq_getP (c := 11) (k := 0) (ks_m hA) (by decide) (by decide) (kp_m_tape hA) lf_Mo_7 (by decide +kernel) ?_
      refine pw_iload_n (k4 := 1) rfl (by decide +kernel) ?_
      refine pq_iald k rfl (by omega) (by decide) (ks_m_tape hA) (by decide +kernel) ?_
      refine pn_val (nI (bT I k)) (by exact (tpM_b htp (by omega)).2) ?_
      refine pw_bipush (n := 57) (v := 57) (by decide) (by decide +kernel) ?_
      refine pn_icmp_gt (off := 7) (tgt := 34) (bT I k) 57 rfl rfl (by omega) (by omega) (by decide +kernel) (by decide +kernel) (fun z27 => ?_) (fun z27 => ?_)
      · refine pw_iconst (n := 0) (v := 0) (by decide) (by decide +kernel) ?_
        exact pq_zret rfl (by decide) (by decide +kernel) ⟨congrArg (fun z => some (Value.int z)) (B_f (fun q => absurd q.2.2 (by omega))).symm, rfl⟩
      · refine pw_iconst (n := 1) (v := 1) (by decide) (by decide +kernel) ?_
        refine pw_goto (off := 4) (tgt := 35) (by decide +kernel) (by decide +kernel) ?_
        exact pq_zret rfl (by decide) (by decide +kernel) ⟨congrArg (fun z => some (Value.int z)) (B_t ⟨by omega, by omega, by omega⟩).symm, rfl⟩

set_option maxHeartbeats 2000000 in
theorem ct_Mo_wordAt {sh : List pSh} {I : Nat → Nat → Int32} {L : Nat → Nat → Int64} {P : Nat → Nat → Option Nat} (hA : kA sh P) (htp : tpM I) (hW : wdM I) {a e : Nat} (hae : a ≤ e) (he7 : e ≤ 700) (hl : ∀ i, a ≤ i → i < e → 97 ≤ bT I i ∧ bT I i ≤ 122) : pCn m_Mo_wordAt 0 [.ref 134, .int (nI a), .int (nI e)] sh (I, L, P) (rI (wRes (bT I) a e) (I, L, P)) := by
  refine pCn_of (by decide +kernel) (Nat.le_of_ble_eq_true rfl) ?_
  have hK := pUpTo 25 (fun k => (∀ k2, k2 < k → ¬ (wdL k2 = e - a ∧ mtc (bT I) a k2 (wdL k2) = true)) → pWn m_Mo_wordAt 0 sh (rI (wRes (bT I) a e) (I, L, P)) 5 [some (.ref 134), some (.int (nI a)), some (.int (nI e)), some (.int (nI (k))), some (.int (nI (wdS k))), none, none, none] [] (I, L, P)) (by
    intro k hk0 ihk hno
    have hws : wdS k ≤ 127 := by rcases Nat.lt_or_ge k 25 with q | q; have := wd_ok k q; omega; rw [show k = 25 by omega]; decide
    have h18 : k < 25 → ∀ x, x ≤ wdL k → pWn m_Mo_wordAt 0 sh (rI (wRes (bT I) a e) (I, L, P)) 18 [some (.ref 134), some (.int (nI a)), some (.int (nI e)), some (.int (nI (k))), some (.int (nI (wdS k))), some (.int (nI (x))), none, none] [] (I, L, P) := fun hk => pUpTo (wdL k) _ (by
      intro x hx ihx
      have hwo := wd_ok k hk
      have hlt := wd_lt k hk
      rw [hwo.2.2.1] at ihk
      have h57 := pUpTo (wdL k) (fun i => pWn m_Mo_wordAt 0 sh (rI (wRes (bT I) a e) (I, L, P)) 57 [some (.ref 134), some (.int (nI a)), some (.int (nI e)), some (.int (nI (k))), some (.int (nI (wdS k))), some (.int (nI (wdL k))), some (.int (bI (decide (wdL k = e - a) && mtc (bT I) a k i))), some (.int (nI (i)))] [] (I, L, P)) (by
        intro i hi ihi
        refine pw_iload (i := 7) rfl (by decide +kernel) ?_
        refine pw_iload (i := 5) rfl (by decide +kernel) ?_
        refine pn_icmp_ge (off := 43) (tgt := 104) i (wdL k) rfl rfl (by omega) (by omega) (by decide +kernel) (by decide +kernel) (fun z61 => ?_) (fun z61 => ?_)
        · refine pw_iload (i := 6) rfl (by decide +kernel) ?_
          refine pw_if_eq (off := 5) (tgt := 111) (by decide +kernel) (by decide +kernel) (fun z106 => ?_) (fun z106 => ?_)
          · have hs0 : (decide (wdL k = e - a) && mtc (bT I) a k i) = false := bI_0 z106
            have hil : i = wdL k := by omega
            have hnm : ¬ (wdL k = e - a ∧ mtc (bT I) a k (wdL k) = true) := fun q => by rw [decide_eq_true q.1, Bool.true_and, hil] at hs0; rw [hs0] at q; exact absurd q.2 (by decide)
            refine pw_iload (i := 4) rfl (by decide +kernel) ?_
            refine pw_iload (i := 5) rfl (by decide +kernel) ?_
            refine pw_iconst (n := 1) (v := 1) (by decide) (by decide +kernel) ?_
            refine pn_iadd (wdL k) 1 rfl rfl (by decide +kernel) ?_
            refine pn_iadd (wdS k) ((wdL k) + 1) rfl rfl (by decide +kernel) ?_
            refine pq_istore (i := 4) (Nat.le_of_ble_eq_true rfl) rfl (by decide +kernel) ?_
            refine pn_iinc (i := 3) (n := 1) 1 k rfl rfl (by decide) rfl (by decide +kernel) ?_
            refine pw_goto (off := -118) (tgt := 5) (by decide +kernel) (by decide +kernel) ?_
            exact pw_forget [5, 6, 7] (ihk (by omega) (fun k2 h2 => (Nat.lt_succ_iff_lt_or_eq.mp h2).elim (hno k2) (fun q => by subst q; exact hnm)))
          · have hs : (decide (wdL k = e - a) && mtc (bT I) a k i) = true := bI_1 z106
            rw [Bool.and_eq_true, decide_eq_true_eq] at hs
            have hil : i = wdL k := by omega
            rw [hil] at hs
            have hpk := (mt_pk hae hl hk).mp hs
            refine pw_iload_n (k4 := 3) rfl (by decide +kernel) ?_
            exact pq_iret rfl (by decide +kernel) ⟨congrArg (fun z => some (Value.int z)) (wRes_yes hk hpk.1 hpk.2 (fun k2 h2 q => hno k2 h2 ((mt_pk hae hl (by omega)).mpr ⟨hpk.1, q⟩))).symm, rfl⟩
        · refine pw_iload (i := 6) rfl (by decide +kernel) ?_
          refine pw_if_eq (off := 38) (tgt := 104) (by decide +kernel) (by decide +kernel) (fun z66 => ?_) (fun z66 => ?_)
          · refine pw_iload (i := 6) rfl (by decide +kernel) ?_
            refine pw_if_eq (off := 5) (tgt := 111) (by decide +kernel) (by decide +kernel) (fun z106 => ?_) (fun z106 => ?_)
            · have hs0 : (decide (wdL k = e - a) && mtc (bT I) a k i) = false := bI_0 z66
              have hnm : ¬ (wdL k = e - a ∧ mtc (bT I) a k (wdL k) = true) := fun q => by rw [decide_eq_true q.1, Bool.true_and] at hs0; have w := mtc_all.mpr (fun j (hj : j < i) => mtc_all.mp q.2 j (by omega)); rw [hs0] at w; cases w
              refine pw_iload (i := 4) rfl (by decide +kernel) ?_
              refine pw_iload (i := 5) rfl (by decide +kernel) ?_
              refine pw_iconst (n := 1) (v := 1) (by decide) (by decide +kernel) ?_
              refine pn_iadd (wdL k) 1 rfl rfl (by decide +kernel) ?_
              refine pn_iadd (wdS k) ((wdL k) + 1) rfl rfl (by decide +kernel) ?_
              refine pq_istore (i := 4) (Nat.le_of_ble_eq_true rfl) rfl (by decide +kernel) ?_
              refine pn_iinc (i := 3) (n := 1) 1 k rfl rfl (by decide) rfl (by decide +kernel) ?_
              refine pw_goto (off := -118) (tgt := 5) (by decide +kernel) (by decide +kernel) ?_
              exact pw_forget [5, 6, 7] (ihk (by omega) (fun k2 h2 => (Nat.lt_succ_iff_lt_or_eq.mp h2).elim (hno k2) (fun q => by subst q; exact hnm)))
            · exact absurd z66 z106
          · have hs : (decide (wdL k = e - a) && mtc (bT I) a k i) = true := bI_1 z66
            rw [Bool.and_eq_true, decide_eq_true_eq] at hs
            obtain ⟨hs1, hs2⟩ := hs
            have hb1 := (tpM_b htp (show a + i < 700 by omega)).1
            have hb2 := wdT_le (wdS k + i) (by omega)
            refine pw_aload_n (k4 := 0) rfl (by decide +kernel) ?_
            refine pq_getP (c := 11) (k := 3) (ks_m hA) (by decide) (by decide) (kp_m_words hA) lf_Mo_13 (by decide +kernel) ?_
            refine pw_iload (i := 4) rfl (by decide +kernel) ?_
            refine pw_iload (i := 7) rfl (by decide +kernel) ?_
            refine pn_iadd (wdS k) i rfl rfl (by decide +kernel) ?_
            refine pq_iald ((wdS k) + i) rfl (by omega) (by decide) (ks_m_words hA) (by decide +kernel) ?_
            refine pn_val (nI (wdT (wdS k + i))) (by exact hW _ (by omega)) ?_
            refine pw_aload_n (k4 := 0) rfl (by decide +kernel) ?_
            refine pq_getP (c := 11) (k := 0) (ks_m hA) (by decide) (by decide) (kp_m_tape hA) lf_Mo_7 (by decide +kernel) ?_
            refine pw_iload_n (k4 := 1) rfl (by decide +kernel) ?_
            refine pw_iload (i := 7) rfl (by decide +kernel) ?_
            refine pn_iadd a i rfl rfl (by decide +kernel) ?_
            refine pq_iald (a + i) rfl (by omega) (by decide) (ks_m_tape hA) (by decide +kernel) ?_
            refine pn_val (nI (bT I (a + i))) (by exact (tpM_b htp (by omega)).2) ?_
            refine pn_icmp_ne (off := 7) (tgt := 95) (wdT (wdS k + i)) (bT I (a + i)) rfl rfl (by omega) (by omega) (by decide +kernel) (by decide +kernel) (fun z88 => ?_) (fun z88 => ?_)
            · refine pw_iconst (n := 0) (v := 0) (by decide) (by decide +kernel) ?_
              refine pq_istore (i := 6) (Nat.le_of_ble_eq_true rfl) rfl (by decide +kernel) ?_
              refine pn_iinc (i := 7) (n := 1) 1 i rfl rfl (by decide) rfl (by decide +kernel) ?_
              refine pw_goto (off := -44) (tgt := 57) (by decide +kernel) (by decide +kernel) ?_
              have q := ihi (by omega)
              rw [show (decide (wdL k = e - a) && mtc (bT I) a k (i + 1)) = false from by rw [decide_eq_true hs1, Bool.true_and]; show (mtc (bT I) a k i && decide (wdT (wdS k + i) = bT I (a + i))) = false; rw [hs2, Bool.true_and]; exact decide_eq_false z88] at q
              exact q
            · refine pw_iconst (n := 1) (v := 1) (by decide) (by decide +kernel) ?_
              refine pw_goto (off := 4) (tgt := 96) (by decide +kernel) (by decide +kernel) ?_
              refine pq_istore (i := 6) (Nat.le_of_ble_eq_true rfl) rfl (by decide +kernel) ?_
              refine pn_iinc (i := 7) (n := 1) 1 i rfl rfl (by decide) rfl (by decide +kernel) ?_
              refine pw_goto (off := -44) (tgt := 57) (by decide +kernel) (by decide +kernel) ?_
              have q := ihi (by omega)
              rw [show (decide (wdL k = e - a) && mtc (bT I) a k (i + 1)) = true from by rw [decide_eq_true hs1, Bool.true_and]; show (mtc (bT I) a k i && decide (wdT (wdS k + i) = bT I (a + i))) = true; rw [hs2, Bool.true_and]; exact decide_eq_true (Decidable.not_not.mp z88)] at q
              exact q)
      refine pw_aload_n (k4 := 0) rfl (by decide +kernel) ?_
      refine pq_getP (c := 11) (k := 3) (ks_m hA) (by decide) (by decide) (kp_m_words hA) lf_Mo_13 (by decide +kernel) ?_
      refine pw_iload (i := 4) rfl (by decide +kernel) ?_
      refine pw_iload (i := 5) rfl (by decide +kernel) ?_
      refine pn_iadd (wdS k) x rfl rfl (by decide +kernel) ?_
      refine pq_iald ((wdS k) + x) rfl (by omega) (by decide) (ks_m_words hA) (by decide +kernel) ?_
      refine pn_val (nI (wdT (wdS k + x))) (by exact hW _ (by omega)) ?_
      refine pw_bipush (n := 32) (v := 32) (by decide) (by decide +kernel) ?_
      refine pn_icmp_eq (off := 9) (tgt := 39) (wdT (wdS k + x)) 32 rfl rfl (by have := wdT_le (wdS k + x) (by omega); omega) (by omega) (by decide +kernel) (by decide +kernel) (fun z30 => ?_) (fun z30 => ?_)
      · have hxl : x = wdL k := by rcases Nat.lt_or_ge x (wdL k) with q | q; exact absurd z30 (by have := hlt x q; omega); omega
        refine pw_iload (i := 5) rfl (by decide +kernel) ?_
        refine pw_iload_n (k4 := 2) rfl (by decide +kernel) ?_
        refine pw_iload_n (k4 := 1) rfl (by decide +kernel) ?_
        refine pn_isub e a rfl rfl (by omega) (by decide +kernel) ?_
        refine pn_icmp_ne (off := 7) (tgt := 51) x (e - a) rfl rfl (by omega) (by omega) (by decide +kernel) (by decide +kernel) (fun z44 => ?_) (fun z44 => ?_)
        · refine pw_iconst (n := 0) (v := 0) (by decide) (by decide +kernel) ?_
          refine pq_istore (i := 6) (Nat.le_of_ble_eq_true rfl) rfl (by decide +kernel) ?_
          refine pw_iconst (n := 0) (v := 0) (by decide) (by decide +kernel) ?_
          refine pq_istore (i := 7) (Nat.le_of_ble_eq_true rfl) rfl (by decide +kernel) ?_
          have q := h57 0 (Nat.zero_le _)
          rw [show (decide (wdL k = e - a) && mtc (bT I) a k 0) = false from by rw [show decide (wdL k = e - a) = false from decide_eq_false (fun q => z44 (by rw [hxl, q]))]; rfl] at q
          rw [← hxl] at q
          exact q
        · refine pw_iconst (n := 1) (v := 1) (by decide) (by decide +kernel) ?_
          refine pw_goto (off := 4) (tgt := 52) (by decide +kernel) (by decide +kernel) ?_
          refine pq_istore (i := 6) (Nat.le_of_ble_eq_true rfl) rfl (by decide +kernel) ?_
          refine pw_iconst (n := 0) (v := 0) (by decide) (by decide +kernel) ?_
          refine pq_istore (i := 7) (Nat.le_of_ble_eq_true rfl) rfl (by decide +kernel) ?_
          have q := h57 0 (Nat.zero_le _)
          rw [show (decide (wdL k = e - a) && mtc (bT I) a k 0) = true from by rw [show decide (wdL k = e - a) = true from decide_eq_true (by rw [← hxl]; exact Decidable.not_not.mp z44)]; rfl] at q
          rw [← hxl] at q
          exact q
      · have hxl2 : x < wdL k := by rcases Nat.lt_or_ge x (wdL k) with q | q; exact q; exact absurd (by rw [show x = wdL k by omega]; exact hwo.2.2.2.2) z30
        refine pn_iinc (i := 5) (n := 1) 1 x rfl rfl (by decide) rfl (by decide +kernel) ?_
        refine pw_goto (off := -18) (tgt := 18) (by decide +kernel) (by decide +kernel) ?_
        exact ihx (by omega)
)
    refine pw_iload (i := 4) rfl (by decide +kernel) ?_
    refine pw_aload_n (k4 := 0) rfl (by decide +kernel) ?_
    refine pq_getP (c := 11) (k := 3) (ks_m hA) (by decide) (by decide) (kp_m_words hA) lf_Mo_13 (by decide +kernel) ?_
    refine pq_alen (by decide) (ks_m_words hA) (by decide +kernel) ?_
    refine pn_icmp_ge (off := 114) (tgt := 126) (wdS k) 127 rfl rfl (by omega) (by omega) (by decide +kernel) (by decide +kernel) (fun z12 => ?_) (fun z12 => ?_)
    · have hk25 : k = 25 := by rcases Nat.lt_or_ge k 25 with q | q; exact absurd z12 (by have := wd_ok k q; omega); omega
      refine pw_iconst (n := -1) (v := -1) (by decide) (by decide +kernel) ?_
      exact pq_iret rfl (by decide +kernel) ⟨congrArg (fun z => some (Value.int z)) (wRes_no (fun k2 h2 q => hno k2 (by omega) ((mt_pk hae hl h2).mpr q))).symm, rfl⟩
    · have hk2 : k < 25 := by rcases Nat.lt_or_ge k 25 with q | q; exact q; exact absurd (show wdS k < 127 by omega) (by rw [show k = 25 by omega]; decide)
      refine pw_iconst (n := 0) (v := 0) (by decide) (by decide +kernel) ?_
      refine pq_istore (i := 5) (Nat.le_of_ble_eq_true rfl) rfl (by decide +kernel) ?_
      exact h18 (by omega) 0 (Nat.zero_le _)
)
  refine pw_iconst (n := 0) (v := 0) (by decide) (by decide +kernel) ?_
  refine pq_istore_n (k4 := 3) (Nat.le_of_ble_eq_true rfl) rfl (by decide +kernel) ?_
  refine pw_iconst (n := 0) (v := 0) (by decide) (by decide +kernel) ?_
  refine pq_istore (i := 4) (Nat.le_of_ble_eq_true rfl) rfl (by decide +kernel) ?_
  exact hK 0 (Nat.zero_le _) (fun k h => absurd h (Nat.not_lt_zero _))

theorem ct_Mo_packed {sh : List pSh} {I : Nat → Nat → Int32} {L : Nat → Nat → Int64} {P : Nat → Nat → Option Nat} (hA : kA sh P) (htp : tpM I) {a e : Nat} (hae : a ≤ e) (he7 : e ≤ 700) (hl : ∀ i, a ≤ i → i < e → 97 ≤ bT I i ∧ bT I i ≤ 122) : pCn m_Mo_packed 0 [.ref 134, .int (nI a), .int (nI e)] sh (I, L, P) (rI (nI (pkF (bT I) a e)) (I, L, P)) := by
  refine pCn_of (by decide +kernel) (Nat.le_of_ble_eq_true rfl) ?_
  have hd32 : ∀ i, pkD (bT I) a e i < 2 ^ 5 := fun i => by
    unfold pkD
    by_cases h : a + i < e
    · rw [if_pos h]; have := hl (a + i) (by omega) h; omega
    · rw [if_neg h]; decide
  have hL := pUpTo 6 (fun k => pWn m_Mo_packed 0 sh (rI (nI (pkF (bT I) a e)) (I, L, P)) 5 [some (.ref 134), some (.int (nI a)), some (.int (nI e)), some (.int (nI (pkS (pkD (bT I) a e) k))), some (.int (nI (a + k)))] [] (I, L, P)) (by
    intro k hk ih
    refine pw_iload (i := 4) rfl (by decide +kernel) ?_
    refine pw_iload_n (k4 := 1) rfl (by decide +kernel) ?_
    refine pw_bipush (n := 6) (v := 6) (by decide) (by decide +kernel) ?_
    refine pn_iadd a 6 rfl rfl (by decide +kernel) ?_
    refine pn_icmp_ge (off := 34) (tgt := 45) (a + k) (a + 6) rfl rfl (by omega) (by omega) (by decide +kernel) (by decide +kernel) (fun z11 => ?_) (fun z11 => ?_)
    · refine pw_iload_n (k4 := 3) rfl (by decide +kernel) ?_
      exact pq_iret rfl (by decide +kernel) ⟨by rw [show k = 6 by omega]; rfl, rfl⟩
    · refine pw_iload_n (k4 := 3) rfl (by decide +kernel) ?_
      refine pw_iconst (n := 5) (v := 5) (by decide) (by decide +kernel) ?_
      refine pw_ishl (by decide +kernel) ?_
      refine pn_val (nI (pkS (pkD (bT I) a e) k * 2 ^ 5)) (pk_shlN _ 5 (by decide) (by have := pkS_lt hd32 k; have := Nat.pow_le_pow_right (show 0 < 32 by decide) (show k ≤ 5 by omega); omega)) ?_
      refine pw_iload (i := 4) rfl (by decide +kernel) ?_
      refine pw_iload_n (k4 := 2) rfl (by decide +kernel) ?_
      refine pn_icmp_ge (off := 16) (tgt := 36) (a + k) e rfl rfl (by omega) (by omega) (by decide +kernel) (by decide +kernel) (fun z20 => ?_) (fun z20 => ?_)
      · refine pw_iconst (n := 0) (v := 0) (by decide) (by decide +kernel) ?_
        refine pn_val (nI (pkD (bT I) a e k)) (by rw [show pkD (bT I) a e k = 0 from if_neg (by omega)]; rfl) ?_
        refine pw_ior (by decide +kernel) ?_
        refine pn_val (nI (pkS (pkD (bT I) a e) (k + 1))) (by rw [show pkS (pkD (bT I) a e) (k + 1) = 2 ^ 5 * pkS (pkD (bT I) a e) k + pkD (bT I) a e k from by show _ * 32 + _ = _; omega, show pkS (pkD (bT I) a e) k * 2 ^ 5 = 2 ^ 5 * pkS (pkD (bT I) a e) k from Nat.mul_comm _ _]; exact fa_or_sum _ (hd32 k)) ?_
        refine pq_istore_n (k4 := 3) (Nat.le_of_ble_eq_true rfl) rfl (by decide +kernel) ?_
        refine pn_iinc (i := 4) (n := 1) 1 (a + k) rfl rfl (by decide) rfl (by decide +kernel) ?_
        refine pw_goto (off := -37) (tgt := 5) (by decide +kernel) (by decide +kernel) ?_
        have q := ih (by omega)
        rw [show a + (k + 1) = a + k + 1 by omega] at q
        exact q
      · have hlk := hl (a + k) (by omega) (by omega)
        refine pw_aload_n (k4 := 0) rfl (by decide +kernel) ?_
        refine pq_getP (c := 11) (k := 0) (ks_m hA) (by decide) (by decide) (kp_m_tape hA) lf_Mo_7 (by decide +kernel) ?_
        refine pw_iload (i := 4) rfl (by decide +kernel) ?_
        refine pq_iald (a + k) rfl (by omega) (by decide) (ks_m_tape hA) (by decide +kernel) ?_
        refine pn_val (nI (bT I (a + k))) (by exact (tpM_b htp (by omega)).2) ?_
        refine pw_bipush (n := 96) (v := 96) (by decide) (by decide +kernel) ?_
        refine pn_isub (bT I (a + k)) 96 rfl rfl (by omega) (by decide +kernel) ?_
        refine pn_val (nI (pkD (bT I) a e k)) (by rw [show pkD (bT I) a e k = bT I (a + k) - 96 from if_pos (by omega)]) ?_
        refine pw_goto (off := 4) (tgt := 37) (by decide +kernel) (by decide +kernel) ?_
        refine pw_ior (by decide +kernel) ?_
        refine pn_val (nI (pkS (pkD (bT I) a e) (k + 1))) (by rw [show pkS (pkD (bT I) a e) (k + 1) = 2 ^ 5 * pkS (pkD (bT I) a e) k + pkD (bT I) a e k from by show _ * 32 + _ = _; omega, show pkS (pkD (bT I) a e) k * 2 ^ 5 = 2 ^ 5 * pkS (pkD (bT I) a e) k from Nat.mul_comm _ _]; exact fa_or_sum _ (hd32 k)) ?_
        refine pq_istore_n (k4 := 3) (Nat.le_of_ble_eq_true rfl) rfl (by decide +kernel) ?_
        refine pn_iinc (i := 4) (n := 1) 1 (a + k) rfl rfl (by decide) rfl (by decide +kernel) ?_
        refine pw_goto (off := -37) (tgt := 5) (by decide +kernel) (by decide +kernel) ?_
        have q := ih (by omega)
        rw [show a + (k + 1) = a + k + 1 by omega] at q
        exact q
)
  refine pw_iconst (n := 0) (v := 0) (by decide) (by decide +kernel) ?_
  refine pq_istore_n (k4 := 3) (Nat.le_of_ble_eq_true rfl) rfl (by decide +kernel) ?_
  refine pw_iload_n (k4 := 1) rfl (by decide +kernel) ?_
  refine pq_istore (i := 4) (Nat.le_of_ble_eq_true rfl) rfl (by decide +kernel) ?_
  exact hL 0 (Nat.zero_le _)
