/-! ===== the reference: a text begins, is kept ===== -/
/-- a row with x at places a .. k -/
def rng (x : Int32) (g : Nat → Int32) (a k : Nat) : Nat → Int32 := fun i => if a ≤ i ∧ i < k then x else g i
theorem rng_0 (x : Int32) (g : Nat → Int32) (a : Nat) : rng x g a a = g := funext fun i => if_neg (by omega)
theorem rng_s {x : Int32} {g : Nat → Int32} {a k : Nat} (h : a ≤ k) : upd (rng x g a k) k x = rng x g a (k + 1) := by
  funext i
  unfold upd rng
  by_cases e : i = k
  · rw [if_pos e, if_pos (by omega)]
  · rw [if_neg e]
    by_cases e2 : a ≤ i ∧ i < k
    · rw [if_pos e2, if_pos (by omega)]
    · rw [if_neg e2, if_neg (by omega)]
theorem fil_t {f g : Nat → Int32} {k : Nat} : upd (fil f g k) k (f k) = fil f g (k + 1) := by
  funext i
  unfold upd fil
  by_cases e : i = k
  · subst e; rw [if_pos rfl, if_pos (by omega)]
  · rw [if_neg e]
    by_cases e2 : i < k
    · rw [if_pos e2, if_pos (by omega)]
    · rw [if_neg e2, if_neg (by omega)]
def yPl7 (I : Nat → Nat → Int32) : Nat → Nat → Int32 := sI (sI (sI (sI (sI (sI (sI I 134 17 0) 134 18 0) 134 19 0) 134 20 0) 134 21 0) 134 49 0) 134 22 0
def yPlain (I : Nat → Nat → Int32) : Nat → Nat → Int32 := aU (aU (yPl7 I) 141 (rng (-1) (I 141) 5 10)) 152 (rng 0 (I 152) 3 6)
def cpA (I : Nat → Nat → Int32) (a n : Nat) : Nat → Nat → Int32 := aU I a (fil (fun i => I a (n + i)) (I a) n)
def yBegA (I : Nat → Nat → Int32) : Nat → Nat → Int32 := aU (aU (aU (aU (aU I 162 (fil (I 144) (I 162) 16)) 163 (fil (I 146) (I 163) 16)) 164 (rng (-1) (I 164) 0 5)) 165 (rng (-1) (I 165) 0 5)) 166 (rng 0 (I 166) 0 8)
def yBeg (I : Nat → Nat → Int32) : Nat → Nat → Int32 := sI (sI (sI (sI (sI (sI (sI (sI (yBegA I) 167 0 0) 134 62 0) 134 63 0) 134 64 0) 134 80 0) 134 81 (-1)) 134 86 0) 134 88 0

theorem ct_Mo_plain {sh : List pSh} {I : Nat → Nat → Int32} {L : Nat → Nat → Int64} {P : Nat → Nat → Option Nat} (hA : kA sh P) : pCn m_Mo_plain 0 [.ref 134] sh (I, L, P) (rV (yPlain I, L, P)) := by
  refine pCn_of (by decide +kernel) (Nat.le_of_ble_eq_true rfl) ?_
  have h58 := pUpTo 6 (fun k => 3 ≤ k → pWn m_Mo_plain 0 sh (rV (yPlain I, L, P)) 58 [some (.ref 134), some (.int (nI k))] [] (aU (aU (yPl7 I) 141 (rng (-1) (I 141) 5 10)) 152 (rng 0 (I 152) 3 k), L, P)) (by
    intro k hk ih hk3
    refine pw_iload_n (k4 := 1) rfl (by decide +kernel) ?_
    refine pw_bipush (n := 6) (v := 6) (by decide) (by decide +kernel) ?_
    refine pn_icmp_ge (off := 16) (tgt := 77) k 6 rfl rfl (by omega) (by omega) (by decide +kernel) (by decide +kernel) (fun z61 => ?_) (fun z61 => ?_)
    · exact pq_vret rfl (by decide +kernel) ⟨rfl, by rw [show k = 6 by omega]; rfl⟩
    · refine pw_aload_n (k4 := 0) rfl (by decide +kernel) ?_
      refine pq_getP (c := 11) (k := 38) (ks_m hA) (by decide) (by decide) (kp_m_lawTold hA) lf_Mo_65 (by decide +kernel) ?_
      refine pw_iload_n (k4 := 1) rfl (by decide +kernel) ?_
      refine pw_iconst (n := 0) (v := 0) (by decide) (by decide +kernel) ?_
      refine pq_zast k rfl (by omega) (by decide) (ks_m_lawTold hA) (by decide +kernel) ?_
      refine pn_iinc (i := 1) (n := 1) 1 k rfl rfl (by decide) rfl (by decide +kernel) ?_
      refine pw_goto (off := -16) (tgt := 58) (by decide +kernel) (by decide +kernel) ?_
      rw [show (0 : Int32) &&& 1 = 0 from rfl, sI_aU2, rng_s hk3]
      exact ih (by omega) (by omega)
)
  have h37 := pUpTo 10 (fun k => 5 ≤ k → pWn m_Mo_plain 0 sh (rV (yPlain I, L, P)) 37 [some (.ref 134), some (.int (nI k))] [] (aU (yPl7 I) 141 (rng (-1) (I 141) 5 k), L, P)) (by
    intro k hk ih hk5
    refine pw_iload_n (k4 := 1) rfl (by decide +kernel) ?_
    refine pw_bipush (n := 10) (v := 10) (by decide) (by decide +kernel) ?_
    refine pn_icmp_ge (off := 16) (tgt := 56) k 10 rfl rfl (by omega) (by omega) (by decide +kernel) (by decide +kernel) (fun z40 => ?_) (fun z40 => ?_)
    · refine pw_iconst (n := 3) (v := 3) (by decide) (by decide +kernel) ?_
      refine pq_istore_n (k4 := 1) (Nat.le_of_ble_eq_true rfl) rfl (by decide +kernel) ?_
      have w := h58 3 (by decide) (Nat.le_refl _)
      rw [rng_0] at w
      rw [show k = 10 by omega]
      have e : aU (aU (yPl7 I) 141 (rng (-1) (I 141) 5 10)) 152 (I 152) = aU (yPl7 I) 141 (rng (-1) (I 141) 5 10) := aU_self _ 152
      rw [e] at w
      exact w
    · refine pw_aload_n (k4 := 0) rfl (by decide +kernel) ?_
      refine pq_getP (c := 11) (k := 27) (ks_m hA) (by decide) (by decide) (kp_m_claimOf hA) lf_Mo_32 (by decide +kernel) ?_
      refine pw_iload_n (k4 := 1) rfl (by decide +kernel) ?_
      refine pw_iconst (n := -1) (v := -1) (by decide) (by decide +kernel) ?_
      refine pq_iast k rfl (by omega) (by decide) (ks_m_claimOf hA) (by decide +kernel) ?_
      refine pn_iinc (i := 1) (n := 1) 1 k rfl rfl (by decide) rfl (by decide +kernel) ?_
      refine pw_goto (off := -16) (tgt := 37) (by decide +kernel) (by decide +kernel) ?_
      rw [sI_aU2, rng_s hk5]
      exact ih (by omega) (by omega)
)
  refine pw_aload_n (k4 := 0) rfl (by decide +kernel) ?_
  refine pw_iconst (n := 0) (v := 0) (by decide) (by decide +kernel) ?_
  refine pq_putI (c := 11) (k := 17) (ks_m hA) (by decide) (by decide) lf_Mo_237 (Or.inl rfl) (by decide +kernel) ?_
  refine pw_aload_n (k4 := 0) rfl (by decide +kernel) ?_
  refine pw_iconst (n := 0) (v := 0) (by decide) (by decide +kernel) ?_
  refine pq_putI (c := 11) (k := 18) (ks_m hA) (by decide) (by decide) lf_Mo_240 (Or.inl rfl) (by decide +kernel) ?_
  refine pw_aload_n (k4 := 0) rfl (by decide +kernel) ?_
  refine pw_iconst (n := 0) (v := 0) (by decide) (by decide +kernel) ?_
  refine pq_putI (c := 11) (k := 19) (ks_m hA) (by decide) (by decide) lf_Mo_243 (Or.inl rfl) (by decide +kernel) ?_
  refine pw_aload_n (k4 := 0) rfl (by decide +kernel) ?_
  refine pw_iconst (n := 0) (v := 0) (by decide) (by decide +kernel) ?_
  refine pq_putI (c := 11) (k := 20) (ks_m hA) (by decide) (by decide) lf_Mo_246 (Or.inl rfl) (by decide +kernel) ?_
  refine pw_aload_n (k4 := 0) rfl (by decide +kernel) ?_
  refine pw_iconst (n := 0) (v := 0) (by decide) (by decide +kernel) ?_
  refine pq_putI (c := 11) (k := 21) (ks_m hA) (by decide) (by decide) lf_Mo_249 (Or.inl rfl) (by decide +kernel) ?_
  refine pw_aload_n (k4 := 0) rfl (by decide +kernel) ?_
  refine pw_iconst (n := 0) (v := 0) (by decide) (by decide +kernel) ?_
  refine pq_putI (c := 11) (k := 49) (ks_m hA) (by decide) (by decide) lf_Mo_252 (Or.inl rfl) (by decide +kernel) ?_
  refine pw_aload_n (k4 := 0) rfl (by decide +kernel) ?_
  refine pw_iconst (n := 0) (v := 0) (by decide) (by decide +kernel) ?_
  refine pq_putZ (c := 11) (k := 22) (ks_m hA) (by decide) (by decide) (by decide) lf_Mo_255 (Or.inl rfl) (by decide +kernel) ?_
  refine pw_iconst (n := 5) (v := 5) (by decide) (by decide +kernel) ?_
  refine pq_istore_n (k4 := 1) (Nat.le_of_ble_eq_true rfl) rfl (by decide +kernel) ?_
  have w := h37 5 (by decide) (Nat.le_refl _)
  rw [rng_0] at w
  have e : aU (yPl7 I) 141 (I 141) = yPl7 I := aU_self _ 141
  rw [e] at w
  exact w

theorem ct_Mo_copies {sh : List pSh} {I : Nat → Nat → Int32} {L : Nat → Nat → Int64} {P : Nat → Nat → Option Nat} {a n N : Nat} (hs : sh[a]? = some (.inr (0, N))) (h2 : 2 * n ≤ N) (hN : N < 1000) : pCn m_Mo_copies 0 [.ref a, .int (nI n)] sh (I, L, P) (rV (cpA I a n, L, P)) := by
  refine pCn_of (by decide +kernel) (Nat.le_of_ble_eq_true rfl) ?_
  have hL := pUpTo n (fun k => pWn m_Mo_copies 0 sh (rV (cpA I a n, L, P)) 2 [some (.ref a), some (.int (nI n)), some (.int (nI k))] [] (aU I a (fil (fun i => I a (n + i)) (I a) k), L, P)) (by
    intro k hk ih
    refine pw_iload_n (k4 := 2) rfl (by decide +kernel) ?_
    refine pw_iload_n (k4 := 1) rfl (by decide +kernel) ?_
    refine pn_icmp_ge (off := 17) (tgt := 21) k n rfl rfl (by omega) (by omega) (by decide +kernel) (by decide +kernel) (fun z4 => ?_) (fun z4 => ?_)
    · exact pq_vret rfl (by decide +kernel) ⟨rfl, by rw [show k = n by omega]; rfl⟩
    · refine pw_aload_n (k4 := 0) rfl (by decide +kernel) ?_
      refine pw_iload_n (k4 := 2) rfl (by decide +kernel) ?_
      refine pw_aload_n (k4 := 0) rfl (by decide +kernel) ?_
      refine pw_iload_n (k4 := 1) rfl (by decide +kernel) ?_
      refine pw_iload_n (k4 := 2) rfl (by decide +kernel) ?_
      refine pn_iadd n k rfl rfl (by decide +kernel) ?_
      refine pq_iald (n + k) rfl (by omega) (by omega) hs (by decide +kernel) ?_
      refine pn_val (I a (n + k)) (by rw [aU_eq]; exact if_neg (by omega)) ?_
      refine pq_iast k rfl (by omega) (by omega) hs (by decide +kernel) ?_
      refine pn_iinc (i := 2) (n := 1) 1 k rfl rfl (by decide) rfl (by decide +kernel) ?_
      refine pw_goto (off := -16) (tgt := 2) (by decide +kernel) (by decide +kernel) ?_
      rw [sI_aU2]
      have e := fil_t (f := fun i => I a (n + i)) (g := I a) (k := k)
      rw [e]
      exact ih (by omega)
)
  refine pw_iconst (n := 0) (v := 0) (by decide) (by decide +kernel) ?_
  refine pq_istore_n (k4 := 2) (Nat.le_of_ble_eq_true rfl) rfl (by decide +kernel) ?_
  have w := hL 0 (Nat.zero_le _)
  have e : aU I a (fil (fun i => I a (n + i)) (I a) 0) = I := by rw [show fil (fun i => I a (n + i)) (I a) 0 = I a from rfl, aU_self]
  rw [e] at w
  exact w

theorem aU_sI {I : Nat → Nat → Int32} {a b k : Nat} {f : Nat → Int32} {x : Int32} (h : a ≠ b) : sI (aU I a f) b k x = aU (sI I b k x) a f := by
  funext q j
  by_cases hq : q = b
  · subst hq; rw [sI_eq, aU_ne (Ne.symm h), aU_ne (Ne.symm h), sI_eq]
  · rw [sI_ne hq]
    by_cases hq2 : q = a
    · subst hq2; rw [aU_eq, aU_eq]
    · rw [aU_ne hq2, aU_ne hq2, sI_ne hq]
set_option maxHeartbeats 2000000 in
theorem ct_Mo_begin {sh : List pSh} {I : Nat → Nat → Int32} {L : Nat → Nat → Int64} {P : Nat → Nat → Option Nat} (hA : kA sh P) : pCn m_Mo_begin 0 [.ref 134] sh (I, L, P) (rV (yBeg I, L, P)) := by
  refine pCn_of (by decide +kernel) (Nat.le_of_ble_eq_true rfl) ?_
  have h67 := pUpTo 8 (fun k => pWn m_Mo_begin 0 sh (rV (yBeg I, L, P)) 67 [some (.ref 134), some (.int (nI k))] [] (aU (aU (aU (aU (aU I 162 (fil (I 144) (I 162) 16)) 163 (fil (I 146) (I 163) 16)) 164 (rng (-1) (I 164) 0 5)) 165 (rng (-1) (I 165) 0 5)) 166 (rng 0 (I 166) 0 k), L, P)) (by
    intro k hk ih
    refine pw_iload_n (k4 := 1) rfl (by decide +kernel) ?_
    refine pw_bipush (n := 8) (v := 8) (by decide) (by decide +kernel) ?_
    refine pn_icmp_ge (off := 16) (tgt := 86) k 8 rfl rfl (by omega) (by omega) (by decide +kernel) (by decide +kernel) (fun z70 => ?_) (fun z70 => ?_)
    · refine pw_aload_n (k4 := 0) rfl (by decide +kernel) ?_
      refine pq_getP (c := 11) (k := 60) (ks_m hA) (by decide) (by decide) (kp_m_day hA) lf_Mo_112 (by decide +kernel) ?_
      refine pw_iconst (n := 0) (v := 0) (by decide) (by decide +kernel) ?_
      refine pw_iconst (n := 0) (v := 0) (by decide) (by decide +kernel) ?_
      refine pq_iast 0 rfl (by omega) (by decide) (ks_m_day hA) (by decide +kernel) ?_
      refine pw_aload_n (k4 := 0) rfl (by decide +kernel) ?_
      refine pw_iconst (n := 0) (v := 0) (by decide) (by decide +kernel) ?_
      refine pq_putZ (c := 11) (k := 62) (ks_m hA) (by decide) (by decide) (by decide) lf_Mo_381 (Or.inl rfl) (by decide +kernel) ?_
      refine pw_aload_n (k4 := 0) rfl (by decide +kernel) ?_
      refine pw_iconst (n := 0) (v := 0) (by decide) (by decide +kernel) ?_
      refine pq_putZ (c := 11) (k := 63) (ks_m hA) (by decide) (by decide) (by decide) lf_Mo_384 (Or.inl rfl) (by decide +kernel) ?_
      refine pw_aload_n (k4 := 0) rfl (by decide +kernel) ?_
      refine pw_iconst (n := 0) (v := 0) (by decide) (by decide +kernel) ?_
      refine pq_putZ (c := 11) (k := 64) (ks_m hA) (by decide) (by decide) (by decide) lf_Mo_387 (Or.inl rfl) (by decide +kernel) ?_
      refine pw_aload_n (k4 := 0) rfl (by decide +kernel) ?_
      refine pw_iconst (n := 0) (v := 0) (by decide) (by decide +kernel) ?_
      refine pq_putI (c := 11) (k := 80) (ks_m hA) (by decide) (by decide) lf_Mo_390 (Or.inl rfl) (by decide +kernel) ?_
      refine pw_aload_n (k4 := 0) rfl (by decide +kernel) ?_
      refine pw_iconst (n := -1) (v := -1) (by decide) (by decide +kernel) ?_
      refine pq_putI (c := 11) (k := 81) (ks_m hA) (by decide) (by decide) lf_Mo_145 (Or.inl rfl) (by decide +kernel) ?_
      refine pw_aload_n (k4 := 0) rfl (by decide +kernel) ?_
      refine pw_iconst (n := 0) (v := 0) (by decide) (by decide +kernel) ?_
      refine pq_putI (c := 11) (k := 86) (ks_m hA) (by decide) (by decide) lf_Mo_393 (Or.inl rfl) (by decide +kernel) ?_
      refine pw_aload_n (k4 := 0) rfl (by decide +kernel) ?_
      refine pw_iconst (n := 0) (v := 0) (by decide) (by decide +kernel) ?_
      refine pq_putZ (c := 11) (k := 88) (ks_m hA) (by decide) (by decide) (by decide) lf_Mo_396 (Or.inl rfl) (by decide +kernel) ?_
      exact pq_vret rfl (by decide +kernel) ⟨rfl, by rw [show k = 8 by omega]; rfl⟩
    · refine pw_aload_n (k4 := 0) rfl (by decide +kernel) ?_
      refine pq_getP (c := 11) (k := 59) (ks_m hA) (by decide) (by decide) (kp_m_became hA) lf_Mo_109 (by decide +kernel) ?_
      refine pw_iload_n (k4 := 1) rfl (by decide +kernel) ?_
      refine pw_iconst (n := 0) (v := 0) (by decide) (by decide +kernel) ?_
      refine pq_iast k rfl (by omega) (by decide) (ks_m_became hA) (by decide +kernel) ?_
      refine pn_iinc (i := 1) (n := 1) 1 k rfl rfl (by decide) rfl (by decide +kernel) ?_
      refine pw_goto (off := -16) (tgt := 67) (by decide +kernel) (by decide +kernel) ?_
      rw [sI_aU2, rng_s (Nat.zero_le _)]
      exact ih (by omega)
)
  have h40 := pUpTo 5 (fun k => pWn m_Mo_begin 0 sh (rV (yBeg I, L, P)) 40 [some (.ref 134), some (.int (nI k))] [] (aU (aU (aU (aU I 162 (fil (I 144) (I 162) 16)) 163 (fil (I 146) (I 163) 16)) 164 (rng (-1) (I 164) 0 k)) 165 (rng (-1) (I 165) 0 k), L, P)) (by
    intro k hk ih
    refine pw_iload_n (k4 := 1) rfl (by decide +kernel) ?_
    refine pw_iconst (n := 5) (v := 5) (by decide) (by decide +kernel) ?_
    refine pn_icmp_ge (off := 23) (tgt := 65) k 5 rfl rfl (by omega) (by omega) (by decide +kernel) (by decide +kernel) (fun z42 => ?_) (fun z42 => ?_)
    · refine pw_iconst (n := 0) (v := 0) (by decide) (by decide +kernel) ?_
      refine pq_istore_n (k4 := 1) (Nat.le_of_ble_eq_true rfl) rfl (by decide +kernel) ?_
      have w := h67 0 (Nat.zero_le _)
      rw [rng_0] at w
      rw [show k = 5 by omega]
      have e : aU (aU (aU (aU (aU I 162 (fil (I 144) (I 162) 16)) 163 (fil (I 146) (I 163) 16)) 164 (rng (-1) (I 164) 0 5)) 165 (rng (-1) (I 165) 0 5)) 166 (I 166) = (aU (aU (aU (aU I 162 (fil (I 144) (I 162) 16)) 163 (fil (I 146) (I 163) 16)) 164 (rng (-1) (I 164) 0 5)) 165 (rng (-1) (I 165) 0 5)) := aU_self _ 166
      rw [e] at w
      exact w
    · refine pw_aload_n (k4 := 0) rfl (by decide +kernel) ?_
      refine pq_getP (c := 11) (k := 57) (ks_m hA) (by decide) (by decide) (kp_m_leftOn hA) lf_Mo_103 (by decide +kernel) ?_
      refine pw_iload_n (k4 := 1) rfl (by decide +kernel) ?_
      refine pw_iconst (n := -1) (v := -1) (by decide) (by decide +kernel) ?_
      refine pq_iast k rfl (by omega) (by decide) (ks_m_leftOn hA) (by decide +kernel) ?_
      refine pw_aload_n (k4 := 0) rfl (by decide +kernel) ?_
      refine pq_getP (c := 11) (k := 58) (ks_m hA) (by decide) (by decide) (kp_m_rightOn hA) lf_Mo_106 (by decide +kernel) ?_
      refine pw_iload_n (k4 := 1) rfl (by decide +kernel) ?_
      refine pw_iconst (n := -1) (v := -1) (by decide) (by decide +kernel) ?_
      refine pq_iast k rfl (by omega) (by decide) (ks_m_rightOn hA) (by decide +kernel) ?_
      refine pn_iinc (i := 1) (n := 1) 1 k rfl rfl (by decide) rfl (by decide +kernel) ?_
      refine pw_goto (off := -22) (tgt := 40) (by decide +kernel) (by decide +kernel) ?_
      refine pn_memI (aU (aU (aU (aU I 162 (fil (I 144) (I 162) 16)) 163 (fil (I 146) (I 163) 16)) 164 (rng (-1) (I 164) 0 (k + 1))) 165 (rng (-1) (I 165) 0 (k + 1))) ?_ (ih (by omega))
      rw [← rng_s (Nat.zero_le k), ← rng_s (Nat.zero_le k), aU_sI (a := 165) (b := 164) (by decide), sI_aU2, sI_aU2]
)
  have h2 := pUpTo 16 (fun k => pWn m_Mo_begin 0 sh (rV (yBeg I, L, P)) 2 [some (.ref 134), some (.int (nI k))] [] (aU (aU I 162 (fil (I 144) (I 162) k)) 163 (fil (I 146) (I 163) k), L, P)) (by
    intro k hk ih
    refine pw_iload_n (k4 := 1) rfl (by decide +kernel) ?_
    refine pw_bipush (n := 16) (v := 16) (by decide) (by decide +kernel) ?_
    refine pn_icmp_ge (off := 33) (tgt := 38) k 16 rfl rfl (by omega) (by omega) (by decide +kernel) (by decide +kernel) (fun z5 => ?_) (fun z5 => ?_)
    · refine pw_iconst (n := 0) (v := 0) (by decide) (by decide +kernel) ?_
      refine pq_istore_n (k4 := 1) (Nat.le_of_ble_eq_true rfl) rfl (by decide +kernel) ?_
      have w := h40 0 (Nat.zero_le _)
      rw [rng_0, rng_0] at w
      rw [show k = 16 by omega]
      have e : aU (aU (aU (aU I 162 (fil (I 144) (I 162) 16)) 163 (fil (I 146) (I 163) 16)) 164 (I 164)) 165 (I 165) = (aU (aU I 162 (fil (I 144) (I 162) 16)) 163 (fil (I 146) (I 163) 16)) := by rw [show aU (aU (aU I 162 (fil (I 144) (I 162) 16)) 163 (fil (I 146) (I 163) 16)) 164 (I 164) = (aU (aU I 162 (fil (I 144) (I 162) 16)) 163 (fil (I 146) (I 163) 16)) from aU_self _ 164]; exact aU_self _ 165
      rw [e] at w
      exact w
    · refine pw_aload_n (k4 := 0) rfl (by decide +kernel) ?_
      refine pq_getP (c := 11) (k := 55) (ks_m hA) (by decide) (by decide) (kp_m_used hA) lf_Mo_97 (by decide +kernel) ?_
      refine pw_iload_n (k4 := 1) rfl (by decide +kernel) ?_
      refine pw_aload_n (k4 := 0) rfl (by decide +kernel) ?_
      refine pq_getP (c := 11) (k := 30) (ks_m hA) (by decide) (by decide) (kp_m_usedTold hA) lf_Mo_41 (by decide +kernel) ?_
      refine pw_iload_n (k4 := 1) rfl (by decide +kernel) ?_
      refine pq_iald k rfl (by omega) (by decide) (ks_m_usedTold hA) (by decide +kernel) ?_
      refine pq_iast k rfl (by omega) (by decide) (ks_m_used hA) (by decide +kernel) ?_
      refine pw_aload_n (k4 := 0) rfl (by decide +kernel) ?_
      refine pq_getP (c := 11) (k := 56) (ks_m hA) (by decide) (by decide) (kp_m_whose hA) lf_Mo_100 (by decide +kernel) ?_
      refine pw_iload_n (k4 := 1) rfl (by decide +kernel) ?_
      refine pw_aload_n (k4 := 0) rfl (by decide +kernel) ?_
      refine pq_getP (c := 11) (k := 32) (ks_m hA) (by decide) (by decide) (kp_m_whoseTold hA) lf_Mo_47 (by decide +kernel) ?_
      refine pw_iload_n (k4 := 1) rfl (by decide +kernel) ?_
      refine pq_iald k rfl (by omega) (by decide) (ks_m_whoseTold hA) (by decide +kernel) ?_
      refine pq_iast k rfl (by omega) (by decide) (ks_m_whose hA) (by decide +kernel) ?_
      refine pn_iinc (i := 1) (n := 1) 1 k rfl rfl (by decide) rfl (by decide +kernel) ?_
      refine pw_goto (off := -33) (tgt := 2) (by decide +kernel) (by decide +kernel) ?_
      refine pn_memI (aU (aU I 162 (fil (I 144) (I 162) (k + 1))) 163 (fil (I 146) (I 163) (k + 1))) ?_ (ih (by omega))
      show sI (sI (aU (aU I 162 (fil (I 144) (I 162) k)) 163 (fil (I 146) (I 163) k)) 162 k (I 144 k)) 163 k (I 146 k) = _
      rw [← fil_t (f := I 144) (k := k), ← fil_t (f := I 146) (k := k), aU_sI (a := 163) (b := 162) (by decide), sI_aU2, sI_aU2]
)
  refine pw_iconst (n := 0) (v := 0) (by decide) (by decide +kernel) ?_
  refine pq_istore_n (k4 := 1) (Nat.le_of_ble_eq_true rfl) rfl (by decide +kernel) ?_
  have w := h2 0 (Nat.zero_le _)
  have e : aU (aU I 162 (fil (I 144) (I 162) 0)) 163 (fil (I 146) (I 163) 0) = I := by rw [show fil (I 144) (I 162) 0 = I 162 from rfl, show fil (I 146) (I 163) 0 = I 163 from rfl, aU_self, aU_self]
  rw [e] at w
  exact w

def yKt1 (I : Nat → Nat → Int32) : Nat → Nat → Int32 := (cpA (cpA (cpA (cpA (cpA (cpA (cpA (cpA (cpA (cpA (cpA (cpA (cpA (cpA (cpA (sI (sI (sI (sI (sI I 134 12 (I 134 17)) 134 13 (I 134 18)) 134 14 (I 134 19)) 134 15 (I 134 20)) 134 16 (I 134 21)) 137 5) 138 5) 139 5) 140 5) 141 5) 142 16) 143 16) 144 16) 145 16) 146 16) 147 8) 148 8) 149 8) 150 8) 151 32)
def yKt2 (I : Nat → Nat → Int32) : Nat → Nat → Int32 := aU (yKt1 I) 152 (fil (fun i => I 152 (3 + i) &&& 1) (I 152) 3)
def yKt3 (I : Nat → Nat → Int32) : Nat → Nat → Int32 := cpA (cpA (cpA (cpA (cpA (yKt2 I) 153 3) 154 3) 155 64) 156 64) 157 64
def yKt (I : Nat → Nat → Int32) : Nat → Nat → Int32 := yBeg (yKt3 I)

set_option maxHeartbeats 4000000 in
theorem ct_Mo_keepText {sh : List pSh} {I : Nat → Nat → Int32} {L : Nat → Nat → Int64} {P : Nat → Nat → Option Nat} (hA : kA sh P) : pCn m_Mo_keepText 1 [.ref 134] sh (I, L, P) (rV (yKt I, L, P)) := by
  refine pCn_of (by decide +kernel) (Nat.le_of_ble_eq_true rfl) ?_
  have hL := pUpTo 3 (fun k => pWn m_Mo_keepText 1 sh (rV (yKt I, L, P)) 172 [some (.ref 134), some (.int (nI k))] [] (aU (yKt1 I) 152 (fil (fun i => I 152 (3 + i) &&& 1) (I 152) k), L, P)) (by
    intro k hk ih
    refine pw_iload_n (k4 := 1) rfl (by decide +kernel) ?_
    refine pw_iconst (n := 3) (v := 3) (by decide) (by decide +kernel) ?_
    refine pn_icmp_ge (off := 23) (tgt := 197) k 3 rfl rfl (by omega) (by omega) (by decide +kernel) (by decide +kernel) (fun z174 => ?_) (fun z174 => ?_)
    · refine pw_aload_n (k4 := 0) rfl (by decide +kernel) ?_
      refine pq_getP (c := 11) (k := 39) (ks_m hA) (by decide) (by decide) (kp_m_first hA) lf_Mo_69 (by decide +kernel) ?_
      refine pw_iconst (n := 3) (v := 3) (by decide) (by decide +kernel) ?_
      refine pq_callS (ν := m_Mo_copies) (d' := 0) (av := [_, _]) (by decide +kernel) lm_Mo_274 ok_Mo_copies (show _ = some 2 by decide +kernel) (by omega) (Nat.le_of_ble_eq_true rfl) (ct_Mo_copies (a := 153) (n := 3) (N := 6) (ks_m_first hA) (by decide) (by decide)) ?_
      rintro _ _ ⟨rfl, rfl⟩
      refine pw_aload_n (k4 := 0) rfl (by decide +kernel) ?_
      refine pq_getP (c := 11) (k := 40) (ks_m hA) (by decide) (by decide) (kp_m_last hA) lf_Mo_72 (by decide +kernel) ?_
      refine pw_iconst (n := 3) (v := 3) (by decide) (by decide +kernel) ?_
      refine pq_callS (ν := m_Mo_copies) (d' := 0) (av := [_, _]) (by decide +kernel) lm_Mo_274 ok_Mo_copies (show _ = some 2 by decide +kernel) (by omega) (Nat.le_of_ble_eq_true rfl) (ct_Mo_copies (a := 154) (n := 3) (N := 6) (ks_m_last hA) (by decide) (by decide)) ?_
      rintro _ _ ⟨rfl, rfl⟩
      refine pw_aload_n (k4 := 0) rfl (by decide +kernel) ?_
      refine pq_getP (c := 11) (k := 41) (ks_m hA) (by decide) (by decide) (kp_m_knot hA) lf_Mo_75 (by decide +kernel) ?_
      refine pw_bipush (n := 64) (v := 64) (by decide) (by decide +kernel) ?_
      refine pq_callS (ν := m_Mo_copies) (d' := 0) (av := [_, _]) (by decide +kernel) lm_Mo_274 ok_Mo_copies (show _ = some 2 by decide +kernel) (by omega) (Nat.le_of_ble_eq_true rfl) (ct_Mo_copies (a := 155) (n := 64) (N := 128) (ks_m_knot hA) (by decide) (by decide)) ?_
      rintro _ _ ⟨rfl, rfl⟩
      refine pw_aload_n (k4 := 0) rfl (by decide +kernel) ?_
      refine pq_getP (c := 11) (k := 42) (ks_m hA) (by decide) (by decide) (kp_m_part hA) lf_Mo_78 (by decide +kernel) ?_
      refine pw_bipush (n := 64) (v := 64) (by decide) (by decide +kernel) ?_
      refine pq_callS (ν := m_Mo_copies) (d' := 0) (av := [_, _]) (by decide +kernel) lm_Mo_274 ok_Mo_copies (show _ = some 2 by decide +kernel) (by omega) (Nat.le_of_ble_eq_true rfl) (ct_Mo_copies (a := 156) (n := 64) (N := 128) (ks_m_part hA) (by decide) (by decide)) ?_
      rintro _ _ ⟨rfl, rfl⟩
      refine pw_aload_n (k4 := 0) rfl (by decide +kernel) ?_
      refine pq_getP (c := 11) (k := 43) (ks_m hA) (by decide) (by decide) (kp_m_other hA) lf_Mo_81 (by decide +kernel) ?_
      refine pw_bipush (n := 64) (v := 64) (by decide) (by decide +kernel) ?_
      refine pq_callS (ν := m_Mo_copies) (d' := 0) (av := [_, _]) (by decide +kernel) lm_Mo_274 ok_Mo_copies (show _ = some 2 by decide +kernel) (by omega) (Nat.le_of_ble_eq_true rfl) (ct_Mo_copies (a := 157) (n := 64) (N := 128) (ks_m_other hA) (by decide) (by decide)) ?_
      rintro _ _ ⟨rfl, rfl⟩
      refine pw_aload_n (k4 := 0) rfl (by decide +kernel) ?_
      refine pq_callV (ν := m_Mo_begin) (d' := 0) (av := []) (c := 11) (by decide +kernel) lm_Mo_278 ok_Mo_begin (show _ = some 0 by decide +kernel) (ks_m hA) rfl (by decide) (by omega) (Nat.le_of_ble_eq_true rfl) (ct_Mo_begin hA) ?_
      rintro _ _ ⟨rfl, rfl⟩
      exact pq_vret rfl (by decide +kernel) ⟨rfl, by rw [show k = 3 by omega]; rfl⟩
    · refine pw_aload_n (k4 := 0) rfl (by decide +kernel) ?_
      refine pq_getP (c := 11) (k := 38) (ks_m hA) (by decide) (by decide) (kp_m_lawTold hA) lf_Mo_65 (by decide +kernel) ?_
      refine pw_iload_n (k4 := 1) rfl (by decide +kernel) ?_
      refine pw_aload_n (k4 := 0) rfl (by decide +kernel) ?_
      refine pq_getP (c := 11) (k := 38) (ks_m hA) (by decide) (by decide) (kp_m_lawTold hA) lf_Mo_65 (by decide +kernel) ?_
      refine pw_iconst (n := 3) (v := 3) (by decide) (by decide +kernel) ?_
      refine pw_iload_n (k4 := 1) rfl (by decide +kernel) ?_
      refine pn_iadd 3 k rfl rfl (by decide +kernel) ?_
      refine pq_zald (3 + k) rfl (by omega) (by decide) (ks_m_lawTold hA) (by decide +kernel) ?_
      refine pn_val (I 152 (3 + k)) (by exact if_neg (by omega)) ?_
      refine pq_zast k rfl (by omega) (by decide) (ks_m_lawTold hA) (by decide +kernel) ?_
      refine pn_iinc (i := 1) (n := 1) 1 k rfl rfl (by decide) rfl (by decide +kernel) ?_
      refine pw_goto (off := -22) (tgt := 172) (by decide +kernel) (by decide +kernel) ?_
      rw [sI_aU2]
      have w := ih (by omega)
      rw [← fil_t (f := fun i => I 152 (3 + i) &&& 1)] at w
      exact w
)
  refine pw_aload_n (k4 := 0) rfl (by decide +kernel) ?_
  refine pw_aload_n (k4 := 0) rfl (by decide +kernel) ?_
  refine pq_getI (c := 11) (k := 17) (ks_m hA) (by decide) (by decide) lf_Mo_237 (by decide +kernel) ?_
  refine pq_putI (c := 11) (k := 12) (ks_m hA) (by decide) (by decide) lf_Mo_259 (Or.inl rfl) (by decide +kernel) ?_
  refine pw_aload_n (k4 := 0) rfl (by decide +kernel) ?_
  refine pw_aload_n (k4 := 0) rfl (by decide +kernel) ?_
  refine pq_getI (c := 11) (k := 18) (ks_m hA) (by decide) (by decide) lf_Mo_240 (by decide +kernel) ?_
  refine pq_putI (c := 11) (k := 13) (ks_m hA) (by decide) (by decide) lf_Mo_262 (Or.inl rfl) (by decide +kernel) ?_
  refine pw_aload_n (k4 := 0) rfl (by decide +kernel) ?_
  refine pw_aload_n (k4 := 0) rfl (by decide +kernel) ?_
  refine pq_getI (c := 11) (k := 19) (ks_m hA) (by decide) (by decide) lf_Mo_243 (by decide +kernel) ?_
  refine pq_putI (c := 11) (k := 14) (ks_m hA) (by decide) (by decide) lf_Mo_265 (Or.inl rfl) (by decide +kernel) ?_
  refine pw_aload_n (k4 := 0) rfl (by decide +kernel) ?_
  refine pw_aload_n (k4 := 0) rfl (by decide +kernel) ?_
  refine pq_getI (c := 11) (k := 20) (ks_m hA) (by decide) (by decide) lf_Mo_246 (by decide +kernel) ?_
  refine pq_putI (c := 11) (k := 15) (ks_m hA) (by decide) (by decide) lf_Mo_268 (Or.inl rfl) (by decide +kernel) ?_
  refine pw_aload_n (k4 := 0) rfl (by decide +kernel) ?_
  refine pw_aload_n (k4 := 0) rfl (by decide +kernel) ?_
  refine pq_getI (c := 11) (k := 21) (ks_m hA) (by decide) (by decide) lf_Mo_249 (by decide +kernel) ?_
  refine pq_putI (c := 11) (k := 16) (ks_m hA) (by decide) (by decide) lf_Mo_271 (Or.inl rfl) (by decide +kernel) ?_
  refine pw_aload_n (k4 := 0) rfl (by decide +kernel) ?_
  refine pq_getP (c := 11) (k := 23) (ks_m hA) (by decide) (by decide) (kp_m_personName hA) lf_Mo_20 (by decide +kernel) ?_
  refine pw_iconst (n := 5) (v := 5) (by decide) (by decide +kernel) ?_
  refine pq_callS (ν := m_Mo_copies) (d' := 0) (av := [_, _]) (by decide +kernel) lm_Mo_274 ok_Mo_copies (show _ = some 2 by decide +kernel) (by omega) (Nat.le_of_ble_eq_true rfl) (ct_Mo_copies (a := 137) (n := 5) (N := 10) (ks_m_personName hA) (by decide) (by decide)) ?_
  rintro _ _ ⟨rfl, rfl⟩
  refine pw_aload_n (k4 := 0) rfl (by decide +kernel) ?_
  refine pq_getP (c := 11) (k := 24) (ks_m hA) (by decide) (by decide) (kp_m_footOf hA) lf_Mo_23 (by decide +kernel) ?_
  refine pw_iconst (n := 5) (v := 5) (by decide) (by decide +kernel) ?_
  refine pq_callS (ν := m_Mo_copies) (d' := 0) (av := [_, _]) (by decide +kernel) lm_Mo_274 ok_Mo_copies (show _ = some 2 by decide +kernel) (by omega) (Nat.le_of_ble_eq_true rfl) (ct_Mo_copies (a := 138) (n := 5) (N := 10) (ks_m_footOf hA) (by decide) (by decide)) ?_
  rintro _ _ ⟨rfl, rfl⟩
  refine pw_aload_n (k4 := 0) rfl (by decide +kernel) ?_
  refine pq_getP (c := 11) (k := 25) (ks_m hA) (by decide) (by decide) (kp_m_stepsOf hA) lf_Mo_26 (by decide +kernel) ?_
  refine pw_iconst (n := 5) (v := 5) (by decide) (by decide +kernel) ?_
  refine pq_callS (ν := m_Mo_copies) (d' := 0) (av := [_, _]) (by decide +kernel) lm_Mo_274 ok_Mo_copies (show _ = some 2 by decide +kernel) (by omega) (Nat.le_of_ble_eq_true rfl) (ct_Mo_copies (a := 139) (n := 5) (N := 10) (ks_m_stepsOf hA) (by decide) (by decide)) ?_
  rintro _ _ ⟨rfl, rfl⟩
  refine pw_aload_n (k4 := 0) rfl (by decide +kernel) ?_
  refine pq_getP (c := 11) (k := 26) (ks_m hA) (by decide) (by decide) (kp_m_fareOf hA) lf_Mo_29 (by decide +kernel) ?_
  refine pw_iconst (n := 5) (v := 5) (by decide) (by decide +kernel) ?_
  refine pq_callS (ν := m_Mo_copies) (d' := 0) (av := [_, _]) (by decide +kernel) lm_Mo_274 ok_Mo_copies (show _ = some 2 by decide +kernel) (by omega) (Nat.le_of_ble_eq_true rfl) (ct_Mo_copies (a := 140) (n := 5) (N := 10) (ks_m_fareOf hA) (by decide) (by decide)) ?_
  rintro _ _ ⟨rfl, rfl⟩
  refine pw_aload_n (k4 := 0) rfl (by decide +kernel) ?_
  refine pq_getP (c := 11) (k := 27) (ks_m hA) (by decide) (by decide) (kp_m_claimOf hA) lf_Mo_32 (by decide +kernel) ?_
  refine pw_iconst (n := 5) (v := 5) (by decide) (by decide +kernel) ?_
  refine pq_callS (ν := m_Mo_copies) (d' := 0) (av := [_, _]) (by decide +kernel) lm_Mo_274 ok_Mo_copies (show _ = some 2 by decide +kernel) (by omega) (Nat.le_of_ble_eq_true rfl) (ct_Mo_copies (a := 141) (n := 5) (N := 10) (ks_m_claimOf hA) (by decide) (by decide)) ?_
  rintro _ _ ⟨rfl, rfl⟩
  refine pw_aload_n (k4 := 0) rfl (by decide +kernel) ?_
  refine pq_getP (c := 11) (k := 28) (ks_m hA) (by decide) (by decide) (kp_m_sideOf hA) lf_Mo_35 (by decide +kernel) ?_
  refine pw_bipush (n := 16) (v := 16) (by decide) (by decide +kernel) ?_
  refine pq_callS (ν := m_Mo_copies) (d' := 0) (av := [_, _]) (by decide +kernel) lm_Mo_274 ok_Mo_copies (show _ = some 2 by decide +kernel) (by omega) (Nat.le_of_ble_eq_true rfl) (ct_Mo_copies (a := 142) (n := 16) (N := 32) (ks_m_sideOf hA) (by decide) (by decide)) ?_
  rintro _ _ ⟨rfl, rfl⟩
  refine pw_aload_n (k4 := 0) rfl (by decide +kernel) ?_
  refine pq_getP (c := 11) (k := 29) (ks_m hA) (by decide) (by decide) (kp_m_sizeOf hA) lf_Mo_38 (by decide +kernel) ?_
  refine pw_bipush (n := 16) (v := 16) (by decide) (by decide +kernel) ?_
  refine pq_callS (ν := m_Mo_copies) (d' := 0) (av := [_, _]) (by decide +kernel) lm_Mo_274 ok_Mo_copies (show _ = some 2 by decide +kernel) (by omega) (Nat.le_of_ble_eq_true rfl) (ct_Mo_copies (a := 143) (n := 16) (N := 32) (ks_m_sizeOf hA) (by decide) (by decide)) ?_
  rintro _ _ ⟨rfl, rfl⟩
  refine pw_aload_n (k4 := 0) rfl (by decide +kernel) ?_
  refine pq_getP (c := 11) (k := 30) (ks_m hA) (by decide) (by decide) (kp_m_usedTold hA) lf_Mo_41 (by decide +kernel) ?_
  refine pw_bipush (n := 16) (v := 16) (by decide) (by decide +kernel) ?_
  refine pq_callS (ν := m_Mo_copies) (d' := 0) (av := [_, _]) (by decide +kernel) lm_Mo_274 ok_Mo_copies (show _ = some 2 by decide +kernel) (by omega) (Nat.le_of_ble_eq_true rfl) (ct_Mo_copies (a := 144) (n := 16) (N := 32) (ks_m_usedTold hA) (by decide) (by decide)) ?_
  rintro _ _ ⟨rfl, rfl⟩
  refine pw_aload_n (k4 := 0) rfl (by decide +kernel) ?_
  refine pq_getP (c := 11) (k := 31) (ks_m hA) (by decide) (by decide) (kp_m_kindOf hA) lf_Mo_44 (by decide +kernel) ?_
  refine pw_bipush (n := 16) (v := 16) (by decide) (by decide +kernel) ?_
  refine pq_callS (ν := m_Mo_copies) (d' := 0) (av := [_, _]) (by decide +kernel) lm_Mo_274 ok_Mo_copies (show _ = some 2 by decide +kernel) (by omega) (Nat.le_of_ble_eq_true rfl) (ct_Mo_copies (a := 145) (n := 16) (N := 32) (ks_m_kindOf hA) (by decide) (by decide)) ?_
  rintro _ _ ⟨rfl, rfl⟩
  refine pw_aload_n (k4 := 0) rfl (by decide +kernel) ?_
  refine pq_getP (c := 11) (k := 32) (ks_m hA) (by decide) (by decide) (kp_m_whoseTold hA) lf_Mo_47 (by decide +kernel) ?_
  refine pw_bipush (n := 16) (v := 16) (by decide) (by decide +kernel) ?_
  refine pq_callS (ν := m_Mo_copies) (d' := 0) (av := [_, _]) (by decide +kernel) lm_Mo_274 ok_Mo_copies (show _ = some 2 by decide +kernel) (by omega) (Nat.le_of_ble_eq_true rfl) (ct_Mo_copies (a := 146) (n := 16) (N := 32) (ks_m_whoseTold hA) (by decide) (by decide)) ?_
  rintro _ _ ⟨rfl, rfl⟩
  refine pw_aload_n (k4 := 0) rfl (by decide +kernel) ?_
  refine pq_getP (c := 11) (k := 33) (ks_m hA) (by decide) (by decide) (kp_m_debtBy hA) lf_Mo_50 (by decide +kernel) ?_
  refine pw_bipush (n := 8) (v := 8) (by decide) (by decide +kernel) ?_
  refine pq_callS (ν := m_Mo_copies) (d' := 0) (av := [_, _]) (by decide +kernel) lm_Mo_274 ok_Mo_copies (show _ = some 2 by decide +kernel) (by omega) (Nat.le_of_ble_eq_true rfl) (ct_Mo_copies (a := 147) (n := 8) (N := 16) (ks_m_debtBy hA) (by decide) (by decide)) ?_
  rintro _ _ ⟨rfl, rfl⟩
  refine pw_aload_n (k4 := 0) rfl (by decide +kernel) ?_
  refine pq_getP (c := 11) (k := 34) (ks_m hA) (by decide) (by decide) (kp_m_debtTo hA) lf_Mo_53 (by decide +kernel) ?_
  refine pw_bipush (n := 8) (v := 8) (by decide) (by decide +kernel) ?_
  refine pq_callS (ν := m_Mo_copies) (d' := 0) (av := [_, _]) (by decide +kernel) lm_Mo_274 ok_Mo_copies (show _ = some 2 by decide +kernel) (by omega) (Nat.le_of_ble_eq_true rfl) (ct_Mo_copies (a := 148) (n := 8) (N := 16) (ks_m_debtTo hA) (by decide) (by decide)) ?_
  rintro _ _ ⟨rfl, rfl⟩
  refine pw_aload_n (k4 := 0) rfl (by decide +kernel) ?_
  refine pq_getP (c := 11) (k := 35) (ks_m hA) (by decide) (by decide) (kp_m_debtMuch hA) lf_Mo_56 (by decide +kernel) ?_
  refine pw_bipush (n := 8) (v := 8) (by decide) (by decide +kernel) ?_
  refine pq_callS (ν := m_Mo_copies) (d' := 0) (av := [_, _]) (by decide +kernel) lm_Mo_274 ok_Mo_copies (show _ = some 2 by decide +kernel) (by omega) (Nat.le_of_ble_eq_true rfl) (ct_Mo_copies (a := 149) (n := 8) (N := 16) (ks_m_debtMuch hA) (by decide) (by decide)) ?_
  rintro _ _ ⟨rfl, rfl⟩
  refine pw_aload_n (k4 := 0) rfl (by decide +kernel) ?_
  refine pq_getP (c := 11) (k := 36) (ks_m hA) (by decide) (by decide) (kp_m_debtDay hA) lf_Mo_59 (by decide +kernel) ?_
  refine pw_bipush (n := 8) (v := 8) (by decide) (by decide +kernel) ?_
  refine pq_callS (ν := m_Mo_copies) (d' := 0) (av := [_, _]) (by decide +kernel) lm_Mo_274 ok_Mo_copies (show _ = some 2 by decide +kernel) (by omega) (Nat.le_of_ble_eq_true rfl) (ct_Mo_copies (a := 150) (n := 8) (N := 16) (ks_m_debtDay hA) (by decide) (by decide)) ?_
  rintro _ _ ⟨rfl, rfl⟩
  refine pw_aload_n (k4 := 0) rfl (by decide +kernel) ?_
  refine pq_getP (c := 11) (k := 37) (ks_m hA) (by decide) (by decide) (kp_m_rate hA) lf_Mo_62 (by decide +kernel) ?_
  refine pw_bipush (n := 32) (v := 32) (by decide) (by decide +kernel) ?_
  refine pq_callS (ν := m_Mo_copies) (d' := 0) (av := [_, _]) (by decide +kernel) lm_Mo_274 ok_Mo_copies (show _ = some 2 by decide +kernel) (by omega) (Nat.le_of_ble_eq_true rfl) (ct_Mo_copies (a := 151) (n := 32) (N := 64) (ks_m_rate hA) (by decide) (by decide)) ?_
  rintro _ _ ⟨rfl, rfl⟩
  refine pw_iconst (n := 0) (v := 0) (by decide) (by decide +kernel) ?_
  refine pq_istore_n (k4 := 1) (Nat.le_of_ble_eq_true rfl) rfl (by decide +kernel) ?_
  have w := hL 0 (Nat.zero_le _)
  have e : aU (yKt1 I) 152 (fil (fun i => I 152 (3 + i) &&& 1) (I 152) 0) = yKt1 I := aU_self _ 152
  rw [e] at w
  exact w
