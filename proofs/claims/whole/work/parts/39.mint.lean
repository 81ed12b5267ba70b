/-! ===== the class: mint, tried, chance ===== -/
/-- the sizes whose fresh boot is worth 1 to n, as bits; k looked at -/
def xSz (f : Nat → Int32) (n : Int32) : Nat → Int32
  | 0 => 0
  | k + 1 => if f k < 1 ∨ n < f k then xSz f n k else xSz f n k ||| 1 <<< (nI k &&& 31)
theorem xSz_y {f : Nat → Int32} {n : Int32} {k : Nat} (h1 : ¬ f k < 1) (h2 : ¬ n < f k) : xSz f n (k + 1) = xSz f n k ||| 1 <<< (nI k &&& 31) := if_neg (fun e => e.elim h1 h2)
theorem xSz_n {f : Nat → Int32} {n : Int32} {k : Nat} (h : f k < 1 ∨ n < f k) : xSz f n (k + 1) = xSz f n k := if_pos h
def coinF (I : Nat → Nat → Int32) (t w k : Nat) : Int32 := xFresh I t w (nI (k + 1))
theorem xFresh_cg {I J : Nat → Nat → Int32} {t w : Nat} (h : ∀ a, (t ≤ a ∧ a < t + 27) ∨ (w ≤ a ∧ a < w + 6) → J a = I a) (x : Int32) : xFresh J t w x = xFresh I t w x := by
  unfold xFresh xLaw
  rw [h (t + 20) (by omega), h (t + 21) (by omega), h (t + 22) (by omega), h (t + 23) (by omega), h (t + 24) (by omega), h w (by omega)]
def rSz (I : Nat → Nat → Int32) (P : Nat → Nat → Option Nat) (t w : Nat) (n : Int32) : Option Value → pM → Prop := fun r M => r = some (.int (xSz (coinF I t w) n 10)) ∧ ∃ L', M = (aU I 133 (fil (coinF I t w) (I 133) 10), L', P)

theorem ct_Ls_sizesUpTo {sh : List pSh} {I : Nat → Nat → Int32} {L : Nat → Nat → Int64} {P : Nat → Nat → Option Nat} (hA : kA sh P) {w t : Nat} (hw : w = 62 ∨ w = 68 ∨ w = 74) (ht : t = 3 ∨ t = 30) (hwt : P w 0 = some t) (hxt : P 1 2 = some t) (hxw : P 1 7 = some w) (hl : lOK I t) (n : Int32) : pCn m_Ls_sizesUpTo 3 [.ref 1, .int n] sh (I, L, P) (rSz I P t w n) := by
  refine pCn_of (by decide +kernel) (Nat.le_of_ble_eq_true rfl) ?_
  have hL := pUpTo 10 (fun k => ∀ L : Nat → Nat → Int64, pWn m_Ls_sizesUpTo 3 sh (rSz I P t w n) 4 [some (.ref 1), some (.int n), some (.int (xSz (coinF I t w) n k)), some (.int (nI (k + 1))), none] [] (aU I 133 (fil (coinF I t w) (I 133) k), L, P)) (by
    intro k hk ih L
    refine pw_iload_n (k4 := 3) rfl (by decide +kernel) ?_
    refine pw_bipush (n := 10) (v := 10) (by decide) (by decide +kernel) ?_
    refine pn_icmp_gt (off := 49) (tgt := 56) (k + 1) 10 rfl rfl (by omega) (by omega) (by decide +kernel) (by decide +kernel) (fun z7 => ?_) (fun z7 => ?_)
    · obtain rfl : k = 10 := by omega
      refine pw_iload_n (k4 := 2) rfl (by decide +kernel) ?_
      exact pq_iret rfl (by decide +kernel) ⟨rfl, _, rfl⟩
    · refine pw_aload_n (k4 := 0) rfl (by decide +kernel) ?_
      refine pq_getP (c := 10) (k := 7) (ks_x hA) (by decide) (by decide) hxw lf_Ls_43 (by decide +kernel) ?_
      refine pw_iload_n (k4 := 3) rfl (by decide +kernel) ?_
      refine pq_callV (ν := m_Wo_worthOfFreshBoot) (d' := 2) (av := [_]) (c := 9) (by decide +kernel) lm_Ls_253 ok_Wo_worthOfFreshBoot (show _ = some 1 by decide +kernel) (ks_w hA hw) rfl (by decide) (by omega) (Nat.le_of_ble_eq_true rfl) (ct_Wo_worthOfFreshBoot hA hw ht hwt (lOK_cg (aU_ne (by omega)) (aU_ne (by omega)) hl) _) ?_
      rintro _ _ ⟨rfl, L', rfl⟩
      rw [xFresh_cg (I := I) (fun a ha => aU_ne (by omega))]
      refine pq_istore (i := 4) (Nat.le_of_ble_eq_true rfl) rfl (by decide +kernel) ?_
      refine pw_aload_n (k4 := 0) rfl (by decide +kernel) ?_
      refine pq_getP (c := 10) (k := 15) (ks_x hA) (by decide) (by decide) (kp_x_minted hA) lf_Ls_83 (by decide +kernel) ?_
      refine pw_iload_n (k4 := 3) rfl (by decide +kernel) ?_
      refine pw_iconst (n := 1) (v := 1) (by decide) (by decide +kernel) ?_
      refine pn_isub (k + 1) 1 rfl rfl (by omega) (by decide +kernel) ?_
      refine pw_iload (i := 4) rfl (by decide +kernel) ?_
      refine pq_iast ((k + 1) - 1) rfl (by omega) (by decide) (ks_x_minted hA) (by decide +kernel) ?_
      refine pw_iload (i := 4) rfl (by decide +kernel) ?_
      refine pw_iconst (n := 1) (v := 1) (by decide) (by decide +kernel) ?_
      refine pw_icmp_lt (off := 17) (tgt := 50) (by decide +kernel) (by decide +kernel) (fun z33 => ?_) (fun z33 => ?_)
      · refine pn_iinc (i := 3) (n := 1) 1 (k + 1) rfl rfl (by decide) rfl (by decide +kernel) ?_
        refine pw_goto (off := -49) (tgt := 4) (by decide +kernel) (by decide +kernel) ?_
        have q := ih (by omega) L'
        rw [xSz_n (f := coinF I t w) (n := n) (k := k) (Or.inl z33), ← fil_s (coinF I t w) (I 133) k] at q
        rw [sI_aU2]
        exact pw_forget [4] q
      · refine pw_iload (i := 4) rfl (by decide +kernel) ?_
        refine pw_iload_n (k4 := 1) rfl (by decide +kernel) ?_
        refine pw_icmp_gt (off := 11) (tgt := 50) (by decide +kernel) (by decide +kernel) (fun z39 => ?_) (fun z39 => ?_)
        · refine pn_iinc (i := 3) (n := 1) 1 (k + 1) rfl rfl (by decide) rfl (by decide +kernel) ?_
          refine pw_goto (off := -49) (tgt := 4) (by decide +kernel) (by decide +kernel) ?_
          have q := ih (by omega) L'
          rw [xSz_n (f := coinF I t w) (n := n) (k := k) (Or.inr z39), ← fil_s (coinF I t w) (I 133) k] at q
          rw [sI_aU2]
          exact pw_forget [4] q
        · refine pw_iload_n (k4 := 2) rfl (by decide +kernel) ?_
          refine pw_iconst (n := 1) (v := 1) (by decide) (by decide +kernel) ?_
          refine pw_iload_n (k4 := 3) rfl (by decide +kernel) ?_
          refine pw_iconst (n := 1) (v := 1) (by decide) (by decide +kernel) ?_
          refine pn_isub (k + 1) 1 rfl rfl (by omega) (by decide +kernel) ?_
          refine pw_ishl (by decide +kernel) ?_
          refine pw_ior (by decide +kernel) ?_
          refine pq_istore_n (k4 := 2) (Nat.le_of_ble_eq_true rfl) rfl (by decide +kernel) ?_
          refine pn_iinc (i := 3) (n := 1) 1 (k + 1) rfl rfl (by decide) rfl (by decide +kernel) ?_
          refine pw_goto (off := -49) (tgt := 4) (by decide +kernel) (by decide +kernel) ?_
          have q := ih (by omega) L'
          rw [xSz_y (f := coinF I t w) (n := n) (k := k) z33 z39, ← fil_s (coinF I t w) (I 133) k] at q
          rw [sI_aU2]
          exact pw_forget [4] q
)
  refine pw_iconst (n := 0) (v := 0) (by decide) (by decide +kernel) ?_
  refine pq_istore_n (k4 := 2) (Nat.le_of_ble_eq_true rfl) rfl (by decide +kernel) ?_
  refine pw_iconst (n := 1) (v := 1) (by decide) (by decide +kernel) ?_
  refine pq_istore_n (k4 := 3) (Nat.le_of_ble_eq_true rfl) rfl (by decide +kernel) ?_
  have q := hL 0 (Nat.zero_le _) L
  rw [fil_0, aU_self] at q
  exact q

/-- the sums behind one boot more: i sizes looked at -/
def xMk (f : Nat → Int32) (b : Int32) (made : Int64) : Nat → Int64
  | 0 => made
  | i + 1 => if xBit b i then xMk f b made i ||| made <<< ((f i).toInt64 &&& 63) else xMk f b made i
def xMade (f : Nat → Int32) (b : Int32) (all : Int64) : Nat → Int64
  | 0 => 1
  | k + 1 => xMk f b (xMade f b all k) 10 &&& all
def xAllL (n : Int32) : Int64 := (2 : Int64) <<< (n.toInt64 &&& 63) - 1
theorem xMk_y {f : Nat → Int32} {b : Int32} {m : Int64} {k : Nat} (h : xBit b k) : xMk f b m (k + 1) = xMk f b m k ||| m <<< ((f k).toInt64 &&& 63) := if_pos h
theorem xMk_n {f : Nat → Int32} {b : Int32} {m : Int64} {k : Nat} (h : ¬ xBit b k) : xMk f b m (k + 1) = xMk f b m k := if_neg h

theorem ct_Ls_makesAll {sh : List pSh} {I : Nat → Nat → Int32} {L : Nat → Nat → Int64} {P : Nat → Nat → Option Nat} (hA : kA sh P) (b n : Int32) (q : Nat) (hq : q ≤ 5) : pCn m_Ls_makesAll 0 [.ref 1, .int b, .int n, .int (nI q)] sh (I, L, P) (rI (B (xMade (I 133) b (xAllL n) q = xAllL n)) (I, L, P)) := by
  refine pCn_of (by decide +kernel) (Nat.le_of_ble_eq_true rfl) ?_
  have hL := pUpTo q (fun k => pWn m_Ls_makesAll 0 sh (rI (B (xMade (I 133) b (xAllL n) q = xAllL n)) (I, L, P)) 15 [some (.ref 1), some (.int b), some (.int n), some (.int (nI q)), some (.long (xAllL n)), none, some (.long (xMade (I 133) b (xAllL n) k)), none, some (.int (nI k)), none, none, none] [] (I, L, P)) (by
    intro k hk ihO
    have h2 : k < q → ∀ i, i ≤ 10 → pWn m_Ls_makesAll 0 sh (rI (B (xMade (I 133) b (xAllL n) q = xAllL n)) (I, L, P)) 28 [some (.ref 1), some (.int b), some (.int n), some (.int (nI q)), some (.long (xAllL n)), none, some (.long (xMade (I 133) b (xAllL n) k)), none, some (.int (nI k)), some (.long (xMk (I 133) b (xMade (I 133) b (xAllL n) k) i)), none, some (.int (nI i))] [] (I, L, P) := fun hkq => pUpTo 10 _ (by
      intro i hi ih
      refine pw_iload (i := 11) rfl (by decide +kernel) ?_
      refine pw_bipush (n := 10) (v := 10) (by decide) (by decide +kernel) ?_
      refine pn_icmp_ge (off := 34) (tgt := 66) i 10 rfl rfl (by omega) (by omega) (by decide +kernel) (by decide +kernel) (fun z32 => ?_) (fun z32 => ?_)
      · refine pw_lload (i := 9) rfl (by decide +kernel) ?_
        refine pw_lload (i := 4) rfl (by decide +kernel) ?_
        refine pw_land (by decide +kernel) ?_
        refine pq_lstore (i := 6) (Nat.le_of_ble_eq_true rfl) rfl (by decide +kernel) ?_
        refine pn_iinc (i := 8) (n := 1) 1 k rfl rfl (by decide) rfl (by decide +kernel) ?_
        refine pw_goto (off := -61) (tgt := 15) (by decide +kernel) (by decide +kernel) ?_
        obtain rfl : i = 10 := by omega
        exact pw_forget [9, 11] (ihO (by omega))
      · refine pw_iload_n (k4 := 1) rfl (by decide +kernel) ?_
        refine pw_iload (i := 11) rfl (by decide +kernel) ?_
        refine pw_ishr (by decide +kernel) ?_
        refine pw_iconst (n := 1) (v := 1) (by decide) (by decide +kernel) ?_
        refine pw_iand (by decide +kernel) ?_
        refine pw_iconst (n := 1) (v := 1) (by decide) (by decide +kernel) ?_
        refine pw_icmp_ne (off := 18) (tgt := 60) (by decide +kernel) (by decide +kernel) (fun z42 => ?_) (fun z42 => ?_)
        · refine pn_iinc (i := 11) (n := 1) 1 i rfl rfl (by decide) rfl (by decide +kernel) ?_
          refine pw_goto (off := -35) (tgt := 28) (by decide +kernel) (by decide +kernel) ?_
          have z := ih (by omega)
          rw [xMk_n z42] at z
          exact z
        · refine pw_lload (i := 9) rfl (by decide +kernel) ?_
          refine pw_lload (i := 6) rfl (by decide +kernel) ?_
          refine pw_aload_n (k4 := 0) rfl (by decide +kernel) ?_
          refine pq_getP (c := 10) (k := 15) (ks_x hA) (by decide) (by decide) (kp_x_minted hA) lf_Ls_83 (by decide +kernel) ?_
          refine pw_iload (i := 11) rfl (by decide +kernel) ?_
          refine pq_iald i rfl (by omega) (by decide) (ks_x_minted hA) (by decide +kernel) ?_
          refine pw_lshl (by decide +kernel) ?_
          refine pw_lor (by decide +kernel) ?_
          refine pq_lstore (i := 9) (Nat.le_of_ble_eq_true rfl) rfl (by decide +kernel) ?_
          refine pn_iinc (i := 11) (n := 1) 1 i rfl rfl (by decide) rfl (by decide +kernel) ?_
          refine pw_goto (off := -35) (tgt := 28) (by decide +kernel) (by decide +kernel) ?_
          have z := ih (by omega)
          rw [xMk_y z42] at z
          exact z
)
    refine pw_iload (i := 8) rfl (by decide +kernel) ?_
    refine pw_iload_n (k4 := 3) rfl (by decide +kernel) ?_
    refine pn_icmp_ge (off := 61) (tgt := 79) k q rfl rfl (by omega) (by omega) (by decide +kernel) (by decide +kernel) (fun z18 => ?_) (fun z18 => ?_)
    · obtain rfl : k = q := by omega
      refine pw_lload (i := 6) rfl (by decide +kernel) ?_
      refine pw_lload (i := 4) rfl (by decide +kernel) ?_
      refine pw_lcmp (by decide +kernel) ?_
      refine pw_if_ne (off := 7) (tgt := 91) (by decide +kernel) (by decide +kernel) (fun z84 => ?_) (fun z84 => ?_)
      · rw [lge] at z84
        refine pw_iconst (n := 0) (v := 0) (by decide) (by decide +kernel) ?_
        exact pq_zret rfl (by decide) (by decide +kernel) ⟨congrArg (fun z => some (Value.int z)) (B_f z84).symm, rfl⟩
      · rw [lge] at z84
        refine pw_iconst (n := 1) (v := 1) (by decide) (by decide +kernel) ?_
        refine pw_goto (off := 4) (tgt := 92) (by decide +kernel) (by decide +kernel) ?_
        exact pq_zret rfl (by decide) (by decide +kernel) ⟨congrArg (fun z => some (Value.int z)) (B_t z84).symm, rfl⟩
    · refine pw_lload (i := 6) rfl (by decide +kernel) ?_
      refine pq_lstore (i := 9) (Nat.le_of_ble_eq_true rfl) rfl (by decide +kernel) ?_
      refine pw_iconst (n := 0) (v := 0) (by decide) (by decide +kernel) ?_
      refine pq_istore (i := 11) (Nat.le_of_ble_eq_true rfl) rfl (by decide +kernel) ?_
      exact h2 (by omega) 0 (Nat.zero_le _)
)
  refine pw_ldc2 lc_Ls_256 (by decide +kernel) ?_
  refine pw_iload_n (k4 := 2) rfl (by decide +kernel) ?_
  refine pw_lshl (by decide +kernel) ?_
  refine pw_lconst (n := 1) (v := 1) (by decide) (by decide +kernel) ?_
  refine pw_lsub (by decide +kernel) ?_
  refine pq_lstore (i := 4) (Nat.le_of_ble_eq_true rfl) rfl (by decide +kernel) ?_
  refine pw_lconst (n := 1) (v := 1) (by decide) (by decide +kernel) ?_
  refine pq_lstore (i := 6) (Nat.le_of_ble_eq_true rfl) rfl (by decide +kernel) ?_
  refine pw_iconst (n := 0) (v := 0) (by decide) (by decide +kernel) ?_
  refine pq_istore (i := 8) (Nat.le_of_ble_eq_true rfl) rfl (by decide +kernel) ?_
  exact hL 0 (Nat.zero_le _)
