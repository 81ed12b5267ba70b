/-! ===== swaps: the ring that gains ===== -/
theorem ct_Sw_clear {sh : List pSh} {I : Nat → Nat → Int32} {L : Nat → Nat → Int64} {P : Nat → Nat → Option Nat} (hA : kA sh P) {t : Nat} (ht : t = 3 ∨ t = 30) : pCn m_Sw_clear 0 [.ref (t + 15)] sh (I, L, P) (rV (aU (aU (sI I (t + 15) 0 0) (t + 16) (fil (fun _ => 0) (I (t + 16)) 36)) (t + 17) (fil (fun _ => 0) (I (t + 17)) 36), L, P)) := by
  refine pCn_of (by decide +kernel) (Nat.le_of_ble_eq_true rfl) ?_
  have hL := pUpTo 36 (fun k => pWn m_Sw_clear 0 sh (rV (aU (aU (sI I (t + 15) 0 0) (t + 16) (fil (fun _ => 0) (I (t + 16)) 36)) (t + 17) (fil (fun _ => 0) (I (t + 17)) 36), L, P)) 7 [some (.ref (t + 15)), some (.int (nI k))] [] (aU (aU (sI I (t + 15) 0 0) (t + 16) (fil (fun _ => 0) (I (t + 16)) k)) (t + 17) (fil (fun _ => 0) (I (t + 17)) k), L, P)) (by
    intro k hk ih
    refine pw_iload_n (k4 := 1) rfl (by decide +kernel) ?_
    refine pw_bipush (n := 36) (v := 36) (by decide) (by decide +kernel) ?_
    refine pw_icmp_ge (off := 23) (tgt := 33) (by decide +kernel) (by decide +kernel) (fun z10 => ?_) (fun z10 => ?_)
    · rw [cLe (show (36 : Int32) = nI 36 from rfl) rfl (by decide) (by omega)] at z10
      exact pq_vret rfl (by decide +kernel) ⟨rfl, by rw [show k = 36 by omega]⟩
    · rw [cLe (show (36 : Int32) = nI 36 from rfl) rfl (by decide) (by omega)] at z10
      refine pw_aload_n (k4 := 0) rfl (by decide +kernel) ?_
      refine pq_getP (c := 6) (k := 1) (ks_t_swaps hA ht) (by decide) (by decide) (kp_t_swaps_given hA ht) lf_Sw_9 (by decide +kernel) ?_
      refine pw_iload_n (k4 := 1) rfl (by decide +kernel) ?_
      refine pw_iconst (n := 0) (v := 0) (by decide) (by decide +kernel) ?_
      refine pq_iast k rfl (by omega) (by decide) (ks_t_swaps_given hA ht) (by decide +kernel) ?_
      refine pw_aload_n (k4 := 0) rfl (by decide +kernel) ?_
      refine pq_getP (c := 6) (k := 2) (ks_t_swaps hA ht) (by decide) (by decide) (kp_t_swaps_got hA ht) lf_Sw_15 (by decide +kernel) ?_
      refine pw_iload_n (k4 := 1) rfl (by decide +kernel) ?_
      refine pw_iconst (n := 0) (v := 0) (by decide) (by decide +kernel) ?_
      refine pq_iast k rfl (by omega) (by decide) (ks_t_swaps_got hA ht) (by decide +kernel) ?_
      refine pq_iinc (i := 1) (n := 1) (1) rfl (by decide) rfl (by decide +kernel) ?_
      refine pw_goto (off := -23) (tgt := 7) (by decide +kernel) (by decide +kernel) ?_
      have q := ih (by omega)
      rw [nI_succ] at q
      rw [show sI (sI (aU (aU (sI I (t + 15) 0 0) (t + 16) (fil (fun _ => 0) (I (t + 16)) k)) (t + 17) (fil (fun _ => 0) (I (t + 17)) k)) (t + 16) k 0) (t + 17) k 0 = aU (aU (sI I (t + 15) 0 0) (t + 16) (fil (fun _ => 0) (I (t + 16)) (k + 1))) (t + 17) (fil (fun _ => 0) (I (t + 17)) (k + 1)) from by
          rw [← fil_s (fun _ => 0) (I (t + 16)) k, ← fil_s (fun _ => 0) (I (t + 17)) k, aU_cm _ (show t + 16 ≠ t + 17 by omega), sI_aU2, aU_cm _ (show t + 17 ≠ t + 16 by omega), sI_aU2]]
      exact q
)
  refine pw_aload_n (k4 := 0) rfl (by decide +kernel) ?_
  refine pw_iconst (n := 0) (v := 0) (by decide) (by decide +kernel) ?_
  refine pq_putI (c := 6) (k := 0) (ks_t_swaps hA ht) (by decide) (by decide) lf_Sw_21 (Or.inl rfl) (by decide +kernel) ?_
  refine pw_iconst (n := 0) (v := 0) (by decide) (by decide +kernel) ?_
  refine pq_istore_n (k4 := 1) (Nat.le_of_ble_eq_true rfl) rfl (by decide +kernel) ?_
  have q := hL 0 (Nat.zero_le _)
  rw [fil_0, fil_0, show aU (sI I (t + 15) 0 0) (t + 16) (I (t + 16)) = sI I (t + 15) 0 0 from by rw [← sI_ne (show t + 16 ≠ t + 15 by omega) (I := I) (k := 0) (x := 0), aU_self], show aU (sI I (t + 15) 0 0) (t + 17) (I (t + 17)) = sI I (t + 15) 0 0 from by rw [← sI_ne (show t + 17 ≠ t + 15 by omega) (I := I) (k := 0) (x := 0), aU_self]] at q
  exact q

/-- the loop over the next good: c goods are left (6 - c is the next one) -/
def xGl (rc : (Nat → Int32) → Int32 → Int64 → Int64 → Bool × (Nat → Int32)) (gv gt : Nat → Int32) (dep row : Nat) (vis : Int32) (ga tk : Int64) : Nat → (Nat → Int32) → Bool × (Nat → Int32)
  | 0, f => (false, f)
  | c + 1, f => if (vis >>> (nI (5 - c) &&& 31)) &&& 1 = 0 ∧ ¬ gt (row + (5 - c)) ≤ 0 then
      (fun q : Bool × (Nat → Int32) => if q.1 = true then q else xGl rc gv gt dep row vis ga tk c q.2) (rc (upd f dep (nI (5 - c))) (vis ||| (1 <<< (nI (5 - c) &&& 31))) (ga * (gv (row + (5 - c))).toInt64) (tk * (gt (row + (5 - c))).toInt64))
    else xGl rc gv gt dep row vis ga tk c f
/-- does the path f of dep goods go on to a ring of dep + r goods that gains? -/
def xGn (gv gt : Nat → Int32) : Nat → Nat → (Nat → Int32) → Int32 → Int64 → Int64 → Bool × (Nat → Int32)
  | 0, dep, f, _, ga, tk => (decide (¬ gt (6 * ixn (f (dep - 1)) + ixn (f 0)) ≤ 0 ∧ ¬ tk * (gt (6 * ixn (f (dep - 1)) + ixn (f 0))).toInt64 ≤ ga * (gv (6 * ixn (f (dep - 1)) + ixn (f 0))).toInt64), f)
  | r + 1, dep, f, vis, ga, tk => xGl (fun f v g k => xGn gv gt r (dep + 1) f v g k) gv gt dep (6 * ixn (f (dep - 1))) vis ga tk (5 - ixn (f 0)) f
theorem xGl_keep {rc : (Nat → Int32) → Int32 → Int64 → Int64 → Bool × (Nat → Int32)} {gv gt : Nat → Int32} {dep row : Nat} {vis : Int32} {ga tk : Int64} (hr : ∀ f v g k i, i < dep + 1 → (rc f v g k).2 i = f i) : ∀ c f i, i < dep → (xGl rc gv gt dep row vis ga tk c f).2 i = f i
  | 0, f, i, h => rfl
  | c + 1, f, i, h => by
    unfold xGl
    split
    · dsimp only
      split
      · rw [hr _ _ _ _ i (by omega)]
        exact if_neg (by omega)
      · rw [xGl_keep hr c _ i h, hr _ _ _ _ i (by omega)]
        exact if_neg (by omega)
    · exact xGl_keep hr c f i h
theorem xGn_keep {gv gt : Nat → Int32} : ∀ r dep f v g k i, i < dep → (xGn gv gt r dep f v g k).2 i = f i
  | 0, dep, f, v, g, k, i, h => rfl
  | r + 1, dep, f, v, g, k, i, h => xGl_keep (fun f v g k i hi => xGn_keep r (dep + 1) f v g k i hi) _ _ _ h
def bI (b : Bool) : Int32 := if b then 1 else 0
def rG (q : Bool × (Nat → Int32)) (I : Nat → Nat → Int32) (L : Nat → Nat → Int64) (P : Nat → Nat → Option Nat) (t : Nat) : Option Value → pM → Prop := fun r M => r = some (.int (bI q.1)) ∧ M = (aU I (t + 18) q.2, L, P)
theorem n6 (p : Nat) : nI p * 6 = nI (6 * p) := by rw [show (6 : Int32) = nI 6 from rfl, pk_mul, Nat.mul_comm]

theorem bI_0 {b : Bool} (h : bI b = 0) : b = false := by cases b; rfl; exact absurd h (by decide)
theorem bI_1 {b : Bool} (h : ¬ bI b = 0) : b = true := by cases b; exact absurd rfl h; rfl
set_option maxHeartbeats 2000000 in
theorem ct_Sw_gains {sh : List pSh} {I : Nat → Nat → Int32} {L : Nat → Nat → Int64} {P : Nat → Nat → Option Nat} (hA : kA sh P) {t : Nat} (ht : t = 3 ∨ t = 30) {len : Nat} (hlen : len ≤ 6) : ∀ (r dep : Nat) (f : Nat → Int32) (vis : Int32) (ga tk : Int64), 1 ≤ dep → dep + r = len → (∀ i, i < dep → ∃ p, p < 6 ∧ f i = nI p) →
    pCn m_Sw_gains r [.ref (t + 15), .int (nI dep), .int (nI len), .int vis, .long ga, .long tk] sh (aU I (t + 18) f, L, P) (rG (xGn (I (t + 16)) (I (t + 17)) r dep f vis ga tk) I L P t) := by
  intro r
  induction r with
  | zero =>
    intro dep f vis ga tk hd1 hdl hv
    refine pCn_of (by decide +kernel) (Nat.le_of_ble_eq_true rfl) ?_
    obtain ⟨p, hpl, hp⟩ := hv (dep - 1) (by omega)
    obtain ⟨p0, hp0l, hp0⟩ := hv 0 (by omega)
    refine pw_iload_n (k4 := 1) rfl (by decide +kernel) ?_
    refine pw_iconst (n := 1) (v := 1) (by decide) (by decide +kernel) ?_
    refine pw_icmp_lt (off := 14) (tgt := 16) (by decide +kernel) (by decide +kernel) (fun z2 => ?_) (fun z2 => ?_)
    · exact absurd ((cLt rfl (show (1 : Int32) = nI 1 from rfl) (by omega) (by decide)).mp z2) (by omega)
    · refine pw_iload_n (k4 := 1) rfl (by decide +kernel) ?_
      refine pw_iload_n (k4 := 2) rfl (by decide +kernel) ?_
      refine pw_icmp_gt (off := 9) (tgt := 16) (by decide +kernel) (by decide +kernel) (fun z7 => ?_) (fun z7 => ?_)
      · exact absurd ((cLt rfl rfl (by omega) (by omega)).mp z7) (by omega)
      · refine pw_iload_n (k4 := 2) rfl (by decide +kernel) ?_
        refine pw_bipush (n := 6) (v := 6) (by decide) (by decide +kernel) ?_
        refine pw_icmp_le (off := 5) (tgt := 18) (by decide +kernel) (by decide +kernel) (fun z13 => ?_) (fun z13 => ?_)
        · refine pw_aload_n (k4 := 0) rfl (by decide +kernel) ?_
          refine pq_getP (c := 6) (k := 3) (ks_t_swaps hA ht) (by decide) (by decide) (kp_t_swaps_path hA ht) lf_Sw_18 (by decide +kernel) ?_
          refine pw_iload_n (k4 := 1) rfl (by decide +kernel) ?_
          refine pw_iconst (n := 1) (v := 1) (by decide) (by decide +kernel) ?_
          refine pw_isub (by decide +kernel) ?_
          refine pq_iald (dep - 1) (nS1 (by omega)) (by omega) (by decide) (ks_t_swaps_path hA ht) (by decide +kernel) ?_
          rw [aU_eq, hp]
          refine pw_bipush (n := 6) (v := 6) (by decide) (by decide +kernel) ?_
          refine pw_imul (by decide +kernel) ?_
          rw [n6]
          refine pq_istore (i := 8) (Nat.le_of_ble_eq_true rfl) rfl (by decide +kernel) ?_
          refine pw_iload_n (k4 := 1) rfl (by decide +kernel) ?_
          refine pw_iload_n (k4 := 2) rfl (by decide +kernel) ?_
          refine pw_icmp_ne (off := 56) (tgt := 89) (by decide +kernel) (by decide +kernel) (fun z33 => ?_) (fun z33 => ?_)
          · exact absurd z33 (by rw [cEq rfl rfl (by omega) (by omega)]; omega)
          · refine pw_iload (i := 8) rfl (by decide +kernel) ?_
            refine pw_aload_n (k4 := 0) rfl (by decide +kernel) ?_
            refine pq_getP (c := 6) (k := 3) (ks_t_swaps hA ht) (by decide) (by decide) (kp_t_swaps_path hA ht) lf_Sw_18 (by decide +kernel) ?_
            refine pw_iconst (n := 0) (v := 0) (by decide) (by decide +kernel) ?_
            refine pq_iald 0 rfl (by decide) (by decide) (ks_t_swaps_path hA ht) (by decide +kernel) ?_
            rw [aU_eq, hp0]
            refine pw_iadd (by decide +kernel) ?_
            rw [nI_add]
            refine pq_istore (i := 9) (Nat.le_of_ble_eq_true rfl) rfl (by decide +kernel) ?_
            refine pw_aload_n (k4 := 0) rfl (by decide +kernel) ?_
            refine pq_getP (c := 6) (k := 2) (ks_t_swaps hA ht) (by decide) (by decide) (kp_t_swaps_got hA ht) lf_Sw_15 (by decide +kernel) ?_
            refine pw_iload (i := 9) rfl (by decide +kernel) ?_
            refine pq_iald (6 * p + p0) rfl (by omega) (by decide) (ks_t_swaps_got hA ht) (by decide +kernel) ?_
            refine pw_if_le (off := 33) (tgt := 87) (by decide +kernel) (by decide +kernel) (fun z54 => ?_) (fun z54 => ?_)
            · rw [aU_ne (show t + 17 ≠ t + 18 by omega)] at z54
              refine pw_iconst (n := 0) (v := 0) (by decide) (by decide +kernel) ?_
              exact pq_zret rfl (by decide) (by decide +kernel) ⟨congrArg (fun z => some (Value.int z)) (by show _ = bI (decide _); rw [hp, hp0, ixn_nI (by omega), ixn_nI (by omega), (decide_eq_false (fun q => q.1 z54))]; rfl), rfl⟩
            · rw [aU_ne (show t + 17 ≠ t + 18 by omega)] at z54
              refine pw_lload (i := 6) rfl (by decide +kernel) ?_
              refine pw_aload_n (k4 := 0) rfl (by decide +kernel) ?_
              refine pq_getP (c := 6) (k := 2) (ks_t_swaps hA ht) (by decide) (by decide) (kp_t_swaps_got hA ht) lf_Sw_15 (by decide +kernel) ?_
              refine pw_iload (i := 9) rfl (by decide +kernel) ?_
              refine pq_iald (6 * p + p0) rfl (by omega) (by decide) (ks_t_swaps_got hA ht) (by decide +kernel) ?_
              refine pw_i2l (by decide +kernel) ?_
              refine pw_lmul (by decide +kernel) ?_
              refine pw_lload (i := 4) rfl (by decide +kernel) ?_
              refine pw_aload_n (k4 := 0) rfl (by decide +kernel) ?_
              refine pq_getP (c := 6) (k := 1) (ks_t_swaps hA ht) (by decide) (by decide) (kp_t_swaps_given hA ht) lf_Sw_9 (by decide +kernel) ?_
              refine pw_iload (i := 9) rfl (by decide +kernel) ?_
              refine pq_iald (6 * p + p0) rfl (by omega) (by decide) (ks_t_swaps_given hA ht) (by decide +kernel) ?_
              refine pw_i2l (by decide +kernel) ?_
              refine pw_lmul (by decide +kernel) ?_
              refine pw_lcmp (by decide +kernel) ?_
              refine pw_if_le (off := 7) (tgt := 87) (by decide +kernel) (by decide +kernel) (fun z80 => ?_) (fun z80 => ?_)
              · rw [lg_cmp_le, aU_ne (show t + 17 ≠ t + 18 by omega), aU_ne (show t + 16 ≠ t + 18 by omega)] at z80
                refine pw_iconst (n := 0) (v := 0) (by decide) (by decide +kernel) ?_
                exact pq_zret rfl (by decide) (by decide +kernel) ⟨congrArg (fun z => some (Value.int z)) (by show _ = bI (decide _); rw [hp, hp0, ixn_nI (by omega), ixn_nI (by omega), (decide_eq_false (fun q => q.2 z80))]; rfl), rfl⟩
              · rw [lg_cmp_le, aU_ne (show t + 17 ≠ t + 18 by omega), aU_ne (show t + 16 ≠ t + 18 by omega)] at z80
                refine pw_iconst (n := 1) (v := 1) (by decide) (by decide +kernel) ?_
                refine pw_goto (off := 4) (tgt := 88) (by decide +kernel) (by decide +kernel) ?_
                exact pq_zret rfl (by decide) (by decide +kernel) ⟨congrArg (fun z => some (Value.int z)) (by show _ = bI (decide _); rw [hp, hp0, ixn_nI (by omega), ixn_nI (by omega), (decide_eq_true ⟨z54, z80⟩)]; rfl), rfl⟩
        · exact absurd ((cLe rfl (show (6 : Int32) = nI 6 from rfl) (by omega) (by decide)).mpr (by omega)) z13
  | succ r ih' =>
    intro dep f vis ga tk hd1 hdl hv
    refine pCn_of (by decide +kernel) (Nat.le_of_ble_eq_true rfl) ?_
    obtain ⟨p, hpl, hp⟩ := hv (dep - 1) (by omega)
    obtain ⟨p0, hp0l, hp0⟩ := hv 0 (by omega)
    have hloop := pDown (fun c => ∀ g : Nat → Int32, c ≤ 5 → (∀ i, i < dep → g i = f i) → xGl (fun f v g k => xGn (I (t + 16)) (I (t + 17)) r (dep + 1) f v g k) (I (t + 16)) (I (t + 17)) dep (6 * p) vis ga tk c g = xGn (I (t + 16)) (I (t + 17)) (r + 1) dep f vis ga tk → pWn m_Sw_gains (r + 1) sh (rG (xGn (I (t + 16)) (I (t + 17)) (r + 1) dep f vis ga tk) I L P t) 99 [some (.ref (t + 15)), some (.int (nI dep)), some (.int (nI len)), some (.int vis), some (.long ga), none, some (.long tk), none, some (.int (nI (6 * p))), some (.int (nI (6 - c))), none] [] (aU I (t + 18) g, L, P)) (by
      intro c ih g hc5 hk hV
      refine pw_iload (i := 9) rfl (by decide +kernel) ?_
      refine pw_bipush (n := 6) (v := 6) (by decide) (by decide +kernel) ?_
      refine pw_icmp_ge (off := 84) (tgt := 187) (by decide +kernel) (by decide +kernel) (fun z103 => ?_) (fun z103 => ?_)
      · rw [cLe (show (6 : Int32) = nI 6 from rfl) rfl (by decide) (by omega)] at z103
        obtain rfl : c = 0 := by omega
        refine pw_iconst (n := 0) (v := 0) (by decide) (by decide +kernel) ?_
        exact pq_zret rfl (by decide) (by decide +kernel) ⟨by rw [← hV]; rfl, by rw [← hV]; rfl⟩
      · rw [cLe (show (6 : Int32) = nI 6 from rfl) rfl (by decide) (by omega)] at z103
        obtain ⟨c, rfl⟩ : ∃ k, c = k + 1 := ⟨c - 1, by omega⟩
        rw [show 6 - (c + 1) = 5 - c by omega] at *
        replace ih := ih c rfl
        unfold xGl at hV
        refine pw_iload (i := 8) rfl (by decide +kernel) ?_
        refine pw_iload (i := 9) rfl (by decide +kernel) ?_
        refine pw_iadd (by decide +kernel) ?_
        rw [nI_add]
        refine pq_istore (i := 10) (Nat.le_of_ble_eq_true rfl) rfl (by decide +kernel) ?_
        refine pw_iload_n (k4 := 3) rfl (by decide +kernel) ?_
        refine pw_iload (i := 9) rfl (by decide +kernel) ?_
        refine pw_ishr (by decide +kernel) ?_
        refine pw_iconst (n := 1) (v := 1) (by decide) (by decide +kernel) ?_
        refine pw_iand (by decide +kernel) ?_
        refine pw_if_ne (off := 62) (tgt := 181) (by decide +kernel) (by decide +kernel) (fun z119 => ?_) (fun z119 => ?_)
        · rw [if_neg (fun q => z119 q.1)] at hV
          refine pq_iinc (i := 9) (n := 1) (1) rfl (by decide) rfl (by decide +kernel) ?_
          refine pw_goto (off := -85) (tgt := 99) (by decide +kernel) (by decide +kernel) ?_
          have q := ih g (by omega) hk hV
          rw [show 6 - c = 5 - c + 1 by omega, nI_succ] at q
          exact pw_forget [10] q
        · refine pw_aload_n (k4 := 0) rfl (by decide +kernel) ?_
          refine pq_getP (c := 6) (k := 2) (ks_t_swaps hA ht) (by decide) (by decide) (kp_t_swaps_got hA ht) lf_Sw_15 (by decide +kernel) ?_
          refine pw_iload (i := 10) rfl (by decide +kernel) ?_
          refine pq_iald (6 * p + (5 - c)) rfl (by omega) (by decide) (ks_t_swaps_got hA ht) (by decide +kernel) ?_
          refine pw_if_le (off := 52) (tgt := 181) (by decide +kernel) (by decide +kernel) (fun z129 => ?_) (fun z129 => ?_)
          · rw [aU_ne (show t + 17 ≠ t + 18 by omega)] at z129
            rw [if_neg (fun q => q.2 z129)] at hV
            refine pq_iinc (i := 9) (n := 1) (1) rfl (by decide) rfl (by decide +kernel) ?_
            refine pw_goto (off := -85) (tgt := 99) (by decide +kernel) (by decide +kernel) ?_
            have q := ih g (by omega) hk hV
            rw [show 6 - c = 5 - c + 1 by omega, nI_succ] at q
            exact pw_forget [10] q
          · rw [aU_ne (show t + 17 ≠ t + 18 by omega)] at z129
            rw [if_pos ⟨z119, z129⟩] at hV
            refine pw_aload_n (k4 := 0) rfl (by decide +kernel) ?_
            refine pq_getP (c := 6) (k := 3) (ks_t_swaps hA ht) (by decide) (by decide) (kp_t_swaps_path hA ht) lf_Sw_18 (by decide +kernel) ?_
            refine pw_iload_n (k4 := 1) rfl (by decide +kernel) ?_
            refine pw_iload (i := 9) rfl (by decide +kernel) ?_
            refine pq_iast dep rfl (by omega) (by decide) (ks_t_swaps_path hA ht) (by decide +kernel) ?_
            rw [sI_aU2]
            refine pw_aload_n (k4 := 0) rfl (by decide +kernel) ?_
            refine pw_iload_n (k4 := 1) rfl (by decide +kernel) ?_
            refine pw_iconst (n := 1) (v := 1) (by decide) (by decide +kernel) ?_
            refine pw_iadd (by decide +kernel) ?_
            rw [nI_1]
            refine pw_iload_n (k4 := 2) rfl (by decide +kernel) ?_
            refine pw_iload_n (k4 := 3) rfl (by decide +kernel) ?_
            refine pw_iconst (n := 1) (v := 1) (by decide) (by decide +kernel) ?_
            refine pw_iload (i := 9) rfl (by decide +kernel) ?_
            refine pw_ishl (by decide +kernel) ?_
            refine pw_ior (by decide +kernel) ?_
            refine pw_lload (i := 4) rfl (by decide +kernel) ?_
            refine pw_aload_n (k4 := 0) rfl (by decide +kernel) ?_
            refine pq_getP (c := 6) (k := 1) (ks_t_swaps hA ht) (by decide) (by decide) (kp_t_swaps_given hA ht) lf_Sw_9 (by decide +kernel) ?_
            refine pw_iload (i := 10) rfl (by decide +kernel) ?_
            refine pq_iald (6 * p + (5 - c)) rfl (by omega) (by decide) (ks_t_swaps_given hA ht) (by decide +kernel) ?_
            rw [aU_ne (show t + 16 ≠ t + 18 by omega)]
            refine pw_i2l (by decide +kernel) ?_
            refine pw_lmul (by decide +kernel) ?_
            refine pw_lload (i := 6) rfl (by decide +kernel) ?_
            refine pw_aload_n (k4 := 0) rfl (by decide +kernel) ?_
            refine pq_getP (c := 6) (k := 2) (ks_t_swaps hA ht) (by decide) (by decide) (kp_t_swaps_got hA ht) lf_Sw_15 (by decide +kernel) ?_
            refine pw_iload (i := 10) rfl (by decide +kernel) ?_
            refine pq_iald (6 * p + (5 - c)) rfl (by omega) (by decide) (ks_t_swaps_got hA ht) (by decide +kernel) ?_
            rw [aU_ne (show t + 17 ≠ t + 18 by omega)]
            refine pw_i2l (by decide +kernel) ?_
            refine pw_lmul (by decide +kernel) ?_
            refine pq_callV (ν := m_Sw_gains) (d' := r) (av := [_, _, _, _, _]) (c := 6) (by decide +kernel) lm_Sw_25 ok_Sw_gains (show _ = some 5 by decide +kernel) (ks_t_swaps hA ht) rfl (by decide) (by omega) (Nat.le_of_ble_eq_true rfl) (ih' (dep + 1) _ _ _ _ (by omega) (by omega) (fun i hi => by by_cases e : i = dep; exact ⟨5 - c, by omega, by rw [e]; exact if_pos rfl⟩; obtain ⟨x, hx, hx2⟩ := hv i (by omega); exact ⟨x, hx, (if_neg e).trans ((hk i (by omega)).trans hx2)⟩)) ?_
            rintro _ _ ⟨rfl, rfl⟩
            refine pw_if_eq (off := 5) (tgt := 181) (by decide +kernel) (by decide +kernel) (fun z176 => ?_) (fun z176 => ?_)
            · have hb := bI_0 z176
              refine pq_iinc (i := 9) (n := 1) (1) rfl (by decide) rfl (by decide +kernel) ?_
              refine pw_goto (off := -85) (tgt := 99) (by decide +kernel) (by decide +kernel) ?_
              have q := ih (xGn (I (t + 16)) (I (t + 17)) r (dep + 1) (upd g dep (nI (5 - c))) (vis ||| (1 <<< (nI (5 - c) &&& 31))) (ga * (I (t + 16) (6 * p + (5 - c))).toInt64) (tk * (I (t + 17) (6 * p + (5 - c))).toInt64)).2 (by omega) (fun i hi => (xGn_keep _ _ _ _ _ _ i (by omega)).trans ((if_neg (by omega)).trans (hk i hi))) (by dsimp only at hV; rw [if_neg (by rw [hb]; decide)] at hV; exact hV)
              rw [show 6 - c = 5 - c + 1 by omega, nI_succ] at q
              exact pw_forget [10] q
            · have hb := bI_1 z176
              refine pw_iconst (n := 1) (v := 1) (by decide) (by decide +kernel) ?_
              exact pq_zret rfl (by decide) (by decide +kernel) ⟨by dsimp only at hV; rw [if_pos hb] at hV; rw [← hV, hb]; rfl, by dsimp only at hV; rw [if_pos hb] at hV; rw [← hV]⟩)
    refine pw_iload_n (k4 := 1) rfl (by decide +kernel) ?_
    refine pw_iconst (n := 1) (v := 1) (by decide) (by decide +kernel) ?_
    refine pw_icmp_lt (off := 14) (tgt := 16) (by decide +kernel) (by decide +kernel) (fun z2 => ?_) (fun z2 => ?_)
    · exact absurd ((cLt rfl (show (1 : Int32) = nI 1 from rfl) (by omega) (by decide)).mp z2) (by omega)
    · refine pw_iload_n (k4 := 1) rfl (by decide +kernel) ?_
      refine pw_iload_n (k4 := 2) rfl (by decide +kernel) ?_
      refine pw_icmp_gt (off := 9) (tgt := 16) (by decide +kernel) (by decide +kernel) (fun z7 => ?_) (fun z7 => ?_)
      · exact absurd ((cLt rfl rfl (by omega) (by omega)).mp z7) (by omega)
      · refine pw_iload_n (k4 := 2) rfl (by decide +kernel) ?_
        refine pw_bipush (n := 6) (v := 6) (by decide) (by decide +kernel) ?_
        refine pw_icmp_le (off := 5) (tgt := 18) (by decide +kernel) (by decide +kernel) (fun z13 => ?_) (fun z13 => ?_)
        · refine pw_aload_n (k4 := 0) rfl (by decide +kernel) ?_
          refine pq_getP (c := 6) (k := 3) (ks_t_swaps hA ht) (by decide) (by decide) (kp_t_swaps_path hA ht) lf_Sw_18 (by decide +kernel) ?_
          refine pw_iload_n (k4 := 1) rfl (by decide +kernel) ?_
          refine pw_iconst (n := 1) (v := 1) (by decide) (by decide +kernel) ?_
          refine pw_isub (by decide +kernel) ?_
          refine pq_iald (dep - 1) (nS1 (by omega)) (by omega) (by decide) (ks_t_swaps_path hA ht) (by decide +kernel) ?_
          rw [aU_eq, hp]
          refine pw_bipush (n := 6) (v := 6) (by decide) (by decide +kernel) ?_
          refine pw_imul (by decide +kernel) ?_
          rw [n6]
          refine pq_istore (i := 8) (Nat.le_of_ble_eq_true rfl) rfl (by decide +kernel) ?_
          refine pw_iload_n (k4 := 1) rfl (by decide +kernel) ?_
          refine pw_iload_n (k4 := 2) rfl (by decide +kernel) ?_
          refine pw_icmp_ne (off := 56) (tgt := 89) (by decide +kernel) (by decide +kernel) (fun z33 => ?_) (fun z33 => ?_)
          · refine pw_aload_n (k4 := 0) rfl (by decide +kernel) ?_
            refine pq_getP (c := 6) (k := 3) (ks_t_swaps hA ht) (by decide) (by decide) (kp_t_swaps_path hA ht) lf_Sw_18 (by decide +kernel) ?_
            refine pw_iconst (n := 0) (v := 0) (by decide) (by decide +kernel) ?_
            refine pq_iald 0 rfl (by decide) (by decide) (ks_t_swaps_path hA ht) (by decide +kernel) ?_
            rw [aU_eq, hp0]
            refine pw_iconst (n := 1) (v := 1) (by decide) (by decide +kernel) ?_
            refine pw_iadd (by decide +kernel) ?_
            rw [nI_1]
            refine pq_istore (i := 9) (Nat.le_of_ble_eq_true rfl) rfl (by decide +kernel) ?_
            have q := hloop (5 - p0) f (by omega) (fun i hi => rfl) (by show _ = xGl _ _ _ _ _ _ _ _ _ _; rw [hp, hp0, ixn_nI (by omega), ixn_nI (by omega)])
            rw [show 6 - (5 - p0) = p0 + 1 by omega] at q
            exact q
          · exact absurd ((cEq rfl rfl (by omega) (by omega)).mp z33) (by omega)
        · exact absurd ((cLe rfl (show (6 : Int32) = nI 6 from rfl) (by omega) (by decide)).mpr (by omega)) z13

/-- the loop over the first good: c firsts are left (6 - c is the next one); the answer is whether, and the path -/
def xRf (gv gt : Nat → Int32) (len : Nat) : Nat → (Nat → Int32) → Bool × (Nat → Int32)
  | 0, f => (false, f)
  | c + 1, f => (fun q : Bool × (Nat → Int32) => if q.1 = true then q else xRf gv gt len c q.2) (xGn gv gt (len - 1) 1 (upd f 0 (nI (5 - c))) (1 <<< (nI (5 - c) &&& 31)) 1 1)
/-- the loop over the lengths: c lengths are left (7 - c is the next one) -/
def xRl (gv gt : Nat → Int32) : Nat → (Nat → Int32) → Int32 × (Nat → Int32)
  | 0, f => (-2, f)
  | c + 1, f => (fun q : Bool × (Nat → Int32) => if q.1 = true then (nI (6 - c), q.2) else xRl gv gt c q.2) (xRf gv gt (6 - c) 6 f)
def rR (q : Int32 × (Nat → Int32)) (I : Nat → Nat → Int32) (L : Nat → Nat → Int64) (P : Nat → Nat → Option Nat) (t : Nat) : Option Value → pM → Prop := fun r M => r = some (.int q.1) ∧ M = (aU I (t + 18) q.2, L, P)

set_option maxHeartbeats 2000000 in
theorem ct_Sw_findRing {sh : List pSh} {I : Nat → Nat → Int32} {L : Nat → Nat → Int64} {P : Nat → Nat → Option Nat} (hA : kA sh P) {t : Nat} (ht : t = 3 ∨ t = 30) : pCn m_Sw_findRing 7 [.ref (t + 15)] sh (I, L, P) (rR (xRl (I (t + 16)) (I (t + 17)) 5 (I (t + 18))) I L P t) := by
  refine pCn_of (by decide +kernel) (Nat.le_of_ble_eq_true rfl) ?_
  have hF : ∀ len, 2 ≤ len → len ≤ 6 → ∀ {V : Bool × (Nat → Int32)}, (∀ g, V = (false, g) → pWn m_Sw_findRing 7 sh (rR (xRl (I (t + 16)) (I (t + 17)) 5 (I (t + 18))) I L P t) 2 [some (.ref (t + 15)), some (.int (nI (len + 1))), none] [] (aU I (t + 18) g, L, P)) → (∀ g, V = (true, g) → xRl (I (t + 16)) (I (t + 17)) 5 (I (t + 18)) = (nI len, g)) → ∀ c f, c ≤ 6 → xRf (I (t + 16)) (I (t + 17)) len c f = V → pWn m_Sw_findRing 7 sh (rR (xRl (I (t + 16)) (I (t + 17)) 5 (I (t + 18))) I L P t) 10 [some (.ref (t + 15)), some (.int (nI len)), some (.int (nI (6 - c)))] [] (aU I (t + 18) f, L, P) := by
    intro len hl2 hl6 V hno hyes
    refine pDown _ ?_
    intro c ih f hc hV
    refine pw_iload_n (k4 := 2) rfl (by decide +kernel) ?_
    refine pw_bipush (n := 6) (v := 6) (by decide) (by decide +kernel) ?_
    refine pw_icmp_ge (off := 32) (tgt := 45) (by decide +kernel) (by decide +kernel) (fun z13 => ?_) (fun z13 => ?_)
    · rw [cLe (show (6 : Int32) = nI 6 from rfl) rfl (by decide) (by omega)] at z13
      obtain rfl : c = 0 := by omega
      refine pq_iinc (i := 1) (n := 1) (1) rfl (by decide) rfl (by decide +kernel) ?_
      refine pw_goto (off := -46) (tgt := 2) (by decide +kernel) (by decide +kernel) ?_
      have q := hno f hV.symm
      rw [nI_succ] at q
      exact pw_forget [2] q
    · rw [cLe (show (6 : Int32) = nI 6 from rfl) rfl (by decide) (by omega)] at z13
      obtain ⟨c, rfl⟩ : ∃ k, c = k + 1 := ⟨c - 1, by omega⟩
      rw [show 6 - (c + 1) = 5 - c by omega]
      replace ih := ih c rfl
      unfold xRf at hV
      refine pw_aload_n (k4 := 0) rfl (by decide +kernel) ?_
      refine pq_getP (c := 6) (k := 3) (ks_t_swaps hA ht) (by decide) (by decide) (kp_t_swaps_path hA ht) lf_Sw_18 (by decide +kernel) ?_
      refine pw_iconst (n := 0) (v := 0) (by decide) (by decide +kernel) ?_
      refine pw_iload_n (k4 := 2) rfl (by decide +kernel) ?_
      refine pq_iast 0 rfl (by decide) (by decide) (ks_t_swaps_path hA ht) (by decide +kernel) ?_
      rw [sI_aU2]
      refine pw_aload_n (k4 := 0) rfl (by decide +kernel) ?_
      refine pw_iconst (n := 1) (v := 1) (by decide) (by decide +kernel) ?_
      refine pw_iload_n (k4 := 1) rfl (by decide +kernel) ?_
      refine pw_iconst (n := 1) (v := 1) (by decide) (by decide +kernel) ?_
      refine pw_iload_n (k4 := 2) rfl (by decide +kernel) ?_
      refine pw_ishl (by decide +kernel) ?_
      refine pw_lconst (n := 1) (v := 1) (by decide) (by decide +kernel) ?_
      refine pw_lconst (n := 1) (v := 1) (by decide) (by decide +kernel) ?_
      refine pq_callV (ν := m_Sw_gains) (d' := (len - 1)) (av := [_, _, _, _, _]) (c := 6) (by decide +kernel) lm_Sw_25 ok_Sw_gains (show _ = some 5 by decide +kernel) (ks_t_swaps hA ht) rfl (by decide) (by omega) (Nat.le_of_ble_eq_true rfl) (ct_Sw_gains hA ht (len := len) (by omega) (len - 1) 1 _ _ _ _ (by omega) (by omega) (fun i hi => ⟨5 - c, by omega, by rw [show i = 0 by omega]; exact if_pos rfl⟩)) ?_
      rintro _ _ ⟨rfl, rfl⟩
      refine pw_if_eq (off := 5) (tgt := 39) (by decide +kernel) (by decide +kernel) (fun z34 => ?_) (fun z34 => ?_)
      · have hb := bI_0 z34
        refine pq_iinc (i := 2) (n := 1) (1) rfl (by decide) rfl (by decide +kernel) ?_
        refine pw_goto (off := -32) (tgt := 10) (by decide +kernel) (by decide +kernel) ?_
        have q := ih _ (by omega) (by dsimp only at hV; rw [if_neg (by rw [hb]; decide)] at hV; exact hV)
        rw [show 6 - c = 5 - c + 1 by omega, nI_succ] at q
        exact q
      · have hb := bI_1 z34
        refine pw_iload_n (k4 := 1) rfl (by decide +kernel) ?_
        exact pq_iret rfl (by decide +kernel) (by dsimp only at hV; rw [if_pos hb] at hV; have e := hyes _ (by rw [← hV, ← hb]); exact ⟨by rw [e], by rw [e]⟩)
  have hL := pDown (fun c => ∀ f : Nat → Int32, c ≤ 5 → xRl (I (t + 16)) (I (t + 17)) c f = xRl (I (t + 16)) (I (t + 17)) 5 (I (t + 18)) → pWn m_Sw_findRing 7 sh (rR (xRl (I (t + 16)) (I (t + 17)) 5 (I (t + 18))) I L P t) 2 [some (.ref (t + 15)), some (.int (nI (7 - c))), none] [] (aU I (t + 18) f, L, P)) (by
    intro c ih f hc hV
    refine pw_iload_n (k4 := 1) rfl (by decide +kernel) ?_
    refine pw_bipush (n := 6) (v := 6) (by decide) (by decide +kernel) ?_
    refine pw_icmp_gt (off := 46) (tgt := 51) (by decide +kernel) (by decide +kernel) (fun z5 => ?_) (fun z5 => ?_)
    · rw [cLt (show (6 : Int32) = nI 6 from rfl) rfl (by decide) (by omega)] at z5
      obtain rfl : c = 0 := by omega
      refine pw_bipush (n := -2) (v := -2) (by decide) (by decide +kernel) ?_
      exact pq_iret rfl (by decide +kernel) ⟨by rw [← hV]; rfl, by rw [← hV]; rfl⟩
    · rw [cLt (show (6 : Int32) = nI 6 from rfl) rfl (by decide) (by omega)] at z5
      obtain ⟨c, rfl⟩ : ∃ k, c = k + 1 := ⟨c - 1, by omega⟩
      rw [show 7 - (c + 1) = 6 - c by omega]
      replace ih := ih c rfl
      unfold xRl at hV
      refine pw_iconst (n := 0) (v := 0) (by decide) (by decide +kernel) ?_
      refine pq_istore_n (k4 := 2) (Nat.le_of_ble_eq_true rfl) rfl (by decide +kernel) ?_
      exact hF (6 - c) (by omega) (by omega) (V := xRf (I (t + 16)) (I (t + 17)) (6 - c) 6 f) (fun g e => by
            have q := ih g (by omega) (by dsimp only at hV; rw [e] at hV; exact hV)
            rw [show 7 - c = 6 - c + 1 by omega] at q
            exact q) (fun g e => by dsimp only at hV; rw [e] at hV; exact hV.symm) 6 f (by omega) rfl
)
  refine pw_iconst (n := 2) (v := 2) (by decide) (by decide +kernel) ?_
  refine pq_istore_n (k4 := 1) (Nat.le_of_ble_eq_true rfl) rfl (by decide +kernel) ?_
  have q := hL 5 (I (t + 18)) (by omega) rfl
  rw [aU_self] at q
  exact q
