/-! ===== the world: hands over, wears, is dressed; the history ===== -/
/-- bit k of an int -/
abbrev xBit (b : Int32) (k : Nat) : Prop := (b >>> (nI k &&& 31)) &&& 1 = 1
/-- the first n shoes whose bits are set go to a person -/
def xHand (I : Nat → Nat → Int32) (t w : Nat) (b to : Int32) : Nat → Nat → Nat → Int32
  | 0 => I
  | k + 1 => if xBit b k then xMove (xHand I t w b to k) t w k to else xHand I t w b to k
theorem xHand_ne {I : Nat → Nat → Int32} {t w a : Nat} {b to : Int32} (h1 : a ≠ w + 3) (h2 : a ≠ w + 4) : ∀ n, xHand I t w b to n a = I a
  | 0 => rfl
  | k + 1 => by
    unfold xHand
    split
    · rw [xMove_ne h1 h2]; exact xHand_ne h1 h2 k
    · exact xHand_ne h1 h2 k

theorem ct_Wo_handOver {sh : List pSh} {I : Nat → Nat → Int32} {L : Nat → Nat → Int64} {P : Nat → Nat → Option Nat} (hA : kA sh P) {w t : Nat} (hw : w = 62 ∨ w = 68 ∨ w = 74) (ht : t = 3 ∨ t = 30) (hwt : P w 0 = some t) {np ns nd : Nat} (hn : tOK I t np ns nd) (x to : Int32) : pCn m_Wo_handOver 3 [.ref w, .int x, .int to] sh (I, L, P) (rV (xHand I t w x to ns, L, P)) := by
  refine pCn_of (by decide +kernel) (Nat.le_of_ble_eq_true rfl) ?_
  have h16 := hn.2.2.2.1
  have hL := pUpTo ns (fun k => pWn m_Wo_handOver 3 sh (rV (xHand I t w x to ns, L, P)) 2 [some (.ref w), some (.int x), some (.int to), some (.int (nI k))] [] (xHand I t w x to k, L, P)) (by
    intro k hk ih
    have hn' : tOK (xHand I t w x to k) t np ns nd := tOK_cg (xHand_ne (by omega) (by omega) k) hn
    refine pw_iload_n (k4 := 3) rfl (by decide +kernel) ?_
    refine pw_aload_n (k4 := 0) rfl (by decide +kernel) ?_
    refine pq_getP (c := 9) (k := 0) (ks_w hA hw) (by decide) (by decide) hwt lf_Wo_29 (by decide +kernel) ?_
    refine pq_getI (c := 7) (k := 6) (ks_t hA ht) (by decide) (by decide) lf_Wo_76 (by decide +kernel) ?_
    refine pw_icmp_ge (off := 24) (tgt := 34) (by decide +kernel) (by decide +kernel) (fun z10 => ?_) (fun z10 => ?_)
    · rw [cLe hn'.2.2.1 rfl (by omega) (by omega)] at z10
      exact pq_vret rfl (by decide +kernel) ⟨rfl, by rw [show k = ns by omega]⟩
    · rw [cLe hn'.2.2.1 rfl (by omega) (by omega)] at z10
      refine pw_iload_n (k4 := 1) rfl (by decide +kernel) ?_
      refine pw_iload_n (k4 := 3) rfl (by decide +kernel) ?_
      refine pw_ishr (by decide +kernel) ?_
      refine pw_iconst (n := 1) (v := 1) (by decide) (by decide +kernel) ?_
      refine pw_iand (by decide +kernel) ?_
      refine pw_iconst (n := 1) (v := 1) (by decide) (by decide +kernel) ?_
      refine pw_icmp_ne (off := 9) (tgt := 28) (by decide +kernel) (by decide +kernel) (fun z19 => ?_) (fun z19 => ?_)
      · refine pq_iinc (i := 3) (n := 1) (1) rfl (by decide) rfl (by decide +kernel) ?_
        refine pw_goto (off := -29) (tgt := 2) (by decide +kernel) (by decide +kernel) ?_
        have q := ih (by omega)
        rw [nI_succ, show xHand I t w x to (k + 1) = _ from if_neg z19] at q
        exact q
      · refine pw_aload_n (k4 := 0) rfl (by decide +kernel) ?_
        refine pw_iload_n (k4 := 3) rfl (by decide +kernel) ?_
        refine pw_iload_n (k4 := 2) rfl (by decide +kernel) ?_
        refine pq_callV (ν := m_Wo_move) (d' := 2) (av := [_, _]) (c := 9) (by decide +kernel) lm_Wo_72 ok_Wo_move (show _ = some 2 by decide +kernel) (ks_w hA hw) rfl (by decide) (by omega) (Nat.le_of_ble_eq_true rfl) (ct_Wo_move hA hw ht hwt hn' k (by omega) _) ?_
        rintro _ _ ⟨rfl, rfl⟩
        refine pq_iinc (i := 3) (n := 1) (1) rfl (by decide) rfl (by decide +kernel) ?_
        refine pw_goto (off := -29) (tgt := 2) (by decide +kernel) (by decide +kernel) ?_
        have q := ih (by omega)
        rw [nI_succ, show xHand I t w x to (k + 1) = _ from if_pos z19] at q
        exact q
)
  refine pw_iconst (n := 0) (v := 0) (by decide) (by decide +kernel) ?_
  refine pq_istore_n (k4 := 3) (Nat.le_of_ble_eq_true rfl) rfl (by decide +kernel) ?_
  exact hL 0 (Nat.zero_le _)

def xLeft (g : Nat → Int32) (n : Nat) : Nat → Int32 := fun i => if i < n then 0 else g i
theorem xLeft_0 (g : Nat → Int32) : xLeft g 0 = g := by
  funext i
  exact if_neg (by omega)
theorem xLeft_s (g : Nat → Int32) (k : Nat) : upd (xLeft g k) k 0 = xLeft g (k + 1) := by
  funext i
  unfold upd xLeft
  by_cases e : i = k
  · rw [if_pos e, if_pos (by omega)]
  · rw [if_neg e]
    by_cases h : i < k
    · rw [if_pos h, if_pos (by omega)]
    · rw [if_neg h, if_neg (by omega)]

theorem ct_Wo_makeAllLeft {sh : List pSh} {I : Nat → Nat → Int32} {L : Nat → Nat → Int64} {P : Nat → Nat → Option Nat} (hA : kA sh P) {w t : Nat} (hw : w = 62 ∨ w = 68 ∨ w = 74) (ht : t = 3 ∨ t = 30) (hwt : P w 0 = some t) {np ns nd : Nat} (hn : tOK I t np ns nd) : pCn m_Wo_makeAllLeft 0 [.ref w] sh (I, L, P) (rV (aU I (w + 1) (xLeft (I (w + 1)) ns), L, P)) := by
  refine pCn_of (by decide +kernel) (Nat.le_of_ble_eq_true rfl) ?_
  have h16 := hn.2.2.2.1
  have hL := pUpTo ns (fun k => pWn m_Wo_makeAllLeft 0 sh (rV (aU I (w + 1) (xLeft (I (w + 1)) ns), L, P)) 2 [some (.ref w), some (.int (nI k))] [] (aU I (w + 1) (xLeft (I (w + 1)) k), L, P)) (by
    intro k hk ih
    refine pw_iload_n (k4 := 1) rfl (by decide +kernel) ?_
    refine pw_aload_n (k4 := 0) rfl (by decide +kernel) ?_
    refine pq_getP (c := 9) (k := 0) (ks_w hA hw) (by decide) (by decide) hwt lf_Wo_29 (by decide +kernel) ?_
    refine pq_getI (c := 7) (k := 6) (ks_t hA ht) (by decide) (by decide) lf_Wo_76 (by decide +kernel) ?_
    refine pw_icmp_ge (off := 16) (tgt := 26) (by decide +kernel) (by decide +kernel) (fun z10 => ?_) (fun z10 => ?_)
    · rw [aU_ne (by omega), cLe hn.2.2.1 rfl (by omega) (by omega)] at z10
      exact pq_vret rfl (by decide +kernel) ⟨rfl, by rw [show k = ns by omega]⟩
    · rw [aU_ne (by omega), cLe hn.2.2.1 rfl (by omega) (by omega)] at z10
      refine pw_aload_n (k4 := 0) rfl (by decide +kernel) ?_
      refine pq_getP (c := 9) (k := 4) (ks_w hA hw) (by decide) (by decide) (kp_w_side hA hw) lf_Wo_11 (by decide +kernel) ?_
      refine pw_iload_n (k4 := 1) rfl (by decide +kernel) ?_
      refine pw_iconst (n := 0) (v := 0) (by decide) (by decide +kernel) ?_
      refine pq_iast k rfl (by omega) (by decide) (ks_w_side hA hw) (by decide +kernel) ?_
      refine pq_iinc (i := 1) (n := 1) (1) rfl (by decide) rfl (by decide +kernel) ?_
      refine pw_goto (off := -21) (tgt := 2) (by decide +kernel) (by decide +kernel) ?_
      have q := ih (by omega)
      rw [nI_succ, ← xLeft_s, ← sI_aU2] at q
      exact q
)
  refine pw_iconst (n := 0) (v := 0) (by decide) (by decide +kernel) ?_
  refine pq_istore_n (k4 := 1) (Nat.le_of_ble_eq_true rfl) rfl (by decide +kernel) ?_
  have q := hL 0 (Nat.zero_le _)
  rw [xLeft_0, aU_self] at q
  exact q

theorem ct_Wo_undress {sh : List pSh} {I : Nat → Nat → Int32} {L : Nat → Nat → Int64} {P : Nat → Nat → Option Nat} (hA : kA sh P) {w t : Nat} (hw : w = 62 ∨ w = 68 ∨ w = 74) (ht : t = 3 ∨ t = 30) (hwt : P w 0 = some t) {np ns nd : Nat} (hn : tOK I t np ns nd) (p : Nat) (hp : p < np) : pCn m_Wo_undress 1 [.ref w, .int (nI p)] sh (I, L, P) (rV (sI (sI I (w + 4) (2 * p) (-1)) (w + 4) (2 * p + 1) (-1), L, P)) := by
  refine pCn_of (by decide +kernel) (Nat.le_of_ble_eq_true rfl) ?_
  refine pw_aload_n (k4 := 0) rfl (by decide +kernel) ?_
  refine pq_getP (c := 9) (k := 0) (ks_w hA hw) (by decide) (by decide) hwt lf_Wo_29 (by decide +kernel) ?_
  refine pw_iload_n (k4 := 1) rfl (by decide +kernel) ?_
  refine pq_callV (ν := m_Ta_hasPerson) (d' := 0) (av := [_]) (c := 7) (by decide +kernel) lm_Wo_65 ok_Ta_hasPerson (show _ = some 1 by decide +kernel) (ks_t hA ht) rfl (by decide) (by omega) (Nat.le_of_ble_eq_true rfl) (ct_Ta_hasPerson hA ht _) ?_
  rintro _ _ ⟨rfl, rfl⟩
  refine pw_if_eq (off := 23) (tgt := 31) (by decide +kernel) (by decide +kernel) (fun z8 => ?_) (fun z8 => ?_)
  · exact absurd (nVal hn.1 (by have := hn.2.1; omega) hp) (B_0.mp z8)
  · have h5 := hn.2.1
    refine pw_aload_n (k4 := 0) rfl (by decide +kernel) ?_
    refine pq_getP (c := 9) (k := 7) (ks_w hA hw) (by decide) (by decide) (kp_w_worn hA hw) lf_Wo_23 (by decide +kernel) ?_
    refine pw_iconst (n := 2) (v := 2) (by decide) (by decide +kernel) ?_
    refine pw_iload_n (k4 := 1) rfl (by decide +kernel) ?_
    refine pw_imul (by decide +kernel) ?_
    refine pw_iconst (n := -1) (v := -1) (by decide) (by decide +kernel) ?_
    refine pq_iast (2 * p) (n2 p) (by omega) (by decide) (ks_w_worn hA hw) (by decide +kernel) ?_
    refine pw_aload_n (k4 := 0) rfl (by decide +kernel) ?_
    refine pq_getP (c := 9) (k := 7) (ks_w hA hw) (by decide) (by decide) (kp_w_worn hA hw) lf_Wo_23 (by decide +kernel) ?_
    refine pw_iconst (n := 2) (v := 2) (by decide) (by decide +kernel) ?_
    refine pw_iload_n (k4 := 1) rfl (by decide +kernel) ?_
    refine pw_imul (by decide +kernel) ?_
    refine pw_iconst (n := 1) (v := 1) (by decide) (by decide +kernel) ?_
    refine pw_iadd (by decide +kernel) ?_
    refine pw_iconst (n := -1) (v := -1) (by decide) (by decide +kernel) ?_
    refine pq_iast (2 * p + 1) (n21 p) (by omega) (by decide) (ks_w_worn hA hw) (by decide +kernel) ?_
    exact pq_vret rfl (by decide +kernel) ⟨rfl, rfl⟩

theorem ct_Wo_putOn {sh : List pSh} {I : Nat → Nat → Int32} {L : Nat → Nat → Int64} {P : Nat → Nat → Option Nat} (hA : kA sh P) {w t : Nat} (hw : w = 62 ∨ w = 68 ∨ w = 74) (ht : t = 3 ∨ t = 30) (hwt : P w 0 = some t) {np ns nd : Nat} (hn : tOK I t np ns nd) (j p d : Nat) (hj : j < ns) (hp : p < np) (ho : I (w + 3) j = nI p) (hd : I (w + 1) j = nI d) (hd1 : d < 2) : pCn m_Wo_putOn 1 [.ref w, .int (nI j)] sh (I, L, P) (rV (sI I (w + 4) (2 * p + d) (nI j), L, P)) := by
  refine pCn_of (by decide +kernel) (Nat.le_of_ble_eq_true rfl) ?_
  refine pw_aload_n (k4 := 0) rfl (by decide +kernel) ?_
  refine pq_getP (c := 9) (k := 0) (ks_w hA hw) (by decide) (by decide) hwt lf_Wo_29 (by decide +kernel) ?_
  refine pw_iload_n (k4 := 1) rfl (by decide +kernel) ?_
  refine pq_callV (ν := m_Ta_hasShoe) (d' := 0) (av := [_]) (c := 7) (by decide +kernel) lm_Wo_58 ok_Ta_hasShoe (show _ = some 1 by decide +kernel) (ks_t hA ht) rfl (by decide) (by omega) (Nat.le_of_ble_eq_true rfl) (ct_Ta_hasShoe hA ht _) ?_
  rintro _ _ ⟨rfl, rfl⟩
  refine pw_if_eq (off := 12) (tgt := 20) (by decide +kernel) (by decide +kernel) (fun z8 => ?_) (fun z8 => ?_)
  · exact absurd (nVal hn.2.2.1 (by have := hn.2.2.2.1; omega) hj) (B_0.mp z8)
  · have h16 := hn.2.2.2.1
    refine pw_aload_n (k4 := 0) rfl (by decide +kernel) ?_
    refine pq_getP (c := 9) (k := 6) (ks_w hA hw) (by decide) (by decide) (kp_w_owner hA hw) lf_Wo_20 (by decide +kernel) ?_
    refine pw_iload_n (k4 := 1) rfl (by decide +kernel) ?_
    refine pq_iald j rfl (by omega) (by decide) (ks_w_owner hA hw) (by decide +kernel) ?_
    refine pw_goto (off := 4) (tgt := 21) (by decide +kernel) (by decide +kernel) ?_
    refine pq_istore_n (k4 := 2) (Nat.le_of_ble_eq_true rfl) rfl (by decide +kernel) ?_
    refine pw_aload_n (k4 := 0) rfl (by decide +kernel) ?_
    refine pq_getP (c := 9) (k := 0) (ks_w hA hw) (by decide) (by decide) hwt lf_Wo_29 (by decide +kernel) ?_
    refine pw_iload_n (k4 := 2) rfl (by decide +kernel) ?_
    refine pq_callV (ν := m_Ta_hasPerson) (d' := 0) (av := [_]) (c := 7) (by decide +kernel) lm_Wo_65 ok_Ta_hasPerson (show _ = some 1 by decide +kernel) (ks_t hA ht) rfl (by decide) (by omega) (Nat.le_of_ble_eq_true rfl) (ct_Ta_hasPerson hA ht _) ?_
    rintro _ _ ⟨rfl, rfl⟩
    refine pw_if_eq (off := 19) (tgt := 49) (by decide +kernel) (by decide +kernel) (fun z30 => ?_) (fun z30 => ?_)
    · exact absurd (by rw [ho]; exact nVal hn.1 (by have := hn.2.1; omega) hp) (B_0.mp z30)
    · have h5 := hn.2.1
      refine pw_aload_n (k4 := 0) rfl (by decide +kernel) ?_
      refine pq_getP (c := 9) (k := 7) (ks_w hA hw) (by decide) (by decide) (kp_w_worn hA hw) lf_Wo_23 (by decide +kernel) ?_
      refine pw_iconst (n := 2) (v := 2) (by decide) (by decide +kernel) ?_
      refine pw_iload_n (k4 := 2) rfl (by decide +kernel) ?_
      refine pw_imul (by decide +kernel) ?_
      refine pw_aload_n (k4 := 0) rfl (by decide +kernel) ?_
      refine pq_getP (c := 9) (k := 4) (ks_w hA hw) (by decide) (by decide) (kp_w_side hA hw) lf_Wo_11 (by decide +kernel) ?_
      refine pw_iload_n (k4 := 1) rfl (by decide +kernel) ?_
      refine pq_iald j rfl (by omega) (by decide) (ks_w_side hA hw) (by decide +kernel) ?_
      refine pw_iadd (by decide +kernel) ?_
      refine pw_iload_n (k4 := 1) rfl (by decide +kernel) ?_
      refine pq_iast (2 * p + d) (by rw [ho, hd, n2, nI_add]) (by omega) (by decide) (ks_w_worn hA hw) (by decide +kernel) ?_
      exact pq_vret rfl (by decide +kernel) ⟨rfl, rfl⟩

/-- a shoe is used m more; worn out it is buried -/
def xUse (I : Nat → Nat → Int32) (t w j : Nat) (m : Int32) : Nat → Nat → Int32 := if sI I (w + 2) j (I (w + 2) j + m) (w + 2) j < 50 then sI I (w + 2) j (I (w + 2) j + m) else xMove (sI I (w + 2) j (I (w + 2) j + m)) t w j (-2)
def xUseS (I : Nat → Nat → Int32) (t w : Nat) (s m : Int32) : Nat → Nat → Int32 := if xHasS I t s then xUse I t w (ixn s) m else I

theorem ct_Wo_useMore {sh : List pSh} {I : Nat → Nat → Int32} {L : Nat → Nat → Int64} {P : Nat → Nat → Option Nat} (hA : kA sh P) {w t : Nat} (hw : w = 62 ∨ w = 68 ∨ w = 74) (ht : t = 3 ∨ t = 30) (hwt : P w 0 = some t) {np ns nd : Nat} (hn : tOK I t np ns nd) (s m : Int32) : pCn m_Wo_useMore 4 [.ref w, .int s, .int m] sh (I, L, P) (rV (xUseS I t w s m, L, P)) := by
  refine pCn_of (by decide +kernel) (Nat.le_of_ble_eq_true rfl) ?_
  refine pw_aload_n (k4 := 0) rfl (by decide +kernel) ?_
  refine pq_getP (c := 9) (k := 0) (ks_w hA hw) (by decide) (by decide) hwt lf_Wo_29 (by decide +kernel) ?_
  refine pw_iload_n (k4 := 1) rfl (by decide +kernel) ?_
  refine pq_callV (ν := m_Ta_hasShoe) (d' := 0) (av := [_]) (c := 7) (by decide +kernel) lm_Wo_58 ok_Ta_hasShoe (show _ = some 1 by decide +kernel) (ks_t hA ht) rfl (by decide) (by omega) (Nat.le_of_ble_eq_true rfl) (ct_Ta_hasShoe hA ht _) ?_
  rintro _ _ ⟨rfl, rfl⟩
  refine pw_if_eq (off := 29) (tgt := 37) (by decide +kernel) (by decide +kernel) (fun z8 => ?_) (fun z8 => ?_)
  · have hz := B_0.mp z8
    exact pq_vret rfl (by decide +kernel) ⟨rfl, by unfold xUseS; rw [if_neg hz]⟩
  · have hz := B_ne.mp z8
    obtain ⟨j, hj, rfl⟩ := nIn hn.2.2.1 (by have := hn.2.2.2.1; omega) hz
    have h16 := hn.2.2.2.1
    refine pw_aload_n (k4 := 0) rfl (by decide +kernel) ?_
    refine pq_getP (c := 9) (k := 5) (ks_w hA hw) (by decide) (by decide) (kp_w_used hA hw) lf_Wo_17 (by decide +kernel) ?_
    refine pw_iload_n (k4 := 1) rfl (by decide +kernel) ?_
    refine pw_dup2 rfl rfl (by decide +kernel) ?_
    refine pq_iald j rfl (by omega) (by decide) (ks_w_used hA hw) (by decide +kernel) ?_
    refine pw_iload_n (k4 := 2) rfl (by decide +kernel) ?_
    refine pw_iadd (by decide +kernel) ?_
    refine pq_iast j rfl (by omega) (by decide) (ks_w_used hA hw) (by decide +kernel) ?_
    refine pw_aload_n (k4 := 0) rfl (by decide +kernel) ?_
    refine pq_getP (c := 9) (k := 5) (ks_w hA hw) (by decide) (by decide) (kp_w_used hA hw) lf_Wo_17 (by decide +kernel) ?_
    refine pw_iload_n (k4 := 1) rfl (by decide +kernel) ?_
    refine pq_iald j rfl (by omega) (by decide) (ks_w_used hA hw) (by decide +kernel) ?_
    refine pw_bipush (n := 50) (v := 50) (by decide) (by decide +kernel) ?_
    refine pw_icmp_lt (off := 8) (tgt := 37) (by decide +kernel) (by decide +kernel) (fun z29 => ?_) (fun z29 => ?_)
    · exact pq_vret rfl (by decide +kernel) ⟨rfl, by unfold xUseS xUse; rw [if_pos hz, ixn_nI (by omega), if_pos z29]⟩
    · refine pw_aload_n (k4 := 0) rfl (by decide +kernel) ?_
      refine pw_iload_n (k4 := 1) rfl (by decide +kernel) ?_
      refine pq_callV (ν := m_Wo_bury) (d' := 3) (av := [_]) (c := 9) (by decide +kernel) lm_Wo_181 ok_Wo_bury (show _ = some 1 by decide +kernel) (ks_w hA hw) rfl (by decide) (by omega) (Nat.le_of_ble_eq_true rfl) (ct_Wo_bury hA hw ht hwt (tOK_cg (sI_ne (by omega)) hn) j hj) ?_
      rintro _ _ ⟨rfl, rfl⟩
      exact pq_vret rfl (by decide +kernel) ⟨rfl, by unfold xUseS xUse; rw [if_pos hz, ixn_nI (by omega), if_neg z29]⟩

theorem xUseS_ne {I : Nat → Nat → Int32} {t w a : Nat} {s m : Int32} (h2 : a ≠ w + 2) (h3 : a ≠ w + 3) (h4 : a ≠ w + 4) : xUseS I t w s m a = I a := by
  unfold xUseS
  split
  · unfold xUse
    split
    · exact sI_ne h2
    · rw [xMove_ne h3 h4]; exact sI_ne h2
  · rfl
/-- all that is worn is used 5 more, foot by foot -/
def xMud (I : Nat → Nat → Int32) (t w : Nat) : Nat → Nat → Nat → Int32
  | 0 => I
  | f + 1 => xUseS (xMud I t w f) t w (xMud I t w f (w + 4) f) 5
theorem xMud_ne {I : Nat → Nat → Int32} {t w a : Nat} (h2 : a ≠ w + 2) (h3 : a ≠ w + 3) (h4 : a ≠ w + 4) : ∀ n, xMud I t w n a = I a
  | 0 => rfl
  | f + 1 => (xUseS_ne h2 h3 h4).trans (xMud_ne h2 h3 h4 f)

theorem ct_Wo_walkThroughMud {sh : List pSh} {I : Nat → Nat → Int32} {L : Nat → Nat → Int64} {P : Nat → Nat → Option Nat} (hA : kA sh P) {w t : Nat} (hw : w = 62 ∨ w = 68 ∨ w = 74) (ht : t = 3 ∨ t = 30) (hwt : P w 0 = some t) {np ns nd : Nat} (hn : tOK I t np ns nd) : pCn m_Wo_walkThroughMud 5 [.ref w] sh (I, L, P) (rV (xMud I t w (2 * np), L, P)) := by
  refine pCn_of (by decide +kernel) (Nat.le_of_ble_eq_true rfl) ?_
  have h5 := hn.2.1
  have hL := pUpTo (2 * np) (fun k => pWn m_Wo_walkThroughMud 5 sh (rV (xMud I t w (2 * np), L, P)) 2 [some (.ref w), some (.int (nI k))] [] (xMud I t w k, L, P)) (by
    intro k hk ih
    have hn' : tOK (xMud I t w k) t np ns nd := tOK_cg (xMud_ne (by omega) (by omega) (by omega) k) hn
    refine pw_iload_n (k4 := 1) rfl (by decide +kernel) ?_
    refine pw_iconst (n := 2) (v := 2) (by decide) (by decide +kernel) ?_
    refine pw_aload_n (k4 := 0) rfl (by decide +kernel) ?_
    refine pq_getP (c := 9) (k := 0) (ks_w hA hw) (by decide) (by decide) hwt lf_Wo_29 (by decide +kernel) ?_
    refine pq_getI (c := 7) (k := 0) (ks_t hA ht) (by decide) (by decide) lf_Wo_154 (by decide +kernel) ?_
    refine pw_imul (by decide +kernel) ?_
    refine pw_icmp_ge (off := 20) (tgt := 32) (by decide +kernel) (by decide +kernel) (fun z12 => ?_) (fun z12 => ?_)
    · rw [hn'.1, n2, cLe rfl rfl (by omega) (by omega)] at z12
      exact pq_vret rfl (by decide +kernel) ⟨rfl, by rw [show k = 2 * np by omega]⟩
    · rw [hn'.1, n2, cLe rfl rfl (by omega) (by omega)] at z12
      refine pw_aload_n (k4 := 0) rfl (by decide +kernel) ?_
      refine pw_aload_n (k4 := 0) rfl (by decide +kernel) ?_
      refine pq_getP (c := 9) (k := 7) (ks_w hA hw) (by decide) (by decide) (kp_w_worn hA hw) lf_Wo_23 (by decide +kernel) ?_
      refine pw_iload_n (k4 := 1) rfl (by decide +kernel) ?_
      refine pq_iald k rfl (by omega) (by decide) (ks_w_worn hA hw) (by decide +kernel) ?_
      refine pw_iconst (n := 5) (v := 5) (by decide) (by decide +kernel) ?_
      refine pq_callV (ν := m_Wo_useMore) (d' := 4) (av := [_, _]) (c := 9) (by decide +kernel) lm_Wo_160 ok_Wo_useMore (show _ = some 2 by decide +kernel) (ks_w hA hw) rfl (by decide) (by omega) (Nat.le_of_ble_eq_true rfl) (ct_Wo_useMore hA hw ht hwt hn' _ _) ?_
      rintro _ _ ⟨rfl, rfl⟩
      refine pq_iinc (i := 1) (n := 1) (1) rfl (by decide) rfl (by decide +kernel) ?_
      refine pw_goto (off := -27) (tgt := 2) (by decide +kernel) (by decide +kernel) ?_
      have q := ih (by omega)
      rw [nI_succ] at q
      exact q
)
  refine pw_iconst (n := 0) (v := 0) (by decide) (by decide +kernel) ?_
  refine pq_istore_n (k4 := 1) (Nat.le_of_ble_eq_true rfl) rfl (by decide +kernel) ?_
  exact hL 0 (Nat.zero_le _)

theorem ct_Hi_clear {sh : List pSh} {I : Nat → Nat → Int32} {L : Nat → Nat → Int64} {P : Nat → Nat → Option Nat} (hA : kA sh P) : pCn m_Hi_clear 0 [.ref 80] sh (I, L, P) (rV (sI (sI I 80 0 0) 80 1 0, L, P)) := by
  refine pCn_of (by decide +kernel) (Nat.le_of_ble_eq_true rfl) ?_
  refine pw_aload_n (k4 := 0) rfl (by decide +kernel) ?_
  refine pw_iconst (n := 0) (v := 0) (by decide) (by decide +kernel) ?_
  refine pq_putI (c := 1) (k := 0) (ks_hi hA) (by decide) (by decide) lf_Hi_19 (Or.inl rfl) (by decide +kernel) ?_
  refine pw_aload_n (k4 := 0) rfl (by decide +kernel) ?_
  refine pw_iconst (n := 0) (v := 0) (by decide) (by decide +kernel) ?_
  refine pq_putI (c := 1) (k := 1) (ks_hi hA) (by decide) (by decide) lf_Hi_23 (Or.inl rfl) (by decide +kernel) ?_
  exact pq_vret rfl (by decide +kernel) ⟨rfl, rfl⟩
