/-! ===== the class: the bank, counts, feed ===== -/
def xBank (I : Nat → Nat → Int32) (w ns : Nat) : Int32 := xBc (shBits (I (w + 3)) (-1) ns)
/-- the claims of a set of persons -/
def xCl (f : Nat → Int32) (b : Int32) : Nat → Int32
  | 0 => 0
  | k + 1 => if xBit b k then xCl f b k + f k else xCl f b k
/-- who runs when so much is left -/
def xFr (f : Nat → Int32) (l : Int32) : Nat → Int32
  | 0 => 0
  | k + 1 => if 2 * f k ≤ l then xFr f l k else xFr f l k ||| 1 <<< (nI k &&& 31)
abbrev xClaims (f : Nat → Int32) (b : Int32) (np : Nat) : Prop := ¬ b < 0 ∧ b < 1 <<< (nI np &&& 31) ∧ ∀ k, k < np → xBit b k → ¬ f k = 0
def xRun (f : Nat → Int32) (bank b : Int32) (np : Nat) : Nat → Int32
  | 0 => b
  | k + 1 => xRun f bank b np k ||| xFr f (iMax 0 (bank - xCl f (xRun f bank b np k) np)) np
def xGr (f : Nat → Int32) (b : Int32) : Nat → Int32
  | 0 => 0
  | k + 1 => if (b >>> (nI k &&& 31)) &&& 1 = 0 then iMax (xGr f b k) (f k) else xGr f b k
theorem xCl_y {f : Nat → Int32} {b : Int32} {k : Nat} (h : xBit b k) : xCl f b (k + 1) = xCl f b k + f k := if_pos h
theorem xCl_n {f : Nat → Int32} {b : Int32} {k : Nat} (h : ¬ xBit b k) : xCl f b (k + 1) = xCl f b k := if_neg h
theorem xFr_y {f : Nat → Int32} {l : Int32} {k : Nat} (h : ¬ 2 * f k ≤ l) : xFr f l (k + 1) = xFr f l k ||| 1 <<< (nI k &&& 31) := if_neg h
theorem xFr_n {f : Nat → Int32} {l : Int32} {k : Nat} (h : 2 * f k ≤ l) : xFr f l (k + 1) = xFr f l k := if_pos h
theorem xGr_y {f : Nat → Int32} {b : Int32} {k : Nat} (h : (b >>> (nI k &&& 31)) &&& 1 = 0) : xGr f b (k + 1) = iMax (xGr f b k) (f k) := if_pos h
theorem xGr_n {f : Nat → Int32} {b : Int32} {k : Nat} (h : ¬ (b >>> (nI k &&& 31)) &&& 1 = 0) : xGr f b (k + 1) = xGr f b k := if_neg h

theorem ct_Ls_bankShoes {sh : List pSh} {I : Nat → Nat → Int32} {L : Nat → Nat → Int64} {P : Nat → Nat → Option Nat} (hA : kA sh P) {w t : Nat} (hw : w = 62 ∨ w = 68 ∨ w = 74) (ht : t = 3 ∨ t = 30) (hwt : P w 0 = some t) (hxt : P 1 2 = some t) (hxw : P 1 7 = some w) {np ns nd : Nat} (hn : tOK I t np ns nd) : pCn m_Ls_bankShoes 1 [.ref 1] sh (I, L, P) (rI (xBank I w ns) (I, L, P)) := by
  refine pCn_of (by decide +kernel) (Nat.le_of_ble_eq_true rfl) ?_
  refine pw_aload_n (k4 := 0) rfl (by decide +kernel) ?_
  refine pq_getP (c := 10) (k := 7) (ks_x hA) (by decide) (by decide) hxw lf_Ls_43 (by decide +kernel) ?_
  refine pw_iconst (n := -1) (v := -1) (by decide) (by decide +kernel) ?_
  refine pq_callV (ν := m_Wo_shoesOf) (d' := 0) (av := [_]) (c := 9) (by decide +kernel) lm_Ls_171 ok_Wo_shoesOf (show _ = some 1 by decide +kernel) (ks_w hA hw) rfl (by decide) (by omega) (Nat.le_of_ble_eq_true rfl) (ct_Wo_shoesOf hA hw ht hwt hn _) ?_
  rintro _ _ ⟨rfl, rfl⟩
  refine pq_callS (ν := m_In_bitCount) (d' := 0) (av := [_]) (by decide +kernel) lm_Ls_174 ok_In_bitCount (show _ = some 1 by decide +kernel) (by omega) (Nat.le_of_ble_eq_true rfl) (ct_In_bitCount _) ?_
  rintro _ _ ⟨rfl, rfl⟩
  exact pq_iret rfl (by decide +kernel) ⟨rfl, rfl⟩

theorem ct_Ls_claimed {sh : List pSh} {I : Nat → Nat → Int32} {L : Nat → Nat → Int64} {P : Nat → Nat → Option Nat} (hA : kA sh P) {t : Nat} (ht : t = 3 ∨ t = 30) (hxt : P 1 2 = some t) {np ns nd : Nat} (hn : tOK I t np ns nd) (b : Int32) : pCn m_Ls_claimed 0 [.ref 1, .int b] sh (I, L, P) (rI (xCl (I (t + 5)) b np) (I, L, P)) := by
  refine pCn_of (by decide +kernel) (Nat.le_of_ble_eq_true rfl) ?_
  have h16 := hn.2.2.2.1
  have h5 := hn.2.1
  have h8 := hn.2.2.2.2.2
  have hL := pUpTo np (fun k => pWn m_Ls_claimed 0 sh (rI (xCl (I (t + 5)) b np) (I, L, P)) 4 [some (.ref 1), some (.int b), some (.int (xCl (I (t + 5)) b k)), some (.int (nI k))] [] (I, L, P)) (by
    intro k hk ih
    refine pw_iload_n (k4 := 3) rfl (by decide +kernel) ?_
    refine pw_aload_n (k4 := 0) rfl (by decide +kernel) ?_
    refine pq_getP (c := 10) (k := 2) (ks_x hA) (by decide) (by decide) hxt lf_Ls_18 (by decide +kernel) ?_
    refine pq_getI (c := 7) (k := 0) (ks_t hA ht) (by decide) (by decide) lf_Ls_306 (by decide +kernel) ?_
    refine pn_val (nI (np)) hn.1 ?_
    refine pn_icmp_ge (off := 30) (tgt := 42) k np rfl rfl (by omega) (by omega) (by decide +kernel) (by decide +kernel) (fun z12 => ?_) (fun z12 => ?_)
    · obtain rfl : k = np := by omega
      refine pw_iload_n (k4 := 2) rfl (by decide +kernel) ?_
      exact pq_iret rfl (by decide +kernel) ⟨rfl, rfl⟩
    · refine pw_iload_n (k4 := 1) rfl (by decide +kernel) ?_
      refine pw_iload_n (k4 := 3) rfl (by decide +kernel) ?_
      refine pw_ishr (by decide +kernel) ?_
      refine pw_iconst (n := 1) (v := 1) (by decide) (by decide +kernel) ?_
      refine pw_iand (by decide +kernel) ?_
      refine pw_iconst (n := 1) (v := 1) (by decide) (by decide +kernel) ?_
      refine pw_icmp_ne (off := 15) (tgt := 36) (by decide +kernel) (by decide +kernel) (fun z21 => ?_) (fun z21 => ?_)
      · refine pn_iinc (i := 3) (n := 1) 1 k rfl rfl (by decide) rfl (by decide +kernel) ?_
        refine pw_goto (off := -35) (tgt := 4) (by decide +kernel) (by decide +kernel) ?_
        have q := ih (by omega)
        rw [xCl_n z21] at q
        exact q
      · refine pw_iload_n (k4 := 2) rfl (by decide +kernel) ?_
        refine pw_aload_n (k4 := 0) rfl (by decide +kernel) ?_
        refine pq_getP (c := 10) (k := 2) (ks_x hA) (by decide) (by decide) hxt lf_Ls_18 (by decide +kernel) ?_
        refine pq_getP (c := 7) (k := 5) (ks_t hA ht) (by decide) (by decide) (kp_t_claim hA ht) lf_Ls_309 (by decide +kernel) ?_
        refine pw_iload_n (k4 := 3) rfl (by decide +kernel) ?_
        refine pq_iald k rfl (by omega) (by decide) (ks_t_claim hA ht) (by decide +kernel) ?_
        refine pw_iadd (by decide +kernel) ?_
        refine pq_istore_n (k4 := 2) (Nat.le_of_ble_eq_true rfl) rfl (by decide +kernel) ?_
        refine pn_iinc (i := 3) (n := 1) 1 k rfl rfl (by decide) rfl (by decide +kernel) ?_
        refine pw_goto (off := -35) (tgt := 4) (by decide +kernel) (by decide +kernel) ?_
        have q := ih (by omega)
        rw [xCl_y z21] at q
        exact q
)
  refine pw_iconst (n := 0) (v := 0) (by decide) (by decide +kernel) ?_
  refine pq_istore_n (k4 := 2) (Nat.le_of_ble_eq_true rfl) rfl (by decide +kernel) ?_
  refine pw_iconst (n := 0) (v := 0) (by decide) (by decide +kernel) ?_
  refine pq_istore_n (k4 := 3) (Nat.le_of_ble_eq_true rfl) rfl (by decide +kernel) ?_
  exact hL 0 (Nat.zero_le _)

theorem ct_Ls_frightened {sh : List pSh} {I : Nat → Nat → Int32} {L : Nat → Nat → Int64} {P : Nat → Nat → Option Nat} (hA : kA sh P) {t : Nat} (ht : t = 3 ∨ t = 30) (hxt : P 1 2 = some t) {np ns nd : Nat} (hn : tOK I t np ns nd) (l : Int32) : pCn m_Ls_frightened 1 [.ref 1, .int l] sh (I, L, P) (rI (xFr (I (t + 5)) (iMax 0 l) np) (I, L, P)) := by
  refine pCn_of (by decide +kernel) (Nat.le_of_ble_eq_true rfl) ?_
  have h16 := hn.2.2.2.1
  have h5 := hn.2.1
  have h8 := hn.2.2.2.2.2
  have hL := pUpTo np (fun k => pWn m_Ls_frightened 1 sh (rI (xFr (I (t + 5)) (iMax 0 l) np) (I, L, P)) 11 [some (.ref 1), some (.int l), some (.int (iMax 0 l)), some (.int (xFr (I (t + 5)) (iMax 0 l) k)), some (.int (nI k))] [] (I, L, P)) (by
    intro k hk ih
    refine pw_iload (i := 4) rfl (by decide +kernel) ?_
    refine pw_aload_n (k4 := 0) rfl (by decide +kernel) ?_
    refine pq_getP (c := 10) (k := 2) (ks_x hA) (by decide) (by decide) hxt lf_Ls_18 (by decide +kernel) ?_
    refine pq_getI (c := 7) (k := 0) (ks_t hA ht) (by decide) (by decide) lf_Ls_306 (by decide +kernel) ?_
    refine pn_val (nI (np)) hn.1 ?_
    refine pn_icmp_ge (off := 32) (tgt := 52) k np rfl rfl (by omega) (by omega) (by decide +kernel) (by decide +kernel) (fun z20 => ?_) (fun z20 => ?_)
    · obtain rfl : k = np := by omega
      refine pw_iload_n (k4 := 3) rfl (by decide +kernel) ?_
      exact pq_iret rfl (by decide +kernel) ⟨rfl, rfl⟩
    · refine pw_iconst (n := 2) (v := 2) (by decide) (by decide +kernel) ?_
      refine pw_aload_n (k4 := 0) rfl (by decide +kernel) ?_
      refine pq_getP (c := 10) (k := 2) (ks_x hA) (by decide) (by decide) hxt lf_Ls_18 (by decide +kernel) ?_
      refine pq_getP (c := 7) (k := 5) (ks_t hA ht) (by decide) (by decide) (kp_t_claim hA ht) lf_Ls_309 (by decide +kernel) ?_
      refine pw_iload (i := 4) rfl (by decide +kernel) ?_
      refine pq_iald k rfl (by omega) (by decide) (ks_t_claim hA ht) (by decide +kernel) ?_
      refine pw_imul (by decide +kernel) ?_
      refine pw_iload_n (k4 := 2) rfl (by decide +kernel) ?_
      refine pw_icmp_le (off := 10) (tgt := 46) (by decide +kernel) (by decide +kernel) (fun z36 => ?_) (fun z36 => ?_)
      · refine pn_iinc (i := 4) (n := 1) 1 k rfl rfl (by decide) rfl (by decide +kernel) ?_
        refine pw_goto (off := -38) (tgt := 11) (by decide +kernel) (by decide +kernel) ?_
        have q := ih (by omega)
        rw [xFr_n z36] at q
        exact q
      · refine pw_iload_n (k4 := 3) rfl (by decide +kernel) ?_
        refine pw_iconst (n := 1) (v := 1) (by decide) (by decide +kernel) ?_
        refine pw_iload (i := 4) rfl (by decide +kernel) ?_
        refine pw_ishl (by decide +kernel) ?_
        refine pw_ior (by decide +kernel) ?_
        refine pq_istore_n (k4 := 3) (Nat.le_of_ble_eq_true rfl) rfl (by decide +kernel) ?_
        refine pn_iinc (i := 4) (n := 1) 1 k rfl rfl (by decide) rfl (by decide +kernel) ?_
        refine pw_goto (off := -38) (tgt := 11) (by decide +kernel) (by decide +kernel) ?_
        have q := ih (by omega)
        rw [xFr_y z36] at q
        exact q
)
  refine pw_iconst (n := 0) (v := 0) (by decide) (by decide +kernel) ?_
  refine pw_iload_n (k4 := 1) rfl (by decide +kernel) ?_
  refine pw_mmax (by decide +kernel) lm_Ls_290 (by omega) (Nat.le_of_ble_eq_true rfl) (Nat.le_refl _) (Nat.le_refl _) ?_
  refine pq_istore_n (k4 := 2) (Nat.le_of_ble_eq_true rfl) rfl (by decide +kernel) ?_
  refine pw_iconst (n := 0) (v := 0) (by decide) (by decide +kernel) ?_
  refine pq_istore_n (k4 := 3) (Nat.le_of_ble_eq_true rfl) rfl (by decide +kernel) ?_
  refine pw_iconst (n := 0) (v := 0) (by decide) (by decide +kernel) ?_
  refine pq_istore (i := 4) (Nat.le_of_ble_eq_true rfl) rfl (by decide +kernel) ?_
  exact hL 0 (Nat.zero_le _)

theorem ct_Ls_allHaveClaims {sh : List pSh} {I : Nat → Nat → Int32} {L : Nat → Nat → Int64} {P : Nat → Nat → Option Nat} (hA : kA sh P) {t : Nat} (ht : t = 3 ∨ t = 30) (hxt : P 1 2 = some t) {np ns nd : Nat} (hn : tOK I t np ns nd) (b : Int32) : pCn m_Ls_allHaveClaims 0 [.ref 1, .int b] sh (I, L, P) (rI (B (xClaims (I (t + 5)) b np)) (I, L, P)) := by
  refine pCn_of (by decide +kernel) (Nat.le_of_ble_eq_true rfl) ?_
  have h5 := hn.2.1
  have hL : ¬ b < 0 → b < 1 <<< (nI np &&& 31) → ∀ k, k ≤ np → (∀ a, a < k → xBit b a → ¬ I (t + 5) a = 0) → pWn m_Ls_allHaveClaims 0 sh (rI (B (xClaims (I (t + 5)) b np)) (I, L, P)) 21 [some (.ref 1), some (.int b), some (.int (nI k))] [] (I, L, P) := fun h1 h2 => pUpTo np _ (by
    intro k hk ih hP
    refine pw_iload_n (k4 := 2) rfl (by decide +kernel) ?_
    refine pw_aload_n (k4 := 0) rfl (by decide +kernel) ?_
    refine pq_getP (c := 10) (k := 2) (ks_x hA) (by decide) (by decide) hxt lf_Ls_18 (by decide +kernel) ?_
    refine pq_getI (c := 7) (k := 0) (ks_t hA ht) (by decide) (by decide) lf_Ls_306 (by decide +kernel) ?_
    refine pn_val (nI (np)) hn.1 ?_
    refine pn_icmp_ge (off := 32) (tgt := 61) k np rfl rfl (by omega) (by omega) (by decide +kernel) (by decide +kernel) (fun z29 => ?_) (fun z29 => ?_)
    · obtain rfl : k = np := by omega
      refine pw_iconst (n := 1) (v := 1) (by decide) (by decide +kernel) ?_
      exact pq_zret rfl (by decide) (by decide +kernel) ⟨congrArg (fun z => some (Value.int z)) (B_t ⟨h1, h2, hP⟩).symm, rfl⟩
    · refine pw_iload_n (k4 := 1) rfl (by decide +kernel) ?_
      refine pw_iload_n (k4 := 2) rfl (by decide +kernel) ?_
      refine pw_ishr (by decide +kernel) ?_
      refine pw_iconst (n := 1) (v := 1) (by decide) (by decide +kernel) ?_
      refine pw_iand (by decide +kernel) ?_
      refine pw_iconst (n := 1) (v := 1) (by decide) (by decide +kernel) ?_
      refine pw_icmp_ne (off := 17) (tgt := 55) (by decide +kernel) (by decide +kernel) (fun z38 => ?_) (fun z38 => ?_)
      · refine pn_iinc (i := 2) (n := 1) 1 k rfl rfl (by decide) rfl (by decide +kernel) ?_
        refine pw_goto (off := -37) (tgt := 21) (by decide +kernel) (by decide +kernel) ?_
        exact ih (by omega) (lt_s hP (fun h => absurd h z38))
      · refine pw_aload_n (k4 := 0) rfl (by decide +kernel) ?_
        refine pq_getP (c := 10) (k := 2) (ks_x hA) (by decide) (by decide) hxt lf_Ls_18 (by decide +kernel) ?_
        refine pq_getP (c := 7) (k := 5) (ks_t hA ht) (by decide) (by decide) (kp_t_claim hA ht) lf_Ls_309 (by decide +kernel) ?_
        refine pw_iload_n (k4 := 2) rfl (by decide +kernel) ?_
        refine pq_iald k rfl (by omega) (by decide) (ks_t_claim hA ht) (by decide +kernel) ?_
        refine pw_if_ne (off := 5) (tgt := 55) (by decide +kernel) (by decide +kernel) (fun z50 => ?_) (fun z50 => ?_)
        · refine pn_iinc (i := 2) (n := 1) 1 k rfl rfl (by decide) rfl (by decide +kernel) ?_
          refine pw_goto (off := -37) (tgt := 21) (by decide +kernel) (by decide +kernel) ?_
          exact ih (by omega) (lt_s hP (fun _ => z50))
        · refine pw_iconst (n := 0) (v := 0) (by decide) (by decide +kernel) ?_
          exact pq_zret rfl (by decide) (by decide +kernel) ⟨congrArg (fun z => some (Value.int z)) (B_f (fun h => h.2.2 k (by omega) z38 z50)).symm, rfl⟩
)
  refine pw_iload_n (k4 := 1) rfl (by decide +kernel) ?_
  refine pw_if_lt (off := 16) (tgt := 17) (by decide +kernel) (by decide +kernel) (fun z1 => ?_) (fun z1 => ?_)
  · refine pw_iconst (n := 0) (v := 0) (by decide) (by decide +kernel) ?_
    exact pq_zret rfl (by decide) (by decide +kernel) ⟨congrArg (fun z => some (Value.int z)) (B_f (fun h => h.1 z1)).symm, rfl⟩
  · refine pw_iload_n (k4 := 1) rfl (by decide +kernel) ?_
    refine pw_iconst (n := 1) (v := 1) (by decide) (by decide +kernel) ?_
    refine pw_aload_n (k4 := 0) rfl (by decide +kernel) ?_
    refine pq_getP (c := 10) (k := 2) (ks_x hA) (by decide) (by decide) hxt lf_Ls_18 (by decide +kernel) ?_
    refine pq_getI (c := 7) (k := 0) (ks_t hA ht) (by decide) (by decide) lf_Ls_306 (by decide +kernel) ?_
    refine pn_val (nI np) hn.1 ?_
    refine pw_ishl (by decide +kernel) ?_
    refine pw_icmp_lt (off := 5) (tgt := 19) (by decide +kernel) (by decide +kernel) (fun z14 => ?_) (fun z14 => ?_)
    · refine pw_iconst (n := 0) (v := 0) (by decide) (by decide +kernel) ?_
      refine pq_istore_n (k4 := 2) (Nat.le_of_ble_eq_true rfl) rfl (by decide +kernel) ?_
      exact hL z1 z14 0 (Nat.zero_le _) lt_0
    · refine pw_iconst (n := 0) (v := 0) (by decide) (by decide +kernel) ?_
      exact pq_zret rfl (by decide) (by decide +kernel) ⟨congrArg (fun z => some (Value.int z)) (B_f (fun h => z14 h.2.1)).symm, rfl⟩

theorem ct_Ls_run {sh : List pSh} {I : Nat → Nat → Int32} {L : Nat → Nat → Int64} {P : Nat → Nat → Option Nat} (hA : kA sh P) {w t : Nat} (hw : w = 62 ∨ w = 68 ∨ w = 74) (ht : t = 3 ∨ t = 30) (hwt : P w 0 = some t) (hxt : P 1 2 = some t) (hxw : P 1 7 = some w) {np ns nd : Nat} (hn : tOK I t np ns nd) (b : Int32) : pCn m_Ls_run 2 [.ref 1, .int b] sh (I, L, P) (rIf (xClaims (I (t + 5)) b np) (rI (xRun (I (t + 5)) (xBank I w ns) b np 5) (I, L, P)) (rI (-1) (I, L, P))) := by
  refine pCn_of (by decide +kernel) (Nat.le_of_ble_eq_true rfl) ?_
  have hL : xClaims (I (t + 5)) b np → ∀ k, k ≤ 5 → pWn m_Ls_run 2 sh (rIf (xClaims (I (t + 5)) b np) (rI (xRun (I (t + 5)) (xBank I w ns) b np 5) (I, L, P)) (rI (-1) (I, L, P))) 14 [some (.ref 1), some (.int b), some (.int (xRun (I (t + 5)) (xBank I w ns) b np k)), some (.int (nI k))] [] (I, L, P) := fun hc => pUpTo 5 _ (by
    intro k hk ih
    refine pw_iload_n (k4 := 3) rfl (by decide +kernel) ?_
    refine pw_iconst (n := 5) (v := 5) (by decide) (by decide +kernel) ?_
    refine pn_icmp_ge (off := 26) (tgt := 42) k 5 rfl rfl (by omega) (by omega) (by decide +kernel) (by decide +kernel) (fun z16 => ?_) (fun z16 => ?_)
    · obtain rfl : k = 5 := by omega
      refine pw_iload_n (k4 := 2) rfl (by decide +kernel) ?_
      exact pq_iret rfl (by decide +kernel) ⟨fun _ => ⟨rfl, rfl⟩, fun h => absurd hc h⟩
    · refine pw_iload_n (k4 := 2) rfl (by decide +kernel) ?_
      refine pw_aload_n (k4 := 0) rfl (by decide +kernel) ?_
      refine pw_aload_n (k4 := 0) rfl (by decide +kernel) ?_
      refine pq_callV (ν := m_Ls_bankShoes) (d' := 1) (av := []) (c := 10) (by decide +kernel) lm_Ls_296 ok_Ls_bankShoes (show _ = some 0 by decide +kernel) (ks_x hA) rfl (by decide) (by omega) (Nat.le_of_ble_eq_true rfl) (ct_Ls_bankShoes hA hw ht hwt hxt hxw hn) ?_
      rintro _ _ ⟨rfl, rfl⟩
      refine pw_aload_n (k4 := 0) rfl (by decide +kernel) ?_
      refine pw_iload_n (k4 := 2) rfl (by decide +kernel) ?_
      refine pq_callV (ν := m_Ls_claimed) (d' := 0) (av := [_]) (c := 10) (by decide +kernel) lm_Ls_300 ok_Ls_claimed (show _ = some 1 by decide +kernel) (ks_x hA) rfl (by decide) (by omega) (Nat.le_of_ble_eq_true rfl) (ct_Ls_claimed hA ht hxt hn _) ?_
      rintro _ _ ⟨rfl, rfl⟩
      refine pw_isub (by decide +kernel) ?_
      refine pq_callV (ν := m_Ls_frightened) (d' := 1) (av := [_]) (c := 10) (by decide +kernel) lm_Ls_303 ok_Ls_frightened (show _ = some 1 by decide +kernel) (ks_x hA) rfl (by decide) (by omega) (Nat.le_of_ble_eq_true rfl) (ct_Ls_frightened hA ht hxt hn _) ?_
      rintro _ _ ⟨rfl, rfl⟩
      refine pw_ior (by decide +kernel) ?_
      refine pq_istore_n (k4 := 2) (Nat.le_of_ble_eq_true rfl) rfl (by decide +kernel) ?_
      refine pn_iinc (i := 3) (n := 1) 1 k rfl rfl (by decide) rfl (by decide +kernel) ?_
      refine pw_goto (off := -25) (tgt := 14) (by decide +kernel) (by decide +kernel) ?_
      exact ih (by omega)
)
  refine pw_aload_n (k4 := 0) rfl (by decide +kernel) ?_
  refine pw_iload_n (k4 := 1) rfl (by decide +kernel) ?_
  refine pq_callV (ν := m_Ls_allHaveClaims) (d' := 0) (av := [_]) (c := 10) (by decide +kernel) lm_Ls_293 ok_Ls_allHaveClaims (show _ = some 1 by decide +kernel) (ks_x hA) rfl (by decide) (by omega) (Nat.le_of_ble_eq_true rfl) (ct_Ls_allHaveClaims hA ht hxt hn _) ?_
  rintro _ _ ⟨rfl, rfl⟩
  refine pn_ifB_ne (off := 5) (tgt := 10) (by decide +kernel) (by decide +kernel) (fun z5 => ?_) (fun z5 => ?_)
  · refine pw_iload_n (k4 := 1) rfl (by decide +kernel) ?_
    refine pq_istore_n (k4 := 2) (Nat.le_of_ble_eq_true rfl) rfl (by decide +kernel) ?_
    refine pw_iconst (n := 0) (v := 0) (by decide) (by decide +kernel) ?_
    refine pq_istore_n (k4 := 3) (Nat.le_of_ble_eq_true rfl) rfl (by decide +kernel) ?_
    exact hL z5 0 (Nat.zero_le _)
  · refine pw_iconst (n := -1) (v := -1) (by decide) (by decide +kernel) ?_
    exact pq_iret rfl (by decide +kernel) ⟨fun h => absurd h z5, fun _ => ⟨rfl, rfl⟩⟩

def xSave (f : Nat → Int32) (bank b : Int32) (np : Nat) : Int32 := if xGr f b np = 0 then 0 else iMax 0 (2 * xGr f b np + xCl f b np - bank)

theorem ct_Ls_save {sh : List pSh} {I : Nat → Nat → Int32} {L : Nat → Nat → Int64} {P : Nat → Nat → Option Nat} (hA : kA sh P) {w t : Nat} (hw : w = 62 ∨ w = 68 ∨ w = 74) (ht : t = 3 ∨ t = 30) (hwt : P w 0 = some t) (hxt : P 1 2 = some t) (hxw : P 1 7 = some w) {np ns nd : Nat} (hn : tOK I t np ns nd) (b : Int32) : pCn m_Ls_save 2 [.ref 1, .int b] sh (I, L, P) (rIf (xClaims (I (t + 5)) b np) (rI (xSave (I (t + 5)) (xBank I w ns) b np) (I, L, P)) (rI (-1) (I, L, P))) := by
  refine pCn_of (by decide +kernel) (Nat.le_of_ble_eq_true rfl) ?_
  have h5 := hn.2.1
  have hL : xClaims (I (t + 5)) b np → ∀ k, k ≤ np → pWn m_Ls_save 2 sh (rIf (xClaims (I (t + 5)) b np) (rI (xSave (I (t + 5)) (xBank I w ns) b np) (I, L, P)) (rI (-1) (I, L, P))) 14 [some (.ref 1), some (.int b), some (.int (xGr (I (t + 5)) b k)), some (.int (nI k))] [] (I, L, P) := fun hc => pUpTo np _ (by
    intro k hk ih
    refine pw_iload_n (k4 := 3) rfl (by decide +kernel) ?_
    refine pw_aload_n (k4 := 0) rfl (by decide +kernel) ?_
    refine pq_getP (c := 10) (k := 2) (ks_x hA) (by decide) (by decide) hxt lf_Ls_18 (by decide +kernel) ?_
    refine pq_getI (c := 7) (k := 0) (ks_t hA ht) (by decide) (by decide) lf_Ls_306 (by decide +kernel) ?_
    refine pn_val (nI (np)) hn.1 ?_
    refine pn_icmp_ge (off := 31) (tgt := 53) k np rfl rfl (by omega) (by omega) (by decide +kernel) (by decide +kernel) (fun z22 => ?_) (fun z22 => ?_)
    · obtain rfl : k = np := by omega
      refine pw_iload_n (k4 := 2) rfl (by decide +kernel) ?_
      refine pw_if_ne (off := 5) (tgt := 59) (by decide +kernel) (by decide +kernel) (fun z54 => ?_) (fun z54 => ?_)
      · refine pw_iconst (n := 0) (v := 0) (by decide) (by decide +kernel) ?_
        refine pw_iconst (n := 2) (v := 2) (by decide) (by decide +kernel) ?_
        refine pw_iload_n (k4 := 2) rfl (by decide +kernel) ?_
        refine pw_imul (by decide +kernel) ?_
        refine pw_aload_n (k4 := 0) rfl (by decide +kernel) ?_
        refine pw_iload_n (k4 := 1) rfl (by decide +kernel) ?_
        refine pq_callV (ν := m_Ls_claimed) (d' := 0) (av := [_]) (c := 10) (by decide +kernel) lm_Ls_300 ok_Ls_claimed (show _ = some 1 by decide +kernel) (ks_x hA) rfl (by decide) (by omega) (Nat.le_of_ble_eq_true rfl) (ct_Ls_claimed hA ht hxt hn _) ?_
        rintro _ _ ⟨rfl, rfl⟩
        refine pw_iadd (by decide +kernel) ?_
        refine pw_aload_n (k4 := 0) rfl (by decide +kernel) ?_
        refine pq_callV (ν := m_Ls_bankShoes) (d' := 1) (av := []) (c := 10) (by decide +kernel) lm_Ls_296 ok_Ls_bankShoes (show _ = some 0 by decide +kernel) (ks_x hA) rfl (by decide) (by omega) (Nat.le_of_ble_eq_true rfl) (ct_Ls_bankShoes hA hw ht hwt hxt hxw hn) ?_
        rintro _ _ ⟨rfl, rfl⟩
        refine pw_isub (by decide +kernel) ?_
        refine pw_mmax (by decide +kernel) lm_Ls_290 (by omega) (Nat.le_of_ble_eq_true rfl) (Nat.le_refl _) (Nat.le_refl _) ?_
        exact pq_iret rfl (by decide +kernel) ⟨fun _ => ⟨congrArg (fun z => some (Value.int z)) (if_neg z54).symm, rfl⟩, fun h => absurd hc h⟩
      · refine pw_iconst (n := 0) (v := 0) (by decide) (by decide +kernel) ?_
        exact pq_iret rfl (by decide +kernel) ⟨fun _ => ⟨congrArg (fun z => some (Value.int z)) (if_pos z54).symm, rfl⟩, fun h => absurd hc h⟩
    · refine pw_iload_n (k4 := 1) rfl (by decide +kernel) ?_
      refine pw_iload_n (k4 := 3) rfl (by decide +kernel) ?_
      refine pw_ishr (by decide +kernel) ?_
      refine pw_iconst (n := 1) (v := 1) (by decide) (by decide +kernel) ?_
      refine pw_iand (by decide +kernel) ?_
      refine pw_if_ne (off := 17) (tgt := 47) (by decide +kernel) (by decide +kernel) (fun z30 => ?_) (fun z30 => ?_)
      · refine pn_iinc (i := 3) (n := 1) 1 k rfl rfl (by decide) rfl (by decide +kernel) ?_
        refine pw_goto (off := -36) (tgt := 14) (by decide +kernel) (by decide +kernel) ?_
        have q := ih (by omega)
        rw [xGr_n z30] at q
        exact q
      · refine pw_iload_n (k4 := 2) rfl (by decide +kernel) ?_
        refine pw_aload_n (k4 := 0) rfl (by decide +kernel) ?_
        refine pq_getP (c := 10) (k := 2) (ks_x hA) (by decide) (by decide) hxt lf_Ls_18 (by decide +kernel) ?_
        refine pq_getP (c := 7) (k := 5) (ks_t hA ht) (by decide) (by decide) (kp_t_claim hA ht) lf_Ls_309 (by decide +kernel) ?_
        refine pw_iload_n (k4 := 3) rfl (by decide +kernel) ?_
        refine pq_iald k rfl (by omega) (by decide) (ks_t_claim hA ht) (by decide +kernel) ?_
        refine pw_mmax (by decide +kernel) lm_Ls_290 (by omega) (Nat.le_of_ble_eq_true rfl) (Nat.le_refl _) (Nat.le_refl _) ?_
        refine pq_istore_n (k4 := 2) (Nat.le_of_ble_eq_true rfl) rfl (by decide +kernel) ?_
        refine pn_iinc (i := 3) (n := 1) 1 k rfl rfl (by decide) rfl (by decide +kernel) ?_
        refine pw_goto (off := -36) (tgt := 14) (by decide +kernel) (by decide +kernel) ?_
        have q := ih (by omega)
        rw [xGr_y z30] at q
        exact q
)
  refine pw_aload_n (k4 := 0) rfl (by decide +kernel) ?_
  refine pw_iload_n (k4 := 1) rfl (by decide +kernel) ?_
  refine pq_callV (ν := m_Ls_allHaveClaims) (d' := 0) (av := [_]) (c := 10) (by decide +kernel) lm_Ls_293 ok_Ls_allHaveClaims (show _ = some 1 by decide +kernel) (ks_x hA) rfl (by decide) (by omega) (Nat.le_of_ble_eq_true rfl) (ct_Ls_allHaveClaims hA ht hxt hn _) ?_
  rintro _ _ ⟨rfl, rfl⟩
  refine pn_ifB_ne (off := 5) (tgt := 10) (by decide +kernel) (by decide +kernel) (fun z5 => ?_) (fun z5 => ?_)
  · refine pw_iconst (n := 0) (v := 0) (by decide) (by decide +kernel) ?_
    refine pq_istore_n (k4 := 2) (Nat.le_of_ble_eq_true rfl) rfl (by decide +kernel) ?_
    refine pw_iconst (n := 0) (v := 0) (by decide) (by decide +kernel) ?_
    refine pq_istore_n (k4 := 3) (Nat.le_of_ble_eq_true rfl) rfl (by decide +kernel) ?_
    exact hL z5 0 (Nat.zero_le _)
  · refine pw_iconst (n := -1) (v := -1) (by decide) (by decide +kernel) ?_
    exact pq_iret rfl (by decide +kernel) ⟨fun h => absurd h z5, fun _ => ⟨rfl, rfl⟩⟩

def xCount (I : Nat → Nat → Int32) (t w ns nd : Nat) : Nat → Int32
  | 0 => I t 0 | 1 => I t 6 | 2 => I t 12 | 3 => I (t + 15) 0 | 4 => I (t + 19) 0 | 5 => I w 1 | 6 => xBc (shBits (I (w + 3)) (-2) ns) | 7 => xBank I w ns
  | 8 => sumW (xWorthNow I t w) (fun _ => true) ns | 9 => cntI (I (w + 5)) 1 nd | 10 => cntI (I (w + 5)) 2 nd | 11 => I 123 0 | 12 => xKn I | 13 => I 80 0 | _ => -1
def rCnt (I : Nat → Nat → Int32) (P : Nat → Nat → Option Nat) (t w ns nd : Nat) (q : Int32) : Option Value → pM → Prop := fun r M => (∃ v, r = some (.int v) ∧ (∀ j, j < 14 → q = nI j → v = xCount I t w ns nd j) ∧ ((∀ j, j < 14 → ¬ q = nI j) → v = -1)) ∧ ∃ L', M = (I, L', P)
theorem cnt_eq {I : Nat → Nat → Int32} {t w ns nd i : Nat} {q v : Int32} (hi : i < 14) (hq : q = nI i) (hv : v = xCount I t w ns nd i) : (∀ j, j < 14 → q = nI j → v = xCount I t w ns nd j) ∧ ((∀ j, j < 14 → ¬ q = nI j) → v = -1) :=
  ⟨fun j hj e => by rw [hq, nI_eq (by omega) (by omega)] at e; rw [← e]; exact hv, fun h => absurd hq (h i hi)⟩

theorem ct_Ls_count {sh : List pSh} {I : Nat → Nat → Int32} {L : Nat → Nat → Int64} {P : Nat → Nat → Option Nat} (hA : kA sh P) {w t : Nat} (hw : w = 62 ∨ w = 68 ∨ w = 74) (ht : t = 3 ∨ t = 30) (hwt : P w 0 = some t) (hxt : P 1 2 = some t) (hxw : P 1 7 = some w) {np ns nd : Nat} (hn : tOK I t np ns nd) (hl : lOK I t) (q : Int32) : pCn m_Ls_count 6 [.ref 1, .int q] sh (I, L, P) (rCnt I P t w ns nd q) := by
  refine pCn_of (by decide +kernel) (Nat.le_of_ble_eq_true rfl) ?_
  refine pw_iload_n (k4 := 1) rfl (by decide +kernel) ?_
  have hsw1 : decode m_Ls_count.2.1 1 = .ok (.tableswitch 193 0 13 #[71, 79, 87, 95, 106, 117, 125, 138, 143, 151, 160, 169, 177, 185], 71) := by decide +kernel
  rcases swIn q 0 13 (by decide) (by decide) with z1 | ⟨j1, z1, y1, e1⟩
  · refine pw_tableOut (tgt := 194) hsw1 z1 (by decide +kernel) ?_
    refine pw_iconst (n := -1) (v := -1) (by decide) (by decide +kernel) ?_
    exact pq_iret rfl (by decide +kernel) ⟨⟨_, rfl, fun j hj e => absurd e (sw_ne z1 (by omega) (by omega) (by omega)), fun _ => rfl⟩, _, rfl⟩
  · rcases (show j1 = 0 ∨ j1 = 1 ∨ j1 = 2 ∨ j1 = 3 ∨ j1 = 4 ∨ j1 = 5 ∨ j1 = 6 ∨ j1 = 7 ∨ j1 = 8 ∨ j1 = 9 ∨ j1 = 10 ∨ j1 = 11 ∨ j1 = 12 ∨ j1 = 13 by omega) with rfl | rfl | rfl | rfl | rfl | rfl | rfl | rfl | rfl | rfl | rfl | rfl | rfl | rfl
    · refine pw_tableIn (off := 71) (tgt := 72) hsw1 (by rw [e1]; decide) (by rw [e1]; decide) (by rw [e1]; decide) (by decide +kernel) ?_
      refine pw_aload_n (k4 := 0) rfl (by decide +kernel) ?_
      refine pq_getP (c := 10) (k := 2) (ks_x hA) (by decide) (by decide) hxt lf_Ls_18 (by decide +kernel) ?_
      refine pq_getI (c := 7) (k := 0) (ks_t hA ht) (by decide) (by decide) lf_Ls_306 (by decide +kernel) ?_
      exact pq_iret rfl (by decide +kernel) ⟨⟨_, rfl, cnt_eq (by decide) e1 rfl⟩, _, rfl⟩
    · refine pw_tableIn (off := 79) (tgt := 80) hsw1 (by rw [e1]; decide) (by rw [e1]; decide) (by rw [e1]; decide) (by decide +kernel) ?_
      refine pw_aload_n (k4 := 0) rfl (by decide +kernel) ?_
      refine pq_getP (c := 10) (k := 2) (ks_x hA) (by decide) (by decide) hxt lf_Ls_18 (by decide +kernel) ?_
      refine pq_getI (c := 7) (k := 6) (ks_t hA ht) (by decide) (by decide) lf_Ls_353 (by decide +kernel) ?_
      exact pq_iret rfl (by decide +kernel) ⟨⟨_, rfl, cnt_eq (by decide) e1 rfl⟩, _, rfl⟩
    · refine pw_tableIn (off := 87) (tgt := 88) hsw1 (by rw [e1]; decide) (by rw [e1]; decide) (by rw [e1]; decide) (by decide +kernel) ?_
      refine pw_aload_n (k4 := 0) rfl (by decide +kernel) ?_
      refine pq_getP (c := 10) (k := 2) (ks_x hA) (by decide) (by decide) hxt lf_Ls_18 (by decide +kernel) ?_
      refine pq_getI (c := 7) (k := 12) (ks_t hA ht) (by decide) (by decide) lf_Ls_179 (by decide +kernel) ?_
      exact pq_iret rfl (by decide +kernel) ⟨⟨_, rfl, cnt_eq (by decide) e1 rfl⟩, _, rfl⟩
    · refine pw_tableIn (off := 95) (tgt := 96) hsw1 (by rw [e1]; decide) (by rw [e1]; decide) (by rw [e1]; decide) (by decide +kernel) ?_
      refine pw_aload_n (k4 := 0) rfl (by decide +kernel) ?_
      refine pq_getP (c := 10) (k := 2) (ks_x hA) (by decide) (by decide) hxt lf_Ls_18 (by decide +kernel) ?_
      refine pq_getP (c := 7) (k := 17) (ks_t hA ht) (by decide) (by decide) (kp_t_swaps hA ht) lf_Ls_331 (by decide +kernel) ?_
      refine pq_getI (c := 6) (k := 0) (ks_t_swaps hA ht) (by decide) (by decide) lf_Ls_388 (by decide +kernel) ?_
      exact pq_iret rfl (by decide +kernel) ⟨⟨_, rfl, cnt_eq (by decide) e1 rfl⟩, _, rfl⟩
    · refine pw_tableIn (off := 106) (tgt := 107) hsw1 (by rw [e1]; decide) (by rw [e1]; decide) (by rw [e1]; decide) (by decide +kernel) ?_
      refine pw_aload_n (k4 := 0) rfl (by decide +kernel) ?_
      refine pq_getP (c := 10) (k := 2) (ks_x hA) (by decide) (by decide) hxt lf_Ls_18 (by decide +kernel) ?_
      refine pq_getP (c := 7) (k := 18) (ks_t hA ht) (by decide) (by decide) (kp_t_laws hA ht) lf_Ls_391 (by decide +kernel) ?_
      refine pq_getI (c := 2) (k := 0) (ks_t_laws hA ht) (by decide) (by decide) lf_Ls_395 (by decide +kernel) ?_
      exact pq_iret rfl (by decide +kernel) ⟨⟨_, rfl, cnt_eq (by decide) e1 rfl⟩, _, rfl⟩
    · refine pw_tableIn (off := 117) (tgt := 118) hsw1 (by rw [e1]; decide) (by rw [e1]; decide) (by rw [e1]; decide) (by decide +kernel) ?_
      refine pw_aload_n (k4 := 0) rfl (by decide +kernel) ?_
      refine pq_getP (c := 10) (k := 7) (ks_x hA) (by decide) (by decide) hxw lf_Ls_43 (by decide +kernel) ?_
      refine pq_getI (c := 9) (k := 1) (ks_w hA hw) (by decide) (by decide) lf_Ls_214 (by decide +kernel) ?_
      exact pq_iret rfl (by decide +kernel) ⟨⟨_, rfl, cnt_eq (by decide) e1 rfl⟩, _, rfl⟩
    · refine pw_tableIn (off := 125) (tgt := 126) hsw1 (by rw [e1]; decide) (by rw [e1]; decide) (by rw [e1]; decide) (by decide +kernel) ?_
      refine pw_aload_n (k4 := 0) rfl (by decide +kernel) ?_
      refine pq_getP (c := 10) (k := 7) (ks_x hA) (by decide) (by decide) hxw lf_Ls_43 (by decide +kernel) ?_
      refine pw_bipush (n := -2) (v := -2) (by decide) (by decide +kernel) ?_
      refine pq_callV (ν := m_Wo_shoesOf) (d' := 0) (av := [_]) (c := 9) (by decide +kernel) lm_Ls_171 ok_Wo_shoesOf (show _ = some 1 by decide +kernel) (ks_w hA hw) rfl (by decide) (by omega) (Nat.le_of_ble_eq_true rfl) (ct_Wo_shoesOf hA hw ht hwt hn _) ?_
      rintro _ _ ⟨rfl, rfl⟩
      refine pq_callS (ν := m_In_bitCount) (d' := 0) (av := [_]) (by decide +kernel) lm_Ls_174 ok_In_bitCount (show _ = some 1 by decide +kernel) (by omega) (Nat.le_of_ble_eq_true rfl) (ct_In_bitCount _) ?_
      rintro _ _ ⟨rfl, rfl⟩
      exact pq_iret rfl (by decide +kernel) ⟨⟨_, rfl, cnt_eq (by decide) e1 rfl⟩, _, rfl⟩
    · refine pw_tableIn (off := 138) (tgt := 139) hsw1 (by rw [e1]; decide) (by rw [e1]; decide) (by rw [e1]; decide) (by decide +kernel) ?_
      refine pw_aload_n (k4 := 0) rfl (by decide +kernel) ?_
      refine pq_callV (ν := m_Ls_bankShoes) (d' := 1) (av := []) (c := 10) (by decide +kernel) lm_Ls_296 ok_Ls_bankShoes (show _ = some 0 by decide +kernel) (ks_x hA) rfl (by decide) (by omega) (Nat.le_of_ble_eq_true rfl) (ct_Ls_bankShoes hA hw ht hwt hxt hxw hn) ?_
      rintro _ _ ⟨rfl, rfl⟩
      exact pq_iret rfl (by decide +kernel) ⟨⟨_, rfl, cnt_eq (by decide) e1 rfl⟩, _, rfl⟩
    · refine pw_tableIn (off := 143) (tgt := 144) hsw1 (by rw [e1]; decide) (by rw [e1]; decide) (by rw [e1]; decide) (by decide +kernel) ?_
      refine pw_aload_n (k4 := 0) rfl (by decide +kernel) ?_
      refine pq_getP (c := 10) (k := 7) (ks_x hA) (by decide) (by decide) hxw lf_Ls_43 (by decide +kernel) ?_
      refine pq_callV (ν := m_Wo_worthOfAll) (d' := 5) (av := []) (c := 9) (by decide +kernel) lm_Ls_380 ok_Wo_worthOfAll (show _ = some 0 by decide +kernel) (ks_w hA hw) rfl (by decide) (by omega) (Nat.le_of_ble_eq_true rfl) (ct_Wo_worthOfAll hA hw ht hwt hn hl) ?_
      rintro _ _ ⟨rfl, L', rfl⟩
      exact pq_iret rfl (by decide +kernel) ⟨⟨_, rfl, cnt_eq (by decide) e1 rfl⟩, _, rfl⟩
    · refine pw_tableIn (off := 151) (tgt := 152) hsw1 (by rw [e1]; decide) (by rw [e1]; decide) (by rw [e1]; decide) (by decide +kernel) ?_
      refine pw_aload_n (k4 := 0) rfl (by decide +kernel) ?_
      refine pq_getP (c := 10) (k := 7) (ks_x hA) (by decide) (by decide) hxw lf_Ls_43 (by decide +kernel) ?_
      refine pw_iconst (n := 1) (v := 1) (by decide) (by decide +kernel) ?_
      refine pq_callV (ν := m_Wo_debtsThatAre) (d' := 0) (av := [_]) (c := 9) (by decide +kernel) lm_Ls_400 ok_Wo_debtsThatAre (show _ = some 1 by decide +kernel) (ks_w hA hw) rfl (by decide) (by omega) (Nat.le_of_ble_eq_true rfl) (ct_Wo_debtsThatAre hA hw ht hwt hn _) ?_
      rintro _ _ ⟨rfl, rfl⟩
      exact pq_iret rfl (by decide +kernel) ⟨⟨_, rfl, cnt_eq (by decide) e1 rfl⟩, _, rfl⟩
    · refine pw_tableIn (off := 160) (tgt := 161) hsw1 (by rw [e1]; decide) (by rw [e1]; decide) (by rw [e1]; decide) (by decide +kernel) ?_
      refine pw_aload_n (k4 := 0) rfl (by decide +kernel) ?_
      refine pq_getP (c := 10) (k := 7) (ks_x hA) (by decide) (by decide) hxw lf_Ls_43 (by decide +kernel) ?_
      refine pw_iconst (n := 2) (v := 2) (by decide) (by decide +kernel) ?_
      refine pq_callV (ν := m_Wo_debtsThatAre) (d' := 0) (av := [_]) (c := 9) (by decide +kernel) lm_Ls_400 ok_Wo_debtsThatAre (show _ = some 1 by decide +kernel) (ks_w hA hw) rfl (by decide) (by omega) (Nat.le_of_ble_eq_true rfl) (ct_Wo_debtsThatAre hA hw ht hwt hn _) ?_
      rintro _ _ ⟨rfl, rfl⟩
      exact pq_iret rfl (by decide +kernel) ⟨⟨_, rfl, cnt_eq (by decide) e1 rfl⟩, _, rfl⟩
    · refine pw_tableIn (off := 169) (tgt := 170) hsw1 (by rw [e1]; decide) (by rw [e1]; decide) (by rw [e1]; decide) (by decide +kernel) ?_
      refine pw_aload_n (k4 := 0) rfl (by decide +kernel) ?_
      refine pq_getP (c := 10) (k := 12) (ks_x hA) (by decide) (by decide) (kp_x_tracks hA) lf_Ls_63 (by decide +kernel) ?_
      refine pq_getI (c := 8) (k := 0) (ks_tr hA) (by decide) (by decide) lf_Ls_315 (by decide +kernel) ?_
      exact pq_iret rfl (by decide +kernel) ⟨⟨_, rfl, cnt_eq (by decide) e1 rfl⟩, _, rfl⟩
    · refine pw_tableIn (off := 177) (tgt := 178) hsw1 (by rw [e1]; decide) (by rw [e1]; decide) (by rw [e1]; decide) (by decide +kernel) ?_
      refine pw_aload_n (k4 := 0) rfl (by decide +kernel) ?_
      refine pq_getP (c := 10) (k := 12) (ks_x hA) (by decide) (by decide) (kp_x_tracks hA) lf_Ls_63 (by decide +kernel) ?_
      refine pq_callV (ν := m_Tr_knownBy) (d' := 0) (av := []) (c := 8) (by decide +kernel) lm_Ls_403 ok_Tr_knownBy (show _ = some 0 by decide +kernel) (ks_tr hA) rfl (by decide) (by omega) (Nat.le_of_ble_eq_true rfl) (ct_Tr_knownBy hA) ?_
      rintro _ _ ⟨rfl, rfl⟩
      exact pq_iret rfl (by decide +kernel) ⟨⟨_, rfl, cnt_eq (by decide) e1 rfl⟩, _, rfl⟩
    · refine pw_tableIn (off := 185) (tgt := 186) hsw1 (by rw [e1]; decide) (by rw [e1]; decide) (by rw [e1]; decide) (by decide +kernel) ?_
      refine pw_aload_n (k4 := 0) rfl (by decide +kernel) ?_
      refine pq_getP (c := 10) (k := 11) (ks_x hA) (by decide) (by decide) (kp_x_history hA) lf_Ls_56 (by decide +kernel) ?_
      refine pq_getI (c := 1) (k := 0) (ks_hi hA) (by decide) (by decide) lf_Ls_387 (by decide +kernel) ?_
      exact pq_iret rfl (by decide +kernel) ⟨⟨_, rfl, cnt_eq (by decide) e1 rfl⟩, _, rfl⟩

abbrev xCanTry (I : Nat → Nat → Int32) (t : Nat) (a i : Int32) : Prop := if a = 2 then xHasP I t i else if a = 3 then xHasS I t i else i = 0 ∧ (a = 0 ∨ a = 1 ∨ a = 4)
def xNext (n : Int32) : Int32 := ((n.toInt64 * 1103515245 + 12345) &&& 2147483647).toInt32

theorem B_iff {a b : Prop} [Decidable a] [Decidable b] (h : b ↔ a) : B a = B b := by
  unfold B
  by_cases e : a
  · rw [if_pos e, if_pos (h.mpr e)]
  · rw [if_neg e, if_neg (fun q => e (h.mp q))]

theorem ct_Ls_canTry {sh : List pSh} {I : Nat → Nat → Int32} {L : Nat → Nat → Int64} {P : Nat → Nat → Option Nat} (hA : kA sh P) {t : Nat} (ht : t = 3 ∨ t = 30) (hxt : P 1 2 = some t) (a i : Int32) : pCn m_Ls_canTry 1 [.ref 1, .int a, .int i] sh (I, L, P) (rI (B (xCanTry I t a i)) (I, L, P)) := by
  refine pCn_of (by decide +kernel) (Nat.le_of_ble_eq_true rfl) ?_
  refine pw_iload_n (k4 := 1) rfl (by decide +kernel) ?_
  refine pw_iconst (n := 2) (v := 2) (by decide) (by decide +kernel) ?_
  refine pw_icmp_ne (off := 12) (tgt := 14) (by decide +kernel) (by decide +kernel) (fun z2 => ?_) (fun z2 => ?_)
  · refine pw_iload_n (k4 := 1) rfl (by decide +kernel) ?_
    refine pw_iconst (n := 3) (v := 3) (by decide) (by decide +kernel) ?_
    refine pw_icmp_ne (off := 12) (tgt := 28) (by decide +kernel) (by decide +kernel) (fun z16 => ?_) (fun z16 => ?_)
    · refine pw_iload_n (k4 := 2) rfl (by decide +kernel) ?_
      refine pw_if_ne (off := 21) (tgt := 50) (by decide +kernel) (by decide +kernel) (fun z29 => ?_) (fun z29 => ?_)
      · refine pw_iconst (n := 0) (v := 0) (by decide) (by decide +kernel) ?_
        exact pq_zret rfl (by decide) (by decide +kernel) ⟨congrArg (fun z => some (Value.int z)) (B_f (by unfold xCanTry; rw [if_neg z2, if_neg z16]; exact fun h => z29 h.1)).symm, rfl⟩
      · refine pw_iload_n (k4 := 1) rfl (by decide +kernel) ?_
        refine pw_if_eq (off := 13) (tgt := 46) (by decide +kernel) (by decide +kernel) (fun z33 => ?_) (fun z33 => ?_)
        · refine pw_iconst (n := 1) (v := 1) (by decide) (by decide +kernel) ?_
          refine pw_goto (off := 4) (tgt := 51) (by decide +kernel) (by decide +kernel) ?_
          exact pq_zret rfl (by decide) (by decide +kernel) ⟨congrArg (fun z => some (Value.int z)) (B_t (by unfold xCanTry; rw [if_neg z2, if_neg z16]; exact ⟨z29, Or.inl z33⟩)).symm, rfl⟩
        · refine pw_iload_n (k4 := 1) rfl (by decide +kernel) ?_
          refine pw_iconst (n := 1) (v := 1) (by decide) (by decide +kernel) ?_
          refine pw_icmp_eq (off := 8) (tgt := 46) (by decide +kernel) (by decide +kernel) (fun z38 => ?_) (fun z38 => ?_)
          · refine pw_iconst (n := 1) (v := 1) (by decide) (by decide +kernel) ?_
            refine pw_goto (off := 4) (tgt := 51) (by decide +kernel) (by decide +kernel) ?_
            exact pq_zret rfl (by decide) (by decide +kernel) ⟨congrArg (fun z => some (Value.int z)) (B_t (by unfold xCanTry; rw [if_neg z2, if_neg z16]; exact ⟨z29, Or.inr (Or.inl z38)⟩)).symm, rfl⟩
          · refine pw_iload_n (k4 := 1) rfl (by decide +kernel) ?_
            refine pw_iconst (n := 4) (v := 4) (by decide) (by decide +kernel) ?_
            refine pw_icmp_ne (off := 7) (tgt := 50) (by decide +kernel) (by decide +kernel) (fun z43 => ?_) (fun z43 => ?_)
            · refine pw_iconst (n := 0) (v := 0) (by decide) (by decide +kernel) ?_
              exact pq_zret rfl (by decide) (by decide +kernel) ⟨congrArg (fun z => some (Value.int z)) (B_f (by unfold xCanTry; rw [if_neg z2, if_neg z16]; exact fun h => h.2.elim z33 (fun h => h.elim z38 z43))).symm, rfl⟩
            · refine pw_iconst (n := 1) (v := 1) (by decide) (by decide +kernel) ?_
              refine pw_goto (off := 4) (tgt := 51) (by decide +kernel) (by decide +kernel) ?_
              exact pq_zret rfl (by decide) (by decide +kernel) ⟨congrArg (fun z => some (Value.int z)) (B_t (by unfold xCanTry; rw [if_neg z2, if_neg z16]; exact ⟨z29, Or.inr (Or.inr z43)⟩)).symm, rfl⟩
    · refine pw_aload_n (k4 := 0) rfl (by decide +kernel) ?_
      refine pq_getP (c := 10) (k := 2) (ks_x hA) (by decide) (by decide) hxt lf_Ls_18 (by decide +kernel) ?_
      refine pw_iload_n (k4 := 2) rfl (by decide +kernel) ?_
      refine pq_callV (ν := m_Ta_hasShoe) (d' := 0) (av := [_]) (c := 7) (by decide +kernel) lm_Ls_125 ok_Ta_hasShoe (show _ = some 1 by decide +kernel) (ks_t hA ht) rfl (by decide) (by omega) (Nat.le_of_ble_eq_true rfl) (ct_Ta_hasShoe hA ht _) ?_
      rintro _ _ ⟨rfl, rfl⟩
      exact pq_zret rfl (B_01 _) (by decide +kernel) ⟨congrArg (fun z => some (Value.int z)) (B_iff (by unfold xCanTry; rw [if_neg z2, if_pos z16])), rfl⟩
  · refine pw_aload_n (k4 := 0) rfl (by decide +kernel) ?_
    refine pq_getP (c := 10) (k := 2) (ks_x hA) (by decide) (by decide) hxt lf_Ls_18 (by decide +kernel) ?_
    refine pw_iload_n (k4 := 2) rfl (by decide +kernel) ?_
    refine pq_callV (ν := m_Ta_hasPerson) (d' := 0) (av := [_]) (c := 7) (by decide +kernel) lm_Ls_162 ok_Ta_hasPerson (show _ = some 1 by decide +kernel) (ks_t hA ht) rfl (by decide) (by omega) (Nat.le_of_ble_eq_true rfl) (ct_Ta_hasPerson hA ht _) ?_
    rintro _ _ ⟨rfl, rfl⟩
    exact pq_zret rfl (B_01 _) (by decide +kernel) ⟨congrArg (fun z => some (Value.int z)) (B_iff (by unfold xCanTry; rw [if_pos z2])), rfl⟩

theorem ct_Ls_nextNumber {sh : List pSh} {I : Nat → Nat → Int32} {L : Nat → Nat → Int64} {P : Nat → Nat → Option Nat} (n : Int32) : pCn m_Ls_nextNumber 0 [.int n] sh (I, L, P) (rI (xNext n) (I, L, P)) := by
  refine pCn_of (by decide +kernel) (Nat.le_of_ble_eq_true rfl) ?_
  refine pw_iload_n (k4 := 0) rfl (by decide +kernel) ?_
  refine pw_i2l (by decide +kernel) ?_
  refine pw_ldc2 lc_Ls_359 (by decide +kernel) ?_
  refine pw_lmul (by decide +kernel) ?_
  refine pw_ldc2 lc_Ls_361 (by decide +kernel) ?_
  refine pw_ladd (by decide +kernel) ?_
  refine pw_ldc2 lc_Ls_363 (by decide +kernel) ?_
  refine pw_land (by decide +kernel) ?_
  refine pw_l2i (by decide +kernel) ?_
  exact pq_iret rfl (by decide +kernel) ⟨rfl, rfl⟩

def shv : Nat → Int32 | 0 => 24 | 1 => 16 | 2 => 8 | 3 => 0 | _ => -8
theorem shv_ok : ∀ k, k < 4 → ¬ shv k < 0 ∧ shv k + (-8) = shv (k + 1) := by decide
def byteOf (x : Int32) (k : Nat) : Int32 := (x >>> (shv k &&& 31)).toInt8.toInt32.toInt8.toInt32
def putB (I : Nat → Nat → Int32) (tp : Nat) (x : Int32) : Nat → Nat → Nat → Int32
  | 0 => I
  | k + 1 => sI (sI (putB I tp x k) 2 (tp + k) (byteOf x k)) 1 1 (nI (tp + k + 1))
theorem putB_n {I : Nat → Nat → Int32} {tp : Nat} {x : Int32} (h : I 1 1 = nI tp) : ∀ k, putB I tp x k 1 1 = nI (tp + k)
  | 0 => h
  | k + 1 => sI_rs
def feedI (I : Nat → Nat → Int32) (tp : Nat) (a b c d e : Int32) : Nat → Nat → Int32 := putB (putB (putB (putB (putB I tp a 4) (tp + 4) b 4) (tp + 8) c 4) (tp + 12) d 4) (tp + 16) e 4

theorem ct_Ls_putBytes {sh : List pSh} {I : Nat → Nat → Int32} {L : Nat → Nat → Int64} {P : Nat → Nat → Option Nat} (hA : kA sh P) {tp : Nat} (htp : I 1 1 = nI tp) (h7 : tp + 4 ≤ 700) (q : Int32) : pCn m_Ls_putBytes 0 [.ref 1, .int q] sh (I, L, P) (rV (putB I tp q 4, L, P)) := by
  refine pCn_of (by decide +kernel) (Nat.le_of_ble_eq_true rfl) ?_
  have hL := pUpTo 4 (fun k => pWn m_Ls_putBytes 0 sh (rV (putB I tp q 4, L, P)) 3 [some (.ref 1), some (.int q), some (.int (shv k))] [] (putB I tp q k, L, P)) (by
    intro k hk ih
    refine pw_iload_n (k4 := 2) rfl (by decide +kernel) ?_
    refine pw_if_lt (off := 44) (tgt := 48) (by decide +kernel) (by decide +kernel) (fun z4 => ?_) (fun z4 => ?_)
    · obtain rfl : k = 4 := Decidable.not_not.mp (fun e => (shv_ok k (by omega)).1 z4)
      exact pq_vret rfl (by decide +kernel) ⟨rfl, rfl⟩
    · have hk4 : k < 4 := Decidable.not_not.mp (fun e => z4 (by rw [show k = 4 by omega]; decide))
      refine pw_aload_n (k4 := 0) rfl (by decide +kernel) ?_
      refine pq_getI (c := 10) (k := 1) (ks_x hA) (by decide) (by decide) lf_Ls_87 (by decide +kernel) ?_
      refine pn_val (nI (tp + k)) (putB_n htp k) ?_
      refine pw_aload_n (k4 := 0) rfl (by decide +kernel) ?_
      refine pq_getP (c := 10) (k := 0) (ks_x hA) (by decide) (by decide) (kp_x_tape hA) lf_Ls_11 (by decide +kernel) ?_
      refine pq_alen (by decide) (ks_x_tape hA) (by decide +kernel) ?_
      refine pn_icmp_ge (off := 32) (tgt := 48) (tp + k) 700 rfl rfl (by omega) (by omega) (by decide +kernel) (by decide +kernel) (fun z16 => ?_) (fun z16 => ?_)
      · omega
      · refine pw_aload_n (k4 := 0) rfl (by decide +kernel) ?_
        refine pq_getP (c := 10) (k := 0) (ks_x hA) (by decide) (by decide) (kp_x_tape hA) lf_Ls_11 (by decide +kernel) ?_
        refine pw_aload_n (k4 := 0) rfl (by decide +kernel) ?_
        refine pq_getI (c := 10) (k := 1) (ks_x hA) (by decide) (by decide) lf_Ls_87 (by decide +kernel) ?_
        refine pn_val (nI (tp + k)) (putB_n htp k) ?_
        refine pw_iload_n (k4 := 1) rfl (by decide +kernel) ?_
        refine pw_iload_n (k4 := 2) rfl (by decide +kernel) ?_
        refine pw_ishr (by decide +kernel) ?_
        refine pw_i2b (by decide +kernel) ?_
        refine pq_bast (tp + k) rfl (by omega) (by decide) (ks_x_tape hA) (by decide +kernel) ?_
        refine pw_aload_n (k4 := 0) rfl (by decide +kernel) ?_
        refine pw_dup rfl (by decide +kernel) ?_
        refine pq_getI (c := 10) (k := 1) (ks_x hA) (by decide) (by decide) lf_Ls_87 (by decide +kernel) ?_
        refine pn_val (nI (tp + k)) (by rw [sI_ne (by decide)]; exact putB_n htp k) ?_
        refine pw_iconst (n := 1) (v := 1) (by decide) (by decide +kernel) ?_
        refine pn_iadd (tp + k) 1 rfl rfl (by decide +kernel) ?_
        refine pq_putI (c := 10) (k := 1) (ks_x hA) (by decide) (by decide) lf_Ls_87 (Or.inl rfl) (by decide +kernel) ?_
        refine pq_iinc (i := 2) (n := -8) (-8) rfl (by decide) rfl (by decide +kernel) ?_
        refine pw_goto (off := -42) (tgt := 3) (by decide +kernel) (by decide +kernel) ?_
        have q := ih hk4
        rw [← (shv_ok k hk4).2] at q
        exact q
)
  refine pw_bipush (n := 24) (v := 24) (by decide) (by decide +kernel) ?_
  refine pq_istore_n (k4 := 2) (Nat.le_of_ble_eq_true rfl) rfl (by decide +kernel) ?_
  exact hL 0 (Nat.zero_le _)

theorem ct_Ls_feed {sh : List pSh} {I : Nat → Nat → Int32} {L : Nat → Nat → Int64} {P : Nat → Nat → Option Nat} (hA : kA sh P) {tp : Nat} (ht0 : I 1 1 = nI tp) (h7 : tp ≤ 700) (a b c d e : Int32) : pCn m_Ls_feed 1 [.ref 1, .int a, .int b, .int c, .int d, .int e] sh (I, L, P) (rIf (tp ≤ 680) (rI (nI (tp + 20)) (feedI I tp a b c d e, L, P)) (rI (-1) (I, L, P))) := by
  refine pCn_of (by decide +kernel) (Nat.le_of_ble_eq_true rfl) ?_
  refine pw_aload_n (k4 := 0) rfl (by decide +kernel) ?_
  refine pq_getI (c := 10) (k := 1) (ks_x hA) (by decide) (by decide) lf_Ls_87 (by decide +kernel) ?_
  refine pn_val (nI (tp)) ht0 ?_
  refine pw_sipush (n := 680) (v := 680) (by decide) (by decide +kernel) ?_
  refine pn_icmp_le (off := 5) (tgt := 12) tp 680 rfl rfl (by omega) (by omega) (by decide +kernel) (by decide +kernel) (fun z7 => ?_) (fun z7 => ?_)
  · refine pw_aload_n (k4 := 0) rfl (by decide +kernel) ?_
    refine pw_iload_n (k4 := 1) rfl (by decide +kernel) ?_
    refine pq_callV (ν := m_Ls_putBytes) (d' := 0) (av := [_]) (c := 10) (by decide +kernel) lm_Ls_90 ok_Ls_putBytes (show _ = some 1 by decide +kernel) (ks_x hA) rfl (by decide) (by omega) (Nat.le_of_ble_eq_true rfl) (ct_Ls_putBytes hA ht0 (by omega) _) ?_
    rintro _ _ ⟨rfl, rfl⟩
    have ht1 := putB_n ht0 (x := a) 4
    refine pw_aload_n (k4 := 0) rfl (by decide +kernel) ?_
    refine pw_iload_n (k4 := 2) rfl (by decide +kernel) ?_
    refine pq_callV (ν := m_Ls_putBytes) (d' := 0) (av := [_]) (c := 10) (by decide +kernel) lm_Ls_90 ok_Ls_putBytes (show _ = some 1 by decide +kernel) (ks_x hA) rfl (by decide) (by omega) (Nat.le_of_ble_eq_true rfl) (ct_Ls_putBytes hA ht1 (by omega) _) ?_
    rintro _ _ ⟨rfl, rfl⟩
    have ht2 := putB_n ht1 (x := b) 4
    refine pw_aload_n (k4 := 0) rfl (by decide +kernel) ?_
    refine pw_iload_n (k4 := 3) rfl (by decide +kernel) ?_
    refine pq_callV (ν := m_Ls_putBytes) (d' := 0) (av := [_]) (c := 10) (by decide +kernel) lm_Ls_90 ok_Ls_putBytes (show _ = some 1 by decide +kernel) (ks_x hA) rfl (by decide) (by omega) (Nat.le_of_ble_eq_true rfl) (ct_Ls_putBytes hA ht2 (by omega) _) ?_
    rintro _ _ ⟨rfl, rfl⟩
    have ht3 := putB_n ht2 (x := c) 4
    refine pw_aload_n (k4 := 0) rfl (by decide +kernel) ?_
    refine pw_iload (i := 4) rfl (by decide +kernel) ?_
    refine pq_callV (ν := m_Ls_putBytes) (d' := 0) (av := [_]) (c := 10) (by decide +kernel) lm_Ls_90 ok_Ls_putBytes (show _ = some 1 by decide +kernel) (ks_x hA) rfl (by decide) (by omega) (Nat.le_of_ble_eq_true rfl) (ct_Ls_putBytes hA ht3 (by omega) _) ?_
    rintro _ _ ⟨rfl, rfl⟩
    have ht4 := putB_n ht3 (x := d) 4
    refine pw_aload_n (k4 := 0) rfl (by decide +kernel) ?_
    refine pw_iload (i := 5) rfl (by decide +kernel) ?_
    refine pq_callV (ν := m_Ls_putBytes) (d' := 0) (av := [_]) (c := 10) (by decide +kernel) lm_Ls_90 ok_Ls_putBytes (show _ = some 1 by decide +kernel) (ks_x hA) rfl (by decide) (by omega) (Nat.le_of_ble_eq_true rfl) (ct_Ls_putBytes hA ht4 (by omega) _) ?_
    rintro _ _ ⟨rfl, rfl⟩
    have ht5 := putB_n ht4 (x := e) 4
    refine pw_aload_n (k4 := 0) rfl (by decide +kernel) ?_
    refine pq_getI (c := 10) (k := 1) (ks_x hA) (by decide) (by decide) lf_Ls_87 (by decide +kernel) ?_
    refine pn_val (nI (tp + 20)) ht5 ?_
    exact pq_iret rfl (by decide +kernel) ⟨fun _ => ⟨rfl, rfl⟩, fun h => absurd z7 h⟩
  · refine pw_iconst (n := -1) (v := -1) (by decide) (by decide +kernel) ?_
    exact pq_iret rfl (by decide +kernel) ⟨fun h => absurd h z7, fun _ => ⟨rfl, rfl⟩⟩
