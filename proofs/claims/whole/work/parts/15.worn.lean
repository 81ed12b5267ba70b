/-! ===== the world: what is worn, whose shoes are ===== -/
/-- is this shoe on a foot of its owner? -/
abbrev xWorn (I : Nat → Nat → Int32) (t w : Nat) (j : Nat) : Prop := xHasP I t (I (w + 3) j) ∧ (I (w + 4) (2 * ixn (I (w + 3) j)) = nI j ∨ I (w + 4) (2 * ixn (I (w + 3) j) + 1) = nI j)

theorem ct_Wo_isWorn {sh : List pSh} {I : Nat → Nat → Int32} {L : Nat → Nat → Int64} {P : Nat → Nat → Option Nat} (hA : kA sh P) {w t : Nat} (hw : w = 62 ∨ w = 68 ∨ w = 74) (ht : t = 3 ∨ t = 30) (hwt : P w 0 = some t) {np ns nd : Nat} (hn : tOK I t np ns nd) (j : Nat) (hj : j < ns) : pCn m_Wo_isWorn 1 [.ref w, .int (nI j)] sh (I, L, P) (rI (B (xWorn I t w j)) (I, L, P)) := by
  refine pCn_of (by decide +kernel) (Nat.le_of_ble_eq_true rfl) ?_
  refine pw_aload_n (k4 := 0) rfl (by decide +kernel) ?_
  refine pq_getP (c := 9) (k := 0) (ks_w hA hw) (by decide) (by decide) hwt lf_Wo_29 (by decide +kernel) ?_
  refine pw_iload_n (k4 := 1) rfl (by decide +kernel) ?_
  refine pq_callV (ν := m_Ta_hasShoe) (d' := 0) (av := [_]) (c := 7) (by decide +kernel) lm_Wo_58 ok_Ta_hasShoe (show _ = some 1 by decide +kernel) (ks_t hA ht) rfl (by decide) (by omega) (Nat.le_of_ble_eq_true rfl) (ct_Ta_hasShoe hA ht _) ?_
  rintro _ _ ⟨rfl, rfl⟩
  refine pw_if_eq (off := 12) (tgt := 20) (by decide +kernel) (by decide +kernel) (fun z8 => ?_) (fun z8 => ?_)
  · exact absurd (nVal hn.2.2.1 (by have := hn.2.2.2.1; omega) hj) (B_0.mp z8)
  · have h16 := hn.2.2.2.1
    refine pw_aload_n (k4 := 0) rfl (by decide +kernel) ?_
    refine pq_getP (c := 9) (k := 6) (ks_w hA hw) (by decide) (by decide) (kp_w_owner hA hw) lf_Wo_20 (by decide +kernel) ?_
    refine pw_iload_n (k4 := 1) rfl (by decide +kernel) ?_
    refine pq_iald j rfl (by omega) (by decide) (ks_w_owner hA hw) (by decide +kernel) ?_
    refine pw_goto (off := 4) (tgt := 21) (by decide +kernel) (by decide +kernel) ?_
    refine pw_istore_n (k4 := 2) (Nat.le_of_ble_eq_true rfl) (by decide +kernel) ?_
    refine pw_aload_n (k4 := 0) rfl (by decide +kernel) ?_
    refine pq_getP (c := 9) (k := 0) (ks_w hA hw) (by decide) (by decide) hwt lf_Wo_29 (by decide +kernel) ?_
    refine pw_iload_n (k4 := 2) rfl (by decide +kernel) ?_
    refine pq_callV (ν := m_Ta_hasPerson) (d' := 0) (av := [_]) (c := 7) (by decide +kernel) lm_Wo_65 ok_Ta_hasPerson (show _ = some 1 by decide +kernel) (ks_t hA ht) rfl (by decide) (by omega) (Nat.le_of_ble_eq_true rfl) (ct_Ta_hasPerson hA ht _) ?_
    rintro _ _ ⟨rfl, rfl⟩
    refine pw_if_eq (off := 33) (tgt := 63) (by decide +kernel) (by decide +kernel) (fun z30 => ?_) (fun z30 => ?_)
    · refine pw_iconst (n := 0) (v := 0) (by decide) (by decide +kernel) ?_
      exact pq_zret rfl (by decide) (by decide +kernel) ⟨congrArg (fun z => some (Value.int z)) (B_f (fun q => B_0.mp z30 q.1)).symm, rfl⟩
    · have hp := B_ne.mp z30
      have h5 := hn.2.1
      obtain ⟨p, hpl, hpe⟩ := nIn hn.1 (by omega) hp
      refine pw_aload_n (k4 := 0) rfl (by decide +kernel) ?_
      refine pq_getP (c := 9) (k := 7) (ks_w hA hw) (by decide) (by decide) (kp_w_worn hA hw) lf_Wo_23 (by decide +kernel) ?_
      refine pw_iconst (n := 2) (v := 2) (by decide) (by decide +kernel) ?_
      refine pw_iload_n (k4 := 2) rfl (by decide +kernel) ?_
      refine pw_imul (by decide +kernel) ?_
      refine pq_iald (2 * p) (by rw [hpe]; exact n2 p) (by omega) (by decide) (ks_w_worn hA hw) (by decide +kernel) ?_
      refine pw_iload_n (k4 := 1) rfl (by decide +kernel) ?_
      refine pw_icmp_eq (off := 17) (tgt := 59) (by decide +kernel) (by decide +kernel) (fun z42 => ?_) (fun z42 => ?_)
      · refine pw_iconst (n := 1) (v := 1) (by decide) (by decide +kernel) ?_
        refine pw_goto (off := 4) (tgt := 64) (by decide +kernel) (by decide +kernel) ?_
        exact pq_zret rfl (by decide) (by decide +kernel) ⟨congrArg (fun z => some (Value.int z)) (B_t ⟨hp, Or.inl (by rw [hpe, ixn_nI (by omega)]; exact z42)⟩).symm, rfl⟩
      · refine pw_aload_n (k4 := 0) rfl (by decide +kernel) ?_
        refine pq_getP (c := 9) (k := 7) (ks_w hA hw) (by decide) (by decide) (kp_w_worn hA hw) lf_Wo_23 (by decide +kernel) ?_
        refine pw_iconst (n := 2) (v := 2) (by decide) (by decide +kernel) ?_
        refine pw_iload_n (k4 := 2) rfl (by decide +kernel) ?_
        refine pw_imul (by decide +kernel) ?_
        refine pw_iconst (n := 1) (v := 1) (by decide) (by decide +kernel) ?_
        refine pw_iadd (by decide +kernel) ?_
        refine pq_iald (2 * p + 1) (by rw [hpe]; exact n21 p) (by omega) (by decide) (ks_w_worn hA hw) (by decide +kernel) ?_
        refine pw_iload_n (k4 := 1) rfl (by decide +kernel) ?_
        refine pw_icmp_ne (off := 7) (tgt := 63) (by decide +kernel) (by decide +kernel) (fun z56 => ?_) (fun z56 => ?_)
        · refine pw_iconst (n := 0) (v := 0) (by decide) (by decide +kernel) ?_
          exact pq_zret rfl (by decide) (by decide +kernel) ⟨congrArg (fun z => some (Value.int z)) (B_f (fun q => by have q2 := q.2; rw [hpe, ixn_nI (by omega)] at q2; exact q2.elim z42 z56)).symm, rfl⟩
        · refine pw_iconst (n := 1) (v := 1) (by decide) (by decide +kernel) ?_
          refine pw_goto (off := 4) (tgt := 64) (by decide +kernel) (by decide +kernel) ?_
          exact pq_zret rfl (by decide) (by decide +kernel) ⟨congrArg (fun z => some (Value.int z)) (B_t ⟨hp, Or.inr (by rw [hpe, ixn_nI (by omega)]; exact z56)⟩).symm, rfl⟩

/-- what is worn behind takeOff: neither foot of the owner bears the shoe -/
def xOff (g : Nat → Int32) (o n x : Int32) : Nat → Int32 := fun i => if (0 ≤ o ∧ o < n) ∧ (i = 2 * ixn o ∨ i = 2 * ixn o + 1) ∧ g i = x then -1 else g i
def xOffK (g : Nat → Int32) (p k : Nat) (x : Int32) : Nat → Int32 := fun i => if 2 * p ≤ i ∧ i < 2 * p + k ∧ g i = x then -1 else g i
theorem xOffK_0 (g : Nat → Int32) (p : Nat) (x : Int32) : xOffK g p 0 x = g := by
  funext i
  unfold xOffK
  rw [if_neg (by omega)]
theorem xOffK_s (g : Nat → Int32) (p k : Nat) (x : Int32) (h : g (2 * p + k) = x) : upd (xOffK g p k x) (2 * p + k) (-1) = xOffK g p (k + 1) x := by
  funext i
  simp only [xOffK, upd]
  by_cases e : i = 2 * p + k
  · subst e; rw [if_pos rfl, if_pos ⟨by omega, by omega, h⟩]
  · rw [if_neg e]
    by_cases q : 2 * p ≤ i ∧ i < 2 * p + k ∧ g i = x
    · rw [if_pos q, if_pos ⟨q.1, by omega, q.2.2⟩]
    · rw [if_neg q, if_neg (fun z => q ⟨z.1, by omega, z.2.2⟩)]
theorem xOffK_n (g : Nat → Int32) (p k : Nat) (x : Int32) (h : ¬ g (2 * p + k) = x) : xOffK g p (k + 1) x = xOffK g p k x := by
  funext i
  unfold xOffK
  by_cases q : 2 * p ≤ i ∧ i < 2 * p + k ∧ g i = x
  · rw [if_pos q, if_pos ⟨q.1, by omega, q.2.2⟩]
  · rw [if_neg q]
    by_cases e : i = 2 * p + k
    · subst e; rw [if_neg (fun z => h z.2.2)]
    · rw [if_neg (fun z => q ⟨z.1, by omega, z.2.2⟩)]
theorem xOffK_at (g : Nat → Int32) (p k : Nat) (x : Int32) : xOffK g p k x (2 * p + k) = g (2 * p + k) := by
  unfold xOffK
  rw [if_neg (by omega)]
theorem xOff_2 (g : Nat → Int32) {o n x : Int32} {p : Nat} (ho : 0 ≤ o ∧ o < n) (hp : o = nI p) (hp2 : p < 2 ^ 31) : xOffK g p 2 x = xOff g o n x := by
  funext i
  unfold xOffK xOff
  rw [hp, ixn_nI hp2, ← hp]
  by_cases q : 2 * p ≤ i ∧ i < 2 * p + 2 ∧ g i = x
  · rw [if_pos q, if_pos ⟨ho, by omega, q.2.2⟩]
  · rw [if_neg q, if_neg (fun z => q ⟨by omega, by omega, z.2.2⟩)]
theorem xOff_no (g : Nat → Int32) {o n x : Int32} (ho : ¬ (0 ≤ o ∧ o < n)) : xOff g o n x = g := by
  funext i
  unfold xOff
  rw [if_neg (fun z => ho z.1)]

theorem ct_Wo_takeOff {sh : List pSh} {I : Nat → Nat → Int32} {L : Nat → Nat → Int64} {P : Nat → Nat → Option Nat} (hA : kA sh P) {w t : Nat} (hw : w = 62 ∨ w = 68 ∨ w = 74) (ht : t = 3 ∨ t = 30) (hwt : P w 0 = some t) {np ns nd : Nat} (hn : tOK I t np ns nd) (j : Nat) (hj : j < ns) : pCn m_Wo_takeOff 1 [.ref w, .int (nI j)] sh (I, L, P) (rV (aU I (w + 4) (xOff (I (w + 4)) (I (w + 3) j) (I t 0) (nI j)), L, P)) := by
  refine pCn_of (by decide +kernel) (Nat.le_of_ble_eq_true rfl) ?_
  have h5 := hn.2.1
  have hloop : ∀ p, p < np → I (w + 3) j = nI p → ∀ k, k ≤ 2 → pWn m_Wo_takeOff 1 sh (rV (aU I (w + 4) (xOff (I (w + 4)) (I (w + 3) j) (I t 0) (nI j)), L, P)) 37 [some (.ref w), some (.int (nI j)), some (.int (I (w + 3) j)), some (.int (nI (2 * p + k)))] [] (aU I (w + 4) (xOffK (I (w + 4)) p k (nI j)), L, P) := by
    intro p hpl hpe
    refine pUpTo 2 _ ?_
    intro k hk ih
    refine pw_iload_n (k4 := 3) rfl (by decide +kernel) ?_
    refine pw_iconst (n := 2) (v := 2) (by decide) (by decide +kernel) ?_
    refine pw_iload_n (k4 := 2) rfl (by decide +kernel) ?_
    refine pw_imul (by decide +kernel) ?_
    refine pw_iconst (n := 1) (v := 1) (by decide) (by decide +kernel) ?_
    refine pw_iadd (by decide +kernel) ?_
    refine pw_icmp_gt (off := 26) (tgt := 69) (by decide +kernel) (by decide +kernel) (fun z43 => ?_) (fun z43 => ?_)
    · rw [hpe, n21, cLt rfl rfl (by omega) (by omega)] at z43
      exact pq_vret rfl (by decide +kernel) ⟨rfl, by rw [show k = 2 by omega, xOff_2 _ (by rw [hpe]; exact nVal hn.1 (by omega) hpl) hpe (by omega)]⟩
    · rw [hpe, n21, cLt rfl rfl (by omega) (by omega)] at z43
      refine pw_aload_n (k4 := 0) rfl (by decide +kernel) ?_
      refine pq_getP (c := 9) (k := 7) (ks_w hA hw) (by decide) (by decide) (kp_w_worn hA hw) lf_Wo_23 (by decide +kernel) ?_
      refine pw_iload_n (k4 := 3) rfl (by decide +kernel) ?_
      refine pq_iald (2 * p + k) rfl (by omega) (by decide) (ks_w_worn hA hw) (by decide +kernel) ?_
      refine pw_iload_n (k4 := 1) rfl (by decide +kernel) ?_
      refine pw_icmp_ne (off := 10) (tgt := 63) (by decide +kernel) (by decide +kernel) (fun z53 => ?_) (fun z53 => ?_)
      · refine pw_iincK (i := 3) (n := 1) (1) rfl (by decide) (by decide +kernel) ?_
        refine pw_goto (off := -29) (tgt := 37) (by decide +kernel) (by decide +kernel) ?_
        have q := ih (by omega)
        rw [xOffK_n _ _ _ _ (by rw [aU_eq, xOffK_at] at z53; exact z53)] at q
        rw [show nI (2 * p + (k + 1)) = nI (2 * p + k) + 1 from nI_succ _] at q
        exact q
      · refine pw_aload_n (k4 := 0) rfl (by decide +kernel) ?_
        refine pq_getP (c := 9) (k := 7) (ks_w hA hw) (by decide) (by decide) (kp_w_worn hA hw) lf_Wo_23 (by decide +kernel) ?_
        refine pw_iload_n (k4 := 3) rfl (by decide +kernel) ?_
        refine pw_iconst (n := -1) (v := -1) (by decide) (by decide +kernel) ?_
        refine pq_iast (2 * p + k) rfl (by omega) (by decide) (ks_w_worn hA hw) (by decide +kernel) ?_
        refine pw_iincK (i := 3) (n := 1) (1) rfl (by decide) (by decide +kernel) ?_
        refine pw_goto (off := -29) (tgt := 37) (by decide +kernel) (by decide +kernel) ?_
        have q := ih (by omega)
        rw [← xOffK_s _ _ _ _ (by rw [aU_eq, xOffK_at] at z53; exact z53), ← sI_aU2] at q
        rw [show nI (2 * p + (k + 1)) = nI (2 * p + k) + 1 from nI_succ _] at q
        exact q
  refine pw_aload_n (k4 := 0) rfl (by decide +kernel) ?_
  refine pq_getP (c := 9) (k := 0) (ks_w hA hw) (by decide) (by decide) hwt lf_Wo_29 (by decide +kernel) ?_
  refine pw_iload_n (k4 := 1) rfl (by decide +kernel) ?_
  refine pq_callV (ν := m_Ta_hasShoe) (d' := 0) (av := [_]) (c := 7) (by decide +kernel) lm_Wo_58 ok_Ta_hasShoe (show _ = some 1 by decide +kernel) (ks_t hA ht) rfl (by decide) (by omega) (Nat.le_of_ble_eq_true rfl) (ct_Ta_hasShoe hA ht _) ?_
  rintro _ _ ⟨rfl, rfl⟩
  refine pw_if_eq (off := 12) (tgt := 20) (by decide +kernel) (by decide +kernel) (fun z8 => ?_) (fun z8 => ?_)
  · exact absurd (nVal hn.2.2.1 (by have := hn.2.2.2.1; omega) hj) (B_0.mp z8)
  · have h16 := hn.2.2.2.1
    refine pw_aload_n (k4 := 0) rfl (by decide +kernel) ?_
    refine pq_getP (c := 9) (k := 6) (ks_w hA hw) (by decide) (by decide) (kp_w_owner hA hw) lf_Wo_20 (by decide +kernel) ?_
    refine pw_iload_n (k4 := 1) rfl (by decide +kernel) ?_
    refine pq_iald j rfl (by omega) (by decide) (ks_w_owner hA hw) (by decide +kernel) ?_
    refine pw_goto (off := 4) (tgt := 21) (by decide +kernel) (by decide +kernel) ?_
    refine pw_istore_n (k4 := 2) (Nat.le_of_ble_eq_true rfl) (by decide +kernel) ?_
    refine pw_aload_n (k4 := 0) rfl (by decide +kernel) ?_
    refine pq_getP (c := 9) (k := 0) (ks_w hA hw) (by decide) (by decide) hwt lf_Wo_29 (by decide +kernel) ?_
    refine pw_iload_n (k4 := 2) rfl (by decide +kernel) ?_
    refine pq_callV (ν := m_Ta_hasPerson) (d' := 0) (av := [_]) (c := 7) (by decide +kernel) lm_Wo_65 ok_Ta_hasPerson (show _ = some 1 by decide +kernel) (ks_t hA ht) rfl (by decide) (by omega) (Nat.le_of_ble_eq_true rfl) (ct_Ta_hasPerson hA ht _) ?_
    rintro _ _ ⟨rfl, rfl⟩
    refine pw_if_eq (off := 39) (tgt := 69) (by decide +kernel) (by decide +kernel) (fun z30 => ?_) (fun z30 => ?_)
    · exact pq_vret rfl (by decide +kernel) ⟨rfl, by rw [xOff_no _ (B_0.mp z30), aU_self]⟩
    · have hp := B_ne.mp z30
      have h5 := hn.2.1
      obtain ⟨p, hpl, hpe⟩ := nIn hn.1 (by omega) hp
      refine pw_iconst (n := 2) (v := 2) (by decide) (by decide +kernel) ?_
      refine pw_iload_n (k4 := 2) rfl (by decide +kernel) ?_
      refine pw_imul (by decide +kernel) ?_
      refine pw_istore_n (k4 := 3) (Nat.le_of_ble_eq_true rfl) (by decide +kernel) ?_
      have q := hloop p hpl hpe 0 (by omega)
      rw [xOffK_0, aU_self, show nI (2 * p + 0) = 2 * I (w + 3) j by rw [hpe, n2]; rfl] at q
      exact q
