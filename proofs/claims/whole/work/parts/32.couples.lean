/-! ===== pairs: the class ===== -/
/-- longs that are the same but for the two rows of a tale's laws -/
def lfr (t : Nat) (L' L : Nat → Nat → Int64) : Prop := ∀ a, a ≠ t + 25 → a ≠ t + 26 → L' a = L a
def rJy (v : Int64) (I : Nat → Nat → Int32) (L : Nat → Nat → Int64) (P : Nat → Nat → Option Nat) (t : Nat) : Option Value → pM → Prop := fun r M => r = some (.long v) ∧ ∃ L', M = (I, L', P) ∧ lfr t L' L
def rIy (v : Int32) (I : Nat → Nat → Int32) (L : Nat → Nat → Int64) (P : Nat → Nat → Option Nat) (t : Nat) : Option Value → pM → Prop := fun r M => r = some (.int v) ∧ ∃ L', M = (I, L', P) ∧ lfr t L' L

theorem ct_Wo_lawOfPairF {sh : List pSh} {I : Nat → Nat → Int32} {L : Nat → Nat → Int64} {P : Nat → Nat → Option Nat} (hA : kA sh P) {w t : Nat} (hw : w = 62 ∨ w = 68 ∨ w = 74) (ht : t = 3 ∨ t = 30) (hwt : P w 0 = some t) {np ns nd : Nat} (hn : tOK I t np ns nd) (hl : lOK I t) (i j : Nat) (hi : i < ns) (hj : j < ns) : pCn m_Wo_lawOfPair 2 [.ref w, .int (nI i), .int (nI j)] sh (I, L, P) (rJy (xLawP I t w i j) I L P t) := by
  refine pCn_of (by decide +kernel) (Nat.le_of_ble_eq_true rfl) ?_
  refine pw_aload_n (k4 := 0) rfl (by decide +kernel) ?_
  refine pq_getP (c := 9) (k := 0) (ks_w hA hw) (by decide) (by decide) hwt lf_Wo_29 (by decide +kernel) ?_
  refine pw_iload_n (k4 := 1) rfl (by decide +kernel) ?_
  refine pq_callV (ν := m_Ta_hasShoe) (d' := 0) (av := [_]) (c := 7) (by decide +kernel) lm_Wo_58 ok_Ta_hasShoe (show _ = some 1 by decide +kernel) (ks_t hA ht) rfl (by decide) (by omega) (Nat.le_of_ble_eq_true rfl) (ct_Ta_hasShoe hA ht _) ?_
  rintro _ _ ⟨rfl, rfl⟩
  refine pw_if_eq (off := 14) (tgt := 22) (by decide +kernel) (by decide +kernel) (fun z8 => ?_) (fun z8 => ?_)
  · exact absurd (nVal hn.2.2.1 (by have := hn.2.2.2.1; omega) hi) (B_0.mp z8)
  · have h16 := hn.2.2.2.1
    have h5 := hn.2.1
    refine pw_aload_n (k4 := 0) rfl (by decide +kernel) ?_
    refine pq_getP (c := 9) (k := 0) (ks_w hA hw) (by decide) (by decide) hwt lf_Wo_29 (by decide +kernel) ?_
    refine pw_iload_n (k4 := 2) rfl (by decide +kernel) ?_
    refine pq_callV (ν := m_Ta_hasShoe) (d' := 0) (av := [_]) (c := 7) (by decide +kernel) lm_Wo_58 ok_Ta_hasShoe (show _ = some 1 by decide +kernel) (ks_t hA ht) rfl (by decide) (by omega) (Nat.le_of_ble_eq_true rfl) (ct_Ta_hasShoe hA ht _) ?_
    rintro _ _ ⟨rfl, rfl⟩
    refine pw_if_ne (off := 7) (tgt := 26) (by decide +kernel) (by decide +kernel) (fun z19 => ?_) (fun z19 => ?_)
    · refine pw_aload_n (k4 := 0) rfl (by decide +kernel) ?_
      refine pq_getP (c := 9) (k := 0) (ks_w hA hw) (by decide) (by decide) hwt lf_Wo_29 (by decide +kernel) ?_
      refine pq_getP (c := 7) (k := 18) (ks_t hA ht) (by decide) (by decide) (kp_t_laws hA ht) lf_Wo_84 (by decide +kernel) ?_
      refine pq_astore_n (k4 := 3) (Nat.le_of_ble_eq_true rfl) rfl (by decide +kernel) ?_
      refine pw_aload_n (k4 := 0) rfl (by decide +kernel) ?_
      refine pq_getP (c := 9) (k := 0) (ks_w hA hw) (by decide) (by decide) hwt lf_Wo_29 (by decide +kernel) ?_
      refine pq_getP (c := 7) (k := 8) (ks_t hA ht) (by decide) (by decide) (kp_t_size hA ht) lf_Wo_88 (by decide +kernel) ?_
      refine pw_iload_n (k4 := 1) rfl (by decide +kernel) ?_
      refine pq_iald i rfl (by omega) (by decide) (ks_t_size hA ht) (by decide +kernel) ?_
      refine pw_aload_n (k4 := 0) rfl (by decide +kernel) ?_
      refine pq_getP (c := 9) (k := 0) (ks_w hA hw) (by decide) (by decide) hwt lf_Wo_29 (by decide +kernel) ?_
      refine pq_getP (c := 7) (k := 8) (ks_t hA ht) (by decide) (by decide) (kp_t_size hA ht) lf_Wo_88 (by decide +kernel) ?_
      refine pw_iload_n (k4 := 2) rfl (by decide +kernel) ?_
      refine pq_iald j rfl (by omega) (by decide) (ks_t_size hA ht) (by decide +kernel) ?_
      refine pw_isub (by decide +kernel) ?_
      refine pw_mabs (by decide +kernel) lm_Wo_114 (by omega) (Nat.le_of_ble_eq_true rfl) (Nat.le_refl _) (Nat.le_refl _) ?_
      refine pq_istore (i := 4) (Nat.le_of_ble_eq_true rfl) rfl (by decide +kernel) ?_
      refine pw_aload_n (k4 := 3) rfl (by decide +kernel) ?_
      refine pw_aload_n (k4 := 0) rfl (by decide +kernel) ?_
      refine pq_getP (c := 9) (k := 0) (ks_w hA hw) (by decide) (by decide) hwt lf_Wo_29 (by decide +kernel) ?_
      refine pq_getP (c := 7) (k := 8) (ks_t hA ht) (by decide) (by decide) (kp_t_size hA ht) lf_Wo_88 (by decide +kernel) ?_
      refine pw_iload_n (k4 := 1) rfl (by decide +kernel) ?_
      refine pq_iald i rfl (by omega) (by decide) (ks_t_size hA ht) (by decide +kernel) ?_
      refine pw_aload_n (k4 := 0) rfl (by decide +kernel) ?_
      refine pq_getP (c := 9) (k := 5) (ks_w hA hw) (by decide) (by decide) (kp_w_used hA hw) lf_Wo_17 (by decide +kernel) ?_
      refine pw_iload_n (k4 := 1) rfl (by decide +kernel) ?_
      refine pq_iald i rfl (by omega) (by decide) (ks_w_used hA hw) (by decide +kernel) ?_
      refine pw_aload_n (k4 := 0) rfl (by decide +kernel) ?_
      refine pq_getP (c := 9) (k := 5) (ks_w hA hw) (by decide) (by decide) (kp_w_used hA hw) lf_Wo_17 (by decide +kernel) ?_
      refine pw_iload_n (k4 := 2) rfl (by decide +kernel) ?_
      refine pq_iald j rfl (by omega) (by decide) (ks_w_used hA hw) (by decide +kernel) ?_
      refine pw_iadd (by decide +kernel) ?_
      refine pw_aload_n (k4 := 0) rfl (by decide +kernel) ?_
      refine pq_getP (c := 9) (k := 0) (ks_w hA hw) (by decide) (by decide) hwt lf_Wo_29 (by decide +kernel) ?_
      refine pq_getP (c := 7) (k := 10) (ks_t hA ht) (by decide) (by decide) (kp_t_kind hA ht) lf_Wo_91 (by decide +kernel) ?_
      refine pw_iload_n (k4 := 1) rfl (by decide +kernel) ?_
      refine pq_iald i rfl (by omega) (by decide) (ks_t_kind hA ht) (by decide +kernel) ?_
      refine pw_iload (i := 4) rfl (by decide +kernel) ?_
      refine pq_callV (ν := m_La_setShoe) (d' := 0) (av := [_, _, _, _]) (c := 2) (by decide +kernel) lm_Wo_94 ok_La_setShoe (show _ = some 4 by decide +kernel) (ks_t_laws hA ht) rfl (by decide) (by omega) (Nat.le_of_ble_eq_true rfl) (ct_La_setShoe hA ht _ _ _ _) ?_
      rintro _ _ ⟨rfl, rfl⟩
      refine pw_aload_n (k4 := 3) rfl (by decide +kernel) ?_
      refine pw_iconst (n := 0) (v := 0) (by decide) (by decide +kernel) ?_
      refine pw_iconst (n := 0) (v := 0) (by decide) (by decide +kernel) ?_
      refine pw_aload_n (k4 := 0) rfl (by decide +kernel) ?_
      refine pq_getI (c := 9) (k := 1) (ks_w hA hw) (by decide) (by decide) lf_Wo_43 (by decide +kernel) ?_
      refine pq_callV (ν := m_La_setOwner) (d' := 0) (av := [_, _, _]) (c := 2) (by decide +kernel) lm_Wo_106 ok_La_setOwner (show _ = some 3 by decide +kernel) (ks_t_laws hA ht) rfl (by decide) (by omega) (Nat.le_of_ble_eq_true rfl) (ct_La_setOwner hA ht _ _ _) ?_
      rintro _ _ ⟨rfl, rfl⟩
      refine pw_aload_n (k4 := 3) rfl (by decide +kernel) ?_
      refine pw_iconst (n := 2) (v := 2) (by decide) (by decide +kernel) ?_
      refine pq_callV (ν := m_La_valueOf) (d' := 1) (av := [_]) (c := 2) (by decide +kernel) lm_Wo_110 ok_La_valueOf (show _ = some 1 by decide +kernel) (ks_t_laws hA ht) rfl (by decide) (by omega) (Nat.le_of_ble_eq_true rfl) (ct_La_valueOf hA ht hl (r := 2) (by decide)) ?_
      rintro _ _ ⟨rfl, g, rfl⟩
      exact pq_lret rfl (by decide +kernel) ⟨congrArg (fun z => some (Value.long z)) (xVal_law (xNm_set _ _ _ _ _ _ _ _ _)), _, rfl, fun a h1 h2 => by rw [aL_ne h2, sL_ne h1, sL_ne h1, sL_ne h1, sL_ne h1, sL_ne h1, sL_ne h1, sL_ne h1]⟩
    · exact absurd (nVal hn.2.2.1 (by have := hn.2.2.2.1; omega) hj) (B_0.mp z19)

theorem ct_Wo_pairOfF {sh : List pSh} {I : Nat → Nat → Int32} {L : Nat → Nat → Int64} {P : Nat → Nat → Option Nat} (hA : kA sh P) {w t : Nat} (hw : w = 62 ∨ w = 68 ∨ w = 74) (ht : t = 3 ∨ t = 30) (hwt : P w 0 = some t) {np ns nd : Nat} (hn : tOK I t np ns nd) (hl : lOK I t) (i j : Nat) (hi : i < ns) (hj : j < ns) : pCn m_Wo_pairOf 3 [.ref w, .int (nI i), .int (nI j)] sh (I, L, P) (rIy (xPair I t w i j) I L P t) := by
  refine pCn_of (by decide +kernel) (Nat.le_of_ble_eq_true rfl) ?_
  refine pw_aload_n (k4 := 0) rfl (by decide +kernel) ?_
  refine pw_iload_n (k4 := 1) rfl (by decide +kernel) ?_
  refine pw_iload_n (k4 := 2) rfl (by decide +kernel) ?_
  refine pq_callV (ν := m_Wo_lawOfPair) (d' := 2) (av := [_, _]) (c := 9) (by decide +kernel) lm_Wo_142 ok_Wo_lawOfPair (show _ = some 2 by decide +kernel) (ks_w hA hw) rfl (by decide) (by omega) (Nat.le_of_ble_eq_true rfl) (ct_Wo_lawOfPairF hA hw ht hwt hn hl i j hi hj) ?_
  rintro _ _ ⟨rfl, L', rfl, hfr⟩
  refine pq_lstore_n (k4 := 3) (Nat.le_of_ble_eq_true rfl) rfl (by decide +kernel) ?_
  refine pw_lload_n (k4 := 3) rfl (by decide +kernel) ?_
  refine pw_ldc2 lc_Wo_82 (by decide +kernel) ?_
  refine pw_lcmp (by decide +kernel) ?_
  refine pw_if_eq (off := 11) (tgt := 23) (by decide +kernel) (by decide +kernel) (fun z12 => ?_) (fun z12 => ?_)
  · rw [lge] at z12
    change _ = ERR at z12
    have h16 := hn.2.2.2.1
    have h5 := hn.2.1
    refine pw_aload_n (k4 := 0) rfl (by decide +kernel) ?_
    refine pq_getP (c := 9) (k := 0) (ks_w hA hw) (by decide) (by decide) hwt lf_Wo_29 (by decide +kernel) ?_
    refine pw_iload_n (k4 := 1) rfl (by decide +kernel) ?_
    refine pq_callV (ν := m_Ta_hasShoe) (d' := 0) (av := [_]) (c := 7) (by decide +kernel) lm_Wo_58 ok_Ta_hasShoe (show _ = some 1 by decide +kernel) (ks_t hA ht) rfl (by decide) (by omega) (Nat.le_of_ble_eq_true rfl) (ct_Ta_hasShoe hA ht _) ?_
    rintro _ _ ⟨rfl, rfl⟩
    refine pw_if_eq (off := 60) (tgt := 91) (by decide +kernel) (by decide +kernel) (fun z31 => ?_) (fun z31 => ?_)
    · exact absurd (nVal hn.2.2.1 (by have := hn.2.2.2.1; omega) hi) (B_0.mp z31)
    · refine pw_aload_n (k4 := 0) rfl (by decide +kernel) ?_
      refine pq_getP (c := 9) (k := 0) (ks_w hA hw) (by decide) (by decide) hwt lf_Wo_29 (by decide +kernel) ?_
      refine pw_iload_n (k4 := 2) rfl (by decide +kernel) ?_
      refine pq_callV (ν := m_Ta_hasShoe) (d' := 0) (av := [_]) (c := 7) (by decide +kernel) lm_Wo_58 ok_Ta_hasShoe (show _ = some 1 by decide +kernel) (ks_t hA ht) rfl (by decide) (by omega) (Nat.le_of_ble_eq_true rfl) (ct_Ta_hasShoe hA ht _) ?_
      rintro _ _ ⟨rfl, rfl⟩
      refine pw_if_eq (off := 49) (tgt := 91) (by decide +kernel) (by decide +kernel) (fun z42 => ?_) (fun z42 => ?_)
      · exact absurd (nVal hn.2.2.1 (by have := hn.2.2.2.1; omega) hj) (B_0.mp z42)
      · refine pw_aload_n (k4 := 0) rfl (by decide +kernel) ?_
        refine pq_getP (c := 9) (k := 0) (ks_w hA hw) (by decide) (by decide) hwt lf_Wo_29 (by decide +kernel) ?_
        refine pq_getP (c := 7) (k := 8) (ks_t hA ht) (by decide) (by decide) (kp_t_size hA ht) lf_Wo_88 (by decide +kernel) ?_
        refine pw_iload_n (k4 := 1) rfl (by decide +kernel) ?_
        refine pq_iald i rfl (by omega) (by decide) (ks_t_size hA ht) (by decide +kernel) ?_
        refine pw_aload_n (k4 := 0) rfl (by decide +kernel) ?_
        refine pq_getP (c := 9) (k := 0) (ks_w hA hw) (by decide) (by decide) hwt lf_Wo_29 (by decide +kernel) ?_
        refine pq_getP (c := 7) (k := 8) (ks_t hA ht) (by decide) (by decide) (kp_t_size hA ht) lf_Wo_88 (by decide +kernel) ?_
        refine pw_iload_n (k4 := 2) rfl (by decide +kernel) ?_
        refine pq_iald j rfl (by omega) (by decide) (ks_t_size hA ht) (by decide +kernel) ?_
        refine pw_icmp_ne (off := 28) (tgt := 91) (by decide +kernel) (by decide +kernel) (fun z63 => ?_) (fun z63 => ?_)
        · refine pw_iconst (n := 0) (v := 0) (by decide) (by decide +kernel) ?_
          refine pq_istore (i := 5) (Nat.le_of_ble_eq_true rfl) rfl (by decide +kernel) ?_
          refine pw_iload (i := 5) rfl (by decide +kernel) ?_
          refine pw_if_eq (off := 8) (tgt := 104) (by decide +kernel) (by decide +kernel) (fun z96 => ?_) (fun z96 => ?_)
          · refine pw_iconst (n := 0) (v := 0) (by decide) (by decide +kernel) ?_
            exact pq_iret rfl (by decide +kernel) ⟨congrArg (fun z => some (Value.int z)) (by unfold xPair xFirst; rw [if_pos z12, if_neg (fun q => z63 q.1)]), _, rfl, hfr⟩
          · exact absurd z96 (by decide)
        · refine pw_aload_n (k4 := 0) rfl (by decide +kernel) ?_
          refine pq_getP (c := 9) (k := 0) (ks_w hA hw) (by decide) (by decide) hwt lf_Wo_29 (by decide +kernel) ?_
          refine pq_getP (c := 7) (k := 10) (ks_t hA ht) (by decide) (by decide) (kp_t_kind hA ht) lf_Wo_91 (by decide +kernel) ?_
          refine pw_iload_n (k4 := 1) rfl (by decide +kernel) ?_
          refine pq_iald i rfl (by omega) (by decide) (ks_t_kind hA ht) (by decide +kernel) ?_
          refine pw_aload_n (k4 := 0) rfl (by decide +kernel) ?_
          refine pq_getP (c := 9) (k := 0) (ks_w hA hw) (by decide) (by decide) hwt lf_Wo_29 (by decide +kernel) ?_
          refine pq_getP (c := 7) (k := 10) (ks_t hA ht) (by decide) (by decide) (kp_t_kind hA ht) lf_Wo_91 (by decide +kernel) ?_
          refine pw_iload_n (k4 := 2) rfl (by decide +kernel) ?_
          refine pq_iald j rfl (by omega) (by decide) (ks_t_kind hA ht) (by decide +kernel) ?_
          refine pw_icmp_ne (off := 7) (tgt := 91) (by decide +kernel) (by decide +kernel) (fun z84 => ?_) (fun z84 => ?_)
          · refine pw_iconst (n := 0) (v := 0) (by decide) (by decide +kernel) ?_
            refine pq_istore (i := 5) (Nat.le_of_ble_eq_true rfl) rfl (by decide +kernel) ?_
            refine pw_iload (i := 5) rfl (by decide +kernel) ?_
            refine pw_if_eq (off := 8) (tgt := 104) (by decide +kernel) (by decide +kernel) (fun z96 => ?_) (fun z96 => ?_)
            · refine pw_iconst (n := 0) (v := 0) (by decide) (by decide +kernel) ?_
              exact pq_iret rfl (by decide +kernel) ⟨congrArg (fun z => some (Value.int z)) (by unfold xPair xFirst; rw [if_pos z12, if_neg (fun q => z84 q.2)]), _, rfl, hfr⟩
            · exact absurd z96 (by decide)
          · refine pw_iconst (n := 1) (v := 1) (by decide) (by decide +kernel) ?_
            refine pw_goto (off := 4) (tgt := 92) (by decide +kernel) (by decide +kernel) ?_
            refine pq_istore (i := 5) (Nat.le_of_ble_eq_true rfl) rfl (by decide +kernel) ?_
            refine pw_iload (i := 5) rfl (by decide +kernel) ?_
            refine pw_if_eq (off := 8) (tgt := 104) (by decide +kernel) (by decide +kernel) (fun z96 => ?_) (fun z96 => ?_)
            · exact absurd z96 (by decide)
            · refine pw_bipush (n := 10) (v := 10) (by decide) (by decide +kernel) ?_
              refine pw_goto (off := 4) (tgt := 105) (by decide +kernel) (by decide +kernel) ?_
              exact pq_iret rfl (by decide +kernel) ⟨congrArg (fun z => some (Value.int z)) (by unfold xPair xFirst; rw [if_pos z12, if_pos ⟨z63, z84⟩]), _, rfl, hfr⟩
  · rw [lge] at z12
    change ¬ _ = ERR at z12
    refine pw_lload_n (k4 := 3) rfl (by decide +kernel) ?_
    refine pw_sipush (n := 999) (v := 999) (by decide) (by decide +kernel) ?_
    refine pq_callS (ν := m_Wo_within) (d' := 1) (av := [_, _]) (by decide +kernel) lm_Wo_135 ok_Wo_within (show _ = some 2 by decide +kernel) (by omega) (Nat.le_of_ble_eq_true rfl) (ct_Wo_within _ _) ?_
    rintro _ _ ⟨rfl, rfl⟩
    exact pq_iret rfl (by decide +kernel) ⟨congrArg (fun z => some (Value.int z)) (if_neg z12).symm, _, rfl, hfr⟩

theorem xWithin_in (v : Int64) (k : Nat) (hk : k < 2 ^ 31) : ∃ q, q ≤ k ∧ xWithin v (nI k) = nI q := by
  unfold xWithin lMax lMin
  rw [nI_l hk]
  by_cases h : v < lN k
  · rw [if_pos h]
    by_cases h2 : v < 0
    · rw [if_pos h2]; exact ⟨0, Nat.zero_le _, rfl⟩
    · rw [if_neg h2]
      obtain ⟨q, hq, rfl⟩ := pk_lOf h2
      exact ⟨q, Nat.le_of_lt ((pk_lLT hq (by omega)).mp h), lN_i q⟩
  · rw [if_neg h]
    have h2 : ¬ lN k < 0 := by rw [show (0 : Int64) = lN 0 from rfl, pk_lLT (by omega) (by decide)]; omega
    rw [if_neg h2]
    exact ⟨k, Nat.le_refl _, lN_i k⟩
theorem xPair_in (I : Nat → Nat → Int32) (t w i j : Nat) : ∃ q, q ≤ 999 ∧ xPair I t w i j = nI q := by
  unfold xPair xFirst
  split
  · split
    · exact ⟨10, by decide, rfl⟩
    · exact ⟨0, by decide, rfl⟩
  · exact xWithin_in _ 999 (by decide)
/-- what a pair is more, as a natural -/
def pN (I : Nat → Nat → Int32) (t w i j : Nat) : Nat := ixn (xPair I t w i j)
theorem pN_eq (I : Nat → Nat → Int32) (t w i j : Nat) : xPair I t w i j = nI (pN I t w i j) ∧ pN I t w i j ≤ 999 := by
  obtain ⟨q, hq, he⟩ := xPair_in I t w i j
  unfold pN
  rw [he, ixn_nI (by omega)]
  exact ⟨rfl, hq⟩
def fLf (I : Nat → Nat → Int32) (w s : Nat) : Bool := decide (I (w + 3) s ≠ -2 ∧ I (w + 1) s = 0)
def fRt (I : Nat → Nat → Int32) (w s : Nat) : Bool := decide (I (w + 3) s ≠ -2 ∧ ¬ I (w + 1) s = 0)
def lsL (I : Nat → Nat → Int32) (w n : Nat) : List Nat := (List.range n).filter (fLf I w)
def lsR (I : Nat → Nat → Int32) (w n : Nat) : List Nat := (List.range n).filter (fRt I w)
theorem ls_s (p : Nat → Bool) (n : Nat) : (List.range (n + 1)).filter p = if p n then (List.range n).filter p ++ [n] else (List.range n).filter p := by
  rw [List.range_succ, List.filter_append]
  by_cases h : p n
  · rw [if_pos h, List.filter_cons_of_pos h]; rfl
  · rw [if_neg h, List.filter_cons_of_neg h]; exact List.append_nil _
theorem ls_lt {p : Nat → Bool} {n x : Nat} (h : x ∈ (List.range n).filter p) : x < n ∧ p x = true := by
  rw [List.mem_filter, List.mem_range] at h
  exact h
theorem ls_at {p : Nat → Bool} {n i x : Nat} (h : ((List.range n).filter p)[i]? = some x) : x < n ∧ p x = true := ls_lt (List.mem_of_getElem? h)
theorem ls_get {l : List Nat} {i : Nat} (h : i < l.length) : ∃ x, l[i]? = some x := ⟨l[i], List.getElem?_eq_getElem h⟩
theorem ls_sum (I : Nat → Nat → Int32) (w : Nat) : ∀ n, (lsL I w n).length + (lsR I w n).length ≤ n
  | 0 => Nat.le_refl _
  | n + 1 => by
    have ih := ls_sum I w n
    unfold lsL lsR at ih ⊢
    rw [ls_s, ls_s]
    by_cases h1 : fLf I w n = true
    · have h2 : ¬ fRt I w n = true := by
        unfold fLf at h1; unfold fRt
        have := of_decide_eq_true h1
        intro h; exact (of_decide_eq_true h).2 this.2
      rw [if_pos h1, if_neg h2, List.length_append]
      simp only [List.length_cons, List.length_nil]
      omega
    · rw [if_neg h1]
      by_cases h2 : fRt I w n = true
      · rw [if_pos h2, List.length_append]
        simp only [List.length_cons, List.length_nil]
        omega
      · rw [if_neg h2]; omega
/-- the rows of Couples behind k shoes -/
def gOK (I J : Nat → Nat → Int32) (w k : Nat) : Prop := (∀ a, a < 126 ∨ 129 < a → J a = I a) ∧ (∀ s, s < k → J 127 s = -2) ∧ (∀ i x, (lsL I w k)[i]? = some x → J 128 i = nI x) ∧ (∀ i x, (lsR I w k)[i]? = some x → J 129 i = nI x) ∧ J 126 6 = nI (lsL I w k).length ∧ J 126 7 = nI (lsR I w k).length
theorem ap_get {l : List Nat} {n i x : Nat} (h : (l ++ [n])[i]? = some x) : l[i]? = some x ∨ (i = l.length ∧ x = n) := by
  rw [List.getElem?_append] at h
  split at h
  · exact Or.inl h
  · rename_i hl
    have : i - l.length = 0 := by
      rcases Nat.eq_zero_or_pos (i - l.length) with e | e
      · exact e
      · rw [List.getElem?_eq_none (by simp only [List.length_cons, List.length_nil]; omega)] at h; cases h
    rw [this] at h
    exact Or.inr ⟨by omega, by cases h; rfl⟩
theorem gl_ne {l : List Nat} {i x : Nat} (h : l[i]? = some x) : i ≠ l.length := by
  intro e
  rw [e, List.getElem?_eq_none (Nat.le_refl _)] at h
  cases h
theorem gOK_L {I J : Nat → Nat → Int32} {w k : Nat} (h : gOK I J w k) (hf : fLf I w k = true) : gOK I (sI (sI (sI J 127 k (-2)) 128 (lsL I w k).length (nI k)) 126 6 (nI ((lsL I w k).length + 1))) w (k + 1) := by
  have hg : ¬ fRt I w k = true := by
    unfold fLf at hf; unfold fRt
    intro h2; exact (of_decide_eq_true h2).2 (of_decide_eq_true hf).2
  obtain ⟨h1, h2, h3, h4, h5, h6⟩ := h
  have eL : lsL I w (k + 1) = lsL I w k ++ [k] := by unfold lsL; rw [ls_s, if_pos hf]
  have eR : lsR I w (k + 1) = lsR I w k := by unfold lsR; rw [ls_s, if_neg hg]
  refine ⟨fun a ha => ?_, fun s hs => ?_, fun i x hx => ?_, fun i x hx => ?_, ?_, ?_⟩
  · rw [sI_ne (by omega), sI_ne (by omega), sI_ne (by omega)]; exact h1 a ha
  · rw [sI_ne (by decide), sI_ne (by decide)]
    by_cases e : s = k
    · subst e; exact sI_rs
    · rw [sI_rd e]; exact h2 s (by omega)
  · rw [sI_ne (by decide)]
    rw [eL] at hx
    rcases ap_get hx with hx | ⟨rfl, rfl⟩
    · rw [sI_rd (gl_ne hx), sI_ne (by decide)]; exact h3 i x hx
    · exact sI_rs
  · rw [sI_ne (by decide), sI_ne (by decide), sI_ne (by decide)]; exact h4 i x (by rw [← eR]; exact hx)
  · rw [sI_rs, eL, List.length_append]; rfl
  · rw [sI_rd (by decide), sI_ne (by decide), sI_ne (by decide), eR]; exact h6
theorem gOK_R {I J : Nat → Nat → Int32} {w k : Nat} (h : gOK I J w k) (hf : fRt I w k = true) : gOK I (sI (sI (sI J 127 k (-2)) 129 (lsR I w k).length (nI k)) 126 7 (nI ((lsR I w k).length + 1))) w (k + 1) := by
  have hg : ¬ fLf I w k = true := by
    unfold fRt at hf; unfold fLf
    intro h2; exact (of_decide_eq_true hf).2 (of_decide_eq_true h2).2
  obtain ⟨h1, h2, h3, h4, h5, h6⟩ := h
  have eR : lsR I w (k + 1) = lsR I w k ++ [k] := by unfold lsR; rw [ls_s, if_pos hf]
  have eL : lsL I w (k + 1) = lsL I w k := by unfold lsL; rw [ls_s, if_neg hg]
  refine ⟨fun a ha => ?_, fun s hs => ?_, fun i x hx => ?_, fun i x hx => ?_, ?_, ?_⟩
  · rw [sI_ne (by omega), sI_ne (by omega), sI_ne (by omega)]; exact h1 a ha
  · rw [sI_ne (by decide), sI_ne (by decide)]
    by_cases e : s = k
    · subst e; exact sI_rs
    · rw [sI_rd e]; exact h2 s (by omega)
  · rw [sI_ne (by decide), sI_ne (by decide), sI_ne (by decide)]; exact h3 i x (by rw [← eL]; exact hx)
  · rw [sI_ne (by decide)]
    rw [eR] at hx
    rcases ap_get hx with hx | ⟨rfl, rfl⟩
    · rw [sI_rd (gl_ne hx), sI_ne (by decide)]; exact h4 i x hx
    · exact sI_rs
  · rw [sI_rd (by decide), sI_ne (by decide), sI_ne (by decide), eL]; exact h5
  · rw [sI_rs, eR, List.length_append]; rfl
theorem gOK_N {I J : Nat → Nat → Int32} {w k : Nat} (h : gOK I J w k) (hf : I (w + 3) k = -2) : gOK I (sI J 127 k (-2)) w (k + 1) := by
  obtain ⟨h1, h2, h3, h4, h5, h6⟩ := h
  have eR : lsR I w (k + 1) = lsR I w k := by unfold lsR; rw [ls_s, if_neg (by unfold fRt; intro q; exact (of_decide_eq_true q).1 hf)]
  have eL : lsL I w (k + 1) = lsL I w k := by unfold lsL; rw [ls_s, if_neg (by unfold fLf; intro q; exact (of_decide_eq_true q).1 hf)]
  unfold gOK
  rw [eR, eL]
  refine ⟨fun a ha => ?_, fun s hs => ?_, fun i x hx => ?_, fun i x hx => ?_, ?_, ?_⟩
  · rw [sI_ne (by omega)]; exact h1 a ha
  · by_cases e : s = k
    · subst e; exact sI_rs
    · rw [sI_rd e]; exact h2 s (by omega)
  · rw [sI_ne (by decide)]; exact h3 i x hx
  · rw [sI_ne (by decide)]; exact h4 i x hx
  · rw [sI_ne (by decide)]; exact h5
  · rw [sI_ne (by decide)]; exact h6
/-- how many bits a digit has -/
def dgt (r : Nat) : Nat := if r < 2 then 1 else if r < 4 then 2 else if r < 8 then 3 else if r < 16 then 4 else 5
theorem dgt_in (r : Nat) (h : r ≤ 16) : 1 ≤ dgt r ∧ dgt r ≤ 5 ∧ r < 2 ^ dgt r := by
  unfold dgt
  split
  · exact ⟨by decide, by decide, by omega⟩
  · split
    · exact ⟨by decide, by decide, by omega⟩
    · split
      · exact ⟨by decide, by decide, by omega⟩
      · split
        · exact ⟨by decide, by decide, by omega⟩
        · exact ⟨by decide, by decide, by omega⟩
theorem dgt_mul0 : ∀ r : Fin 17, ∀ l : Fin 17, l.val + r.val ≤ 16 → dgt r.val * l.val ≤ 40 := by decide +kernel
theorem dgt_mul {r l : Nat} (h : l + r ≤ 16) : dgt r * l ≤ 40 := dgt_mul0 ⟨r, by omega⟩ ⟨l, by omega⟩ h
theorem dgt_go : ∀ r, r ≤ 16 → ∀ d, 1 ≤ d → d ≤ 5 → (d = 1 ∨ 2 ^ (d - 1) ≤ r) → (5 ≤ d ∨ r < 2 ^ d) → d = dgt r := by
  intro r hr d h1 h5 ha hb
  have hx : d = 1 ∨ d = 2 ∨ d = 3 ∨ d = 4 ∨ d = 5 := by omega
  unfold dgt
  rcases hx with rfl | rfl | rfl | rfl | rfl
  · rcases hb with hb | hb
    · omega
    · rw [if_pos (by simpa using hb)]
  · rcases ha with ha | ha <;> rcases hb with hb | hb <;> first | omega | skip
    rw [if_neg (by simp at ha; omega), if_pos (by simpa using hb)]
  · rcases ha with ha | ha <;> rcases hb with hb | hb <;> first | omega | skip
    rw [if_neg (by simp at ha; omega), if_neg (by simp at ha; omega), if_pos (by simpa using hb)]
  · rcases ha with ha | ha <;> rcases hb with hb | hb <;> first | omega | skip
    rw [if_neg (by simp at ha; omega), if_neg (by simp at ha; omega), if_neg (by simp at ha; omega), if_pos (by simpa using hb)]
  · rcases ha with ha | ha <;> first | omega | skip
    simp at ha
    rw [if_neg (by omega), if_neg (by omega), if_neg (by omega), if_neg (by omega)]
def rGa (I : Nat → Nat → Int32) (L : Nat → Nat → Int64) (P : Nat → Nat → Option Nat) (w ns : Nat) : Option Value → pM → Prop := fun r M => r = none ∧ ∃ J, M = (J, L, P) ∧ gOK I J w ns ∧ J 126 8 = nI (dgt (lsR I w ns).length)

theorem gOK_8 {I J : Nat → Nat → Int32} {w k : Nat} {x : Int32} (h : gOK I J w k) : gOK I (sI J 126 8 x) w k := by
  obtain ⟨h1, h2, h3, h4, h5, h6⟩ := h
  refine ⟨fun a ha => ?_, fun s hs => ?_, fun i x hx => ?_, fun i x hx => ?_, ?_, ?_⟩
  · rw [sI_ne (by omega)]; exact h1 a ha
  · rw [sI_ne (by decide)]; exact h2 s hs
  · rw [sI_ne (by decide)]; exact h3 i x hx
  · rw [sI_ne (by decide)]; exact h4 i x hx
  · rw [sI_rd (by decide)]; exact h5
  · rw [sI_rd (by decide)]; exact h6
theorem ct_Cp_gather {sh : List pSh} {I : Nat → Nat → Int32} {L : Nat → Nat → Int64} {P : Nat → Nat → Option Nat} (hA : kA sh P) {w t : Nat} (hw : w = 62 ∨ w = 68 ∨ w = 74) (ht : t = 3 ∨ t = 30) (hwt : P w 0 = some t) {np ns nd : Nat} (hn : tOK I t np ns nd) : pCn m_Cp_gather 2 [.ref 126, .ref w] sh (I, L, P) (rGa I L P w ns) := by
  refine pCn_of (by decide +kernel) (Nat.le_of_ble_eq_true rfl) ?_
  have h16 := hn.2.2.2.1
  have hls := ls_sum I w ns
  have hD : ∀ dd : Nat, 1 ≤ dd → dd ≤ 5 → (dd = 1 ∨ 2 ^ (dd - 1) ≤ (lsR I w ns).length) → ∀ J : Nat → Nat → Int32, gOK I J w ns → J 126 8 = nI dd → pWn m_Cp_gather 2 sh (rGa I L P w ns) 110 [some (.ref 126), some (.ref w), some (.int (nI ns))] [] (J, L, P) := by
    have key := pMeas (fun dd : Nat => 1 ≤ dd → dd ≤ 5 → (dd = 1 ∨ 2 ^ (dd - 1) ≤ (lsR I w ns).length) → ∀ J : Nat → Nat → Int32, gOK I J w ns → J 126 8 = nI dd → pWn m_Cp_gather 2 sh (rGa I L P w ns) 110 [some (.ref 126), some (.ref w), some (.int (nI ns))] [] (J, L, P)) (fun dd => 6 - dd) (by
      intro dd ih h1 h5 hlow J hJ h8
      have hp32 : 2 ^ dd ≤ 2 ^ 5 := Nat.pow_le_pow_right (by decide) h5
      refine pw_aload_n (k4 := 0) rfl (by decide +kernel) ?_
      refine pq_getI (c := 0) (k := 8) (ks_cp hA) (by decide) (by decide) lf_Cp_75 (by decide +kernel) ?_
      refine pn_val (nI (dd)) h8 ?_
      refine pw_iconst (n := 5) (v := 5) (by decide) (by decide +kernel) ?_
      refine pn_icmp_ge (off := 29) (tgt := 144) dd 5 rfl rfl (by omega) (by omega) (by decide +kernel) (by decide +kernel) (fun z115 => ?_) (fun z115 => ?_)
      · exact pq_vret rfl (by decide +kernel) ⟨rfl, _, rfl, hJ, by rw [h8]; exact congrArg nI (dgt_go _ (by omega) dd (by omega) (by omega) hlow (by omega))⟩
      · refine pw_iconst (n := 1) (v := 1) (by decide) (by decide +kernel) ?_
        refine pw_aload_n (k4 := 0) rfl (by decide +kernel) ?_
        refine pq_getI (c := 0) (k := 8) (ks_cp hA) (by decide) (by decide) lf_Cp_75 (by decide +kernel) ?_
        refine pn_val (nI (dd)) h8 ?_
        refine pw_ishl (by decide +kernel) ?_
        refine pn_val (nI (2 ^ dd)) (nI_pow (by omega)) ?_
        refine pw_aload_n (k4 := 0) rfl (by decide +kernel) ?_
        refine pq_getI (c := 0) (k := 7) (ks_cp hA) (by decide) (by decide) lf_Cp_36 (by decide +kernel) ?_
        refine pn_val (nI ((lsR I w ns).length)) hJ.2.2.2.2.2 ?_
        refine pn_icmp_gt (off := 16) (tgt := 144) (2 ^ dd) ((lsR I w ns).length) rfl rfl (by omega) (by omega) (by decide +kernel) (by decide +kernel) (fun z128 => ?_) (fun z128 => ?_)
        · exact pq_vret rfl (by decide +kernel) ⟨rfl, _, rfl, hJ, by rw [h8]; exact congrArg nI (dgt_go _ (by omega) dd (by omega) (by omega) hlow (by omega))⟩
        · refine pw_aload_n (k4 := 0) rfl (by decide +kernel) ?_
          refine pw_dup rfl (by decide +kernel) ?_
          refine pq_getI (c := 0) (k := 8) (ks_cp hA) (by decide) (by decide) lf_Cp_75 (by decide +kernel) ?_
          refine pn_val (nI (dd)) h8 ?_
          refine pw_iconst (n := 1) (v := 1) (by decide) (by decide +kernel) ?_
          refine pn_iadd dd 1 rfl rfl (by decide +kernel) ?_
          refine pq_putI (c := 0) (k := 8) (ks_cp hA) (by decide) (by decide) lf_Cp_75 (Or.inl rfl) (by decide +kernel) ?_
          refine pw_goto (off := -31) (tgt := 110) (by decide +kernel) (by decide +kernel) ?_
          have q2 := ih (dd + 1) (by omega) (by omega) (by omega) (Or.inr (by rw [Nat.add_sub_cancel]; omega)) _ (gOK_8 hJ) (by exact sI_rs)
          exact q2
)
    exact key
  have hL := pUpTo ns (fun k => ∀ J : Nat → Nat → Int32, gOK I J w k → pWn m_Cp_gather 2 sh (rGa I L P w ns) 12 [some (.ref 126), some (.ref w), some (.int (nI k))] [] (J, L, P)) (by
    intro k hk ih J hJ
    have hls := ls_sum I w k
    refine pw_iload_n (k4 := 2) rfl (by decide +kernel) ?_
    refine pw_aload_n (k4 := 1) rfl (by decide +kernel) ?_
    refine pq_getP (c := 9) (k := 0) (ks_w hA hw) (by decide) (by decide) hwt lf_Cp_57 (by decide +kernel) ?_
    refine pq_getI (c := 7) (k := 6) (ks_t hA ht) (by decide) (by decide) lf_Cp_63 (by decide +kernel) ?_
    refine pn_val (nI (ns)) (by rw [hJ.1 t (by omega)]; exact hn.2.2.1) ?_
    refine pn_icmp_ge (off := 85) (tgt := 105) k ns rfl rfl (by omega) (by omega) (by decide +kernel) (by decide +kernel) (fun z20 => ?_) (fun z20 => ?_)
    · refine pw_aload_n (k4 := 0) rfl (by decide +kernel) ?_
      refine pw_iconst (n := 1) (v := 1) (by decide) (by decide +kernel) ?_
      refine pq_putI (c := 0) (k := 8) (ks_cp hA) (by decide) (by decide) lf_Cp_75 (Or.inl rfl) (by decide +kernel) ?_
      obtain rfl : k = ns := by omega
      exact hD 1 (by omega) (by omega) (Or.inl rfl) _ (gOK_8 hJ) (by exact sI_rs)
    · refine pw_aload_n (k4 := 0) rfl (by decide +kernel) ?_
      refine pq_getP (c := 0) (k := 1) (ks_cp hA) (by decide) (by decide) (kp_cp_partnerOf hA) lf_Cp_9 (by decide +kernel) ?_
      refine pw_iload_n (k4 := 2) rfl (by decide +kernel) ?_
      refine pw_bipush (n := -2) (v := -2) (by decide) (by decide +kernel) ?_
      refine pq_iast k rfl (by omega) (by decide) (ks_cp_partnerOf hA) (by decide +kernel) ?_
      have hth : xThere (sI J 127 k (-2)) t w (nI k) → I (w + 3) k ≠ -2 := fun q => by have q2 := q.2; rwa [sI_ne (by omega), hJ.1 (w + 3) (by omega), ixn_nI (by omega)] at q2
      have hnt : ¬ xThere (sI J 127 k (-2)) t w (nI k) → I (w + 3) k = -2 := fun q => Decidable.not_not.mp (fun e => q ⟨by unfold xHasS; rw [sI_ne (by omega), hJ.1 t (by omega)]; exact nVal hn.2.2.1 (by omega) (by omega), by rw [sI_ne (by omega), hJ.1 (w + 3) (by omega), ixn_nI (by omega)]; exact e⟩)
      refine pw_aload_n (k4 := 1) rfl (by decide +kernel) ?_
      refine pw_iload_n (k4 := 2) rfl (by decide +kernel) ?_
      refine pq_callV (ν := m_Wo_isThere) (d' := 1) (av := [_]) (c := 9) (by decide +kernel) lm_Cp_68 ok_Wo_isThere (show _ = some 1 by decide +kernel) (ks_w hA hw) rfl (by decide) (by omega) (Nat.le_of_ble_eq_true rfl) (ct_Wo_isThere hA hw ht hwt (tOK_cg (by rw [sI_ne (by omega)]; exact hJ.1 t (by omega)) hn) _) ?_
      rintro _ _ ⟨rfl, rfl⟩
      refine pn_ifB_eq (off := 35) (tgt := 71) (by decide +kernel) (by decide +kernel) (fun z36 => ?_) (fun z36 => ?_)
      · refine pw_aload_n (k4 := 1) rfl (by decide +kernel) ?_
        refine pw_iload_n (k4 := 2) rfl (by decide +kernel) ?_
        refine pq_callV (ν := m_Wo_isThere) (d' := 1) (av := [_]) (c := 9) (by decide +kernel) lm_Cp_68 ok_Wo_isThere (show _ = some 1 by decide +kernel) (ks_w hA hw) rfl (by decide) (by omega) (Nat.le_of_ble_eq_true rfl) (ct_Wo_isThere hA hw ht hwt (tOK_cg (by rw [sI_ne (by omega)]; exact hJ.1 t (by omega)) hn) _) ?_
        rintro _ _ ⟨rfl, rfl⟩
        refine pn_ifB_eq (off := 23) (tgt := 99) (by decide +kernel) (by decide +kernel) (fun z76 => ?_) (fun z76 => ?_)
        · have hf := hnt z36
          refine pn_iinc (i := 2) (n := 1) 1 k rfl rfl (by decide) rfl (by decide +kernel) ?_
          refine pw_goto (off := -90) (tgt := 12) (by decide +kernel) (by decide +kernel) ?_
          exact ih (by omega) _ (gOK_N hJ hf)
        · exact absurd z76 z36
      · refine pw_aload_n (k4 := 1) rfl (by decide +kernel) ?_
        refine pq_getP (c := 9) (k := 4) (ks_w hA hw) (by decide) (by decide) (kp_w_side hA hw) lf_Cp_72 (by decide +kernel) ?_
        refine pw_iload_n (k4 := 2) rfl (by decide +kernel) ?_
        refine pq_iald k rfl (by omega) (by decide) (ks_w_side hA hw) (by decide +kernel) ?_
        refine pw_if_ne (off := 26) (tgt := 71) (by decide +kernel) (by decide +kernel) (fun z45 => ?_) (fun z45 => ?_)
        · rw [sI_ne (show w + 1 ≠ 127 by omega), hJ.1 (w + 1) (by omega)] at z45
          have hf : fRt I w k = true := decide_eq_true ⟨hth z36, z45⟩
          refine pw_aload_n (k4 := 1) rfl (by decide +kernel) ?_
          refine pw_iload_n (k4 := 2) rfl (by decide +kernel) ?_
          refine pq_callV (ν := m_Wo_isThere) (d' := 1) (av := [_]) (c := 9) (by decide +kernel) lm_Cp_68 ok_Wo_isThere (show _ = some 1 by decide +kernel) (ks_w hA hw) rfl (by decide) (by omega) (Nat.le_of_ble_eq_true rfl) (ct_Wo_isThere hA hw ht hwt (tOK_cg (by rw [sI_ne (by omega)]; exact hJ.1 t (by omega)) hn) _) ?_
          rintro _ _ ⟨rfl, rfl⟩
          refine pn_ifB_eq (off := 23) (tgt := 99) (by decide +kernel) (by decide +kernel) (fun z76 => ?_) (fun z76 => ?_)
          · exact absurd z36 z76
          · refine pw_aload_n (k4 := 0) rfl (by decide +kernel) ?_
            refine pq_getP (c := 0) (k := 3) (ks_cp hA) (by decide) (by decide) (kp_cp_rights hA) lf_Cp_18 (by decide +kernel) ?_
            refine pw_aload_n (k4 := 0) rfl (by decide +kernel) ?_
            refine pq_getI (c := 0) (k := 7) (ks_cp hA) (by decide) (by decide) lf_Cp_36 (by decide +kernel) ?_
            refine pn_val (nI ((lsR I w k).length)) (by rw [sI_ne (by decide)]; exact hJ.2.2.2.2.2) ?_
            refine pw_iload_n (k4 := 2) rfl (by decide +kernel) ?_
            refine pq_iast ((lsR I w k).length) rfl (by omega) (by decide) (ks_cp_rights hA) (by decide +kernel) ?_
            refine pw_aload_n (k4 := 0) rfl (by decide +kernel) ?_
            refine pw_dup rfl (by decide +kernel) ?_
            refine pq_getI (c := 0) (k := 7) (ks_cp hA) (by decide) (by decide) lf_Cp_36 (by decide +kernel) ?_
            refine pn_val (nI ((lsR I w k).length)) (by rw [sI_ne (by decide), sI_ne (by decide)]; exact hJ.2.2.2.2.2) ?_
            refine pw_iconst (n := 1) (v := 1) (by decide) (by decide +kernel) ?_
            refine pn_iadd ((lsR I w k).length) 1 rfl rfl (by decide +kernel) ?_
            refine pq_putI (c := 0) (k := 7) (ks_cp hA) (by decide) (by decide) lf_Cp_36 (Or.inl rfl) (by decide +kernel) ?_
            refine pn_iinc (i := 2) (n := 1) 1 k rfl rfl (by decide) rfl (by decide +kernel) ?_
            refine pw_goto (off := -90) (tgt := 12) (by decide +kernel) (by decide +kernel) ?_
            exact ih (by omega) _ (gOK_R hJ hf)
        · rw [sI_ne (show w + 1 ≠ 127 by omega), hJ.1 (w + 1) (by omega)] at z45
          have hf : fLf I w k = true := decide_eq_true ⟨hth z36, z45⟩
          refine pw_aload_n (k4 := 0) rfl (by decide +kernel) ?_
          refine pq_getP (c := 0) (k := 2) (ks_cp hA) (by decide) (by decide) (kp_cp_lefts hA) lf_Cp_15 (by decide +kernel) ?_
          refine pw_aload_n (k4 := 0) rfl (by decide +kernel) ?_
          refine pq_getI (c := 0) (k := 6) (ks_cp hA) (by decide) (by decide) lf_Cp_32 (by decide +kernel) ?_
          refine pn_val (nI ((lsL I w k).length)) (by rw [sI_ne (by decide)]; exact hJ.2.2.2.2.1) ?_
          refine pw_iload_n (k4 := 2) rfl (by decide +kernel) ?_
          refine pq_iast ((lsL I w k).length) rfl (by omega) (by decide) (ks_cp_lefts hA) (by decide +kernel) ?_
          refine pw_aload_n (k4 := 0) rfl (by decide +kernel) ?_
          refine pw_dup rfl (by decide +kernel) ?_
          refine pq_getI (c := 0) (k := 6) (ks_cp hA) (by decide) (by decide) lf_Cp_32 (by decide +kernel) ?_
          refine pn_val (nI ((lsL I w k).length)) (by rw [sI_ne (by decide), sI_ne (by decide)]; exact hJ.2.2.2.2.1) ?_
          refine pw_iconst (n := 1) (v := 1) (by decide) (by decide +kernel) ?_
          refine pn_iadd ((lsL I w k).length) 1 rfl rfl (by decide +kernel) ?_
          refine pq_putI (c := 0) (k := 6) (ks_cp hA) (by decide) (by decide) lf_Cp_32 (Or.inl rfl) (by decide +kernel) ?_
          refine pw_goto (off := 31) (tgt := 99) (by decide +kernel) (by decide +kernel) ?_
          refine pn_iinc (i := 2) (n := 1) 1 k rfl rfl (by decide) rfl (by decide +kernel) ?_
          refine pw_goto (off := -90) (tgt := 12) (by decide +kernel) (by decide +kernel) ?_
          exact ih (by omega) _ (gOK_L hJ hf)
)
  have hg0 : gOK I (sI (sI I 126 6 0) 126 7 0) w 0 := ⟨fun a ha => (by rw [sI_ne (by omega), sI_ne (by omega)]), fun s hs => absurd hs (Nat.not_lt_zero _), fun i x hx => (by cases hx), fun i x hx => (by cases hx), (by rw [sI_rd (by decide)]; exact sI_rs), (by exact sI_rs)⟩
  refine pw_aload_n (k4 := 0) rfl (by decide +kernel) ?_
  refine pw_iconst (n := 0) (v := 0) (by decide) (by decide +kernel) ?_
  refine pq_putI (c := 0) (k := 6) (ks_cp hA) (by decide) (by decide) lf_Cp_32 (Or.inl rfl) (by decide +kernel) ?_
  refine pw_aload_n (k4 := 0) rfl (by decide +kernel) ?_
  refine pw_iconst (n := 0) (v := 0) (by decide) (by decide +kernel) ?_
  refine pq_putI (c := 0) (k := 7) (ks_cp hA) (by decide) (by decide) lf_Cp_36 (Or.inl rfl) (by decide +kernel) ?_
  refine pw_iconst (n := 0) (v := 0) (by decide) (by decide +kernel) ?_
  refine pq_istore_n (k4 := 2) (Nat.le_of_ble_eq_true rfl) rfl (by decide +kernel) ?_
  exact hL 0 (Nat.zero_le _) _ hg0
