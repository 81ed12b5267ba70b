/-! ===== worth, wear, pairs: the methods ===== -/
theorem ct_Wo_lawOfPair {sh : List pSh} {I : Nat → Nat → Int32} {L : Nat → Nat → Int64} {P : Nat → Nat → Option Nat} (hA : kA sh P) {w t : Nat} (hw : w = 62 ∨ w = 68 ∨ w = 74) (ht : t = 3 ∨ t = 30) (hwt : P w 0 = some t) {np ns nd : Nat} (hn : tOK I t np ns nd) (hl : lOK I t) (i j : Nat) (hi : i < ns) (hj : j < ns) : pCn m_Wo_lawOfPair 2 [.ref w, .int (nI i), .int (nI j)] sh (I, L, P) (rJx (xLawP I t w i j) I P) := by
  refine pCn_of (by decide +kernel) (Nat.le_of_ble_eq_true rfl) ?_
  refine pw_aload_n (k4 := 0) rfl (by decide +kernel) ?_
  refine pq_getP (c := 9) (k := 0) (ks_w hA hw) (by decide) (by decide) hwt lf_Wo_29 (by decide +kernel) ?_
  refine pw_iload_n (k4 := 1) rfl (by decide +kernel) ?_
  refine pq_callV (ν := m_Ta_hasShoe) (d' := 0) (av := [_]) (c := 7) (by decide +kernel) lm_Wo_58 ok_Ta_hasShoe (show _ = some 1 by decide +kernel) (ks_t hA ht) rfl (by decide) (by omega) (Nat.le_of_ble_eq_true rfl) (ct_Ta_hasShoe hA ht _) ?_
  rintro _ _ ⟨rfl, rfl⟩
  refine pw_if_eq (off := 14) (tgt := 22) (by decide +kernel) (by decide +kernel) (fun z8 => ?_) (fun z8 => ?_)
  · exact absurd (nVal hn.2.2.1 (by have := hn.2.2.2.1; omega) hi) (B_0.mp z8)
  · have h16 := hn.2.2.2.1
    have h5 := hn.2.1
    refine pw_aload_n (k4 := 0) rfl (by decide +kernel) ?_
    refine pq_getP (c := 9) (k := 0) (ks_w hA hw) (by decide) (by decide) hwt lf_Wo_29 (by decide +kernel) ?_
    refine pw_iload_n (k4 := 2) rfl (by decide +kernel) ?_
    refine pq_callV (ν := m_Ta_hasShoe) (d' := 0) (av := [_]) (c := 7) (by decide +kernel) lm_Wo_58 ok_Ta_hasShoe (show _ = some 1 by decide +kernel) (ks_t hA ht) rfl (by decide) (by omega) (Nat.le_of_ble_eq_true rfl) (ct_Ta_hasShoe hA ht _) ?_
    rintro _ _ ⟨rfl, rfl⟩
    refine pw_if_ne (off := 7) (tgt := 26) (by decide +kernel) (by decide +kernel) (fun z19 => ?_) (fun z19 => ?_)
    · refine pw_aload_n (k4 := 0) rfl (by decide +kernel) ?_
      refine pq_getP (c := 9) (k := 0) (ks_w hA hw) (by decide) (by decide) hwt lf_Wo_29 (by decide +kernel) ?_
      refine pq_getP (c := 7) (k := 18) (ks_t hA ht) (by decide) (by decide) (kp_t_laws hA ht) lf_Wo_84 (by decide +kernel) ?_
      refine pq_astore_n (k4 := 3) (Nat.le_of_ble_eq_true rfl) rfl (by decide +kernel) ?_
      refine pw_aload_n (k4 := 0) rfl (by decide +kernel) ?_
      refine pq_getP (c := 9) (k := 0) (ks_w hA hw) (by decide) (by decide) hwt lf_Wo_29 (by decide +kernel) ?_
      refine pq_getP (c := 7) (k := 8) (ks_t hA ht) (by decide) (by decide) (kp_t_size hA ht) lf_Wo_88 (by decide +kernel) ?_
      refine pw_iload_n (k4 := 1) rfl (by decide +kernel) ?_
      refine pq_iald i rfl (by omega) (by decide) (ks_t_size hA ht) (by decide +kernel) ?_
      refine pw_aload_n (k4 := 0) rfl (by decide +kernel) ?_
      refine pq_getP (c := 9) (k := 0) (ks_w hA hw) (by decide) (by decide) hwt lf_Wo_29 (by decide +kernel) ?_
      refine pq_getP (c := 7) (k := 8) (ks_t hA ht) (by decide) (by decide) (kp_t_size hA ht) lf_Wo_88 (by decide +kernel) ?_
      refine pw_iload_n (k4 := 2) rfl (by decide +kernel) ?_
      refine pq_iald j rfl (by omega) (by decide) (ks_t_size hA ht) (by decide +kernel) ?_
      refine pw_isub (by decide +kernel) ?_
      refine pw_mabs (by decide +kernel) lm_Wo_114 (by omega) (Nat.le_of_ble_eq_true rfl) (Nat.le_refl _) (Nat.le_refl _) ?_
      refine pq_istore (i := 4) (Nat.le_of_ble_eq_true rfl) rfl (by decide +kernel) ?_
      refine pw_aload_n (k4 := 3) rfl (by decide +kernel) ?_
      refine pw_aload_n (k4 := 0) rfl (by decide +kernel) ?_
      refine pq_getP (c := 9) (k := 0) (ks_w hA hw) (by decide) (by decide) hwt lf_Wo_29 (by decide +kernel) ?_
      refine pq_getP (c := 7) (k := 8) (ks_t hA ht) (by decide) (by decide) (kp_t_size hA ht) lf_Wo_88 (by decide +kernel) ?_
      refine pw_iload_n (k4 := 1) rfl (by decide +kernel) ?_
      refine pq_iald i rfl (by omega) (by decide) (ks_t_size hA ht) (by decide +kernel) ?_
      refine pw_aload_n (k4 := 0) rfl (by decide +kernel) ?_
      refine pq_getP (c := 9) (k := 5) (ks_w hA hw) (by decide) (by decide) (kp_w_used hA hw) lf_Wo_17 (by decide +kernel) ?_
      refine pw_iload_n (k4 := 1) rfl (by decide +kernel) ?_
      refine pq_iald i rfl (by omega) (by decide) (ks_w_used hA hw) (by decide +kernel) ?_
      refine pw_aload_n (k4 := 0) rfl (by decide +kernel) ?_
      refine pq_getP (c := 9) (k := 5) (ks_w hA hw) (by decide) (by decide) (kp_w_used hA hw) lf_Wo_17 (by decide +kernel) ?_
      refine pw_iload_n (k4 := 2) rfl (by decide +kernel) ?_
      refine pq_iald j rfl (by omega) (by decide) (ks_w_used hA hw) (by decide +kernel) ?_
      refine pw_iadd (by decide +kernel) ?_
      refine pw_aload_n (k4 := 0) rfl (by decide +kernel) ?_
      refine pq_getP (c := 9) (k := 0) (ks_w hA hw) (by decide) (by decide) hwt lf_Wo_29 (by decide +kernel) ?_
      refine pq_getP (c := 7) (k := 10) (ks_t hA ht) (by decide) (by decide) (kp_t_kind hA ht) lf_Wo_91 (by decide +kernel) ?_
      refine pw_iload_n (k4 := 1) rfl (by decide +kernel) ?_
      refine pq_iald i rfl (by omega) (by decide) (ks_t_kind hA ht) (by decide +kernel) ?_
      refine pw_iload (i := 4) rfl (by decide +kernel) ?_
      refine pq_callV (ν := m_La_setShoe) (d' := 0) (av := [_, _, _, _]) (c := 2) (by decide +kernel) lm_Wo_94 ok_La_setShoe (show _ = some 4 by decide +kernel) (ks_t_laws hA ht) rfl (by decide) (by omega) (Nat.le_of_ble_eq_true rfl) (ct_La_setShoe hA ht _ _ _ _) ?_
      rintro _ _ ⟨rfl, rfl⟩
      refine pw_aload_n (k4 := 3) rfl (by decide +kernel) ?_
      refine pw_iconst (n := 0) (v := 0) (by decide) (by decide +kernel) ?_
      refine pw_iconst (n := 0) (v := 0) (by decide) (by decide +kernel) ?_
      refine pw_aload_n (k4 := 0) rfl (by decide +kernel) ?_
      refine pq_getI (c := 9) (k := 1) (ks_w hA hw) (by decide) (by decide) lf_Wo_43 (by decide +kernel) ?_
      refine pq_callV (ν := m_La_setOwner) (d' := 0) (av := [_, _, _]) (c := 2) (by decide +kernel) lm_Wo_106 ok_La_setOwner (show _ = some 3 by decide +kernel) (ks_t_laws hA ht) rfl (by decide) (by omega) (Nat.le_of_ble_eq_true rfl) (ct_La_setOwner hA ht _ _ _) ?_
      rintro _ _ ⟨rfl, rfl⟩
      refine pw_aload_n (k4 := 3) rfl (by decide +kernel) ?_
      refine pw_iconst (n := 2) (v := 2) (by decide) (by decide +kernel) ?_
      refine pq_callV (ν := m_La_valueOf) (d' := 1) (av := [_]) (c := 2) (by decide +kernel) lm_Wo_110 ok_La_valueOf (show _ = some 1 by decide +kernel) (ks_t_laws hA ht) rfl (by decide) (by omega) (Nat.le_of_ble_eq_true rfl) (ct_La_valueOf hA ht hl (r := 2) (by decide)) ?_
      rintro _ _ ⟨rfl, g, rfl⟩
      exact pq_lret rfl (by decide +kernel) ⟨congrArg (fun z => some (Value.long z)) (xVal_law (xNm_set _ _ _ _ _ _ _ _ _)), _, rfl⟩
    · exact absurd (nVal hn.2.2.1 (by have := hn.2.2.2.1; omega) hj) (B_0.mp z19)

theorem ct_Wo_worthWhen {sh : List pSh} {I : Nat → Nat → Int32} {L : Nat → Nat → Int64} {P : Nat → Nat → Option Nat} (hA : kA sh P) {w t : Nat} (hw : w = 62 ∨ w = 68 ∨ w = 74) (ht : t = 3 ∨ t = 30) (hwt : P w 0 = some t) {np ns nd : Nat} (hn : tOK I t np ns nd) (hl : lOK I t) (j : Nat) (hj : j < ns) (u d : Int32) : pCn m_Wo_worthWhen 3 [.ref w, .int (nI j), .int u, .int d] sh (I, L, P) (rIx (xWorth I t w j u d) I P) := by
  refine pCn_of (by decide +kernel) (Nat.le_of_ble_eq_true rfl) ?_
  refine pw_aload_n (k4 := 0) rfl (by decide +kernel) ?_
  refine pw_iconst (n := 0) (v := 0) (by decide) (by decide +kernel) ?_
  refine pw_iload_n (k4 := 1) rfl (by decide +kernel) ?_
  refine pw_iload_n (k4 := 2) rfl (by decide +kernel) ?_
  refine pw_iload_n (k4 := 3) rfl (by decide +kernel) ?_
  refine pq_callV (ν := m_Wo_lawOf) (d' := 2) (av := [_, _, _, _]) (c := 9) (by decide +kernel) lm_Wo_131 ok_Wo_lawOf (show _ = some 4 by decide +kernel) (ks_w hA hw) rfl (by decide) (by omega) (Nat.le_of_ble_eq_true rfl) (ct_Wo_lawOf hA hw ht hwt hn hl j hj (r := 0) (by decide) _ _) ?_
  rintro _ _ ⟨rfl, L', rfl⟩
  refine pq_lstore (i := 4) (Nat.le_of_ble_eq_true rfl) rfl (by decide +kernel) ?_
  refine pw_lload (i := 4) rfl (by decide +kernel) ?_
  refine pw_ldc2 lc_Wo_82 (by decide +kernel) ?_
  refine pw_lcmp (by decide +kernel) ?_
  refine pw_if_eq (off := 12) (tgt := 28) (by decide +kernel) (by decide +kernel) (fun z16 => ?_) (fun z16 => ?_)
  · rw [lge] at z16
    change _ = ERR at z16
    have h16 := hn.2.2.2.1
    have h5 := hn.2.1
    refine pw_aload_n (k4 := 0) rfl (by decide +kernel) ?_
    refine pq_getP (c := 9) (k := 0) (ks_w hA hw) (by decide) (by decide) hwt lf_Wo_29 (by decide +kernel) ?_
    refine pw_iload_n (k4 := 1) rfl (by decide +kernel) ?_
    refine pq_callV (ν := m_Ta_hasShoe) (d' := 0) (av := [_]) (c := 7) (by decide +kernel) lm_Wo_58 ok_Ta_hasShoe (show _ = some 1 by decide +kernel) (ks_t hA ht) rfl (by decide) (by omega) (Nat.le_of_ble_eq_true rfl) (ct_Ta_hasShoe hA ht _) ?_
    rintro _ _ ⟨rfl, rfl⟩
    refine pw_if_ne (off := 5) (tgt := 41) (by decide +kernel) (by decide +kernel) (fun z36 => ?_) (fun z36 => ?_)
    · refine pw_aload_n (k4 := 0) rfl (by decide +kernel) ?_
      refine pq_getP (c := 9) (k := 0) (ks_w hA hw) (by decide) (by decide) hwt lf_Wo_29 (by decide +kernel) ?_
      refine pq_getP (c := 7) (k := 8) (ks_t hA ht) (by decide) (by decide) (kp_t_size hA ht) lf_Wo_88 (by decide +kernel) ?_
      refine pw_iload_n (k4 := 1) rfl (by decide +kernel) ?_
      refine pq_iald j rfl (by omega) (by decide) (ks_t_size hA ht) (by decide +kernel) ?_
      refine pq_istore (i := 6) (Nat.le_of_ble_eq_true rfl) rfl (by decide +kernel) ?_
      refine pw_iconst (n := 0) (v := 0) (by decide) (by decide +kernel) ?_
      refine pw_aload_n (k4 := 0) rfl (by decide +kernel) ?_
      refine pq_getP (c := 9) (k := 4) (ks_w hA hw) (by decide) (by decide) (kp_w_side hA hw) lf_Wo_11 (by decide +kernel) ?_
      refine pw_iload_n (k4 := 1) rfl (by decide +kernel) ?_
      refine pq_iald j rfl (by omega) (by decide) (ks_w_side hA hw) (by decide +kernel) ?_
      refine pw_if_ne (off := 10) (tgt := 69) (by decide +kernel) (by decide +kernel) (fun z59 => ?_) (fun z59 => ?_)
      · refine pw_iload (i := 6) rfl (by decide +kernel) ?_
        refine pw_iload_n (k4 := 2) rfl (by decide +kernel) ?_
        refine pw_iconst (n := 5) (v := 5) (by decide) (by decide +kernel) ?_
        refine pw_idiv (by decide) (by decide +kernel) ?_
        refine pw_isub (by decide +kernel) ?_
        refine pw_mmax (by decide +kernel) lm_Wo_139 (by omega) (Nat.le_of_ble_eq_true rfl) (Nat.le_refl _) (Nat.le_refl _) ?_
        exact pq_iret rfl (by decide +kernel) ⟨congrArg (fun z => some (Value.int z)) (by unfold xWorth xFirst; rw [if_pos z16, if_neg z59]), _, rfl⟩
      · refine pw_iconst (n := 2) (v := 2) (by decide) (by decide +kernel) ?_
        refine pw_iload (i := 6) rfl (by decide +kernel) ?_
        refine pw_imul (by decide +kernel) ?_
        refine pw_goto (off := 5) (tgt := 71) (by decide +kernel) (by decide +kernel) ?_
        refine pw_iload_n (k4 := 2) rfl (by decide +kernel) ?_
        refine pw_iconst (n := 5) (v := 5) (by decide) (by decide +kernel) ?_
        refine pw_idiv (by decide) (by decide +kernel) ?_
        refine pw_isub (by decide +kernel) ?_
        refine pw_mmax (by decide +kernel) lm_Wo_139 (by omega) (Nat.le_of_ble_eq_true rfl) (Nat.le_refl _) (Nat.le_refl _) ?_
        exact pq_iret rfl (by decide +kernel) ⟨congrArg (fun z => some (Value.int z)) (by unfold xWorth xFirst; rw [if_pos z16, if_pos z59]), _, rfl⟩
    · exact absurd (nVal hn.2.2.1 (by have := hn.2.2.2.1; omega) hj) (B_0.mp z36)
  · rw [lge] at z16
    change ¬ _ = ERR at z16
    refine pw_lload (i := 4) rfl (by decide +kernel) ?_
    refine pw_sipush (n := 999) (v := 999) (by decide) (by decide +kernel) ?_
    refine pq_callS (ν := m_Wo_within) (d' := 1) (av := [_, _]) (by decide +kernel) lm_Wo_135 ok_Wo_within (show _ = some 2 by decide +kernel) (by omega) (Nat.le_of_ble_eq_true rfl) (ct_Wo_within _ _) ?_
    rintro _ _ ⟨rfl, rfl⟩
    exact pq_iret rfl (by decide +kernel) ⟨congrArg (fun z => some (Value.int z)) (if_neg z16).symm, _, rfl⟩

/-- what a shoe is worth today; 0 in the grave -/
def xWorthNow (I : Nat → Nat → Int32) (t w j : Nat) : Int32 := if I (w + 3) j = -2 then 0 else xWorth I t w j (I (w + 2) j) (I w 1)

theorem ct_Wo_worthOf {sh : List pSh} {I : Nat → Nat → Int32} {L : Nat → Nat → Int64} {P : Nat → Nat → Option Nat} (hA : kA sh P) {w t : Nat} (hw : w = 62 ∨ w = 68 ∨ w = 74) (ht : t = 3 ∨ t = 30) (hwt : P w 0 = some t) {np ns nd : Nat} (hn : tOK I t np ns nd) (hl : lOK I t) (j : Nat) (hj : j < ns) : pCn m_Wo_worthOf 4 [.ref w, .int (nI j)] sh (I, L, P) (rIx (xWorthNow I t w j) I P) := by
  refine pCn_of (by decide +kernel) (Nat.le_of_ble_eq_true rfl) ?_
  refine pw_aload_n (k4 := 0) rfl (by decide +kernel) ?_
  refine pw_iload_n (k4 := 1) rfl (by decide +kernel) ?_
  refine pq_callV (ν := m_Wo_isThere) (d' := 1) (av := [_]) (c := 9) (by decide +kernel) lm_Wo_62 ok_Wo_isThere (show _ = some 1 by decide +kernel) (ks_w hA hw) rfl (by decide) (by omega) (Nat.le_of_ble_eq_true rfl) (ct_Wo_isThere hA hw ht hwt hn _) ?_
  rintro _ _ ⟨rfl, rfl⟩
  refine pw_if_eq (off := 21) (tgt := 26) (by decide +kernel) (by decide +kernel) (fun z5 => ?_) (fun z5 => ?_)
  · have hz : I (w + 3) j = -2 := Decidable.not_not.mp (fun q => B_0.mp z5 ⟨nVal hn.2.2.1 (by have := hn.2.2.2.1; omega) hj, by rw [ixn_nI (by have := hn.2.2.2.1; omega)]; exact q⟩)
    refine pw_iconst (n := 0) (v := 0) (by decide) (by decide +kernel) ?_
    exact pq_iret rfl (by decide +kernel) ⟨congrArg (fun z => some (Value.int z)) (if_pos hz).symm, _, rfl⟩
  · have hz := (B_ne.mp z5).2
    rw [ixn_nI (by have := hn.2.2.2.1; omega)] at hz
    have h16 := hn.2.2.2.1
    have h5 := hn.2.1
    refine pw_aload_n (k4 := 0) rfl (by decide +kernel) ?_
    refine pw_iload_n (k4 := 1) rfl (by decide +kernel) ?_
    refine pw_aload_n (k4 := 0) rfl (by decide +kernel) ?_
    refine pq_getP (c := 9) (k := 5) (ks_w hA hw) (by decide) (by decide) (kp_w_used hA hw) lf_Wo_17 (by decide +kernel) ?_
    refine pw_iload_n (k4 := 1) rfl (by decide +kernel) ?_
    refine pq_iald j rfl (by omega) (by decide) (ks_w_used hA hw) (by decide +kernel) ?_
    refine pw_aload_n (k4 := 0) rfl (by decide +kernel) ?_
    refine pq_getI (c := 9) (k := 1) (ks_w hA hw) (by decide) (by decide) lf_Wo_43 (by decide +kernel) ?_
    refine pq_callV (ν := m_Wo_worthWhen) (d' := 3) (av := [_, _, _]) (c := 9) (by decide +kernel) lm_Wo_127 ok_Wo_worthWhen (show _ = some 3 by decide +kernel) (ks_w hA hw) rfl (by decide) (by omega) (Nat.le_of_ble_eq_true rfl) (ct_Wo_worthWhen hA hw ht hwt hn hl j hj _ _) ?_
    rintro _ _ ⟨rfl, L', rfl⟩
    refine pw_goto (off := 4) (tgt := 27) (by decide +kernel) (by decide +kernel) ?_
    exact pq_iret rfl (by decide +kernel) ⟨congrArg (fun z => some (Value.int z)) (if_neg hz).symm, _, rfl⟩

theorem ct_Wo_worthOfFreshBoot {sh : List pSh} {I : Nat → Nat → Int32} {L : Nat → Nat → Int64} {P : Nat → Nat → Option Nat} (hA : kA sh P) {w t : Nat} (hw : w = 62 ∨ w = 68 ∨ w = 74) (ht : t = 3 ∨ t = 30) (hwt : P w 0 = some t) (hl : lOK I t) (x : Int32) : pCn m_Wo_worthOfFreshBoot 2 [.ref w, .int x] sh (I, L, P) (rIx (xFresh I t w x) I P) := by
  refine pCn_of (by decide +kernel) (Nat.le_of_ble_eq_true rfl) ?_
  refine pw_aload_n (k4 := 0) rfl (by decide +kernel) ?_
  refine pq_getP (c := 9) (k := 0) (ks_w hA hw) (by decide) (by decide) hwt lf_Wo_29 (by decide +kernel) ?_
  refine pq_getP (c := 7) (k := 18) (ks_t hA ht) (by decide) (by decide) (kp_t_laws hA ht) lf_Wo_84 (by decide +kernel) ?_
  refine pw_iload_n (k4 := 1) rfl (by decide +kernel) ?_
  refine pw_iconst (n := 0) (v := 0) (by decide) (by decide +kernel) ?_
  refine pw_iconst (n := 0) (v := 0) (by decide) (by decide +kernel) ?_
  refine pw_iconst (n := 1) (v := 1) (by decide) (by decide +kernel) ?_
  refine pq_callV (ν := m_La_setShoe) (d' := 0) (av := [_, _, _, _]) (c := 2) (by decide +kernel) lm_Wo_94 ok_La_setShoe (show _ = some 4 by decide +kernel) (ks_t_laws hA ht) rfl (by decide) (by omega) (Nat.le_of_ble_eq_true rfl) (ct_La_setShoe hA ht _ _ _ _) ?_
  rintro _ _ ⟨rfl, rfl⟩
  refine pw_aload_n (k4 := 0) rfl (by decide +kernel) ?_
  refine pq_getP (c := 9) (k := 0) (ks_w hA hw) (by decide) (by decide) hwt lf_Wo_29 (by decide +kernel) ?_
  refine pq_getP (c := 7) (k := 18) (ks_t hA ht) (by decide) (by decide) (kp_t_laws hA ht) lf_Wo_84 (by decide +kernel) ?_
  refine pw_iconst (n := 0) (v := 0) (by decide) (by decide +kernel) ?_
  refine pw_iconst (n := 0) (v := 0) (by decide) (by decide +kernel) ?_
  refine pw_aload_n (k4 := 0) rfl (by decide +kernel) ?_
  refine pq_getI (c := 9) (k := 1) (ks_w hA hw) (by decide) (by decide) lf_Wo_43 (by decide +kernel) ?_
  refine pq_callV (ν := m_La_setOwner) (d' := 0) (av := [_, _, _]) (c := 2) (by decide +kernel) lm_Wo_106 ok_La_setOwner (show _ = some 3 by decide +kernel) (ks_t_laws hA ht) rfl (by decide) (by omega) (Nat.le_of_ble_eq_true rfl) (ct_La_setOwner hA ht _ _ _) ?_
  rintro _ _ ⟨rfl, rfl⟩
  refine pw_aload_n (k4 := 0) rfl (by decide +kernel) ?_
  refine pq_getP (c := 9) (k := 0) (ks_w hA hw) (by decide) (by decide) hwt lf_Wo_29 (by decide +kernel) ?_
  refine pq_getP (c := 7) (k := 18) (ks_t hA ht) (by decide) (by decide) (kp_t_laws hA ht) lf_Wo_84 (by decide +kernel) ?_
  refine pw_iconst (n := 0) (v := 0) (by decide) (by decide +kernel) ?_
  refine pq_callV (ν := m_La_valueOf) (d' := 1) (av := [_]) (c := 2) (by decide +kernel) lm_Wo_110 ok_La_valueOf (show _ = some 1 by decide +kernel) (ks_t_laws hA ht) rfl (by decide) (by omega) (Nat.le_of_ble_eq_true rfl) (ct_La_valueOf hA ht hl (r := 0) (by decide)) ?_
  rintro _ _ ⟨rfl, g, rfl⟩
  refine pq_lstore_n (k4 := 2) (Nat.le_of_ble_eq_true rfl) rfl (by decide +kernel) ?_
  refine pw_lload_n (k4 := 2) rfl (by decide +kernel) ?_
  refine pw_ldc2 lc_Wo_82 (by decide +kernel) ?_
  refine pw_lcmp (by decide +kernel) ?_
  refine pw_if_ne (off := 9) (tgt := 56) (by decide +kernel) (by decide +kernel) (fun z47 => ?_) (fun z47 => ?_)
  · rw [lge, xVal_law (xNm_set _ _ _ _ _ _ _ _ _)] at z47
    change ¬ _ = ERR at z47
    refine pw_lload_n (k4 := 2) rfl (by decide +kernel) ?_
    refine pw_sipush (n := 999) (v := 999) (by decide) (by decide +kernel) ?_
    refine pq_callS (ν := m_Wo_within) (d' := 1) (av := [_, _]) (by decide +kernel) lm_Wo_135 ok_Wo_within (show _ = some 2 by decide +kernel) (by omega) (Nat.le_of_ble_eq_true rfl) (ct_Wo_within _ _) ?_
    rintro _ _ ⟨rfl, rfl⟩
    exact pq_iret rfl (by decide +kernel) ⟨congrArg (fun z => some (Value.int z)) (by rw [xVal_law (xNm_set _ _ _ _ _ _ _ _ _)]; exact (if_neg z47).symm), _, rfl⟩
  · rw [lge, xVal_law (xNm_set _ _ _ _ _ _ _ _ _)] at z47
    change _ = ERR at z47
    refine pw_iconst (n := 2) (v := 2) (by decide) (by decide +kernel) ?_
    refine pw_iload_n (k4 := 1) rfl (by decide +kernel) ?_
    refine pw_imul (by decide +kernel) ?_
    refine pw_goto (off := 10) (tgt := 63) (by decide +kernel) (by decide +kernel) ?_
    exact pq_iret rfl (by decide +kernel) ⟨congrArg (fun z => some (Value.int z)) (if_pos z47).symm, _, rfl⟩

theorem ct_Wo_wearWhen {sh : List pSh} {I : Nat → Nat → Int32} {L : Nat → Nat → Int64} {P : Nat → Nat → Option Nat} (hA : kA sh P) {w t : Nat} (hw : w = 62 ∨ w = 68 ∨ w = 74) (ht : t = 3 ∨ t = 30) (hwt : P w 0 = some t) {np ns nd : Nat} (hn : tOK I t np ns nd) (hl : lOK I t) (j : Nat) (hj : j < ns) (u d : Int32) : pCn m_Wo_wearWhen 3 [.ref w, .int (nI j), .int u, .int d] sh (I, L, P) (rIx (xWear I t w j u d) I P) := by
  refine pCn_of (by decide +kernel) (Nat.le_of_ble_eq_true rfl) ?_
  refine pw_aload_n (k4 := 0) rfl (by decide +kernel) ?_
  refine pw_iconst (n := 1) (v := 1) (by decide) (by decide +kernel) ?_
  refine pw_iload_n (k4 := 1) rfl (by decide +kernel) ?_
  refine pw_iload_n (k4 := 2) rfl (by decide +kernel) ?_
  refine pw_iload_n (k4 := 3) rfl (by decide +kernel) ?_
  refine pq_callV (ν := m_Wo_lawOf) (d' := 2) (av := [_, _, _, _]) (c := 9) (by decide +kernel) lm_Wo_131 ok_Wo_lawOf (show _ = some 4 by decide +kernel) (ks_w hA hw) rfl (by decide) (by omega) (Nat.le_of_ble_eq_true rfl) (ct_Wo_lawOf hA hw ht hwt hn hl j hj (r := 1) (by decide) _ _) ?_
  rintro _ _ ⟨rfl, L', rfl⟩
  refine pq_lstore (i := 4) (Nat.le_of_ble_eq_true rfl) rfl (by decide +kernel) ?_
  refine pw_lload (i := 4) rfl (by decide +kernel) ?_
  refine pw_ldc2 lc_Wo_82 (by decide +kernel) ?_
  refine pw_lcmp (by decide +kernel) ?_
  refine pw_if_eq (off := 11) (tgt := 27) (by decide +kernel) (by decide +kernel) (fun z16 => ?_) (fun z16 => ?_)
  · rw [lge] at z16
    change _ = ERR at z16
    have h16 := hn.2.2.2.1
    have h5 := hn.2.1
    refine pw_aload_n (k4 := 0) rfl (by decide +kernel) ?_
    refine pq_getP (c := 9) (k := 0) (ks_w hA hw) (by decide) (by decide) hwt lf_Wo_29 (by decide +kernel) ?_
    refine pw_iload_n (k4 := 1) rfl (by decide +kernel) ?_
    refine pq_callV (ν := m_Ta_hasShoe) (d' := 0) (av := [_]) (c := 7) (by decide +kernel) lm_Wo_58 ok_Ta_hasShoe (show _ = some 1 by decide +kernel) (ks_t hA ht) rfl (by decide) (by omega) (Nat.le_of_ble_eq_true rfl) (ct_Ta_hasShoe hA ht _) ?_
    rintro _ _ ⟨rfl, rfl⟩
    refine pw_if_eq (off := 12) (tgt := 47) (by decide +kernel) (by decide +kernel) (fun z35 => ?_) (fun z35 => ?_)
    · exact absurd (nVal hn.2.2.1 (by have := hn.2.2.2.1; omega) hj) (B_0.mp z35)
    · refine pw_aload_n (k4 := 0) rfl (by decide +kernel) ?_
      refine pq_getP (c := 9) (k := 6) (ks_w hA hw) (by decide) (by decide) (kp_w_owner hA hw) lf_Wo_20 (by decide +kernel) ?_
      refine pw_iload_n (k4 := 1) rfl (by decide +kernel) ?_
      refine pq_iald j rfl (by omega) (by decide) (ks_w_owner hA hw) (by decide +kernel) ?_
      refine pw_goto (off := 4) (tgt := 48) (by decide +kernel) (by decide +kernel) ?_
      refine pq_istore (i := 6) (Nat.le_of_ble_eq_true rfl) rfl (by decide +kernel) ?_
      refine pw_aload_n (k4 := 0) rfl (by decide +kernel) ?_
      refine pq_getP (c := 9) (k := 0) (ks_w hA hw) (by decide) (by decide) hwt lf_Wo_29 (by decide +kernel) ?_
      refine pw_iload (i := 6) rfl (by decide +kernel) ?_
      refine pq_callV (ν := m_Ta_hasPerson) (d' := 0) (av := [_]) (c := 7) (by decide +kernel) lm_Wo_65 ok_Ta_hasPerson (show _ = some 1 by decide +kernel) (ks_t hA ht) rfl (by decide) (by omega) (Nat.le_of_ble_eq_true rfl) (ct_Ta_hasPerson hA ht _) ?_
      rintro _ _ ⟨rfl, rfl⟩
      refine pw_if_eq (off := 19) (tgt := 78) (by decide +kernel) (by decide +kernel) (fun z59 => ?_) (fun z59 => ?_)
      · have hp := B_0.mp z59
        refine pw_iconst (n := 0) (v := 0) (by decide) (by decide +kernel) ?_
        exact pq_iret rfl (by decide +kernel) ⟨congrArg (fun z => some (Value.int z)) (by unfold xWear xFirst; rw [if_pos z16, if_neg hp]), _, rfl⟩
      · have hp := B_ne.mp z59
        obtain ⟨p, hpl, hpe⟩ := nIn hn.1 (by omega) hp
        refine pw_aload_n (k4 := 0) rfl (by decide +kernel) ?_
        refine pq_getP (c := 9) (k := 0) (ks_w hA hw) (by decide) (by decide) hwt lf_Wo_29 (by decide +kernel) ?_
        refine pq_getP (c := 7) (k := 3) (ks_t hA ht) (by decide) (by decide) (kp_t_steps hA ht) lf_Wo_100 (by decide +kernel) ?_
        refine pw_iload (i := 6) rfl (by decide +kernel) ?_
        refine pq_iald p hpe (by omega) (by decide) (ks_t_steps hA ht) (by decide +kernel) ?_
        refine pw_bipush (n := 10) (v := 10) (by decide) (by decide +kernel) ?_
        refine pw_idiv (by decide) (by decide +kernel) ?_
        refine pw_goto (off := 4) (tgt := 79) (by decide +kernel) (by decide +kernel) ?_
        exact pq_iret rfl (by decide +kernel) ⟨congrArg (fun z => some (Value.int z)) (by unfold xWear xFirst; rw [if_pos z16, if_pos hp, hpe, ixn_nI (by omega)]), _, rfl⟩
  · rw [lge] at z16
    change ¬ _ = ERR at z16
    refine pw_lload (i := 4) rfl (by decide +kernel) ?_
    refine pw_bipush (n := 50) (v := 50) (by decide) (by decide +kernel) ?_
    refine pq_callS (ν := m_Wo_within) (d' := 1) (av := [_, _]) (by decide +kernel) lm_Wo_135 ok_Wo_within (show _ = some 2 by decide +kernel) (by omega) (Nat.le_of_ble_eq_true rfl) (ct_Wo_within _ _) ?_
    rintro _ _ ⟨rfl, rfl⟩
    exact pq_iret rfl (by decide +kernel) ⟨congrArg (fun z => some (Value.int z)) (if_neg z16).symm, _, rfl⟩

theorem ct_Wo_pairOf {sh : List pSh} {I : Nat → Nat → Int32} {L : Nat → Nat → Int64} {P : Nat → Nat → Option Nat} (hA : kA sh P) {w t : Nat} (hw : w = 62 ∨ w = 68 ∨ w = 74) (ht : t = 3 ∨ t = 30) (hwt : P w 0 = some t) {np ns nd : Nat} (hn : tOK I t np ns nd) (hl : lOK I t) (i j : Nat) (hi : i < ns) (hj : j < ns) : pCn m_Wo_pairOf 3 [.ref w, .int (nI i), .int (nI j)] sh (I, L, P) (rIx (xPair I t w i j) I P) := by
  refine pCn_of (by decide +kernel) (Nat.le_of_ble_eq_true rfl) ?_
  refine pw_aload_n (k4 := 0) rfl (by decide +kernel) ?_
  refine pw_iload_n (k4 := 1) rfl (by decide +kernel) ?_
  refine pw_iload_n (k4 := 2) rfl (by decide +kernel) ?_
  refine pq_callV (ν := m_Wo_lawOfPair) (d' := 2) (av := [_, _]) (c := 9) (by decide +kernel) lm_Wo_142 ok_Wo_lawOfPair (show _ = some 2 by decide +kernel) (ks_w hA hw) rfl (by decide) (by omega) (Nat.le_of_ble_eq_true rfl) (ct_Wo_lawOfPair hA hw ht hwt hn hl i j hi hj) ?_
  rintro _ _ ⟨rfl, L', rfl⟩
  refine pq_lstore_n (k4 := 3) (Nat.le_of_ble_eq_true rfl) rfl (by decide +kernel) ?_
  refine pw_lload_n (k4 := 3) rfl (by decide +kernel) ?_
  refine pw_ldc2 lc_Wo_82 (by decide +kernel) ?_
  refine pw_lcmp (by decide +kernel) ?_
  refine pw_if_eq (off := 11) (tgt := 23) (by decide +kernel) (by decide +kernel) (fun z12 => ?_) (fun z12 => ?_)
  · rw [lge] at z12
    change _ = ERR at z12
    have h16 := hn.2.2.2.1
    have h5 := hn.2.1
    refine pw_aload_n (k4 := 0) rfl (by decide +kernel) ?_
    refine pq_getP (c := 9) (k := 0) (ks_w hA hw) (by decide) (by decide) hwt lf_Wo_29 (by decide +kernel) ?_
    refine pw_iload_n (k4 := 1) rfl (by decide +kernel) ?_
    refine pq_callV (ν := m_Ta_hasShoe) (d' := 0) (av := [_]) (c := 7) (by decide +kernel) lm_Wo_58 ok_Ta_hasShoe (show _ = some 1 by decide +kernel) (ks_t hA ht) rfl (by decide) (by omega) (Nat.le_of_ble_eq_true rfl) (ct_Ta_hasShoe hA ht _) ?_
    rintro _ _ ⟨rfl, rfl⟩
    refine pw_if_eq (off := 60) (tgt := 91) (by decide +kernel) (by decide +kernel) (fun z31 => ?_) (fun z31 => ?_)
    · exact absurd (nVal hn.2.2.1 (by have := hn.2.2.2.1; omega) hi) (B_0.mp z31)
    · refine pw_aload_n (k4 := 0) rfl (by decide +kernel) ?_
      refine pq_getP (c := 9) (k := 0) (ks_w hA hw) (by decide) (by decide) hwt lf_Wo_29 (by decide +kernel) ?_
      refine pw_iload_n (k4 := 2) rfl (by decide +kernel) ?_
      refine pq_callV (ν := m_Ta_hasShoe) (d' := 0) (av := [_]) (c := 7) (by decide +kernel) lm_Wo_58 ok_Ta_hasShoe (show _ = some 1 by decide +kernel) (ks_t hA ht) rfl (by decide) (by omega) (Nat.le_of_ble_eq_true rfl) (ct_Ta_hasShoe hA ht _) ?_
      rintro _ _ ⟨rfl, rfl⟩
      refine pw_if_eq (off := 49) (tgt := 91) (by decide +kernel) (by decide +kernel) (fun z42 => ?_) (fun z42 => ?_)
      · exact absurd (nVal hn.2.2.1 (by have := hn.2.2.2.1; omega) hj) (B_0.mp z42)
      · refine pw_aload_n (k4 := 0) rfl (by decide +kernel) ?_
        refine pq_getP (c := 9) (k := 0) (ks_w hA hw) (by decide) (by decide) hwt lf_Wo_29 (by decide +kernel) ?_
        refine pq_getP (c := 7) (k := 8) (ks_t hA ht) (by decide) (by decide) (kp_t_size hA ht) lf_Wo_88 (by decide +kernel) ?_
        refine pw_iload_n (k4 := 1) rfl (by decide +kernel) ?_
        refine pq_iald i rfl (by omega) (by decide) (ks_t_size hA ht) (by decide +kernel) ?_
        refine pw_aload_n (k4 := 0) rfl (by decide +kernel) ?_
        refine pq_getP (c := 9) (k := 0) (ks_w hA hw) (by decide) (by decide) hwt lf_Wo_29 (by decide +kernel) ?_
        refine pq_getP (c := 7) (k := 8) (ks_t hA ht) (by decide) (by decide) (kp_t_size hA ht) lf_Wo_88 (by decide +kernel) ?_
        refine pw_iload_n (k4 := 2) rfl (by decide +kernel) ?_
        refine pq_iald j rfl (by omega) (by decide) (ks_t_size hA ht) (by decide +kernel) ?_
        refine pw_icmp_ne (off := 28) (tgt := 91) (by decide +kernel) (by decide +kernel) (fun z63 => ?_) (fun z63 => ?_)
        · refine pw_iconst (n := 0) (v := 0) (by decide) (by decide +kernel) ?_
          refine pq_istore (i := 5) (Nat.le_of_ble_eq_true rfl) rfl (by decide +kernel) ?_
          refine pw_iload (i := 5) rfl (by decide +kernel) ?_
          refine pw_if_eq (off := 8) (tgt := 104) (by decide +kernel) (by decide +kernel) (fun z96 => ?_) (fun z96 => ?_)
          · refine pw_iconst (n := 0) (v := 0) (by decide) (by decide +kernel) ?_
            exact pq_iret rfl (by decide +kernel) ⟨congrArg (fun z => some (Value.int z)) (by unfold xPair xFirst; rw [if_pos z12, if_neg (fun q => z63 q.1)]), _, rfl⟩
          · exact absurd z96 (by decide)
        · refine pw_aload_n (k4 := 0) rfl (by decide +kernel) ?_
          refine pq_getP (c := 9) (k := 0) (ks_w hA hw) (by decide) (by decide) hwt lf_Wo_29 (by decide +kernel) ?_
          refine pq_getP (c := 7) (k := 10) (ks_t hA ht) (by decide) (by decide) (kp_t_kind hA ht) lf_Wo_91 (by decide +kernel) ?_
          refine pw_iload_n (k4 := 1) rfl (by decide +kernel) ?_
          refine pq_iald i rfl (by omega) (by decide) (ks_t_kind hA ht) (by decide +kernel) ?_
          refine pw_aload_n (k4 := 0) rfl (by decide +kernel) ?_
          refine pq_getP (c := 9) (k := 0) (ks_w hA hw) (by decide) (by decide) hwt lf_Wo_29 (by decide +kernel) ?_
          refine pq_getP (c := 7) (k := 10) (ks_t hA ht) (by decide) (by decide) (kp_t_kind hA ht) lf_Wo_91 (by decide +kernel) ?_
          refine pw_iload_n (k4 := 2) rfl (by decide +kernel) ?_
          refine pq_iald j rfl (by omega) (by decide) (ks_t_kind hA ht) (by decide +kernel) ?_
          refine pw_icmp_ne (off := 7) (tgt := 91) (by decide +kernel) (by decide +kernel) (fun z84 => ?_) (fun z84 => ?_)
          · refine pw_iconst (n := 0) (v := 0) (by decide) (by decide +kernel) ?_
            refine pq_istore (i := 5) (Nat.le_of_ble_eq_true rfl) rfl (by decide +kernel) ?_
            refine pw_iload (i := 5) rfl (by decide +kernel) ?_
            refine pw_if_eq (off := 8) (tgt := 104) (by decide +kernel) (by decide +kernel) (fun z96 => ?_) (fun z96 => ?_)
            · refine pw_iconst (n := 0) (v := 0) (by decide) (by decide +kernel) ?_
              exact pq_iret rfl (by decide +kernel) ⟨congrArg (fun z => some (Value.int z)) (by unfold xPair xFirst; rw [if_pos z12, if_neg (fun q => z84 q.2)]), _, rfl⟩
            · exact absurd z96 (by decide)
          · refine pw_iconst (n := 1) (v := 1) (by decide) (by decide +kernel) ?_
            refine pw_goto (off := 4) (tgt := 92) (by decide +kernel) (by decide +kernel) ?_
            refine pq_istore (i := 5) (Nat.le_of_ble_eq_true rfl) rfl (by decide +kernel) ?_
            refine pw_iload (i := 5) rfl (by decide +kernel) ?_
            refine pw_if_eq (off := 8) (tgt := 104) (by decide +kernel) (by decide +kernel) (fun z96 => ?_) (fun z96 => ?_)
            · exact absurd z96 (by decide)
            · refine pw_bipush (n := 10) (v := 10) (by decide) (by decide +kernel) ?_
              refine pw_goto (off := 4) (tgt := 105) (by decide +kernel) (by decide +kernel) ?_
              exact pq_iret rfl (by decide +kernel) ⟨congrArg (fun z => some (Value.int z)) (by unfold xPair xFirst; rw [if_pos z12, if_pos ⟨z63, z84⟩]), _, rfl⟩
  · rw [lge] at z12
    change ¬ _ = ERR at z12
    refine pw_lload_n (k4 := 3) rfl (by decide +kernel) ?_
    refine pw_sipush (n := 999) (v := 999) (by decide) (by decide +kernel) ?_
    refine pq_callS (ν := m_Wo_within) (d' := 1) (av := [_, _]) (by decide +kernel) lm_Wo_135 ok_Wo_within (show _ = some 2 by decide +kernel) (by omega) (Nat.le_of_ble_eq_true rfl) (ct_Wo_within _ _) ?_
    rintro _ _ ⟨rfl, rfl⟩
    exact pq_iret rfl (by decide +kernel) ⟨congrArg (fun z => some (Value.int z)) (if_neg z12).symm, _, rfl⟩

def sumW (f : Nat → Int32) (c : Nat → Bool) : Nat → Int32
  | 0 => 0
  | k + 1 => if c k then sumW f c k + f k else sumW f c k

theorem ct_Wo_worthOwned {sh : List pSh} {I : Nat → Nat → Int32} {L : Nat → Nat → Int64} {P : Nat → Nat → Option Nat} (hA : kA sh P) {w t : Nat} (hw : w = 62 ∨ w = 68 ∨ w = 74) (ht : t = 3 ∨ t = 30) (hwt : P w 0 = some t) {np ns nd : Nat} (hn : tOK I t np ns nd) (hl : lOK I t) (x : Int32) : pCn m_Wo_worthOwned 5 [.ref w, .int x] sh (I, L, P) (rIx (sumW (xWorthNow I t w) (fun k => decide (I (w + 3) k = x)) ns) I P) := by
  refine pCn_of (by decide +kernel) (Nat.le_of_ble_eq_true rfl) ?_
  have h16 := hn.2.2.2.1
  have hloop := pUpTo ns (fun k => ∀ L, pWn m_Wo_worthOwned 5 sh (rIx (sumW (xWorthNow I t w) (fun k => decide (I (w + 3) k = x)) ns) I P) 4 [some (.ref w), some (.int x), some (.int (sumW (xWorthNow I t w) (fun k => decide (I (w + 3) k = x)) k)), some (.int (nI k))] [] (I, L, P)) (by
    intro k hk ih L
    refine pw_iload_n (k4 := 3) rfl (by decide +kernel) ?_
    refine pw_aload_n (k4 := 0) rfl (by decide +kernel) ?_
    refine pq_getP (c := 9) (k := 0) (ks_w hA hw) (by decide) (by decide) hwt lf_Wo_29 (by decide +kernel) ?_
    refine pq_getI (c := 7) (k := 6) (ks_t hA ht) (by decide) (by decide) lf_Wo_76 (by decide +kernel) ?_
    refine pw_icmp_ge (off := 27) (tgt := 39) (by decide +kernel) (by decide +kernel) (fun z12 => ?_) (fun z12 => ?_)
    · rw [cLe hn.2.2.1 rfl (by omega) (by omega)] at z12
      refine pw_iload_n (k4 := 2) rfl (by decide +kernel) ?_
      exact pq_iret rfl (by decide +kernel) ⟨by rw [show k = ns by omega], _, rfl⟩
    · rw [cLe hn.2.2.1 rfl (by omega) (by omega)] at z12
      refine pw_aload_n (k4 := 0) rfl (by decide +kernel) ?_
      refine pq_getP (c := 9) (k := 6) (ks_w hA hw) (by decide) (by decide) (kp_w_owner hA hw) lf_Wo_20 (by decide +kernel) ?_
      refine pw_iload_n (k4 := 3) rfl (by decide +kernel) ?_
      refine pq_iald k rfl (by omega) (by decide) (ks_w_owner hA hw) (by decide +kernel) ?_
      refine pw_iload_n (k4 := 1) rfl (by decide +kernel) ?_
      refine pw_icmp_ne (off := 11) (tgt := 33) (by decide +kernel) (by decide +kernel) (fun z22 => ?_) (fun z22 => ?_)
      · refine pq_iinc (i := 3) (n := 1) (1) rfl (by decide) rfl (by decide +kernel) ?_
        refine pw_goto (off := -32) (tgt := 4) (by decide +kernel) (by decide +kernel) ?_
        have q := ih (by omega) L
        rw [nI_succ, show sumW (xWorthNow I t w) (fun k => decide (I (w + 3) k = x)) (k + 1) = _ from if_neg (by simp [z22])] at q
        exact q
      · refine pw_iload_n (k4 := 2) rfl (by decide +kernel) ?_
        refine pw_aload_n (k4 := 0) rfl (by decide +kernel) ?_
        refine pw_iload_n (k4 := 3) rfl (by decide +kernel) ?_
        refine pq_callV (ν := m_Wo_worthOf) (d' := 4) (av := [_]) (c := 9) (by decide +kernel) lm_Wo_146 ok_Wo_worthOf (show _ = some 1 by decide +kernel) (ks_w hA hw) rfl (by decide) (by omega) (Nat.le_of_ble_eq_true rfl) (ct_Wo_worthOf hA hw ht hwt hn hl k (by omega)) ?_
        rintro _ _ ⟨rfl, L'', rfl⟩
        refine pw_iadd (by decide +kernel) ?_
        refine pq_istore_n (k4 := 2) (Nat.le_of_ble_eq_true rfl) rfl (by decide +kernel) ?_
        refine pq_iinc (i := 3) (n := 1) (1) rfl (by decide) rfl (by decide +kernel) ?_
        refine pw_goto (off := -32) (tgt := 4) (by decide +kernel) (by decide +kernel) ?_
        have q := ih (by omega) L''
        rw [nI_succ, show sumW (xWorthNow I t w) (fun k => decide (I (w + 3) k = x)) (k + 1) = _ from if_pos (by simp [z22])] at q
        exact q
)
  refine pw_iconst (n := 0) (v := 0) (by decide) (by decide +kernel) ?_
  refine pq_istore_n (k4 := 2) (Nat.le_of_ble_eq_true rfl) rfl (by decide +kernel) ?_
  refine pw_iconst (n := 0) (v := 0) (by decide) (by decide +kernel) ?_
  refine pq_istore_n (k4 := 3) (Nat.le_of_ble_eq_true rfl) rfl (by decide +kernel) ?_
  exact hloop 0 (Nat.zero_le _) L

theorem ct_Wo_worthOfAll {sh : List pSh} {I : Nat → Nat → Int32} {L : Nat → Nat → Int64} {P : Nat → Nat → Option Nat} (hA : kA sh P) {w t : Nat} (hw : w = 62 ∨ w = 68 ∨ w = 74) (ht : t = 3 ∨ t = 30) (hwt : P w 0 = some t) {np ns nd : Nat} (hn : tOK I t np ns nd) (hl : lOK I t)  : pCn m_Wo_worthOfAll 5 [.ref w] sh (I, L, P) (rIx (sumW (xWorthNow I t w) (fun _ => true) ns) I P) := by
  refine pCn_of (by decide +kernel) (Nat.le_of_ble_eq_true rfl) ?_
  have h16 := hn.2.2.2.1
  have hloop := pUpTo ns (fun k => ∀ L, pWn m_Wo_worthOfAll 5 sh (rIx (sumW (xWorthNow I t w) (fun _ => true) ns) I P) 4 [some (.ref w), some (.int (sumW (xWorthNow I t w) (fun _ => true) k)), some (.int (nI k))] [] (I, L, P)) (by
    intro k hk ih L
    refine pw_iload_n (k4 := 2) rfl (by decide +kernel) ?_
    refine pw_aload_n (k4 := 0) rfl (by decide +kernel) ?_
    refine pq_getP (c := 9) (k := 0) (ks_w hA hw) (by decide) (by decide) hwt lf_Wo_29 (by decide +kernel) ?_
    refine pq_getI (c := 7) (k := 6) (ks_t hA ht) (by decide) (by decide) lf_Wo_76 (by decide +kernel) ?_
    refine pw_icmp_ge (off := 17) (tgt := 29) (by decide +kernel) (by decide +kernel) (fun z12 => ?_) (fun z12 => ?_)
    · rw [cLe hn.2.2.1 rfl (by omega) (by omega)] at z12
      refine pw_iload_n (k4 := 1) rfl (by decide +kernel) ?_
      exact pq_iret rfl (by decide +kernel) ⟨by rw [show k = ns by omega], _, rfl⟩
    · rw [cLe hn.2.2.1 rfl (by omega) (by omega)] at z12
      refine pw_iload_n (k4 := 1) rfl (by decide +kernel) ?_
      refine pw_aload_n (k4 := 0) rfl (by decide +kernel) ?_
      refine pw_iload_n (k4 := 2) rfl (by decide +kernel) ?_
      refine pq_callV (ν := m_Wo_worthOf) (d' := 4) (av := [_]) (c := 9) (by decide +kernel) lm_Wo_146 ok_Wo_worthOf (show _ = some 1 by decide +kernel) (ks_w hA hw) rfl (by decide) (by omega) (Nat.le_of_ble_eq_true rfl) (ct_Wo_worthOf hA hw ht hwt hn hl k (by omega)) ?_
      rintro _ _ ⟨rfl, L'', rfl⟩
      refine pw_iadd (by decide +kernel) ?_
      refine pq_istore_n (k4 := 1) (Nat.le_of_ble_eq_true rfl) rfl (by decide +kernel) ?_
      refine pq_iinc (i := 2) (n := 1) (1) rfl (by decide) rfl (by decide +kernel) ?_
      refine pw_goto (off := -22) (tgt := 4) (by decide +kernel) (by decide +kernel) ?_
      have q := ih (by omega) L''
      rw [nI_succ, show sumW (xWorthNow I t w) (fun _ => true) (k + 1) = _ from if_pos rfl] at q
      exact q
)
  refine pw_iconst (n := 0) (v := 0) (by decide) (by decide +kernel) ?_
  refine pq_istore_n (k4 := 1) (Nat.le_of_ble_eq_true rfl) rfl (by decide +kernel) ?_
  refine pw_iconst (n := 0) (v := 0) (by decide) (by decide +kernel) ?_
  refine pq_istore_n (k4 := 2) (Nat.le_of_ble_eq_true rfl) rfl (by decide +kernel) ?_
  exact hloop 0 (Nat.zero_le _) L
