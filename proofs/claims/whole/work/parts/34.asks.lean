/-! ===== the class: its calls that ask and that change hands ===== -/
def rIf (c : Prop) [Decidable c] (A B : Option Value → pM → Prop) : Option Value → pM → Prop := fun r M => (c → A r M) ∧ (¬ c → B r M)
def xFault (I : Nat → Nat → Int32) (q : Int32) : Int32 := if q = 0 then I 1 5 else if q = 1 then I 1 6 else -1
def xPersonQ (I : Nat → Nat → Int32) (t w ns : Nat) (p q : Int32) : Int32 :=
  if ¬ xHasP I t p then -1 else if q = 0 then I (w + 4) (2 * ixn p) else if q = 1 then I (w + 4) (2 * ixn p + 1)
  else if q = 2 then sumW (xWorthNow I t w) (fun k => decide (I (w + 3) k = p)) ns else if q = 3 then xBc (shBits (I (w + 3)) p ns) else if q = 4 then shBits (I (w + 3)) p ns else -1
def xDebtQ (I : Nat → Nat → Int32) (t w : Nat) (d q : Int32) : Int32 :=
  if ¬ (0 ≤ d ∧ d < I t 12) then -1 else if q = 0 then I (t + 11) (ixn d) else if q = 1 then I (t + 12) (ixn d) else if q = 2 then I (t + 13) (ixn d) else if q = 3 then I (t + 14) (ixn d) else if q = 4 then I (w + 5) (ixn d) else -1
def xPairQ (I : Nat → Nat → Int32) (t w : Nat) (l r : Int32) : Int32 := if xPairs I t w l r then xPair I t w (ixn l) (ixn r) else -1
def xLawQ (I : Nat → Nat → Int32) (t w : Nat) (q s o : Int32) : Int64 :=
  if q = 2 then (if xPairs I t w s o then xLawP I t w (ixn s) (ixn o) else ERR) else if xThere I t w s ∧ (q = 0 ∨ q = 1) then xLawS I t w (ixn q) (ixn s) (I (w + 2) (ixn s)) (I w 1) else ERR
abbrev xPrice (q : Int32) : Prop := 1 ≤ q ∧ q ≤ 9999
def xChangeQ (I : Nat → Nat → Int32) (t w ns : Nat) (p q : Int32) : Int32 := if xHasP I t p ∧ xPrice q then xFor I t w ns p (ixn q) else -1
theorem sw_ne {q : Int32} {a b : Int} {k : Nat} (h : q.toInt < a ∨ b < q.toInt) (h1 : a ≤ k) (h2 : (k : Int) ≤ b) (hk : k < 2 ^ 31) : ¬ q = nI k := by
  intro e
  rw [e, nI_toInt hk] at h
  omega

theorem ct_Ls_fault {sh : List pSh} {I : Nat → Nat → Int32} {L : Nat → Nat → Int64} {P : Nat → Nat → Option Nat} (hA : kA sh P) (q : Int32) : pCn m_Ls_fault 0 [.ref 1, .int q] sh (I, L, P) (rI (xFault I q) (I, L, P)) := by
  refine pCn_of (by decide +kernel) (Nat.le_of_ble_eq_true rfl) ?_
  refine pw_iload_n (k4 := 1) rfl (by decide +kernel) ?_
  refine pw_if_ne (off := 8) (tgt := 9) (by decide +kernel) (by decide +kernel) (fun z1 => ?_) (fun z1 => ?_)
  · refine pw_iload_n (k4 := 1) rfl (by decide +kernel) ?_
    refine pw_iconst (n := 1) (v := 1) (by decide) (by decide +kernel) ?_
    refine pw_icmp_ne (off := 10) (tgt := 21) (by decide +kernel) (by decide +kernel) (fun z11 => ?_) (fun z11 => ?_)
    · refine pw_iconst (n := -1) (v := -1) (by decide) (by decide +kernel) ?_
      exact pq_iret rfl (by decide +kernel) ⟨congrArg (fun z => some (Value.int z)) (by unfold xFault; rw [if_neg z1, if_neg z11]), rfl⟩
    · refine pw_aload_n (k4 := 0) rfl (by decide +kernel) ?_
      refine pq_getI (c := 10) (k := 6) (ks_x hA) (by decide) (by decide) lf_Ls_34 (by decide +kernel) ?_
      refine pw_goto (off := 4) (tgt := 22) (by decide +kernel) (by decide +kernel) ?_
      exact pq_iret rfl (by decide +kernel) ⟨congrArg (fun z => some (Value.int z)) (by unfold xFault; rw [if_neg z1, if_pos z11]), rfl⟩
  · refine pw_aload_n (k4 := 0) rfl (by decide +kernel) ?_
    refine pq_getI (c := 10) (k := 5) (ks_x hA) (by decide) (by decide) lf_Ls_101 (by decide +kernel) ?_
    exact pq_iret rfl (by decide +kernel) ⟨congrArg (fun z => some (Value.int z)) (by unfold xFault; rw [if_pos z1]), rfl⟩

theorem ct_Ls_named {sh : List pSh} {I : Nat → Nat → Int32} {L : Nat → Nat → Int64} {P : Nat → Nat → Option Nat} (hA : kA sh P) {w t : Nat} (hw : w = 62 ∨ w = 68 ∨ w = 74) (ht : t = 3 ∨ t = 30) (hwt : P w 0 = some t) (hxt : P 1 2 = some t) (hxw : P 1 7 = some w) {np ns nd : Nat} (hn : tOK I t np ns nd) (q : Int32) : pCn m_Ls_named 1 [.ref 1, .int q] sh (I, L, P) (rI (fFind (I (t + 1)) q np 0) (I, L, P)) := by
  refine pCn_of (by decide +kernel) (Nat.le_of_ble_eq_true rfl) ?_
  refine pw_aload_n (k4 := 0) rfl (by decide +kernel) ?_
  refine pq_getP (c := 10) (k := 2) (ks_x hA) (by decide) (by decide) hxt lf_Ls_18 (by decide +kernel) ?_
  refine pw_iload_n (k4 := 1) rfl (by decide +kernel) ?_
  refine pq_callV (ν := m_Ta_personNamed) (d' := 0) (av := [_]) (c := 7) (by decide +kernel) lm_Ls_121 ok_Ta_personNamed (show _ = some 1 by decide +kernel) (ks_t hA ht) rfl (by decide) (by omega) (Nat.le_of_ble_eq_true rfl) (ct_Ta_personNamed hA ht hn _) ?_
  rintro _ _ ⟨rfl, rfl⟩
  exact pq_iret rfl (by decide +kernel) ⟨rfl, rfl⟩

theorem ct_Ls_person {sh : List pSh} {I : Nat → Nat → Int32} {L : Nat → Nat → Int64} {P : Nat → Nat → Option Nat} (hA : kA sh P) {w t : Nat} (hw : w = 62 ∨ w = 68 ∨ w = 74) (ht : t = 3 ∨ t = 30) (hwt : P w 0 = some t) (hxt : P 1 2 = some t) (hxw : P 1 7 = some w) {np ns nd : Nat} (hn : tOK I t np ns nd) (hl : lOK I t) (p q : Int32) : pCn m_Ls_person 6 [.ref 1, .int p, .int q] sh (I, L, P) (rIx (xPersonQ I t w ns p q) I P) := by
  refine pCn_of (by decide +kernel) (Nat.le_of_ble_eq_true rfl) ?_
  have h16 := hn.2.2.2.1
  have h5 := hn.2.1
  have h8 := hn.2.2.2.2.2
  refine pw_aload_n (k4 := 0) rfl (by decide +kernel) ?_
  refine pq_getP (c := 10) (k := 2) (ks_x hA) (by decide) (by decide) hxt lf_Ls_18 (by decide +kernel) ?_
  refine pw_iload_n (k4 := 1) rfl (by decide +kernel) ?_
  refine pq_callV (ν := m_Ta_hasPerson) (d' := 0) (av := [_]) (c := 7) (by decide +kernel) lm_Ls_162 ok_Ta_hasPerson (show _ = some 1 by decide +kernel) (ks_t hA ht) rfl (by decide) (by omega) (Nat.le_of_ble_eq_true rfl) (ct_Ta_hasPerson hA ht _) ?_
  rintro _ _ ⟨rfl, rfl⟩
  refine pn_ifB_ne (off := 5) (tgt := 13) (by decide +kernel) (by decide +kernel) (fun z8 => ?_) (fun z8 => ?_)
  · obtain ⟨p, hp, rfl⟩ := nIn hn.1 (by omega) z8
    refine pw_iload_n (k4 := 2) rfl (by decide +kernel) ?_
    have hsw14 : decode m_Ls_person.2.1 14 = .ok (.tableswitch 90 0 4 #[34, 46, 60, 69, 81], 34) := by decide +kernel
    rcases swIn q 0 4 (by decide) (by decide) with z14 | ⟨j14, z14, y14, e14⟩
    · refine pw_tableOut (tgt := 104) hsw14 z14 (by decide +kernel) ?_
      refine pw_iconst (n := -1) (v := -1) (by decide) (by decide +kernel) ?_
      exact pq_iret rfl (by decide +kernel) ⟨congrArg (fun z => some (Value.int z)) (by unfold xPersonQ; rw [if_neg (fun q => q z8), if_neg (show ¬ q = 0 from sw_ne (k := 0) z14 (by decide) (by decide) (by decide)), if_neg (show ¬ q = 1 from sw_ne (k := 1) z14 (by decide) (by decide) (by decide)), if_neg (show ¬ q = 2 from sw_ne (k := 2) z14 (by decide) (by decide) (by decide)), if_neg (show ¬ q = 3 from sw_ne (k := 3) z14 (by decide) (by decide) (by decide)), if_neg (show ¬ q = 4 from sw_ne (k := 4) z14 (by decide) (by decide) (by decide))]), _, rfl⟩
    · rcases (show j14 = 0 ∨ j14 = 1 ∨ j14 = 2 ∨ j14 = 3 ∨ j14 = 4 by omega) with rfl | rfl | rfl | rfl | rfl
      · refine pw_tableIn (off := 34) (tgt := 48) hsw14 (by rw [e14]; decide) (by rw [e14]; decide) (by rw [e14]; decide) (by decide +kernel) ?_
        refine pw_aload_n (k4 := 0) rfl (by decide +kernel) ?_
        refine pq_getP (c := 10) (k := 7) (ks_x hA) (by decide) (by decide) hxw lf_Ls_43 (by decide +kernel) ?_
        refine pq_getP (c := 9) (k := 7) (ks_w hA hw) (by decide) (by decide) (kp_w_worn hA hw) lf_Ls_165 (by decide +kernel) ?_
        refine pw_iconst (n := 2) (v := 2) (by decide) (by decide +kernel) ?_
        refine pw_iload_n (k4 := 1) rfl (by decide +kernel) ?_
        refine pn_imul 2 p rfl rfl (by decide +kernel) ?_
        refine pq_iald (2 * p) rfl (by omega) (by decide) (ks_w_worn hA hw) (by decide +kernel) ?_
        exact pq_iret rfl (by decide +kernel) ⟨congrArg (fun z => some (Value.int z)) (by unfold xPersonQ; rw [if_neg (fun q => q z8), if_pos (by rw [e14]; rfl), ixn_nI (by omega)]), _, rfl⟩
      · refine pw_tableIn (off := 46) (tgt := 60) hsw14 (by rw [e14]; decide) (by rw [e14]; decide) (by rw [e14]; decide) (by decide +kernel) ?_
        refine pw_aload_n (k4 := 0) rfl (by decide +kernel) ?_
        refine pq_getP (c := 10) (k := 7) (ks_x hA) (by decide) (by decide) hxw lf_Ls_43 (by decide +kernel) ?_
        refine pq_getP (c := 9) (k := 7) (ks_w hA hw) (by decide) (by decide) (kp_w_worn hA hw) lf_Ls_165 (by decide +kernel) ?_
        refine pw_iconst (n := 2) (v := 2) (by decide) (by decide +kernel) ?_
        refine pw_iload_n (k4 := 1) rfl (by decide +kernel) ?_
        refine pn_imul 2 p rfl rfl (by decide +kernel) ?_
        refine pw_iconst (n := 1) (v := 1) (by decide) (by decide +kernel) ?_
        refine pn_iadd (2 * p) 1 rfl rfl (by decide +kernel) ?_
        refine pq_iald ((2 * p) + 1) rfl (by omega) (by decide) (ks_w_worn hA hw) (by decide +kernel) ?_
        exact pq_iret rfl (by decide +kernel) ⟨congrArg (fun z => some (Value.int z)) (by unfold xPersonQ; rw [if_neg (fun q => q z8), if_neg (by rw [e14]; decide), if_pos (by rw [e14]; rfl), ixn_nI (by omega)]), _, rfl⟩
      · refine pw_tableIn (off := 60) (tgt := 74) hsw14 (by rw [e14]; decide) (by rw [e14]; decide) (by rw [e14]; decide) (by decide +kernel) ?_
        refine pw_aload_n (k4 := 0) rfl (by decide +kernel) ?_
        refine pq_getP (c := 10) (k := 7) (ks_x hA) (by decide) (by decide) hxw lf_Ls_43 (by decide +kernel) ?_
        refine pw_iload_n (k4 := 1) rfl (by decide +kernel) ?_
        refine pq_callV (ν := m_Wo_worthOwned) (d' := 5) (av := [_]) (c := 9) (by decide +kernel) lm_Ls_168 ok_Wo_worthOwned (show _ = some 1 by decide +kernel) (ks_w hA hw) rfl (by decide) (by omega) (Nat.le_of_ble_eq_true rfl) (ct_Wo_worthOwned hA hw ht hwt hn hl _) ?_
        rintro _ _ ⟨rfl, L', rfl⟩
        exact pq_iret rfl (by decide +kernel) ⟨congrArg (fun z => some (Value.int z)) (by unfold xPersonQ; rw [if_neg (fun q => q z8), if_neg (by rw [e14]; decide), if_neg (by rw [e14]; decide), if_pos (by rw [e14]; rfl)]), _, rfl⟩
      · refine pw_tableIn (off := 69) (tgt := 83) hsw14 (by rw [e14]; decide) (by rw [e14]; decide) (by rw [e14]; decide) (by decide +kernel) ?_
        refine pw_aload_n (k4 := 0) rfl (by decide +kernel) ?_
        refine pq_getP (c := 10) (k := 7) (ks_x hA) (by decide) (by decide) hxw lf_Ls_43 (by decide +kernel) ?_
        refine pw_iload_n (k4 := 1) rfl (by decide +kernel) ?_
        refine pq_callV (ν := m_Wo_shoesOf) (d' := 0) (av := [_]) (c := 9) (by decide +kernel) lm_Ls_171 ok_Wo_shoesOf (show _ = some 1 by decide +kernel) (ks_w hA hw) rfl (by decide) (by omega) (Nat.le_of_ble_eq_true rfl) (ct_Wo_shoesOf hA hw ht hwt hn _) ?_
        rintro _ _ ⟨rfl, rfl⟩
        refine pq_callS (ν := m_In_bitCount) (d' := 0) (av := [_]) (by decide +kernel) lm_Ls_174 ok_In_bitCount (show _ = some 1 by decide +kernel) (by omega) (Nat.le_of_ble_eq_true rfl) (ct_In_bitCount _) ?_
        rintro _ _ ⟨rfl, rfl⟩
        exact pq_iret rfl (by decide +kernel) ⟨congrArg (fun z => some (Value.int z)) (by unfold xPersonQ; rw [if_neg (fun q => q z8), if_neg (by rw [e14]; decide), if_neg (by rw [e14]; decide), if_neg (by rw [e14]; decide), if_pos (by rw [e14]; rfl)]), _, rfl⟩
      · refine pw_tableIn (off := 81) (tgt := 95) hsw14 (by rw [e14]; decide) (by rw [e14]; decide) (by rw [e14]; decide) (by decide +kernel) ?_
        refine pw_aload_n (k4 := 0) rfl (by decide +kernel) ?_
        refine pq_getP (c := 10) (k := 7) (ks_x hA) (by decide) (by decide) hxw lf_Ls_43 (by decide +kernel) ?_
        refine pw_iload_n (k4 := 1) rfl (by decide +kernel) ?_
        refine pq_callV (ν := m_Wo_shoesOf) (d' := 0) (av := [_]) (c := 9) (by decide +kernel) lm_Ls_171 ok_Wo_shoesOf (show _ = some 1 by decide +kernel) (ks_w hA hw) rfl (by decide) (by omega) (Nat.le_of_ble_eq_true rfl) (ct_Wo_shoesOf hA hw ht hwt hn _) ?_
        rintro _ _ ⟨rfl, rfl⟩
        exact pq_iret rfl (by decide +kernel) ⟨congrArg (fun z => some (Value.int z)) (by unfold xPersonQ; rw [if_neg (fun q => q z8), if_neg (by rw [e14]; decide), if_neg (by rw [e14]; decide), if_neg (by rw [e14]; decide), if_neg (by rw [e14]; decide), if_pos (by rw [e14]; rfl)]), _, rfl⟩
  · refine pw_iconst (n := -1) (v := -1) (by decide) (by decide +kernel) ?_
    exact pq_iret rfl (by decide +kernel) ⟨congrArg (fun z => some (Value.int z)) (by unfold xPersonQ; rw [if_pos z8]), _, rfl⟩

theorem ct_Ls_debt {sh : List pSh} {I : Nat → Nat → Int32} {L : Nat → Nat → Int64} {P : Nat → Nat → Option Nat} (hA : kA sh P) {w t : Nat} (hw : w = 62 ∨ w = 68 ∨ w = 74) (ht : t = 3 ∨ t = 30) (hwt : P w 0 = some t) (hxt : P 1 2 = some t) (hxw : P 1 7 = some w) {np ns nd : Nat} (hn : tOK I t np ns nd) (p q : Int32) : pCn m_Ls_debt 0 [.ref 1, .int p, .int q] sh (I, L, P) (rI (xDebtQ I t w p q) (I, L, P)) := by
  refine pCn_of (by decide +kernel) (Nat.le_of_ble_eq_true rfl) ?_
  have h16 := hn.2.2.2.1
  have h5 := hn.2.1
  have h8 := hn.2.2.2.2.2
  refine pw_iload_n (k4 := 1) rfl (by decide +kernel) ?_
  refine pw_if_lt (off := 14) (tgt := 15) (by decide +kernel) (by decide +kernel) (fun z1 => ?_) (fun z1 => ?_)
  · refine pw_iconst (n := -1) (v := -1) (by decide) (by decide +kernel) ?_
    exact pq_iret rfl (by decide +kernel) ⟨congrArg (fun z => some (Value.int z)) (by unfold xDebtQ; rw [if_pos (fun q => Int32.not_lt.mpr q.1 z1)]), rfl⟩
  · refine pw_iload_n (k4 := 1) rfl (by decide +kernel) ?_
    refine pw_aload_n (k4 := 0) rfl (by decide +kernel) ?_
    refine pq_getP (c := 10) (k := 2) (ks_x hA) (by decide) (by decide) hxt lf_Ls_18 (by decide +kernel) ?_
    refine pq_getI (c := 7) (k := 12) (ks_t hA ht) (by decide) (by decide) lf_Ls_179 (by decide +kernel) ?_
    refine pw_icmp_lt (off := 5) (tgt := 17) (by decide +kernel) (by decide +kernel) (fun z12 => ?_) (fun z12 => ?_)
    · obtain ⟨p, hp, rfl⟩ := nIn hn.2.2.2.2.1 (by omega) ⟨Int32.not_lt.mp z1, z12⟩
      refine pw_iload_n (k4 := 2) rfl (by decide +kernel) ?_
      have hsw18 : decode m_Ls_debt.2.1 18 = .ok (.tableswitch 84 0 4 #[34, 44, 54, 64, 74], 34) := by decide +kernel
      rcases swIn q 0 4 (by decide) (by decide) with z18 | ⟨j18, z18, y18, e18⟩
      · refine pw_tableOut (tgt := 102) hsw18 z18 (by decide +kernel) ?_
        refine pw_iconst (n := -1) (v := -1) (by decide) (by decide +kernel) ?_
        exact pq_iret rfl (by decide +kernel) ⟨congrArg (fun z => some (Value.int z)) (by unfold xDebtQ; rw [if_neg (fun q => q ⟨Int32.not_lt.mp z1, z12⟩), if_neg (show ¬ q = 0 from sw_ne (k := 0) z18 (by decide) (by decide) (by decide)), if_neg (show ¬ q = 1 from sw_ne (k := 1) z18 (by decide) (by decide) (by decide)), if_neg (show ¬ q = 2 from sw_ne (k := 2) z18 (by decide) (by decide) (by decide)), if_neg (show ¬ q = 3 from sw_ne (k := 3) z18 (by decide) (by decide) (by decide)), if_neg (show ¬ q = 4 from sw_ne (k := 4) z18 (by decide) (by decide) (by decide))]), rfl⟩
      · rcases (show j18 = 0 ∨ j18 = 1 ∨ j18 = 2 ∨ j18 = 3 ∨ j18 = 4 by omega) with rfl | rfl | rfl | rfl | rfl
        · refine pw_tableIn (off := 34) (tgt := 52) hsw18 (by rw [e18]; decide) (by rw [e18]; decide) (by rw [e18]; decide) (by decide +kernel) ?_
          refine pw_aload_n (k4 := 0) rfl (by decide +kernel) ?_
          refine pq_getP (c := 10) (k := 2) (ks_x hA) (by decide) (by decide) hxt lf_Ls_18 (by decide +kernel) ?_
          refine pq_getP (c := 7) (k := 13) (ks_t hA ht) (by decide) (by decide) (kp_t_debtor hA ht) lf_Ls_182 (by decide +kernel) ?_
          refine pw_iload_n (k4 := 1) rfl (by decide +kernel) ?_
          refine pq_iald p rfl (by omega) (by decide) (ks_t_debtor hA ht) (by decide +kernel) ?_
          exact pq_iret rfl (by decide +kernel) ⟨congrArg (fun z => some (Value.int z)) (by unfold xDebtQ; rw [if_neg (fun q => q ⟨Int32.not_lt.mp z1, z12⟩), if_pos (by rw [e18]; rfl), ixn_nI (by omega)]), rfl⟩
        · refine pw_tableIn (off := 44) (tgt := 62) hsw18 (by rw [e18]; decide) (by rw [e18]; decide) (by rw [e18]; decide) (by decide +kernel) ?_
          refine pw_aload_n (k4 := 0) rfl (by decide +kernel) ?_
          refine pq_getP (c := 10) (k := 2) (ks_x hA) (by decide) (by decide) hxt lf_Ls_18 (by decide +kernel) ?_
          refine pq_getP (c := 7) (k := 14) (ks_t hA ht) (by decide) (by decide) (kp_t_creditor hA ht) lf_Ls_185 (by decide +kernel) ?_
          refine pw_iload_n (k4 := 1) rfl (by decide +kernel) ?_
          refine pq_iald p rfl (by omega) (by decide) (ks_t_creditor hA ht) (by decide +kernel) ?_
          exact pq_iret rfl (by decide +kernel) ⟨congrArg (fun z => some (Value.int z)) (by unfold xDebtQ; rw [if_neg (fun q => q ⟨Int32.not_lt.mp z1, z12⟩), if_neg (by rw [e18]; decide), if_pos (by rw [e18]; rfl), ixn_nI (by omega)]), rfl⟩
        · refine pw_tableIn (off := 54) (tgt := 72) hsw18 (by rw [e18]; decide) (by rw [e18]; decide) (by rw [e18]; decide) (by decide +kernel) ?_
          refine pw_aload_n (k4 := 0) rfl (by decide +kernel) ?_
          refine pq_getP (c := 10) (k := 2) (ks_x hA) (by decide) (by decide) hxt lf_Ls_18 (by decide +kernel) ?_
          refine pq_getP (c := 7) (k := 15) (ks_t hA ht) (by decide) (by decide) (kp_t_owed hA ht) lf_Ls_188 (by decide +kernel) ?_
          refine pw_iload_n (k4 := 1) rfl (by decide +kernel) ?_
          refine pq_iald p rfl (by omega) (by decide) (ks_t_owed hA ht) (by decide +kernel) ?_
          exact pq_iret rfl (by decide +kernel) ⟨congrArg (fun z => some (Value.int z)) (by unfold xDebtQ; rw [if_neg (fun q => q ⟨Int32.not_lt.mp z1, z12⟩), if_neg (by rw [e18]; decide), if_neg (by rw [e18]; decide), if_pos (by rw [e18]; rfl), ixn_nI (by omega)]), rfl⟩
        · refine pw_tableIn (off := 64) (tgt := 82) hsw18 (by rw [e18]; decide) (by rw [e18]; decide) (by rw [e18]; decide) (by decide +kernel) ?_
          refine pw_aload_n (k4 := 0) rfl (by decide +kernel) ?_
          refine pq_getP (c := 10) (k := 2) (ks_x hA) (by decide) (by decide) hxt lf_Ls_18 (by decide +kernel) ?_
          refine pq_getP (c := 7) (k := 16) (ks_t hA ht) (by decide) (by decide) (kp_t_due hA ht) lf_Ls_191 (by decide +kernel) ?_
          refine pw_iload_n (k4 := 1) rfl (by decide +kernel) ?_
          refine pq_iald p rfl (by omega) (by decide) (ks_t_due hA ht) (by decide +kernel) ?_
          exact pq_iret rfl (by decide +kernel) ⟨congrArg (fun z => some (Value.int z)) (by unfold xDebtQ; rw [if_neg (fun q => q ⟨Int32.not_lt.mp z1, z12⟩), if_neg (by rw [e18]; decide), if_neg (by rw [e18]; decide), if_neg (by rw [e18]; decide), if_pos (by rw [e18]; rfl), ixn_nI (by omega)]), rfl⟩
        · refine pw_tableIn (off := 74) (tgt := 92) hsw18 (by rw [e18]; decide) (by rw [e18]; decide) (by rw [e18]; decide) (by decide +kernel) ?_
          refine pw_aload_n (k4 := 0) rfl (by decide +kernel) ?_
          refine pq_getP (c := 10) (k := 7) (ks_x hA) (by decide) (by decide) hxw lf_Ls_43 (by decide +kernel) ?_
          refine pq_getP (c := 9) (k := 8) (ks_w hA hw) (by decide) (by decide) (kp_w_settled hA hw) lf_Ls_194 (by decide +kernel) ?_
          refine pw_iload_n (k4 := 1) rfl (by decide +kernel) ?_
          refine pq_iald p rfl (by omega) (by decide) (ks_w_settled hA hw) (by decide +kernel) ?_
          exact pq_iret rfl (by decide +kernel) ⟨congrArg (fun z => some (Value.int z)) (by unfold xDebtQ; rw [if_neg (fun q => q ⟨Int32.not_lt.mp z1, z12⟩), if_neg (by rw [e18]; decide), if_neg (by rw [e18]; decide), if_neg (by rw [e18]; decide), if_neg (by rw [e18]; decide), if_pos (by rw [e18]; rfl), ixn_nI (by omega)]), rfl⟩
    · refine pw_iconst (n := -1) (v := -1) (by decide) (by decide +kernel) ?_
      exact pq_iret rfl (by decide +kernel) ⟨congrArg (fun z => some (Value.int z)) (by unfold xDebtQ; rw [if_pos (fun q => z12 q.2)]), rfl⟩

theorem ct_Ls_pair {sh : List pSh} {I : Nat → Nat → Int32} {L : Nat → Nat → Int64} {P : Nat → Nat → Option Nat} (hA : kA sh P) {w t : Nat} (hw : w = 62 ∨ w = 68 ∨ w = 74) (ht : t = 3 ∨ t = 30) (hwt : P w 0 = some t) (hxt : P 1 2 = some t) (hxw : P 1 7 = some w) {np ns nd : Nat} (hn : tOK I t np ns nd) (hl : lOK I t) (l r : Int32) : pCn m_Ls_pair 4 [.ref 1, .int l, .int r] sh (I, L, P) (rIx (xPairQ I t w l r) I P) := by
  refine pCn_of (by decide +kernel) (Nat.le_of_ble_eq_true rfl) ?_
  have h16 := hn.2.2.2.1
  have h5 := hn.2.1
  have h8 := hn.2.2.2.2.2
  refine pw_aload_n (k4 := 0) rfl (by decide +kernel) ?_
  refine pq_getP (c := 10) (k := 7) (ks_x hA) (by decide) (by decide) hxw lf_Ls_43 (by decide +kernel) ?_
  refine pw_iload_n (k4 := 1) rfl (by decide +kernel) ?_
  refine pw_iload_n (k4 := 2) rfl (by decide +kernel) ?_
  refine pq_callV (ν := m_Wo_arePair) (d' := 2) (av := [_, _]) (c := 9) (by decide +kernel) lm_Ls_197 ok_Wo_arePair (show _ = some 2 by decide +kernel) (ks_w hA hw) rfl (by decide) (by omega) (Nat.le_of_ble_eq_true rfl) (ct_Wo_arePair hA hw ht hwt hn _ _) ?_
  rintro _ _ ⟨rfl, rfl⟩
  refine pn_ifB_eq (off := 15) (tgt := 24) (by decide +kernel) (by decide +kernel) (fun z9 => ?_) (fun z9 => ?_)
  · refine pw_iconst (n := -1) (v := -1) (by decide) (by decide +kernel) ?_
    exact pq_iret rfl (by decide +kernel) ⟨congrArg (fun z => some (Value.int z)) (if_neg z9).symm, _, rfl⟩
  · obtain ⟨i, hi, rfl⟩ := nIn hn.2.2.1 (by omega) z9.1.1
    obtain ⟨j, hj, rfl⟩ := nIn hn.2.2.1 (by omega) z9.2.1.1
    refine pw_aload_n (k4 := 0) rfl (by decide +kernel) ?_
    refine pq_getP (c := 10) (k := 7) (ks_x hA) (by decide) (by decide) hxw lf_Ls_43 (by decide +kernel) ?_
    refine pw_iload_n (k4 := 1) rfl (by decide +kernel) ?_
    refine pw_iload_n (k4 := 2) rfl (by decide +kernel) ?_
    refine pq_callV (ν := m_Wo_pairOf) (d' := 3) (av := [_, _]) (c := 9) (by decide +kernel) lm_Ls_201 ok_Wo_pairOf (show _ = some 2 by decide +kernel) (ks_w hA hw) rfl (by decide) (by omega) (Nat.le_of_ble_eq_true rfl) (ct_Wo_pairOf hA hw ht hwt hn hl i j hi hj) ?_
    rintro _ _ ⟨rfl, L', rfl⟩
    refine pw_goto (off := 4) (tgt := 25) (by decide +kernel) (by decide +kernel) ?_
    exact pq_iret rfl (by decide +kernel) ⟨congrArg (fun z => some (Value.int z)) (by unfold xPairQ; rw [if_pos z9, ixn_nI (by omega), ixn_nI (by omega)]), _, rfl⟩

theorem ct_Ls_law {sh : List pSh} {I : Nat → Nat → Int32} {L : Nat → Nat → Int64} {P : Nat → Nat → Option Nat} (hA : kA sh P) {w t : Nat} (hw : w = 62 ∨ w = 68 ∨ w = 74) (ht : t = 3 ∨ t = 30) (hwt : P w 0 = some t) (hxt : P 1 2 = some t) (hxw : P 1 7 = some w) {np ns nd : Nat} (hn : tOK I t np ns nd) (hl : lOK I t) (q s u : Int32) : pCn m_Ls_law 3 [.ref 1, .int q, .int s, .int u] sh (I, L, P) (rJx (xLawQ I t w q s u) I P) := by
  refine pCn_of (by decide +kernel) (Nat.le_of_ble_eq_true rfl) ?_
  have h16 := hn.2.2.2.1
  have h5 := hn.2.1
  have h8 := hn.2.2.2.2.2
  refine pw_iload_n (k4 := 1) rfl (by decide +kernel) ?_
  refine pw_iconst (n := 2) (v := 2) (by decide) (by decide +kernel) ?_
  refine pw_icmp_ne (off := 31) (tgt := 33) (by decide +kernel) (by decide +kernel) (fun z2 => ?_) (fun z2 => ?_)
  · refine pw_aload_n (k4 := 0) rfl (by decide +kernel) ?_
    refine pq_getP (c := 10) (k := 7) (ks_x hA) (by decide) (by decide) hxw lf_Ls_43 (by decide +kernel) ?_
    refine pw_iload_n (k4 := 2) rfl (by decide +kernel) ?_
    refine pq_callV (ν := m_Wo_isThere) (d' := 1) (av := [_]) (c := 9) (by decide +kernel) lm_Ls_211 ok_Wo_isThere (show _ = some 1 by decide +kernel) (ks_w hA hw) rfl (by decide) (by omega) (Nat.le_of_ble_eq_true rfl) (ct_Wo_isThere hA hw ht hwt hn _) ?_
    rintro _ _ ⟨rfl, rfl⟩
    refine pn_ifB_eq (off := 12) (tgt := 53) (by decide +kernel) (by decide +kernel) (fun z41 => ?_) (fun z41 => ?_)
    · refine pw_ldc2 lc_Ls_209 (by decide +kernel) ?_
      exact pq_lret rfl (by decide +kernel) ⟨congrArg (fun z => some (Value.long z)) (by unfold xLawQ; rw [if_neg z2, if_neg (fun e => z41 e.1)]; rfl), _, rfl⟩
    · obtain ⟨j, hj, rfl⟩ := nIn hn.2.2.1 (by omega) z41.1
      refine pw_iload_n (k4 := 1) rfl (by decide +kernel) ?_
      refine pw_if_eq (off := 12) (tgt := 57) (by decide +kernel) (by decide +kernel) (fun z45 => ?_) (fun z45 => ?_)
      · obtain rfl : q = nI 0 := z45
        refine pw_aload_n (k4 := 0) rfl (by decide +kernel) ?_
        refine pq_getP (c := 10) (k := 7) (ks_x hA) (by decide) (by decide) hxw lf_Ls_43 (by decide +kernel) ?_
        refine pw_iload_n (k4 := 1) rfl (by decide +kernel) ?_
        refine pw_iload_n (k4 := 2) rfl (by decide +kernel) ?_
        refine pw_aload_n (k4 := 0) rfl (by decide +kernel) ?_
        refine pq_getP (c := 10) (k := 7) (ks_x hA) (by decide) (by decide) hxw lf_Ls_43 (by decide +kernel) ?_
        refine pq_getP (c := 9) (k := 5) (ks_w hA hw) (by decide) (by decide) (kp_w_used hA hw) lf_Ls_142 (by decide +kernel) ?_
        refine pw_iload_n (k4 := 2) rfl (by decide +kernel) ?_
        refine pq_iald j rfl (by omega) (by decide) (ks_w_used hA hw) (by decide +kernel) ?_
        refine pw_aload_n (k4 := 0) rfl (by decide +kernel) ?_
        refine pq_getP (c := 10) (k := 7) (ks_x hA) (by decide) (by decide) hxw lf_Ls_43 (by decide +kernel) ?_
        refine pq_getI (c := 9) (k := 1) (ks_w hA hw) (by decide) (by decide) lf_Ls_214 (by decide +kernel) ?_
        refine pq_callV (ν := m_Wo_lawOf) (d' := 2) (av := [_, _, _, _]) (c := 9) (by decide +kernel) lm_Ls_217 ok_Wo_lawOf (show _ = some 4 by decide +kernel) (ks_w hA hw) rfl (by decide) (by omega) (Nat.le_of_ble_eq_true rfl) (ct_Wo_lawOf hA hw ht hwt hn hl j hj (r := 0) (by decide) _ _) ?_
        rintro _ _ ⟨rfl, L', rfl⟩
        exact pq_lret rfl (by decide +kernel) ⟨congrArg (fun z => some (Value.long z)) (by unfold xLawQ; rw [if_neg z2, if_pos ⟨z41, Or.inl rfl⟩, ixn_nI (by omega), ixn_nI (by omega)]), _, rfl⟩
      · refine pw_iload_n (k4 := 1) rfl (by decide +kernel) ?_
        refine pw_iconst (n := 1) (v := 1) (by decide) (by decide +kernel) ?_
        refine pw_icmp_eq (off := 7) (tgt := 57) (by decide +kernel) (by decide +kernel) (fun z50 => ?_) (fun z50 => ?_)
        · obtain rfl : q = nI 1 := z50
          refine pw_aload_n (k4 := 0) rfl (by decide +kernel) ?_
          refine pq_getP (c := 10) (k := 7) (ks_x hA) (by decide) (by decide) hxw lf_Ls_43 (by decide +kernel) ?_
          refine pw_iload_n (k4 := 1) rfl (by decide +kernel) ?_
          refine pw_iload_n (k4 := 2) rfl (by decide +kernel) ?_
          refine pw_aload_n (k4 := 0) rfl (by decide +kernel) ?_
          refine pq_getP (c := 10) (k := 7) (ks_x hA) (by decide) (by decide) hxw lf_Ls_43 (by decide +kernel) ?_
          refine pq_getP (c := 9) (k := 5) (ks_w hA hw) (by decide) (by decide) (kp_w_used hA hw) lf_Ls_142 (by decide +kernel) ?_
          refine pw_iload_n (k4 := 2) rfl (by decide +kernel) ?_
          refine pq_iald j rfl (by omega) (by decide) (ks_w_used hA hw) (by decide +kernel) ?_
          refine pw_aload_n (k4 := 0) rfl (by decide +kernel) ?_
          refine pq_getP (c := 10) (k := 7) (ks_x hA) (by decide) (by decide) hxw lf_Ls_43 (by decide +kernel) ?_
          refine pq_getI (c := 9) (k := 1) (ks_w hA hw) (by decide) (by decide) lf_Ls_214 (by decide +kernel) ?_
          refine pq_callV (ν := m_Wo_lawOf) (d' := 2) (av := [_, _, _, _]) (c := 9) (by decide +kernel) lm_Ls_217 ok_Wo_lawOf (show _ = some 4 by decide +kernel) (ks_w hA hw) rfl (by decide) (by omega) (Nat.le_of_ble_eq_true rfl) (ct_Wo_lawOf hA hw ht hwt hn hl j hj (r := 1) (by decide) _ _) ?_
          rintro _ _ ⟨rfl, L', rfl⟩
          exact pq_lret rfl (by decide +kernel) ⟨congrArg (fun z => some (Value.long z)) (by unfold xLawQ; rw [if_neg z2, if_pos ⟨z41, Or.inr rfl⟩, ixn_nI (by omega), ixn_nI (by omega)]), _, rfl⟩
        · refine pw_ldc2 lc_Ls_209 (by decide +kernel) ?_
          exact pq_lret rfl (by decide +kernel) ⟨congrArg (fun z => some (Value.long z)) (by unfold xLawQ; rw [if_neg z2, if_neg (fun e => e.2.elim z45 z50)]; rfl), _, rfl⟩
  · refine pw_aload_n (k4 := 0) rfl (by decide +kernel) ?_
    refine pq_getP (c := 10) (k := 7) (ks_x hA) (by decide) (by decide) hxw lf_Ls_43 (by decide +kernel) ?_
    refine pw_iload_n (k4 := 2) rfl (by decide +kernel) ?_
    refine pw_iload_n (k4 := 3) rfl (by decide +kernel) ?_
    refine pq_callV (ν := m_Wo_arePair) (d' := 2) (av := [_, _]) (c := 9) (by decide +kernel) lm_Ls_197 ok_Wo_arePair (show _ = some 2 by decide +kernel) (ks_w hA hw) rfl (by decide) (by omega) (Nat.le_of_ble_eq_true rfl) (ct_Wo_arePair hA hw ht hwt hn _ _) ?_
    rintro _ _ ⟨rfl, rfl⟩
    refine pn_ifB_eq (off := 15) (tgt := 29) (by decide +kernel) (by decide +kernel) (fun z14 => ?_) (fun z14 => ?_)
    · refine pw_ldc2 lc_Ls_209 (by decide +kernel) ?_
      exact pq_lret rfl (by decide +kernel) ⟨congrArg (fun z => some (Value.long z)) (by unfold xLawQ; rw [if_pos z2, if_neg z14]; rfl), _, rfl⟩
    · obtain ⟨i, hi, rfl⟩ := nIn hn.2.2.1 (by omega) z14.1.1
      obtain ⟨j, hj, rfl⟩ := nIn hn.2.2.1 (by omega) z14.2.1.1
      refine pw_aload_n (k4 := 0) rfl (by decide +kernel) ?_
      refine pq_getP (c := 10) (k := 7) (ks_x hA) (by decide) (by decide) hxw lf_Ls_43 (by decide +kernel) ?_
      refine pw_iload_n (k4 := 2) rfl (by decide +kernel) ?_
      refine pw_iload_n (k4 := 3) rfl (by decide +kernel) ?_
      refine pq_callV (ν := m_Wo_lawOfPair) (d' := 2) (av := [_, _]) (c := 9) (by decide +kernel) lm_Ls_205 ok_Wo_lawOfPair (show _ = some 2 by decide +kernel) (ks_w hA hw) rfl (by decide) (by omega) (Nat.le_of_ble_eq_true rfl) (ct_Wo_lawOfPair hA hw ht hwt hn hl i j hi hj) ?_
      rintro _ _ ⟨rfl, L', rfl⟩
      refine pw_goto (off := 6) (tgt := 32) (by decide +kernel) (by decide +kernel) ?_
      exact pq_lret rfl (by decide +kernel) ⟨congrArg (fun z => some (Value.long z)) (by unfold xLawQ; rw [if_pos z2, if_pos z14, ixn_nI (by omega), ixn_nI (by omega)]), _, rfl⟩

theorem ct_Ls_isPrice {sh : List pSh} {I : Nat → Nat → Int32} {L : Nat → Nat → Int64} {P : Nat → Nat → Option Nat} (q : Int32) : pCn m_Ls_isPrice 0 [.int q] sh (I, L, P) (rI (B (xPrice q)) (I, L, P)) := by
  refine pCn_of (by decide +kernel) (Nat.le_of_ble_eq_true rfl) ?_
  refine pw_iload_n (k4 := 0) rfl (by decide +kernel) ?_
  refine pw_iconst (n := 1) (v := 1) (by decide) (by decide +kernel) ?_
  refine pw_icmp_lt (off := 14) (tgt := 16) (by decide +kernel) (by decide +kernel) (fun z2 => ?_) (fun z2 => ?_)
  · refine pw_iconst (n := 0) (v := 0) (by decide) (by decide +kernel) ?_
    exact pq_zret rfl (by decide) (by decide +kernel) ⟨congrArg (fun z => some (Value.int z)) (B_f (fun e => Int32.not_lt.mpr e.1 z2)).symm, rfl⟩
  · refine pw_iload_n (k4 := 0) rfl (by decide +kernel) ?_
    refine pw_sipush (n := 9999) (v := 9999) (by decide) (by decide +kernel) ?_
    refine pw_icmp_gt (off := 7) (tgt := 16) (by decide +kernel) (by decide +kernel) (fun z9 => ?_) (fun z9 => ?_)
    · refine pw_iconst (n := 0) (v := 0) (by decide) (by decide +kernel) ?_
      exact pq_zret rfl (by decide) (by decide +kernel) ⟨congrArg (fun z => some (Value.int z)) (B_f (fun e => Int32.not_lt.mpr e.2 z9)).symm, rfl⟩
    · refine pw_iconst (n := 1) (v := 1) (by decide) (by decide +kernel) ?_
      refine pw_goto (off := 4) (tgt := 17) (by decide +kernel) (by decide +kernel) ?_
      exact pq_zret rfl (by decide) (by decide +kernel) ⟨congrArg (fun z => some (Value.int z)) (B_t ⟨Int32.not_lt.mp z2, Int32.not_lt.mp z9⟩).symm, rfl⟩

theorem xPrice_n {q : Int32} (h : xPrice q) : ∃ n : Nat, 1 ≤ n ∧ n < 10000 ∧ q = nI n := by
  obtain ⟨n, hn, rfl⟩ := nI_of (Int32.not_lt.mpr (Int32.le_trans (show (0 : Int32) ≤ 1 by decide) h.1))
  exact ⟨n, (nI_leI (by decide) hn).mp h.1, Nat.lt_succ_of_le ((nI_leI hn (by decide)).mp h.2), rfl⟩

theorem ct_Ls_change {sh : List pSh} {I : Nat → Nat → Int32} {L : Nat → Nat → Int64} {P : Nat → Nat → Option Nat} (hA : kA sh P) {w t : Nat} (hw : w = 62 ∨ w = 68 ∨ w = 74) (ht : t = 3 ∨ t = 30) (hwt : P w 0 = some t) (hxt : P 1 2 = some t) (hxw : P 1 7 = some w) {np ns nd : Nat} (hn : tOK I t np ns nd) (hl : lOK I t) (p q : Int32) : pCn m_Ls_change 5 [.ref 1, .int p, .int q] sh (I, L, P) (rF (xChangeQ I t w ns p q) I P) := by
  refine pCn_of (by decide +kernel) (Nat.le_of_ble_eq_true rfl) ?_
  have h16 := hn.2.2.2.1
  have h5 := hn.2.1
  have h8 := hn.2.2.2.2.2
  refine pw_aload_n (k4 := 0) rfl (by decide +kernel) ?_
  refine pq_getP (c := 10) (k := 2) (ks_x hA) (by decide) (by decide) hxt lf_Ls_18 (by decide +kernel) ?_
  refine pw_iload_n (k4 := 1) rfl (by decide +kernel) ?_
  refine pq_callV (ν := m_Ta_hasPerson) (d' := 0) (av := [_]) (c := 7) (by decide +kernel) lm_Ls_162 ok_Ta_hasPerson (show _ = some 1 by decide +kernel) (ks_t hA ht) rfl (by decide) (by omega) (Nat.le_of_ble_eq_true rfl) (ct_Ta_hasPerson hA ht _) ?_
  rintro _ _ ⟨rfl, rfl⟩
  refine pn_ifB_eq (off := 10) (tgt := 18) (by decide +kernel) (by decide +kernel) (fun z8 => ?_) (fun z8 => ?_)
  · refine pw_iconst (n := -1) (v := -1) (by decide) (by decide +kernel) ?_
    exact pq_iret rfl (by decide +kernel) ⟨congrArg (fun z => some (Value.int z)) (if_neg (fun e => z8 e.1)).symm, I 61, _, by rw [aU_self]⟩
  · refine pw_iload_n (k4 := 2) rfl (by decide +kernel) ?_
    refine pq_callS (ν := m_Ls_isPrice) (d' := 0) (av := [_]) (by decide +kernel) lm_Ls_221 ok_Ls_isPrice (show _ = some 1 by decide +kernel) (by omega) (Nat.le_of_ble_eq_true rfl) (ct_Ls_isPrice _) ?_
    rintro _ _ ⟨rfl, rfl⟩
    refine pn_ifB_ne (off := 5) (tgt := 20) (by decide +kernel) (by decide +kernel) (fun z15 => ?_) (fun z15 => ?_)
    · obtain ⟨n, hn1, hn2, rfl⟩ := xPrice_n z15
      refine pw_aload_n (k4 := 0) rfl (by decide +kernel) ?_
      refine pq_getP (c := 10) (k := 7) (ks_x hA) (by decide) (by decide) hxw lf_Ls_43 (by decide +kernel) ?_
      refine pw_iload_n (k4 := 1) rfl (by decide +kernel) ?_
      refine pw_iload_n (k4 := 2) rfl (by decide +kernel) ?_
      refine pq_callV (ν := m_Wo_shoesFor) (d' := 4) (av := [_, _]) (c := 9) (by decide +kernel) lm_Ls_224 ok_Wo_shoesFor (show _ = some 2 by decide +kernel) (ks_w hA hw) rfl (by decide) (by omega) (Nat.le_of_ble_eq_true rfl) (ct_Wo_shoesFor hA hw ht hwt hn hl _ n hn1 hn2) ?_
      rintro _ _ ⟨rfl, f, L', rfl⟩
      exact pq_iret rfl (by decide +kernel) ⟨congrArg (fun z => some (Value.int z)) (by unfold xChangeQ; rw [if_pos ⟨z8, z15⟩, ixn_nI (by omega)]), _, _, rfl⟩
    · refine pw_iconst (n := -1) (v := -1) (by decide) (by decide +kernel) ?_
      exact pq_iret rfl (by decide +kernel) ⟨congrArg (fun z => some (Value.int z)) (if_neg (fun e => z15 e.2)).symm, I 61, _, by rw [aU_self]⟩

theorem ct_Ls_refused {sh : List pSh} {I : Nat → Nat → Int32} {L : Nat → Nat → Int64} {P : Nat → Nat → Option Nat} (hA : kA sh P) {w t : Nat} (hw : w = 62 ∨ w = 68 ∨ w = 74) (ht : t = 3 ∨ t = 30) (hwt : P w 0 = some t) (hxt : P 1 2 = some t) (hxw : P 1 7 = some w) {np ns nd : Nat} (hn : tOK I t np ns nd) : pCn m_Ls_refused 0 [.ref 1] sh (I, L, P) (rI (fFind (I (w + 5)) 2 nd 0) (I, L, P)) := by
  refine pCn_of (by decide +kernel) (Nat.le_of_ble_eq_true rfl) ?_
  have h8 := hn.2.2.2.2.2
  have hL := pDown (fun c => ∀ k, k + c = nd → fFind (I (w + 5)) 2 nd 0 = fFind (I (w + 5)) 2 c k → pWn m_Ls_refused 0 sh (rI (fFind (I (w + 5)) 2 nd 0) (I, L, P)) 2 [some (.ref 1), some (.int (nI k))] [] (I, L, P)) (by
    intro c ih k hk hV
    refine pw_iload_n (k4 := 1) rfl (by decide +kernel) ?_
    refine pw_aload_n (k4 := 0) rfl (by decide +kernel) ?_
    refine pq_getP (c := 10) (k := 2) (ks_x hA) (by decide) (by decide) hxt lf_Ls_18 (by decide +kernel) ?_
    refine pq_getI (c := 7) (k := 12) (ks_t hA ht) (by decide) (by decide) lf_Ls_179 (by decide +kernel) ?_
    refine pn_val (nI (nd)) hn.2.2.2.2.1 ?_
    refine pn_icmp_ge (off := 24) (tgt := 34) k nd rfl rfl (by omega) (by omega) (by decide +kernel) (by decide +kernel) (fun z10 => ?_) (fun z10 => ?_)
    · refine pw_iconst (n := -1) (v := -1) (by decide) (by decide +kernel) ?_
      exact pq_iret rfl (by decide +kernel) ⟨congrArg (fun z => some (Value.int z)) (by have hc : c = 0 := (by omega); subst hc; exact hV.symm), rfl⟩
    · refine pw_aload_n (k4 := 0) rfl (by decide +kernel) ?_
      refine pq_getP (c := 10) (k := 7) (ks_x hA) (by decide) (by decide) hxw lf_Ls_43 (by decide +kernel) ?_
      refine pq_getP (c := 9) (k := 8) (ks_w hA hw) (by decide) (by decide) (kp_w_settled hA hw) lf_Ls_194 (by decide +kernel) ?_
      refine pw_iload_n (k4 := 1) rfl (by decide +kernel) ?_
      refine pq_iald k rfl (by omega) (by decide) (ks_w_settled hA hw) (by decide +kernel) ?_
      refine pw_iconst (n := 2) (v := 2) (by decide) (by decide +kernel) ?_
      refine pw_icmp_ne (off := 5) (tgt := 28) (by decide +kernel) (by decide +kernel) (fun z23 => ?_) (fun z23 => ?_)
      · refine pn_iinc (i := 1) (n := 1) 1 k rfl rfl (by decide) rfl (by decide +kernel) ?_
        refine pw_goto (off := -29) (tgt := 2) (by decide +kernel) (by decide +kernel) ?_
        obtain ⟨e, rfl⟩ : ∃ e, c = e + 1 := ⟨c - 1, by omega⟩
        exact ih e rfl (k + 1) (by omega) (hV.trans (if_neg z23))
      · refine pw_iload_n (k4 := 1) rfl (by decide +kernel) ?_
        exact pq_iret rfl (by decide +kernel) ⟨congrArg (fun z => some (Value.int z)) (by obtain ⟨e, rfl⟩ : ∃ e, c = e + 1 := ⟨c - 1, by omega⟩; rw [hV]; exact (if_pos z23).symm), rfl⟩
)
  refine pw_iconst (n := 0) (v := 0) (by decide) (by decide +kernel) ?_
  refine pq_istore_n (k4 := 1) (Nat.le_of_ble_eq_true rfl) rfl (by decide +kernel) ?_
  exact hL nd 0 (by omega) rfl
