/-! ===== tracks ===== -/
theorem ct_Tr_clear {sh : List pSh} {I : Nat → Nat → Int32} {L : Nat → Nat → Int64} {P : Nat → Nat → Option Nat} (hA : kA sh P) : pCn m_Tr_clear 0 [.ref 123] sh (I, L, P) (rV (sI (sI I 123 0 0) 123 1 (-1), L, P)) := by
  refine pCn_of (by decide +kernel) (Nat.le_of_ble_eq_true rfl) ?_
  refine pw_aload_n (k4 := 0) rfl (by decide +kernel) ?_
  refine pw_iconst (n := 0) (v := 0) (by decide) (by decide +kernel) ?_
  refine pq_putI (c := 8) (k := 0) (ks_tr hA) (by decide) (by decide) lf_Tr_22 (Or.inl rfl) (by decide +kernel) ?_
  refine pw_aload_n (k4 := 0) rfl (by decide +kernel) ?_
  refine pw_iconst (n := -1) (v := -1) (by decide) (by decide +kernel) ?_
  refine pq_putI (c := 8) (k := 1) (ks_tr hA) (by decide) (by decide) lf_Tr_11 (Or.inl rfl) (by decide +kernel) ?_
  exact pq_vret rfl (by decide +kernel) ⟨rfl, rfl⟩

def rAdd (I : Nat → Nat → Int32) (L : Nat → Nat → Int64) (P : Nat → Nat → Option Nat) (sz : Nat) (a b : Int32) : Option Value → pM → Prop := fun r M => if sz = 24 then r = some (.int (-1)) ∧ M = (I, L, P) else r = some (.int (nI sz)) ∧ M = (sI (sI (sI I 124 sz a) 125 sz b) 123 0 (nI (sz + 1)), L, P)

theorem ct_Tr_add {sh : List pSh} {I : Nat → Nat → Int32} {L : Nat → Nat → Int64} {P : Nat → Nat → Option Nat} (hA : kA sh P) {sz : Nat} (hsz : I 123 0 = nI sz) (hz24 : sz ≤ 24) (a b : Int32) : pCn m_Tr_add 0 [.ref 123, .int a, .int b] sh (I, L, P) (rAdd I L P sz a b) := by
  refine pCn_of (by decide +kernel) (Nat.le_of_ble_eq_true rfl) ?_
  refine pw_aload_n (k4 := 0) rfl (by decide +kernel) ?_
  refine pq_getI (c := 8) (k := 0) (ks_tr hA) (by decide) (by decide) lf_Tr_22 (by decide +kernel) ?_
  refine pw_bipush (n := 24) (v := 24) (by decide) (by decide +kernel) ?_
  refine pw_icmp_lt (off := 5) (tgt := 11) (by decide +kernel) (by decide +kernel) (fun z6 => ?_) (fun z6 => ?_)
  · rw [cLt hsz (show (24 : Int32) = nI 24 from rfl) (by omega) (by decide)] at z6
    refine pw_aload_n (k4 := 0) rfl (by decide +kernel) ?_
    refine pq_getP (c := 8) (k := 2) (ks_tr hA) (by decide) (by decide) (kp_tr_sideOf hA) lf_Tr_15 (by decide +kernel) ?_
    refine pw_aload_n (k4 := 0) rfl (by decide +kernel) ?_
    refine pq_getI (c := 8) (k := 0) (ks_tr hA) (by decide) (by decide) lf_Tr_22 (by decide +kernel) ?_
    rw [hsz]
    refine pw_iload_n (k4 := 1) rfl (by decide +kernel) ?_
    refine pq_iast sz rfl (by omega) (by decide) (ks_tr_sideOf hA) (by decide +kernel) ?_
    refine pw_aload_n (k4 := 0) rfl (by decide +kernel) ?_
    refine pq_getP (c := 8) (k := 3) (ks_tr hA) (by decide) (by decide) (kp_tr_sizeOf hA) lf_Tr_19 (by decide +kernel) ?_
    refine pw_aload_n (k4 := 0) rfl (by decide +kernel) ?_
    refine pq_getI (c := 8) (k := 0) (ks_tr hA) (by decide) (by decide) lf_Tr_22 (by decide +kernel) ?_
    rw [sI_ne (by decide), hsz]
    refine pw_iload_n (k4 := 2) rfl (by decide +kernel) ?_
    refine pq_iast sz rfl (by omega) (by decide) (ks_tr_sizeOf hA) (by decide +kernel) ?_
    refine pw_aload_n (k4 := 0) rfl (by decide +kernel) ?_
    refine pw_dup rfl (by decide +kernel) ?_
    refine pq_getI (c := 8) (k := 0) (ks_tr hA) (by decide) (by decide) lf_Tr_22 (by decide +kernel) ?_
    rw [sI_ne (by decide), sI_ne (by decide), hsz]
    refine pw_iconst (n := 1) (v := 1) (by decide) (by decide +kernel) ?_
    refine pw_iadd (by decide +kernel) ?_
    rw [nI_1]
    refine pq_putI (c := 8) (k := 0) (ks_tr hA) (by decide) (by decide) lf_Tr_22 (Or.inl rfl) (by decide +kernel) ?_
    refine pw_aload_n (k4 := 0) rfl (by decide +kernel) ?_
    refine pq_getI (c := 8) (k := 0) (ks_tr hA) (by decide) (by decide) lf_Tr_22 (by decide +kernel) ?_
    rw [sI_rs]
    refine pw_iconst (n := 1) (v := 1) (by decide) (by decide +kernel) ?_
    refine pw_isub (by decide +kernel) ?_
    rw [nS1 (by omega)]
    exact pq_iret rfl (by decide +kernel) (by unfold rAdd; rw [if_neg (by omega)]; exact ⟨rfl, rfl⟩)
  · rw [cLt hsz (show (24 : Int32) = nI 24 from rfl) (by omega) (by decide)] at z6
    refine pw_iconst (n := -1) (v := -1) (by decide) (by decide +kernel) ?_
    exact pq_iret rfl (by decide +kernel) (by unfold rAdd; rw [if_pos (by omega)]; exact ⟨rfl, rfl⟩)

def xKn (I : Nat → Nat → Int32) : Int32 := if I 123 1 = -1 then I 123 0 else I 123 1

theorem ct_Tr_knownBy {sh : List pSh} {I : Nat → Nat → Int32} {L : Nat → Nat → Int64} {P : Nat → Nat → Option Nat} (hA : kA sh P) : pCn m_Tr_knownBy 0 [.ref 123] sh (I, L, P) (rI (xKn I) (I, L, P)) := by
  refine pCn_of (by decide +kernel) (Nat.le_of_ble_eq_true rfl) ?_
  refine pw_aload_n (k4 := 0) rfl (by decide +kernel) ?_
  refine pq_getI (c := 8) (k := 1) (ks_tr hA) (by decide) (by decide) lf_Tr_11 (by decide +kernel) ?_
  refine pw_iconst (n := -1) (v := -1) (by decide) (by decide +kernel) ?_
  refine pw_icmp_ne (off := 10) (tgt := 15) (by decide +kernel) (by decide +kernel) (fun z5 => ?_) (fun z5 => ?_)
  · refine pw_aload_n (k4 := 0) rfl (by decide +kernel) ?_
    refine pq_getI (c := 8) (k := 1) (ks_tr hA) (by decide) (by decide) lf_Tr_11 (by decide +kernel) ?_
    exact pq_iret rfl (by decide +kernel) ⟨congrArg (fun z => some (Value.int z)) (if_neg z5).symm, rfl⟩
  · refine pw_aload_n (k4 := 0) rfl (by decide +kernel) ?_
    refine pq_getI (c := 8) (k := 0) (ks_tr hA) (by decide) (by decide) lf_Tr_22 (by decide +kernel) ?_
    refine pw_goto (off := 7) (tgt := 19) (by decide +kernel) (by decide +kernel) ?_
    exact pq_iret rfl (by decide +kernel) ⟨congrArg (fun z => some (Value.int z)) (if_pos z5).symm, rfl⟩

/-- the print that person k leaves on a side -/
def xPrint (I : Nat → Nat → Int32) (t w : Nat) (side : Int32) (k : Nat) : Int32 := if xHasS I t (I (w + 4) (2 * k + (if side = 0 then 0 else 1))) then I (t + 7) (ixn (I (w + 4) (2 * k + (if side = 0 then 0 else 1)))) else I (t + 2) k
def xFit (I : Nat → Nat → Int32) (t w : Nat) (ps side size : Int32) : Nat → Int32
  | 0 => 0
  | k + 1 => if xBit ps k ∧ xPrint I t w side k = size then xFit I t w ps side size k ||| (1 <<< (nI k &&& 31)) else xFit I t w ps side size k

theorem ct_Tr_fitting {sh : List pSh} {I : Nat → Nat → Int32} {L : Nat → Nat → Int64} {P : Nat → Nat → Option Nat} (hA : kA sh P) {w t : Nat} (hw : w = 62 ∨ w = 68 ∨ w = 74) (ht : t = 3 ∨ t = 30) (hwt : P w 0 = some t) {np ns nd : Nat} (hn : tOK I t np ns nd) (ps side size : Int32) : pCn m_Tr_fitting 1 [.ref w, .int ps, .int side, .int size] sh (I, L, P) (rI (xFit I t w ps side size np) (I, L, P)) := by
  refine pCn_of (by decide +kernel) (Nat.le_of_ble_eq_true rfl) ?_
  have h5 := hn.2.1
  have h16 := hn.2.2.2.1
  have hL := pUpTo np (fun k => pWn m_Tr_fitting 1 sh (rI (xFit I t w ps side size np) (I, L, P)) 6 [some (.ref w), some (.int ps), some (.int side), some (.int size), some (.int (xFit I t w ps side size k)), some (.int (nI k)), none, none] [] (I, L, P)) (by
    intro k hk ih
    refine pw_iload (i := 5) rfl (by decide +kernel) ?_
    refine pw_aload_n (k4 := 0) rfl (by decide +kernel) ?_
    refine pq_getP (c := 9) (k := 0) (ks_w hA hw) (by decide) (by decide) hwt lf_Tr_25 (by decide +kernel) ?_
    refine pq_getI (c := 7) (k := 0) (ks_t hA ht) (by decide) (by decide) lf_Tr_31 (by decide +kernel) ?_
    refine pw_icmp_ge (off := 92) (tgt := 107) (by decide +kernel) (by decide +kernel) (fun z15 => ?_) (fun z15 => ?_)
    · rw [cLe hn.1 rfl (by omega) (by omega)] at z15
      refine pw_iload (i := 4) rfl (by decide +kernel) ?_
      exact pq_iret rfl (by decide +kernel) ⟨by rw [show k = np by omega], rfl⟩
    · rw [cLe hn.1 rfl (by omega) (by omega)] at z15
      refine pw_aload_n (k4 := 0) rfl (by decide +kernel) ?_
      refine pq_getP (c := 9) (k := 7) (ks_w hA hw) (by decide) (by decide) (kp_w_worn hA hw) lf_Tr_50 (by decide +kernel) ?_
      refine pw_iconst (n := 2) (v := 2) (by decide) (by decide +kernel) ?_
      refine pw_iload (i := 5) rfl (by decide +kernel) ?_
      refine pw_imul (by decide +kernel) ?_
      refine pw_iload_n (k4 := 2) rfl (by decide +kernel) ?_
      refine pw_if_ne (off := 7) (tgt := 34) (by decide +kernel) (by decide +kernel) (fun z27 => ?_) (fun z27 => ?_)
      · refine pw_iconst (n := 1) (v := 1) (by decide) (by decide +kernel) ?_
        refine pw_iadd (by decide +kernel) ?_
        refine pq_iald (2 * k + 1) (n21 k) (by omega) (by decide) (ks_w_worn hA hw) (by decide +kernel) ?_
        refine pq_istore (i := 6) (Nat.le_of_ble_eq_true rfl) rfl (by decide +kernel) ?_
        refine pw_aload_n (k4 := 0) rfl (by decide +kernel) ?_
        refine pq_getP (c := 9) (k := 0) (ks_w hA hw) (by decide) (by decide) hwt lf_Tr_25 (by decide +kernel) ?_
        refine pw_iload (i := 6) rfl (by decide +kernel) ?_
        refine pq_callV (ν := m_Ta_hasShoe) (d' := 0) (av := [_]) (c := 7) (by decide +kernel) lm_Tr_53 ok_Ta_hasShoe (show _ = some 1 by decide +kernel) (ks_t hA ht) rfl (by decide) (by omega) (Nat.le_of_ble_eq_true rfl) (ct_Ta_hasShoe hA ht _) ?_
        rintro _ _ ⟨rfl, rfl⟩
        refine pw_if_eq (off := 16) (tgt := 64) (by decide +kernel) (by decide +kernel) (fun z48 => ?_) (fun z48 => ?_)
        · have hz := B_0.mp z48
          refine pw_aload_n (k4 := 0) rfl (by decide +kernel) ?_
          refine pq_getP (c := 9) (k := 0) (ks_w hA hw) (by decide) (by decide) hwt lf_Tr_25 (by decide +kernel) ?_
          refine pq_getP (c := 7) (k := 2) (ks_t hA ht) (by decide) (by decide) (kp_t_foot hA ht) lf_Tr_59 (by decide +kernel) ?_
          refine pw_iload (i := 5) rfl (by decide +kernel) ?_
          refine pq_iald k rfl (by omega) (by decide) (ks_t_foot hA ht) (by decide +kernel) ?_
          refine pq_istore (i := 7) (Nat.le_of_ble_eq_true rfl) rfl (by decide +kernel) ?_
          refine pw_iload_n (k4 := 1) rfl (by decide +kernel) ?_
          refine pw_iload (i := 5) rfl (by decide +kernel) ?_
          refine pw_ishr (by decide +kernel) ?_
          refine pw_iconst (n := 1) (v := 1) (by decide) (by decide +kernel) ?_
          refine pw_iand (by decide +kernel) ?_
          refine pw_iconst (n := 1) (v := 1) (by decide) (by decide +kernel) ?_
          refine pw_icmp_ne (off := 18) (tgt := 101) (by decide +kernel) (by decide +kernel) (fun z83 => ?_) (fun z83 => ?_)
          · refine pq_iinc (i := 5) (n := 1) (1) rfl (by decide) rfl (by decide +kernel) ?_
            refine pw_goto (off := -98) (tgt := 6) (by decide +kernel) (by decide +kernel) ?_
            have hpr := (show xPrint I t w side k = I (t + 2) k from by unfold xPrint; rw [if_neg z27, if_neg hz])
            have q := ih (by omega)
            rw [nI_succ, show xFit I t w ps side size (k + 1) = _ from if_neg (fun q => z83 q.1)] at q
            exact pw_forget [6, 7] q
          · refine pw_iload (i := 7) rfl (by decide +kernel) ?_
            refine pw_iload_n (k4 := 3) rfl (by decide +kernel) ?_
            refine pw_icmp_ne (off := 12) (tgt := 101) (by decide +kernel) (by decide +kernel) (fun z89 => ?_) (fun z89 => ?_)
            · refine pq_iinc (i := 5) (n := 1) (1) rfl (by decide) rfl (by decide +kernel) ?_
              refine pw_goto (off := -98) (tgt := 6) (by decide +kernel) (by decide +kernel) ?_
              have hpr := (show xPrint I t w side k = I (t + 2) k from by unfold xPrint; rw [if_neg z27, if_neg hz])
              have q := ih (by omega)
              rw [nI_succ, show xFit I t w ps side size (k + 1) = _ from if_neg (fun q => z89 (hpr.symm.trans q.2))] at q
              exact pw_forget [6, 7] q
            · refine pw_iload (i := 4) rfl (by decide +kernel) ?_
              refine pw_iconst (n := 1) (v := 1) (by decide) (by decide +kernel) ?_
              refine pw_iload (i := 5) rfl (by decide +kernel) ?_
              refine pw_ishl (by decide +kernel) ?_
              refine pw_ior (by decide +kernel) ?_
              refine pq_istore (i := 4) (Nat.le_of_ble_eq_true rfl) rfl (by decide +kernel) ?_
              refine pq_iinc (i := 5) (n := 1) (1) rfl (by decide) rfl (by decide +kernel) ?_
              refine pw_goto (off := -98) (tgt := 6) (by decide +kernel) (by decide +kernel) ?_
              have hpr := (show xPrint I t w side k = I (t + 2) k from by unfold xPrint; rw [if_neg z27, if_neg hz])
              have q := ih (by omega)
              rw [nI_succ, show xFit I t w ps side size (k + 1) = _ from if_pos ⟨z83, hpr.trans z89⟩] at q
              exact pw_forget [6, 7] q
        · have hz := B_ne.mp z48
          obtain ⟨j, hj, hje⟩ := nIn hn.2.2.1 (by omega) hz
          refine pw_aload_n (k4 := 0) rfl (by decide +kernel) ?_
          refine pq_getP (c := 9) (k := 0) (ks_w hA hw) (by decide) (by decide) hwt lf_Tr_25 (by decide +kernel) ?_
          refine pq_getP (c := 7) (k := 8) (ks_t hA ht) (by decide) (by decide) (kp_t_size hA ht) lf_Tr_57 (by decide +kernel) ?_
          refine pw_iload (i := 6) rfl (by decide +kernel) ?_
          refine pq_iald j hje (by omega) (by decide) (ks_t_size hA ht) (by decide +kernel) ?_
          refine pw_goto (off := 13) (tgt := 74) (by decide +kernel) (by decide +kernel) ?_
          refine pq_istore (i := 7) (Nat.le_of_ble_eq_true rfl) rfl (by decide +kernel) ?_
          refine pw_iload_n (k4 := 1) rfl (by decide +kernel) ?_
          refine pw_iload (i := 5) rfl (by decide +kernel) ?_
          refine pw_ishr (by decide +kernel) ?_
          refine pw_iconst (n := 1) (v := 1) (by decide) (by decide +kernel) ?_
          refine pw_iand (by decide +kernel) ?_
          refine pw_iconst (n := 1) (v := 1) (by decide) (by decide +kernel) ?_
          refine pw_icmp_ne (off := 18) (tgt := 101) (by decide +kernel) (by decide +kernel) (fun z83 => ?_) (fun z83 => ?_)
          · refine pq_iinc (i := 5) (n := 1) (1) rfl (by decide) rfl (by decide +kernel) ?_
            refine pw_goto (off := -98) (tgt := 6) (by decide +kernel) (by decide +kernel) ?_
            have hpr := (show xPrint I t w side k = I (t + 7) j from by unfold xPrint; rw [if_neg z27, if_pos hz, hje, ixn_nI (by omega)])
            have q := ih (by omega)
            rw [nI_succ, show xFit I t w ps side size (k + 1) = _ from if_neg (fun q => z83 q.1)] at q
            exact pw_forget [6, 7] q
          · refine pw_iload (i := 7) rfl (by decide +kernel) ?_
            refine pw_iload_n (k4 := 3) rfl (by decide +kernel) ?_
            refine pw_icmp_ne (off := 12) (tgt := 101) (by decide +kernel) (by decide +kernel) (fun z89 => ?_) (fun z89 => ?_)
            · refine pq_iinc (i := 5) (n := 1) (1) rfl (by decide) rfl (by decide +kernel) ?_
              refine pw_goto (off := -98) (tgt := 6) (by decide +kernel) (by decide +kernel) ?_
              have hpr := (show xPrint I t w side k = I (t + 7) j from by unfold xPrint; rw [if_neg z27, if_pos hz, hje, ixn_nI (by omega)])
              have q := ih (by omega)
              rw [nI_succ, show xFit I t w ps side size (k + 1) = _ from if_neg (fun q => z89 (hpr.symm.trans q.2))] at q
              exact pw_forget [6, 7] q
            · refine pw_iload (i := 4) rfl (by decide +kernel) ?_
              refine pw_iconst (n := 1) (v := 1) (by decide) (by decide +kernel) ?_
              refine pw_iload (i := 5) rfl (by decide +kernel) ?_
              refine pw_ishl (by decide +kernel) ?_
              refine pw_ior (by decide +kernel) ?_
              refine pq_istore (i := 4) (Nat.le_of_ble_eq_true rfl) rfl (by decide +kernel) ?_
              refine pq_iinc (i := 5) (n := 1) (1) rfl (by decide) rfl (by decide +kernel) ?_
              refine pw_goto (off := -98) (tgt := 6) (by decide +kernel) (by decide +kernel) ?_
              have hpr := (show xPrint I t w side k = I (t + 7) j from by unfold xPrint; rw [if_neg z27, if_pos hz, hje, ixn_nI (by omega)])
              have q := ih (by omega)
              rw [nI_succ, show xFit I t w ps side size (k + 1) = _ from if_pos ⟨z83, hpr.trans z89⟩] at q
              exact pw_forget [6, 7] q
      · refine pw_iconst (n := 0) (v := 0) (by decide) (by decide +kernel) ?_
        refine pw_goto (off := 4) (tgt := 35) (by decide +kernel) (by decide +kernel) ?_
        refine pw_iadd (by decide +kernel) ?_
        refine pq_iald (2 * k + 0) (by rw [n2]; exact nI_add _ 0) (by omega) (by decide) (ks_w_worn hA hw) (by decide +kernel) ?_
        refine pq_istore (i := 6) (Nat.le_of_ble_eq_true rfl) rfl (by decide +kernel) ?_
        refine pw_aload_n (k4 := 0) rfl (by decide +kernel) ?_
        refine pq_getP (c := 9) (k := 0) (ks_w hA hw) (by decide) (by decide) hwt lf_Tr_25 (by decide +kernel) ?_
        refine pw_iload (i := 6) rfl (by decide +kernel) ?_
        refine pq_callV (ν := m_Ta_hasShoe) (d' := 0) (av := [_]) (c := 7) (by decide +kernel) lm_Tr_53 ok_Ta_hasShoe (show _ = some 1 by decide +kernel) (ks_t hA ht) rfl (by decide) (by omega) (Nat.le_of_ble_eq_true rfl) (ct_Ta_hasShoe hA ht _) ?_
        rintro _ _ ⟨rfl, rfl⟩
        refine pw_if_eq (off := 16) (tgt := 64) (by decide +kernel) (by decide +kernel) (fun z48 => ?_) (fun z48 => ?_)
        · have hz := B_0.mp z48
          refine pw_aload_n (k4 := 0) rfl (by decide +kernel) ?_
          refine pq_getP (c := 9) (k := 0) (ks_w hA hw) (by decide) (by decide) hwt lf_Tr_25 (by decide +kernel) ?_
          refine pq_getP (c := 7) (k := 2) (ks_t hA ht) (by decide) (by decide) (kp_t_foot hA ht) lf_Tr_59 (by decide +kernel) ?_
          refine pw_iload (i := 5) rfl (by decide +kernel) ?_
          refine pq_iald k rfl (by omega) (by decide) (ks_t_foot hA ht) (by decide +kernel) ?_
          refine pq_istore (i := 7) (Nat.le_of_ble_eq_true rfl) rfl (by decide +kernel) ?_
          refine pw_iload_n (k4 := 1) rfl (by decide +kernel) ?_
          refine pw_iload (i := 5) rfl (by decide +kernel) ?_
          refine pw_ishr (by decide +kernel) ?_
          refine pw_iconst (n := 1) (v := 1) (by decide) (by decide +kernel) ?_
          refine pw_iand (by decide +kernel) ?_
          refine pw_iconst (n := 1) (v := 1) (by decide) (by decide +kernel) ?_
          refine pw_icmp_ne (off := 18) (tgt := 101) (by decide +kernel) (by decide +kernel) (fun z83 => ?_) (fun z83 => ?_)
          · refine pq_iinc (i := 5) (n := 1) (1) rfl (by decide) rfl (by decide +kernel) ?_
            refine pw_goto (off := -98) (tgt := 6) (by decide +kernel) (by decide +kernel) ?_
            have hpr := (show xPrint I t w side k = I (t + 2) k from by unfold xPrint; rw [if_pos z27, if_neg hz])
            have q := ih (by omega)
            rw [nI_succ, show xFit I t w ps side size (k + 1) = _ from if_neg (fun q => z83 q.1)] at q
            exact pw_forget [6, 7] q
          · refine pw_iload (i := 7) rfl (by decide +kernel) ?_
            refine pw_iload_n (k4 := 3) rfl (by decide +kernel) ?_
            refine pw_icmp_ne (off := 12) (tgt := 101) (by decide +kernel) (by decide +kernel) (fun z89 => ?_) (fun z89 => ?_)
            · refine pq_iinc (i := 5) (n := 1) (1) rfl (by decide) rfl (by decide +kernel) ?_
              refine pw_goto (off := -98) (tgt := 6) (by decide +kernel) (by decide +kernel) ?_
              have hpr := (show xPrint I t w side k = I (t + 2) k from by unfold xPrint; rw [if_pos z27, if_neg hz])
              have q := ih (by omega)
              rw [nI_succ, show xFit I t w ps side size (k + 1) = _ from if_neg (fun q => z89 (hpr.symm.trans q.2))] at q
              exact pw_forget [6, 7] q
            · refine pw_iload (i := 4) rfl (by decide +kernel) ?_
              refine pw_iconst (n := 1) (v := 1) (by decide) (by decide +kernel) ?_
              refine pw_iload (i := 5) rfl (by decide +kernel) ?_
              refine pw_ishl (by decide +kernel) ?_
              refine pw_ior (by decide +kernel) ?_
              refine pq_istore (i := 4) (Nat.le_of_ble_eq_true rfl) rfl (by decide +kernel) ?_
              refine pq_iinc (i := 5) (n := 1) (1) rfl (by decide) rfl (by decide +kernel) ?_
              refine pw_goto (off := -98) (tgt := 6) (by decide +kernel) (by decide +kernel) ?_
              have hpr := (show xPrint I t w side k = I (t + 2) k from by unfold xPrint; rw [if_pos z27, if_neg hz])
              have q := ih (by omega)
              rw [nI_succ, show xFit I t w ps side size (k + 1) = _ from if_pos ⟨z83, hpr.trans z89⟩] at q
              exact pw_forget [6, 7] q
        · have hz := B_ne.mp z48
          obtain ⟨j, hj, hje⟩ := nIn hn.2.2.1 (by omega) hz
          refine pw_aload_n (k4 := 0) rfl (by decide +kernel) ?_
          refine pq_getP (c := 9) (k := 0) (ks_w hA hw) (by decide) (by decide) hwt lf_Tr_25 (by decide +kernel) ?_
          refine pq_getP (c := 7) (k := 8) (ks_t hA ht) (by decide) (by decide) (kp_t_size hA ht) lf_Tr_57 (by decide +kernel) ?_
          refine pw_iload (i := 6) rfl (by decide +kernel) ?_
          refine pq_iald j hje (by omega) (by decide) (ks_t_size hA ht) (by decide +kernel) ?_
          refine pw_goto (off := 13) (tgt := 74) (by decide +kernel) (by decide +kernel) ?_
          refine pq_istore (i := 7) (Nat.le_of_ble_eq_true rfl) rfl (by decide +kernel) ?_
          refine pw_iload_n (k4 := 1) rfl (by decide +kernel) ?_
          refine pw_iload (i := 5) rfl (by decide +kernel) ?_
          refine pw_ishr (by decide +kernel) ?_
          refine pw_iconst (n := 1) (v := 1) (by decide) (by decide +kernel) ?_
          refine pw_iand (by decide +kernel) ?_
          refine pw_iconst (n := 1) (v := 1) (by decide) (by decide +kernel) ?_
          refine pw_icmp_ne (off := 18) (tgt := 101) (by decide +kernel) (by decide +kernel) (fun z83 => ?_) (fun z83 => ?_)
          · refine pq_iinc (i := 5) (n := 1) (1) rfl (by decide) rfl (by decide +kernel) ?_
            refine pw_goto (off := -98) (tgt := 6) (by decide +kernel) (by decide +kernel) ?_
            have hpr := (show xPrint I t w side k = I (t + 7) j from by unfold xPrint; rw [if_pos z27, if_pos hz, hje, ixn_nI (by omega)])
            have q := ih (by omega)
            rw [nI_succ, show xFit I t w ps side size (k + 1) = _ from if_neg (fun q => z83 q.1)] at q
            exact pw_forget [6, 7] q
          · refine pw_iload (i := 7) rfl (by decide +kernel) ?_
            refine pw_iload_n (k4 := 3) rfl (by decide +kernel) ?_
            refine pw_icmp_ne (off := 12) (tgt := 101) (by decide +kernel) (by decide +kernel) (fun z89 => ?_) (fun z89 => ?_)
            · refine pq_iinc (i := 5) (n := 1) (1) rfl (by decide) rfl (by decide +kernel) ?_
              refine pw_goto (off := -98) (tgt := 6) (by decide +kernel) (by decide +kernel) ?_
              have hpr := (show xPrint I t w side k = I (t + 7) j from by unfold xPrint; rw [if_pos z27, if_pos hz, hje, ixn_nI (by omega)])
              have q := ih (by omega)
              rw [nI_succ, show xFit I t w ps side size (k + 1) = _ from if_neg (fun q => z89 (hpr.symm.trans q.2))] at q
              exact pw_forget [6, 7] q
            · refine pw_iload (i := 4) rfl (by decide +kernel) ?_
              refine pw_iconst (n := 1) (v := 1) (by decide) (by decide +kernel) ?_
              refine pw_iload (i := 5) rfl (by decide +kernel) ?_
              refine pw_ishl (by decide +kernel) ?_
              refine pw_ior (by decide +kernel) ?_
              refine pq_istore (i := 4) (Nat.le_of_ble_eq_true rfl) rfl (by decide +kernel) ?_
              refine pq_iinc (i := 5) (n := 1) (1) rfl (by decide) rfl (by decide +kernel) ?_
              refine pw_goto (off := -98) (tgt := 6) (by decide +kernel) (by decide +kernel) ?_
              have hpr := (show xPrint I t w side k = I (t + 7) j from by unfold xPrint; rw [if_pos z27, if_pos hz, hje, ixn_nI (by omega)])
              have q := ih (by omega)
              rw [nI_succ, show xFit I t w ps side size (k + 1) = _ from if_pos ⟨z83, hpr.trans z89⟩] at q
              exact pw_forget [6, 7] q
)
  refine pw_iconst (n := 0) (v := 0) (by decide) (by decide +kernel) ?_
  refine pq_istore (i := 4) (Nat.le_of_ble_eq_true rfl) rfl (by decide +kernel) ?_
  refine pw_iconst (n := 0) (v := 0) (by decide) (by decide +kernel) ?_
  refine pq_istore (i := 5) (Nat.le_of_ble_eq_true rfl) rfl (by decide +kernel) ?_
  exact hL 0 (Nat.zero_le _)

def xSus (I : Nat → Nat → Int32) (t w np : Nat) : Nat → Int32 → Int32 → Int32
  | 0, p, _ => p
  | n + 1, p, s => if ¬ (s >>> (nI n &&& 31)) &&& 1 = 0 then xSus I t w np n p s else if I 124 n = 2 then xSus I t w np n p (s ||| (1 <<< (I 125 n &&& 31))) else xSus I t w np n (xFit I t w p (I 124 n) (I 125 n) np) s
theorem i_sub1 (x : Int32) : x - 1 = x + (-1) := by
  rw [Int32.sub_eq_add_neg]
theorem n_m1 (n : Nat) : nI (n + 1) + (-1) = nI n := pk_m1 n
theorem n_neg : nI 0 + (-1) < 0 := by decide
/-- who may have left the tracks -/
def xWho (I : Nat → Nat → Int32) (t w np : Nat) : Int32 := xSus I t w np (ixn (iMin (I 123 0) (xKn I))) ((1 <<< (I t 0 &&& 31)) - 1) 0

theorem ct_Tr_suspects {sh : List pSh} {I : Nat → Nat → Int32} {L : Nat → Nat → Int64} {P : Nat → Nat → Option Nat} (hA : kA sh P) {w t : Nat} (hw : w = 62 ∨ w = 68 ∨ w = 74) (ht : t = 3 ∨ t = 30) (hwt : P w 0 = some t) {np ns nd : Nat} (hn : tOK I t np ns nd) {kn : Nat} (hkn : iMin (I 123 0) (xKn I) = nI kn) (hk24 : kn ≤ 24) : pCn m_Tr_suspects 2 [.ref 123, .ref w] sh (I, L, P) (rI (xWho I t w np) (I, L, P)) := by
  refine pCn_of (by decide +kernel) (Nat.le_of_ble_eq_true rfl) ?_
  have hL := pDown (fun n => ∀ p s : Int32, n ≤ kn → xSus I t w np n p s = xWho I t w np → pWn m_Tr_suspects 2 sh (rI (xWho I t w np) (I, L, P)) 29 [some (.ref 123), some (.ref w), some (.int p), some (.int s), some (.int (nI n + (-1)))] [] (I, L, P)) (by
    intro n ih p s hnk hV
    refine pw_iload (i := 4) rfl (by decide +kernel) ?_
    refine pw_if_lt (off := 64) (tgt := 95) (by decide +kernel) (by decide +kernel) (fun z31 => ?_) (fun z31 => ?_)
    · have e0 : n = 0 := by rcases n with _ | n; rfl; exact absurd z31 (by rw [n_m1]; exact nI_pos (by omega))
      subst e0
      refine pw_iload_n (k4 := 2) rfl (by decide +kernel) ?_
      exact pq_iret rfl (by decide +kernel) ⟨congrArg (fun z => some (Value.int z)) hV, rfl⟩
    · obtain ⟨n, rfl⟩ : ∃ k, n = k + 1 := ⟨n - 1, by rcases n with _ | n; exact absurd n_neg z31; rfl⟩
      rw [n_m1]
      replace ih := ih n rfl
      unfold xSus at hV
      refine pw_iload_n (k4 := 3) rfl (by decide +kernel) ?_
      refine pw_iload (i := 4) rfl (by decide +kernel) ?_
      refine pw_ishr (by decide +kernel) ?_
      refine pw_iconst (n := 1) (v := 1) (by decide) (by decide +kernel) ?_
      refine pw_iand (by decide +kernel) ?_
      refine pw_if_ne (off := 49) (tgt := 89) (by decide +kernel) (by decide +kernel) (fun z40 => ?_) (fun z40 => ?_)
      · rw [if_pos z40] at hV
        refine pq_iinc (i := 4) (n := -1) (-1) rfl (by decide) rfl (by decide +kernel) ?_
        refine pw_goto (off := -63) (tgt := 29) (by decide +kernel) (by decide +kernel) ?_
        exact ih _ _ (by omega) hV
      · rw [if_neg (fun q => q z40)] at hV
        refine pw_aload_n (k4 := 0) rfl (by decide +kernel) ?_
        refine pq_getP (c := 8) (k := 2) (ks_tr hA) (by decide) (by decide) (kp_tr_sideOf hA) lf_Tr_15 (by decide +kernel) ?_
        refine pw_iload (i := 4) rfl (by decide +kernel) ?_
        refine pq_iald n rfl (by omega) (by decide) (ks_tr_sideOf hA) (by decide +kernel) ?_
        refine pw_iconst (n := 2) (v := 2) (by decide) (by decide +kernel) ?_
        refine pw_icmp_ne (off := 18) (tgt := 69) (by decide +kernel) (by decide +kernel) (fun z51 => ?_) (fun z51 => ?_)
        · rw [if_neg z51] at hV
          refine pw_aload_n (k4 := 1) rfl (by decide +kernel) ?_
          refine pw_iload_n (k4 := 2) rfl (by decide +kernel) ?_
          refine pw_aload_n (k4 := 0) rfl (by decide +kernel) ?_
          refine pq_getP (c := 8) (k := 2) (ks_tr hA) (by decide) (by decide) (kp_tr_sideOf hA) lf_Tr_15 (by decide +kernel) ?_
          refine pw_iload (i := 4) rfl (by decide +kernel) ?_
          refine pq_iald n rfl (by omega) (by decide) (ks_tr_sideOf hA) (by decide +kernel) ?_
          refine pw_aload_n (k4 := 0) rfl (by decide +kernel) ?_
          refine pq_getP (c := 8) (k := 3) (ks_tr hA) (by decide) (by decide) (kp_tr_sizeOf hA) lf_Tr_19 (by decide +kernel) ?_
          refine pw_iload (i := 4) rfl (by decide +kernel) ?_
          refine pq_iald n rfl (by omega) (by decide) (ks_tr_sizeOf hA) (by decide +kernel) ?_
          refine pq_callS (ν := m_Tr_fitting) (d' := 1) (av := [_, _, _, _]) (by decide +kernel) lm_Tr_46 ok_Tr_fitting (show _ = some 4 by decide +kernel) (by omega) (Nat.le_of_ble_eq_true rfl) (ct_Tr_fitting hA hw ht hwt hn _ _ _) ?_
          rintro _ _ ⟨rfl, rfl⟩
          refine pq_istore_n (k4 := 2) (Nat.le_of_ble_eq_true rfl) rfl (by decide +kernel) ?_
          refine pq_iinc (i := 4) (n := -1) (-1) rfl (by decide) rfl (by decide +kernel) ?_
          refine pw_goto (off := -63) (tgt := 29) (by decide +kernel) (by decide +kernel) ?_
          exact ih _ _ (by omega) hV
        · rw [if_pos z51] at hV
          refine pw_iload_n (k4 := 3) rfl (by decide +kernel) ?_
          refine pw_iconst (n := 1) (v := 1) (by decide) (by decide +kernel) ?_
          refine pw_aload_n (k4 := 0) rfl (by decide +kernel) ?_
          refine pq_getP (c := 8) (k := 3) (ks_tr hA) (by decide) (by decide) (kp_tr_sizeOf hA) lf_Tr_19 (by decide +kernel) ?_
          refine pw_iload (i := 4) rfl (by decide +kernel) ?_
          refine pq_iald n rfl (by omega) (by decide) (ks_tr_sizeOf hA) (by decide +kernel) ?_
          refine pw_ishl (by decide +kernel) ?_
          refine pw_ior (by decide +kernel) ?_
          refine pq_istore_n (k4 := 3) (Nat.le_of_ble_eq_true rfl) rfl (by decide +kernel) ?_
          refine pw_goto (off := 23) (tgt := 89) (by decide +kernel) (by decide +kernel) ?_
          refine pq_iinc (i := 4) (n := -1) (-1) rfl (by decide) rfl (by decide +kernel) ?_
          refine pw_goto (off := -63) (tgt := 29) (by decide +kernel) (by decide +kernel) ?_
          exact ih _ _ (by omega) hV
)
  refine pw_iconst (n := 1) (v := 1) (by decide) (by decide +kernel) ?_
  refine pw_aload_n (k4 := 1) rfl (by decide +kernel) ?_
  refine pq_getP (c := 9) (k := 0) (ks_w hA hw) (by decide) (by decide) hwt lf_Tr_25 (by decide +kernel) ?_
  refine pq_getI (c := 7) (k := 0) (ks_t hA ht) (by decide) (by decide) lf_Tr_31 (by decide +kernel) ?_
  refine pw_ishl (by decide +kernel) ?_
  refine pw_iconst (n := 1) (v := 1) (by decide) (by decide +kernel) ?_
  refine pw_isub (by decide +kernel) ?_
  refine pq_istore_n (k4 := 2) (Nat.le_of_ble_eq_true rfl) rfl (by decide +kernel) ?_
  refine pw_iconst (n := 0) (v := 0) (by decide) (by decide +kernel) ?_
  refine pq_istore_n (k4 := 3) (Nat.le_of_ble_eq_true rfl) rfl (by decide +kernel) ?_
  refine pw_aload_n (k4 := 0) rfl (by decide +kernel) ?_
  refine pq_getI (c := 8) (k := 0) (ks_tr hA) (by decide) (by decide) lf_Tr_22 (by decide +kernel) ?_
  refine pw_aload_n (k4 := 0) rfl (by decide +kernel) ?_
  refine pq_callV (ν := m_Tr_knownBy) (d' := 0) (av := []) (c := 8) (by decide +kernel) lm_Tr_36 ok_Tr_knownBy (show _ = some 0 by decide +kernel) (ks_tr hA) rfl (by decide) (by omega) (Nat.le_of_ble_eq_true rfl) (ct_Tr_knownBy hA) ?_
  rintro _ _ ⟨rfl, rfl⟩
  refine pw_mmin (by decide +kernel) lm_Tr_40 (by omega) (Nat.le_of_ble_eq_true rfl) (Nat.le_refl _) (Nat.le_refl _) ?_
  refine pw_iconst (n := 1) (v := 1) (by decide) (by decide +kernel) ?_
  refine pw_isub (by decide +kernel) ?_
  refine pq_istore (i := 4) (Nat.le_of_ble_eq_true rfl) rfl (by decide +kernel) ?_
  rw [hkn, i_sub1 (nI kn)]
  exact hL kn _ _ (Nat.le_refl _) (by unfold xWho; rw [hkn, ixn_nI (by omega)])

/-- the print that tells most: over the 20 sizes of a side (found, fewest) -/
def xTl (I : Nat → Nat → Int32) (t w np : Nat) (ps : Int32) (side : Nat) : Nat → Int32 × Int32 → Int32 × Int32
  | 0, q => q
  | n + 1, q => (fun r : Int32 × Int32 => if ¬ xBc (xFit I t w ps (nI side) (nI (n + 1)) np) < 1 ∧ ¬ r.2 ≤ xBc (xFit I t w ps (nI side) (nI (n + 1)) np) then (nI side * 21 + nI (n + 1), xBc (xFit I t w ps (nI side) (nI (n + 1)) np)) else r) (xTl I t w np ps side n q)
def xTell (I : Nat → Nat → Int32) (t w np : Nat) : Int32 × Int32 := xTl I t w np (xWho I t w np) 1 20 (xTl I t w np (xWho I t w np) 0 20 (-2, 6))

def xTq (I : Nat → Nat → Int32) (t w np : Nat) : Nat → Int32 × Int32
  | 0 => (-2, 6)
  | k + 1 => xTl I t w np (xWho I t w np) k 20 (xTq I t w np k)
theorem ct_Tr_mostTelling {sh : List pSh} {I : Nat → Nat → Int32} {L : Nat → Nat → Int64} {P : Nat → Nat → Option Nat} (hA : kA sh P) {w t : Nat} (hw : w = 62 ∨ w = 68 ∨ w = 74) (ht : t = 3 ∨ t = 30) (hwt : P w 0 = some t) {np ns nd : Nat} (hn : tOK I t np ns nd) {kn : Nat} (hkn : iMin (I 123 0) (xKn I) = nI kn) (hk24 : kn ≤ 24) : pCn m_Tr_mostTelling 3 [.ref 123, .ref w] sh (I, L, P) (rI (xTell I t w np).1 (I, L, P)) := by
  refine pCn_of (by decide +kernel) (Nat.le_of_ble_eq_true rfl) ?_
  have hz : ∀ k, k < 2 → (k < 2 → pWn m_Tr_mostTelling 3 sh (rI (xTell I t w np).1 (I, L, P)) 16 [some (.ref 123), some (.ref w), some (.int (xWho I t w np)), some (.int (xTq I t w np (k + 1)).1), some (.int (xTq I t w np (k + 1)).2), some (.int (nI (k + 1))), none, none] [] (I, L, P)) → pWn m_Tr_mostTelling 3 sh (rI (xTell I t w np).1 (I, L, P)) 25 [some (.ref 123), some (.ref w), some (.int (xWho I t w np)), some (.int (xTq I t w np k).1), some (.int (xTq I t w np k).2), some (.int (nI k)), some (.int (nI (0 + 1))), none] [] (I, L, P) := by
    intro k hk2 hn2
    have hTs : xTq I t w np (k + 1) = xTl I t w np (xWho I t w np) k 20 (xTq I t w np k) := rfl
    refine pUpTo 20 (fun n => pWn m_Tr_mostTelling 3 sh (rI (xTell I t w np).1 (I, L, P)) 25 [some (.ref 123), some (.ref w), some (.int (xWho I t w np)), some (.int (xTl I t w np (xWho I t w np) k n (xTq I t w np k)).1), some (.int (xTl I t w np (xWho I t w np) k n (xTq I t w np k)).2), some (.int (nI k)), some (.int (nI (n + 1))), none] [] (I, L, P)) ?_ 0 (by omega)
    intro n hnk ih
    refine pw_iload (i := 6) rfl (by decide +kernel) ?_
    refine pw_bipush (n := 20) (v := 20) (by decide) (by decide +kernel) ?_
    refine pw_icmp_gt (off := 49) (tgt := 78) (by decide +kernel) (by decide +kernel) (fun z29 => ?_) (fun z29 => ?_)
    · rw [cLt (show (20 : Int32) = nI 20 from rfl) rfl (by decide) (by omega)] at z29
      refine pq_iinc (i := 5) (n := 1) (1) rfl (by decide) rfl (by decide +kernel) ?_
      refine pw_goto (off := -65) (tgt := 16) (by decide +kernel) (by decide +kernel) ?_
      have q := hn2 (by omega)
      rw [nI_succ, show xTq I t w np (k + 1) = _ from hTs, show (20 : Nat) = n by omega] at q
      exact pw_forget [6, 7] q
    · rw [cLt (show (20 : Int32) = nI 20 from rfl) rfl (by decide) (by omega)] at z29
      refine pw_aload_n (k4 := 1) rfl (by decide +kernel) ?_
      refine pw_iload_n (k4 := 2) rfl (by decide +kernel) ?_
      refine pw_iload (i := 5) rfl (by decide +kernel) ?_
      refine pw_iload (i := 6) rfl (by decide +kernel) ?_
      refine pq_callS (ν := m_Tr_fitting) (d' := 1) (av := [_, _, _, _]) (by decide +kernel) lm_Tr_46 ok_Tr_fitting (show _ = some 4 by decide +kernel) (by omega) (Nat.le_of_ble_eq_true rfl) (ct_Tr_fitting hA hw ht hwt hn _ _ _) ?_
      rintro _ _ ⟨rfl, rfl⟩
      refine pq_callS (ν := m_In_bitCount) (d' := 0) (av := [_]) (by decide +kernel) lm_Tr_66 ok_In_bitCount (show _ = some 1 by decide +kernel) (by omega) (Nat.le_of_ble_eq_true rfl) (ct_In_bitCount _) ?_
      rintro _ _ ⟨rfl, rfl⟩
      refine pq_istore (i := 7) (Nat.le_of_ble_eq_true rfl) rfl (by decide +kernel) ?_
      refine pw_iload (i := 7) rfl (by decide +kernel) ?_
      refine pw_iconst (n := 1) (v := 1) (by decide) (by decide +kernel) ?_
      refine pw_icmp_lt (off := 23) (tgt := 72) (by decide +kernel) (by decide +kernel) (fun z49 => ?_) (fun z49 => ?_)
      · refine pq_iinc (i := 6) (n := 1) (1) rfl (by decide) rfl (by decide +kernel) ?_
        refine pw_goto (off := -50) (tgt := 25) (by decide +kernel) (by decide +kernel) ?_
        have q := ih (by omega)
        rw [nI_succ, show xTl I t w np (xWho I t w np) k (n + 1) (xTq I t w np k) = _ from if_neg (fun q => q.1 z49)] at q
        exact pw_forget [7] q
      · refine pw_iload (i := 7) rfl (by decide +kernel) ?_
        refine pw_iload (i := 4) rfl (by decide +kernel) ?_
        refine pw_icmp_ge (off := 16) (tgt := 72) (by decide +kernel) (by decide +kernel) (fun z56 => ?_) (fun z56 => ?_)
        · refine pq_iinc (i := 6) (n := 1) (1) rfl (by decide) rfl (by decide +kernel) ?_
          refine pw_goto (off := -50) (tgt := 25) (by decide +kernel) (by decide +kernel) ?_
          have q := ih (by omega)
          rw [nI_succ, show xTl I t w np (xWho I t w np) k (n + 1) (xTq I t w np k) = _ from if_neg (fun q => q.2 z56)] at q
          exact pw_forget [7] q
        · refine pw_iload (i := 7) rfl (by decide +kernel) ?_
          refine pq_istore (i := 4) (Nat.le_of_ble_eq_true rfl) rfl (by decide +kernel) ?_
          refine pw_iload (i := 5) rfl (by decide +kernel) ?_
          refine pw_bipush (n := 21) (v := 21) (by decide) (by decide +kernel) ?_
          refine pw_imul (by decide +kernel) ?_
          refine pw_iload (i := 6) rfl (by decide +kernel) ?_
          refine pw_iadd (by decide +kernel) ?_
          refine pq_istore_n (k4 := 3) (Nat.le_of_ble_eq_true rfl) rfl (by decide +kernel) ?_
          refine pq_iinc (i := 6) (n := 1) (1) rfl (by decide) rfl (by decide +kernel) ?_
          refine pw_goto (off := -50) (tgt := 25) (by decide +kernel) (by decide +kernel) ?_
          have q := ih (by omega)
          rw [nI_succ, show xTl I t w np (xWho I t w np) k (n + 1) (xTq I t w np k) = _ from if_pos ⟨z49, z56⟩] at q
          exact pw_forget [7] q
  have hS := pUpTo 2 (fun k => pWn m_Tr_mostTelling 3 sh (rI (xTell I t w np).1 (I, L, P)) 16 [some (.ref 123), some (.ref w), some (.int (xWho I t w np)), some (.int (xTq I t w np k).1), some (.int (xTq I t w np k).2), some (.int (nI k)), none, none] [] (I, L, P)) (by
    intro k hk ih
    refine pw_iload (i := 5) rfl (by decide +kernel) ?_
    refine pw_iconst (n := 1) (v := 1) (by decide) (by decide +kernel) ?_
    refine pw_icmp_gt (off := 65) (tgt := 84) (by decide +kernel) (by decide +kernel) (fun z19 => ?_) (fun z19 => ?_)
    · rw [cLt (show (1 : Int32) = nI 1 from rfl) rfl (by decide) (by omega)] at z19
      refine pw_iload_n (k4 := 3) rfl (by decide +kernel) ?_
      exact pq_iret rfl (by decide +kernel) ⟨by rw [show k = 2 by omega]; rfl, rfl⟩
    · rw [cLt (show (1 : Int32) = nI 1 from rfl) rfl (by decide) (by omega)] at z19
      refine pw_iconst (n := 1) (v := 1) (by decide) (by decide +kernel) ?_
      refine pq_istore (i := 6) (Nat.le_of_ble_eq_true rfl) rfl (by decide +kernel) ?_
      exact hz k (by omega) (fun h => ih h)
)
  refine pw_aload_n (k4 := 0) rfl (by decide +kernel) ?_
  refine pw_aload_n (k4 := 1) rfl (by decide +kernel) ?_
  refine pq_callV (ν := m_Tr_suspects) (d' := 2) (av := [_]) (c := 8) (by decide +kernel) lm_Tr_62 ok_Tr_suspects (show _ = some 1 by decide +kernel) (ks_tr hA) rfl (by decide) (by omega) (Nat.le_of_ble_eq_true rfl) (ct_Tr_suspects hA hw ht hwt hn hkn hk24) ?_
  rintro _ _ ⟨rfl, rfl⟩
  refine pq_istore_n (k4 := 2) (Nat.le_of_ble_eq_true rfl) rfl (by decide +kernel) ?_
  refine pw_bipush (n := -2) (v := -2) (by decide) (by decide +kernel) ?_
  refine pq_istore_n (k4 := 3) (Nat.le_of_ble_eq_true rfl) rfl (by decide +kernel) ?_
  refine pw_bipush (n := 6) (v := 6) (by decide) (by decide +kernel) ?_
  refine pq_istore (i := 4) (Nat.le_of_ble_eq_true rfl) rfl (by decide +kernel) ?_
  refine pw_iconst (n := 0) (v := 0) (by decide) (by decide +kernel) ?_
  refine pq_istore (i := 5) (Nat.le_of_ble_eq_true rfl) rfl (by decide +kernel) ?_
  exact hS 0 (by omega)
