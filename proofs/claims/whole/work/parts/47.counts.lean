/-! ===== the reference: debts, names, counts, shoes, the tape ===== -/
theorem ct_Mo_thrown {sh : List pSh} {I : Nat → Nat → Int32} {L : Nat → Nat → Int64} {P : Nat → Nat → Option Nat} (hA : kA sh P) : pCn m_Mo_thrown 0 [.ref 134] sh (I, L, P) (rI (I 134 2) (I, L, P)) := by
  refine pCn_of (by decide +kernel) (Nat.le_of_ble_eq_true rfl) ?_
  refine pw_aload_n (k4 := 0) rfl (by decide +kernel) ?_
  refine pq_getI (c := 11) (k := 2) (ks_m hA) (by decide) (by decide) lf_Mo_175 (by decide +kernel) ?_
  exact pq_iret rfl (by decide +kernel) ⟨rfl, rfl⟩

theorem ct_Mo_knownBy {sh : List pSh} {I : Nat → Nat → Int32} {L : Nat → Nat → Int64} {P : Nat → Nat → Option Nat} (hA : kA sh P) : pCn m_Mo_knownBy 0 [.ref 134] sh (I, L, P) (rI (if I 134 81 < 0 then I 134 80 else I 134 81) (I, L, P)) := by
  refine pCn_of (by decide +kernel) (Nat.le_of_ble_eq_true rfl) ?_
  refine pw_aload_n (k4 := 0) rfl (by decide +kernel) ?_
  refine pq_getI (c := 11) (k := 81) (ks_m hA) (by decide) (by decide) lf_Mo_145 (by decide +kernel) ?_
  refine pw_if_ge (off := 10) (tgt := 14) (by decide +kernel) (by decide +kernel) (fun z4 => ?_) (fun z4 => ?_)
  · refine pw_aload_n (k4 := 0) rfl (by decide +kernel) ?_
    refine pq_getI (c := 11) (k := 81) (ks_m hA) (by decide) (by decide) lf_Mo_145 (by decide +kernel) ?_
    exact pq_iret rfl (by decide +kernel) ⟨congrArg (fun z => some (Value.int z)) (if_neg (Int32.not_lt.mpr z4)).symm, rfl⟩
  · refine pw_aload_n (k4 := 0) rfl (by decide +kernel) ?_
    refine pq_getI (c := 11) (k := 80) (ks_m hA) (by decide) (by decide) lf_Mo_390 (by decide +kernel) ?_
    refine pw_goto (off := 7) (tgt := 18) (by decide +kernel) (by decide +kernel) ?_
    exact pq_iret rfl (by decide +kernel) ⟨congrArg (fun z => some (Value.int z)) (if_pos (Int32.not_le.mp z4)).symm, rfl⟩

theorem ct_Mo_fault {sh : List pSh} {I : Nat → Nat → Int32} {L : Nat → Nat → Int64} {P : Nat → Nat → Option Nat} (hA : kA sh P) (q : Int32) : pCn m_Mo_fault 0 [.ref 134, .int q] sh (I, L, P) (rA (if q = 0 then I 134 4 else if q = 1 then I 134 5 else -1) I P) := by
  refine pCn_of (by decide +kernel) (Nat.le_of_ble_eq_true rfl) ?_
  refine pw_aload_n (k4 := 0) rfl (by decide +kernel) ?_
  refine pw_iconst (n := 0) (v := 0) (by decide) (by decide +kernel) ?_
  refine pq_putI (c := 11) (k := 2) (ks_m hA) (by decide) (by decide) lf_Mo_175 (Or.inl rfl) (by decide +kernel) ?_
  refine pw_iload_n (k4 := 1) rfl (by decide +kernel) ?_
  refine pw_if_ne (off := 10) (tgt := 16) (by decide +kernel) (by decide +kernel) (fun z6 => ?_) (fun z6 => ?_)
  · refine pw_iload_n (k4 := 1) rfl (by decide +kernel) ?_
    refine pw_iconst (n := 1) (v := 1) (by decide) (by decide +kernel) ?_
    refine pw_icmp_ne (off := 10) (tgt := 28) (by decide +kernel) (by decide +kernel) (fun z18 => ?_) (fun z18 => ?_)
    · refine pw_iconst (n := -1) (v := -1) (by decide) (by decide +kernel) ?_
      exact pq_iret rfl (by decide +kernel) ⟨congrArg (fun z => some (Value.int z)) (by rw [if_neg z6, if_neg z18]), _, _, rfl, rep_t⟩
    · refine pw_aload_n (k4 := 0) rfl (by decide +kernel) ?_
      refine pq_getI (c := 11) (k := 5) (ks_m hA) (by decide) (by decide) lf_Mo_16 (by decide +kernel) ?_
      refine pw_goto (off := 4) (tgt := 29) (by decide +kernel) (by decide +kernel) ?_
      exact pq_iret rfl (by decide +kernel) ⟨congrArg (fun z => some (Value.int z)) (by rw [if_neg z6, if_pos z18]; rfl), _, _, rfl, rep_t⟩
  · refine pw_aload_n (k4 := 0) rfl (by decide +kernel) ?_
    refine pq_getI (c := 11) (k := 4) (ks_m hA) (by decide) (by decide) lf_Mo_181 (by decide +kernel) ?_
    refine pw_goto (off := 16) (tgt := 29) (by decide +kernel) (by decide +kernel) ?_
    exact pq_iret rfl (by decide +kernel) ⟨congrArg (fun z => some (Value.int z)) (if_pos z6).symm, _, _, rfl, rep_t⟩

theorem ct_Mo_manyDebts {sh : List pSh} {I : Nat → Nat → Int32} {L : Nat → Nat → Int64} {P : Nat → Nat → Option Nat} (hA : kA sh P) {np ns nd : Nat} (hm : mOK I np ns nd) (x : Int32) : pCn m_Mo_manyDebts 0 [.ref 134, .int x] sh (I, L, P) (rI (cntI (I 166) x nd) (I, L, P)) := by
  refine pCn_of (by decide +kernel) (Nat.le_of_ble_eq_true rfl) ?_
  have h8 := hm.2.2.2.2.2
  have hL := pUpTo nd (fun k => pWn m_Mo_manyDebts 0 sh (rI (cntI (I 166) x nd) (I, L, P)) 4 [some (.ref 134), some (.int x), some (.int (cntI (I 166) x k)), some (.int (nI k))] [] (I, L, P)) (by
    intro k hk ih
    refine pw_iload_n (k4 := 3) rfl (by decide +kernel) ?_
    refine pw_aload_n (k4 := 0) rfl (by decide +kernel) ?_
    refine pq_getI (c := 11) (k := 14) (ks_m hA) (by decide) (by decide) lf_Mo_265 (by decide +kernel) ?_
    refine pn_val (nI (nd)) hm.2.2.2.2.1 ?_
    refine pn_icmp_ge (off := 27) (tgt := 36) k nd rfl rfl (by omega) (by omega) (by decide +kernel) (by decide +kernel) (fun z9 => ?_) (fun z9 => ?_)
    · obtain rfl : k = nd := by omega
      refine pw_iload_n (k4 := 2) rfl (by decide +kernel) ?_
      exact pq_iret rfl (by decide +kernel) ⟨rfl, rfl⟩
    · refine pw_iload_n (k4 := 2) rfl (by decide +kernel) ?_
      refine pw_aload_n (k4 := 0) rfl (by decide +kernel) ?_
      refine pq_getP (c := 11) (k := 59) (ks_m hA) (by decide) (by decide) (kp_m_became hA) lf_Mo_109 (by decide +kernel) ?_
      refine pw_iload_n (k4 := 3) rfl (by decide +kernel) ?_
      refine pq_iald k rfl (by omega) (by decide) (ks_m_became hA) (by decide +kernel) ?_
      refine pw_iload_n (k4 := 1) rfl (by decide +kernel) ?_
      refine pw_icmp_ne (off := 7) (tgt := 27) (by decide +kernel) (by decide +kernel) (fun z20 => ?_) (fun z20 => ?_)
      · refine pw_iconst (n := 0) (v := 0) (by decide) (by decide +kernel) ?_
        refine pw_iadd (by decide +kernel) ?_
        refine pq_istore_n (k4 := 2) (Nat.le_of_ble_eq_true rfl) rfl (by decide +kernel) ?_
        refine pn_iinc (i := 3) (n := 1) 1 k rfl rfl (by decide) rfl (by decide +kernel) ?_
        refine pw_goto (off := -29) (tgt := 4) (by decide +kernel) (by decide +kernel) ?_
        have w := ih (by omega)
        rw [show cntI (I 166) x (k + 1) = _ from if_neg z20] at w
        rw [show cntI (I 166) x k + 0 = cntI (I 166) x k from Int32.add_zero _]
        exact w
      · refine pw_iconst (n := 1) (v := 1) (by decide) (by decide +kernel) ?_
        refine pw_goto (off := 4) (tgt := 28) (by decide +kernel) (by decide +kernel) ?_
        refine pw_iadd (by decide +kernel) ?_
        refine pq_istore_n (k4 := 2) (Nat.le_of_ble_eq_true rfl) rfl (by decide +kernel) ?_
        refine pn_iinc (i := 3) (n := 1) 1 k rfl rfl (by decide) rfl (by decide +kernel) ?_
        refine pw_goto (off := -29) (tgt := 4) (by decide +kernel) (by decide +kernel) ?_
        have w := ih (by omega)
        rw [show cntI (I 166) x (k + 1) = _ from if_pos z20] at w
        exact w
)
  refine pw_iconst (n := 0) (v := 0) (by decide) (by decide +kernel) ?_
  refine pq_istore_n (k4 := 2) (Nat.le_of_ble_eq_true rfl) rfl (by decide +kernel) ?_
  refine pw_iconst (n := 0) (v := 0) (by decide) (by decide +kernel) ?_
  refine pq_istore_n (k4 := 3) (Nat.le_of_ble_eq_true rfl) rfl (by decide +kernel) ?_
  exact hL 0 (Nat.zero_le _)

theorem ct_Mo_refused {sh : List pSh} {I : Nat → Nat → Int32} {L : Nat → Nat → Int64} {P : Nat → Nat → Option Nat} (hA : kA sh P) {np ns nd : Nat} (hm : mOK I np ns nd) : pCn m_Mo_refused 0 [.ref 134] sh (I, L, P) (rA (fFind (I 166) 2 nd 0) I P) := by
  refine pCn_of (by decide +kernel) (Nat.le_of_ble_eq_true rfl) ?_
  have h8 := hm.2.2.2.2.2
  have hL := pDown (fun cc => ∀ k, k + cc = nd → fFind (I 166) 2 nd 0 = fFind (I 166) 2 cc k → pWn m_Mo_refused 0 sh (rA (fFind (I 166) 2 nd 0) I P) 7 [some (.ref 134), some (.int (nI k))] [] (sI I 134 2 0, L, P)) (by
    intro cc ih k hk hV
    refine pw_iload_n (k4 := 1) rfl (by decide +kernel) ?_
    refine pw_aload_n (k4 := 0) rfl (by decide +kernel) ?_
    refine pq_getI (c := 11) (k := 14) (ks_m hA) (by decide) (by decide) lf_Mo_265 (by decide +kernel) ?_
    refine pn_val (nI (nd)) hm.2.2.2.2.1 ?_
    refine pn_icmp_ge (off := 21) (tgt := 33) k nd rfl rfl (by omega) (by omega) (by decide +kernel) (by decide +kernel) (fun z12 => ?_) (fun z12 => ?_)
    · refine pw_iconst (n := -1) (v := -1) (by decide) (by decide +kernel) ?_
      exact pq_iret rfl (by decide +kernel) ⟨congrArg (fun z => some (Value.int z)) (by have hc : cc = 0 := (by omega); subst hc; exact hV.symm), _, _, rfl, rep_t⟩
    · refine pw_aload_n (k4 := 0) rfl (by decide +kernel) ?_
      refine pq_getP (c := 11) (k := 59) (ks_m hA) (by decide) (by decide) (kp_m_became hA) lf_Mo_109 (by decide +kernel) ?_
      refine pw_iload_n (k4 := 1) rfl (by decide +kernel) ?_
      refine pq_iald k rfl (by omega) (by decide) (ks_m_became hA) (by decide +kernel) ?_
      refine pw_iconst (n := 2) (v := 2) (by decide) (by decide +kernel) ?_
      refine pw_icmp_ne (off := 5) (tgt := 27) (by decide +kernel) (by decide +kernel) (fun z22 => ?_) (fun z22 => ?_)
      · refine pn_iinc (i := 1) (n := 1) 1 k rfl rfl (by decide) rfl (by decide +kernel) ?_
        refine pw_goto (off := -23) (tgt := 7) (by decide +kernel) (by decide +kernel) ?_
        obtain ⟨ce, rfl⟩ : ∃ ce, cc = ce + 1 := ⟨cc - 1, by omega⟩
        exact ih ce rfl (k + 1) (by omega) (hV.trans (if_neg z22))
      · refine pw_iload_n (k4 := 1) rfl (by decide +kernel) ?_
        exact pq_iret rfl (by decide +kernel) ⟨congrArg (fun z => some (Value.int z)) (by obtain ⟨ce, rfl⟩ : ∃ ce, cc = ce + 1 := ⟨cc - 1, by omega⟩; rw [hV]; exact (if_pos z22).symm), _, _, rfl, rep_t⟩
)
  refine pw_aload_n (k4 := 0) rfl (by decide +kernel) ?_
  refine pw_iconst (n := 0) (v := 0) (by decide) (by decide +kernel) ?_
  refine pq_putI (c := 11) (k := 2) (ks_m hA) (by decide) (by decide) lf_Mo_175 (Or.inl rfl) (by decide +kernel) ?_
  refine pw_iconst (n := 0) (v := 0) (by decide) (by decide +kernel) ?_
  refine pq_istore_n (k4 := 1) (Nat.le_of_ble_eq_true rfl) rfl (by decide +kernel) ?_
  exact hL nd 0 (by omega) rfl

theorem ct_Mo_find {sh : List pSh} {I : Nat → Nat → Int32} {L : Nat → Nat → Int64} {P : Nat → Nat → Option Nat} (hA : kA sh P) {fr n : Nat} (hfr : fr + n ≤ 10) (x : Int32) : pCn m_Mo_find 0 [.ref 137, .int (nI fr), .int (nI n), .int x] sh (I, L, P) (rI (fFind (fun k => I 137 (fr + k)) x n 0) (I, L, P)) := by
  refine pCn_of (by decide +kernel) (Nat.le_of_ble_eq_true rfl) ?_
  have hL := pDown (fun cc => ∀ k, k + cc = n → fFind (fun k => I 137 (fr + k)) x n 0 = fFind (fun k => I 137 (fr + k)) x cc k → pWn m_Mo_find 0 sh (rI (fFind (fun k => I 137 (fr + k)) x n 0) (I, L, P)) 3 [some (.ref 137), some (.int (nI fr)), some (.int (nI n)), some (.int x), some (.int (nI k))] [] (I, L, P)) (by
    intro cc ih k hk hV
    refine pw_iload (i := 4) rfl (by decide +kernel) ?_
    refine pw_iload_n (k4 := 2) rfl (by decide +kernel) ?_
    refine pn_icmp_ge (off := 22) (tgt := 28) k n rfl rfl (by omega) (by omega) (by decide +kernel) (by decide +kernel) (fun z6 => ?_) (fun z6 => ?_)
    · refine pw_iconst (n := -1) (v := -1) (by decide) (by decide +kernel) ?_
      exact pq_iret rfl (by decide +kernel) ⟨congrArg (fun z => some (Value.int z)) (by have hc : cc = 0 := (by omega); subst hc; exact hV.symm), rfl⟩
    · refine pw_aload_n (k4 := 0) rfl (by decide +kernel) ?_
      refine pw_iload_n (k4 := 1) rfl (by decide +kernel) ?_
      refine pw_iload (i := 4) rfl (by decide +kernel) ?_
      refine pn_iadd fr k rfl rfl (by decide +kernel) ?_
      refine pq_iald (fr + k) rfl (by omega) (by decide) (ks_m_personName hA) (by decide +kernel) ?_
      refine pw_iload_n (k4 := 3) rfl (by decide +kernel) ?_
      refine pw_icmp_ne (off := 6) (tgt := 22) (by decide +kernel) (by decide +kernel) (fun z16 => ?_) (fun z16 => ?_)
      · refine pn_iinc (i := 4) (n := 1) 1 k rfl rfl (by decide) rfl (by decide +kernel) ?_
        refine pw_goto (off := -22) (tgt := 3) (by decide +kernel) (by decide +kernel) ?_
        obtain ⟨ce, rfl⟩ : ∃ ce, cc = ce + 1 := ⟨cc - 1, by omega⟩
        exact ih ce rfl (k + 1) (by omega) (hV.trans (if_neg z16))
      · refine pw_iload (i := 4) rfl (by decide +kernel) ?_
        exact pq_iret rfl (by decide +kernel) ⟨congrArg (fun z => some (Value.int z)) (by obtain ⟨ce, rfl⟩ : ∃ ce, cc = ce + 1 := ⟨cc - 1, by omega⟩; rw [hV]; exact (if_pos z16).symm), rfl⟩
)
  refine pw_iconst (n := 0) (v := 0) (by decide) (by decide +kernel) ?_
  refine pq_istore (i := 4) (Nat.le_of_ble_eq_true rfl) rfl (by decide +kernel) ?_
  exact hL n 0 (by omega) rfl

theorem ct_Mo_named {sh : List pSh} {I : Nat → Nat → Int32} {L : Nat → Nat → Int64} {P : Nat → Nat → Option Nat} (hA : kA sh P) {np ns nd : Nat} (hm : mOK I np ns nd) (q : Int32) : pCn m_Mo_named 1 [.ref 134, .int q] sh (I, L, P) (rA (fFind (fun k => I 137 (0 + k)) q np 0) I P) := by
  refine pCn_of (by decide +kernel) (Nat.le_of_ble_eq_true rfl) ?_
  have h5 := hm.2.1
  have h16 := hm.2.2.2.1
  have h8 := hm.2.2.2.2.2
  refine pw_aload_n (k4 := 0) rfl (by decide +kernel) ?_
  refine pw_iconst (n := 0) (v := 0) (by decide) (by decide +kernel) ?_
  refine pq_putI (c := 11) (k := 2) (ks_m hA) (by decide) (by decide) lf_Mo_175 (Or.inl rfl) (by decide +kernel) ?_
  refine pw_aload_n (k4 := 0) rfl (by decide +kernel) ?_
  refine pq_getP (c := 11) (k := 23) (ks_m hA) (by decide) (by decide) (kp_m_personName hA) lf_Mo_20 (by decide +kernel) ?_
  refine pw_iconst (n := 0) (v := 0) (by decide) (by decide +kernel) ?_
  refine pw_aload_n (k4 := 0) rfl (by decide +kernel) ?_
  refine pq_getI (c := 11) (k := 12) (ks_m hA) (by decide) (by decide) lf_Mo_259 (by decide +kernel) ?_
  refine pn_val (nI (np)) hm.1 ?_
  refine pw_iload_n (k4 := 1) rfl (by decide +kernel) ?_
  refine pq_callS (ν := m_Mo_find) (d' := 0) (av := [_, _, _, _]) (by decide +kernel) lm_Mo_281 ok_Mo_find (show _ = some 4 by decide +kernel) (by omega) (Nat.le_of_ble_eq_true rfl) (ct_Mo_find hA (fr := 0) (n := np) (by omega) _) ?_
  rintro _ _ ⟨rfl, rfl⟩
  exact pq_iret rfl (by decide +kernel) ⟨congrArg (fun z => some (Value.int z)) rfl, _, _, rfl, rep_t⟩

def yCount (I : Nat → Nat → Int32) (ns nd : Nat) : Nat → Int32
  | 0 => I 134 12 | 1 => I 134 13 | 2 => I 134 14 | 3 => I 134 15 | 4 => I 134 16 | 5 => I 167 0 | 6 => yOf I 0 (-2) 1 ns | 7 => yOf I 0 (-1) 1 ns
  | 8 => yAll I 0 ns | 9 => cntI (I 166) 1 nd | 10 => cntI (I 166) 2 nd | 11 => I 134 80 | 12 => (if I 134 81 < 0 then I 134 80 else I 134 81) | 13 => I 134 86 | _ => -1
def rCnM (I : Nat → Nat → Int32) (P : Nat → Nat → Option Nat) (ns nd : Nat) (q : Int32) : Option Value → pM → Prop := fun r M => (∃ v, r = some (.int v) ∧ (∀ j, j < 14 → q = nI j → v = yCount I ns nd j) ∧ ((∀ j, j < 14 → ¬ q = nI j) → v = -1)) ∧ ∃ I' L', M = (I', L', P) ∧ rep I' I
theorem cnM_eq {I : Nat → Nat → Int32} {ns nd i : Nat} {q v : Int32} (hi : i < 14) (hq : q = nI i) (hv : v = yCount I ns nd i) : (∀ j, j < 14 → q = nI j → v = yCount I ns nd j) ∧ ((∀ j, j < 14 → ¬ q = nI j) → v = -1) :=
  ⟨fun j hj e => by rw [hq, nI_eq (by omega) (by omega)] at e; rw [← e]; exact hv, fun h => absurd hq (h i hi)⟩

theorem ct_Mo_count {sh : List pSh} {I : Nat → Nat → Int32} {L : Nat → Nat → Int64} {P : Nat → Nat → Option Nat} (hA : kA sh P) {np ns nd : Nat} (hm : mOK I np ns nd) (hwf : wfL I) (ho : oOK I 0 np ns) (q : Int32) : pCn m_Mo_count 7 [.ref 134, .int q] sh (I, L, P) (rCnM I P ns nd q) := by
  refine pCn_of (by decide +kernel) (Nat.le_of_ble_eq_true rfl) ?_
  refine pw_aload_n (k4 := 0) rfl (by decide +kernel) ?_
  refine pw_iconst (n := 0) (v := 0) (by decide) (by decide +kernel) ?_
  refine pq_putI (c := 11) (k := 2) (ks_m hA) (by decide) (by decide) lf_Mo_175 (Or.inl rfl) (by decide +kernel) ?_
  refine pw_iload_n (k4 := 1) rfl (by decide +kernel) ?_
  have hsw6 : decode m_Mo_count.2.1 6 = .ok (.tableswitch 152 0 13 #[70, 75, 80, 85, 90, 95, 102, 111, 119, 125, 131, 137, 142, 147], 70) := by decide +kernel
  rcases swIn q 0 13 (by decide) (by decide) with z6 | ⟨j6, z6, y6, e6⟩
  · refine pw_tableOut (tgt := 158) hsw6 z6 (by decide +kernel) ?_
    refine pw_iconst (n := -1) (v := -1) (by decide) (by decide +kernel) ?_
    exact pq_iret rfl (by decide +kernel) ⟨⟨_, rfl, fun j hj e => absurd e (sw_ne z6 (by omega) (by omega) (by omega)), fun _ => rfl⟩, _, _, rfl, rep_t⟩
  · rcases (show j6 = 0 ∨ j6 = 1 ∨ j6 = 2 ∨ j6 = 3 ∨ j6 = 4 ∨ j6 = 5 ∨ j6 = 6 ∨ j6 = 7 ∨ j6 = 8 ∨ j6 = 9 ∨ j6 = 10 ∨ j6 = 11 ∨ j6 = 12 ∨ j6 = 13 by omega) with rfl | rfl | rfl | rfl | rfl | rfl | rfl | rfl | rfl | rfl | rfl | rfl | rfl | rfl
    · refine pw_tableIn (off := 70) (tgt := 76) hsw6 (by rw [e6]; decide) (by rw [e6]; decide) (by rw [e6]; decide) (by decide +kernel) ?_
      refine pw_aload_n (k4 := 0) rfl (by decide +kernel) ?_
      refine pq_getI (c := 11) (k := 12) (ks_m hA) (by decide) (by decide) lf_Mo_259 (by decide +kernel) ?_
      exact pq_iret rfl (by decide +kernel) ⟨⟨_, rfl, cnM_eq (by decide) e6 rfl⟩, _, _, rfl, rep_t⟩
    · refine pw_tableIn (off := 75) (tgt := 81) hsw6 (by rw [e6]; decide) (by rw [e6]; decide) (by rw [e6]; decide) (by decide +kernel) ?_
      refine pw_aload_n (k4 := 0) rfl (by decide +kernel) ?_
      refine pq_getI (c := 11) (k := 13) (ks_m hA) (by decide) (by decide) lf_Mo_262 (by decide +kernel) ?_
      exact pq_iret rfl (by decide +kernel) ⟨⟨_, rfl, cnM_eq (by decide) e6 rfl⟩, _, _, rfl, rep_t⟩
    · refine pw_tableIn (off := 80) (tgt := 86) hsw6 (by rw [e6]; decide) (by rw [e6]; decide) (by rw [e6]; decide) (by decide +kernel) ?_
      refine pw_aload_n (k4 := 0) rfl (by decide +kernel) ?_
      refine pq_getI (c := 11) (k := 14) (ks_m hA) (by decide) (by decide) lf_Mo_265 (by decide +kernel) ?_
      exact pq_iret rfl (by decide +kernel) ⟨⟨_, rfl, cnM_eq (by decide) e6 rfl⟩, _, _, rfl, rep_t⟩
    · refine pw_tableIn (off := 85) (tgt := 91) hsw6 (by rw [e6]; decide) (by rw [e6]; decide) (by rw [e6]; decide) (by decide +kernel) ?_
      refine pw_aload_n (k4 := 0) rfl (by decide +kernel) ?_
      refine pq_getI (c := 11) (k := 15) (ks_m hA) (by decide) (by decide) lf_Mo_268 (by decide +kernel) ?_
      exact pq_iret rfl (by decide +kernel) ⟨⟨_, rfl, cnM_eq (by decide) e6 rfl⟩, _, _, rfl, rep_t⟩
    · refine pw_tableIn (off := 90) (tgt := 96) hsw6 (by rw [e6]; decide) (by rw [e6]; decide) (by rw [e6]; decide) (by decide +kernel) ?_
      refine pw_aload_n (k4 := 0) rfl (by decide +kernel) ?_
      refine pq_getI (c := 11) (k := 16) (ks_m hA) (by decide) (by decide) lf_Mo_271 (by decide +kernel) ?_
      exact pq_iret rfl (by decide +kernel) ⟨⟨_, rfl, cnM_eq (by decide) e6 rfl⟩, _, _, rfl, rep_t⟩
    · refine pw_tableIn (off := 95) (tgt := 101) hsw6 (by rw [e6]; decide) (by rw [e6]; decide) (by rw [e6]; decide) (by decide +kernel) ?_
      refine pw_aload_n (k4 := 0) rfl (by decide +kernel) ?_
      refine pq_getP (c := 11) (k := 60) (ks_m hA) (by decide) (by decide) (kp_m_day hA) lf_Mo_112 (by decide +kernel) ?_
      refine pw_iconst (n := 0) (v := 0) (by decide) (by decide +kernel) ?_
      refine pq_iald 0 rfl (by omega) (by decide) (ks_m_day hA) (by decide +kernel) ?_
      exact pq_iret rfl (by decide +kernel) ⟨⟨_, rfl, cnM_eq (by decide) e6 rfl⟩, _, _, rfl, rep_t⟩
    · refine pw_tableIn (off := 102) (tgt := 108) hsw6 (by rw [e6]; decide) (by rw [e6]; decide) (by rw [e6]; decide) (by decide +kernel) ?_
      refine pw_aload_n (k4 := 0) rfl (by decide +kernel) ?_
      refine pw_iconst (n := 0) (v := 0) (by decide) (by decide +kernel) ?_
      refine pw_bipush (n := -2) (v := -2) (by decide) (by decide +kernel) ?_
      refine pw_iconst (n := 1) (v := 1) (by decide) (by decide +kernel) ?_
      refine pq_callV (ν := m_Mo_ofOne) (d' := 6) (av := [_, _, _]) (c := 11) (by decide +kernel) lm_Mo_443 ok_Mo_ofOne (show _ = some 3 by decide +kernel) (ks_m hA) rfl (by decide) (by omega) (Nat.le_of_ble_eq_true rfl) (ct_Mo_ofOne hA (by exact hm) (b := 0) (by decide) (by exact hwf) (by exact ho) _ _) ?_
      rintro _ _ ⟨rfl, ev, L2, rfl, hL2⟩
      exact pq_iret rfl (by decide +kernel) ⟨⟨_, rfl, cnM_eq (by decide) e6 yOf_2⟩, _, _, rfl, rep_te⟩
    · refine pw_tableIn (off := 111) (tgt := 117) hsw6 (by rw [e6]; decide) (by rw [e6]; decide) (by rw [e6]; decide) (by decide +kernel) ?_
      refine pw_aload_n (k4 := 0) rfl (by decide +kernel) ?_
      refine pw_iconst (n := 0) (v := 0) (by decide) (by decide +kernel) ?_
      refine pw_iconst (n := -1) (v := -1) (by decide) (by decide +kernel) ?_
      refine pw_iconst (n := 1) (v := 1) (by decide) (by decide +kernel) ?_
      refine pq_callV (ν := m_Mo_ofOne) (d' := 6) (av := [_, _, _]) (c := 11) (by decide +kernel) lm_Mo_443 ok_Mo_ofOne (show _ = some 3 by decide +kernel) (ks_m hA) rfl (by decide) (by omega) (Nat.le_of_ble_eq_true rfl) (ct_Mo_ofOne hA (by exact hm) (b := 0) (by decide) (by exact hwf) (by exact ho) _ _) ?_
      rintro _ _ ⟨rfl, ev, L2, rfl, hL2⟩
      exact pq_iret rfl (by decide +kernel) ⟨⟨_, rfl, cnM_eq (by decide) e6 yOf_2⟩, _, _, rfl, rep_te⟩
    · refine pw_tableIn (off := 119) (tgt := 125) hsw6 (by rw [e6]; decide) (by rw [e6]; decide) (by rw [e6]; decide) (by decide +kernel) ?_
      refine pw_aload_n (k4 := 0) rfl (by decide +kernel) ?_
      refine pw_iconst (n := 0) (v := 0) (by decide) (by decide +kernel) ?_
      refine pq_callV (ν := m_Mo_allWorth) (d' := 6) (av := [_]) (c := 11) (by decide +kernel) lm_Mo_583 ok_Mo_allWorth (show _ = some 1 by decide +kernel) (ks_m hA) rfl (by decide) (by omega) (Nat.le_of_ble_eq_true rfl) (ct_Mo_allWorth hA (by exact hm) (b := 0) (by decide) (by exact hwf) (by exact ho)) ?_
      rintro _ _ ⟨rfl, ev, L2, rfl, hL2⟩
      exact pq_iret rfl (by decide +kernel) ⟨⟨_, rfl, cnM_eq (by decide) e6 yAll_2⟩, _, _, rfl, rep_te⟩
    · refine pw_tableIn (off := 125) (tgt := 131) hsw6 (by rw [e6]; decide) (by rw [e6]; decide) (by rw [e6]; decide) (by decide +kernel) ?_
      refine pw_aload_n (k4 := 0) rfl (by decide +kernel) ?_
      refine pw_iconst (n := 1) (v := 1) (by decide) (by decide +kernel) ?_
      refine pq_callV (ν := m_Mo_manyDebts) (d' := 0) (av := [_]) (c := 11) (by decide +kernel) lm_Mo_595 ok_Mo_manyDebts (show _ = some 1 by decide +kernel) (ks_m hA) rfl (by decide) (by omega) (Nat.le_of_ble_eq_true rfl) (ct_Mo_manyDebts hA (by exact hm) _) ?_
      rintro _ _ ⟨rfl, rfl⟩
      exact pq_iret rfl (by decide +kernel) ⟨⟨_, rfl, cnM_eq (by decide) e6 rfl⟩, _, _, rfl, rep_t⟩
    · refine pw_tableIn (off := 131) (tgt := 137) hsw6 (by rw [e6]; decide) (by rw [e6]; decide) (by rw [e6]; decide) (by decide +kernel) ?_
      refine pw_aload_n (k4 := 0) rfl (by decide +kernel) ?_
      refine pw_iconst (n := 2) (v := 2) (by decide) (by decide +kernel) ?_
      refine pq_callV (ν := m_Mo_manyDebts) (d' := 0) (av := [_]) (c := 11) (by decide +kernel) lm_Mo_595 ok_Mo_manyDebts (show _ = some 1 by decide +kernel) (ks_m hA) rfl (by decide) (by omega) (Nat.le_of_ble_eq_true rfl) (ct_Mo_manyDebts hA (by exact hm) _) ?_
      rintro _ _ ⟨rfl, rfl⟩
      exact pq_iret rfl (by decide +kernel) ⟨⟨_, rfl, cnM_eq (by decide) e6 rfl⟩, _, _, rfl, rep_t⟩
    · refine pw_tableIn (off := 137) (tgt := 143) hsw6 (by rw [e6]; decide) (by rw [e6]; decide) (by rw [e6]; decide) (by decide +kernel) ?_
      refine pw_aload_n (k4 := 0) rfl (by decide +kernel) ?_
      refine pq_getI (c := 11) (k := 80) (ks_m hA) (by decide) (by decide) lf_Mo_390 (by decide +kernel) ?_
      exact pq_iret rfl (by decide +kernel) ⟨⟨_, rfl, cnM_eq (by decide) e6 rfl⟩, _, _, rfl, rep_t⟩
    · refine pw_tableIn (off := 142) (tgt := 148) hsw6 (by rw [e6]; decide) (by rw [e6]; decide) (by rw [e6]; decide) (by decide +kernel) ?_
      refine pw_aload_n (k4 := 0) rfl (by decide +kernel) ?_
      refine pq_callV (ν := m_Mo_knownBy) (d' := 0) (av := []) (c := 11) (by decide +kernel) lm_Mo_538 ok_Mo_knownBy (show _ = some 0 by decide +kernel) (ks_m hA) rfl (by decide) (by omega) (Nat.le_of_ble_eq_true rfl) (ct_Mo_knownBy hA) ?_
      rintro _ _ ⟨rfl, rfl⟩
      exact pq_iret rfl (by decide +kernel) ⟨⟨_, rfl, cnM_eq (by decide) e6 rfl⟩, _, _, rfl, rep_t⟩
    · refine pw_tableIn (off := 147) (tgt := 153) hsw6 (by rw [e6]; decide) (by rw [e6]; decide) (by rw [e6]; decide) (by decide +kernel) ?_
      refine pw_aload_n (k4 := 0) rfl (by decide +kernel) ?_
      refine pq_getI (c := 11) (k := 86) (ks_m hA) (by decide) (by decide) lf_Mo_393 (by decide +kernel) ?_
      exact pq_iret rfl (by decide +kernel) ⟨⟨_, rfl, cnM_eq (by decide) e6 rfl⟩, _, _, rfl, rep_t⟩

def yShoe (I : Nat → Nat → Int32) (np : Nat) (s : Int32) : Nat → Int32
  | 0 => I 142 (ixn s) | 1 => I 143 (ixn s) | 2 => I 162 (ixn s) | 3 => I 145 (ixn s) | 4 => I 163 (ixn s) | 5 => yWorth I 0 (ixn s) | _ => B (yWornA I 0 s np)
def rSh (I : Nat → Nat → Int32) (P : Nat → Nat → Option Nat) (np : Nat) (s q : Int32) : Option Value → pM → Prop := fun r M => ∃ v I' L', r = some (.int v) ∧ M = (I', L', P) ∧ rep I' I ∧ (¬ yHasS I s → I' 134 2 = 1) ∧ (yHasS I s → (∀ j, j < 7 → q = nI j → I' 134 2 = 0 ∧ v = yShoe I np s j) ∧ ((∀ j, j < 7 → ¬ q = nI j) → I' 134 2 = 2))
theorem sh_eq {I I' : Nat → Nat → Int32} {np i : Nat} {s q v : Int32} (h0 : yHasS I s) (hi : i < 7) (hq : q = nI i) (ht : I' 134 2 = 0) (hv : v = yShoe I np s i) : (¬ yHasS I s → I' 134 2 = 1) ∧ (yHasS I s → (∀ j, j < 7 → q = nI j → I' 134 2 = 0 ∧ v = yShoe I np s j) ∧ ((∀ j, j < 7 → ¬ q = nI j) → I' 134 2 = 2)) :=
  ⟨fun h => absurd h0 h, fun _ => ⟨fun j hj e => by rw [hq, nI_eq (by omega) (by omega)] at e; rw [← e]; exact ⟨ht, hv⟩, fun h => absurd hq (h i hi)⟩⟩
theorem rep_tt {I : Nat → Nat → Int32} {x y : Int32} : rep (sI (sI I 134 2 x) 134 2 y) I := (rep_t (x := x)).scr (by decide) y

theorem ct_Mo_shoe {sh : List pSh} {I : Nat → Nat → Int32} {L : Nat → Nat → Int64} {P : Nat → Nat → Option Nat} (hA : kA sh P) {np ns nd : Nat} (hm : mOK I np ns nd) (hwf : wfL I) (ho : oOK I 0 np ns) (s q : Int32) : pCn m_Mo_shoe 6 [.ref 134, .int s, .int q] sh (I, L, P) (rSh I P np s q) := by
  refine pCn_of (by decide +kernel) (Nat.le_of_ble_eq_true rfl) ?_
  have h5 := hm.2.1
  have h16 := hm.2.2.2.1
  have h8 := hm.2.2.2.2.2
  have hoo := ho.five h5
  refine pw_aload_n (k4 := 0) rfl (by decide +kernel) ?_
  refine pw_iconst (n := 0) (v := 0) (by decide) (by decide +kernel) ?_
  refine pq_putI (c := 11) (k := 2) (ks_m hA) (by decide) (by decide) lf_Mo_175 (Or.inl rfl) (by decide +kernel) ?_
  refine pw_aload_n (k4 := 0) rfl (by decide +kernel) ?_
  refine pw_iload_n (k4 := 1) rfl (by decide +kernel) ?_
  refine pq_callV (ν := m_Mo_isShoe) (d' := 0) (av := [_]) (c := 11) (by decide +kernel) lm_Mo_399 ok_Mo_isShoe (show _ = some 1 by decide +kernel) (ks_m hA) rfl (by decide) (by omega) (Nat.le_of_ble_eq_true rfl) (ct_Mo_isShoe hA _) ?_
  rintro _ _ ⟨rfl, rfl⟩
  refine pn_ifB_ne (off := 9) (tgt := 19) (by decide +kernel) (by decide +kernel) (fun z10 => ?_) (fun z10 => ?_)
  · obtain ⟨j, hj, rfl⟩ := nIn hm.2.2.1 (by omega) z10
    refine pw_iload_n (k4 := 2) rfl (by decide +kernel) ?_
    have hsw20 : decode m_Mo_shoe.2.1 20 = .ok (.tableswitch 101 0 6 #[44, 51, 58, 65, 72, 79, 86], 44) := by decide +kernel
    rcases swIn q 0 6 (by decide) (by decide) with z20 | ⟨j20, z20, y20, e20⟩
    · refine pw_tableOut (tgt := 121) hsw20 z20 (by decide +kernel) ?_
      refine pw_aload_n (k4 := 0) rfl (by decide +kernel) ?_
      refine pw_iconst (n := 2) (v := 2) (by decide) (by decide +kernel) ?_
      refine pq_callV (ν := m_Mo_fails) (d' := 0) (av := [_]) (c := 11) (by decide +kernel) lm_Mo_431 ok_Mo_fails (show _ = some 1 by decide +kernel) (ks_m hA) rfl (by decide) (by omega) (Nat.le_of_ble_eq_true rfl) (ct_Mo_fails hA _) ?_
      rintro _ _ ⟨rfl, rfl⟩
      exact pq_iret rfl (by decide +kernel) ⟨_, _, _, rfl, rfl, rep_tt, fun h => absurd z10 h, fun _ => ⟨fun j hj e => absurd e (sw_ne z20 (by omega) (by omega) (by omega)), fun _ => sI_rs⟩⟩
    · rcases (show j20 = 0 ∨ j20 = 1 ∨ j20 = 2 ∨ j20 = 3 ∨ j20 = 4 ∨ j20 = 5 ∨ j20 = 6 by omega) with rfl | rfl | rfl | rfl | rfl | rfl | rfl
      · refine pw_tableIn (off := 44) (tgt := 64) hsw20 (by rw [e20]; decide) (by rw [e20]; decide) (by rw [e20]; decide) (by decide +kernel) ?_
        refine pw_aload_n (k4 := 0) rfl (by decide +kernel) ?_
        refine pq_getP (c := 11) (k := 28) (ks_m hA) (by decide) (by decide) (kp_m_sideOf hA) lf_Mo_35 (by decide +kernel) ?_
        refine pw_iload_n (k4 := 1) rfl (by decide +kernel) ?_
        refine pq_iald j rfl (by omega) (by decide) (ks_m_sideOf hA) (by decide +kernel) ?_
        exact pq_iret rfl (by decide +kernel) ⟨_, _, _, rfl, rfl, rep_t, sh_eq z10 (by decide) e20 rfl (by show _ = I 142 (ixn (nI j)); rw [ixn_nI (by omega)]; rfl)⟩
      · refine pw_tableIn (off := 51) (tgt := 71) hsw20 (by rw [e20]; decide) (by rw [e20]; decide) (by rw [e20]; decide) (by decide +kernel) ?_
        refine pw_aload_n (k4 := 0) rfl (by decide +kernel) ?_
        refine pq_getP (c := 11) (k := 29) (ks_m hA) (by decide) (by decide) (kp_m_sizeOf hA) lf_Mo_38 (by decide +kernel) ?_
        refine pw_iload_n (k4 := 1) rfl (by decide +kernel) ?_
        refine pq_iald j rfl (by omega) (by decide) (ks_m_sizeOf hA) (by decide +kernel) ?_
        exact pq_iret rfl (by decide +kernel) ⟨_, _, _, rfl, rfl, rep_t, sh_eq z10 (by decide) e20 rfl (by show _ = I 143 (ixn (nI j)); rw [ixn_nI (by omega)]; rfl)⟩
      · refine pw_tableIn (off := 58) (tgt := 78) hsw20 (by rw [e20]; decide) (by rw [e20]; decide) (by rw [e20]; decide) (by decide +kernel) ?_
        refine pw_aload_n (k4 := 0) rfl (by decide +kernel) ?_
        refine pq_getP (c := 11) (k := 55) (ks_m hA) (by decide) (by decide) (kp_m_used hA) lf_Mo_97 (by decide +kernel) ?_
        refine pw_iload_n (k4 := 1) rfl (by decide +kernel) ?_
        refine pq_iald j rfl (by omega) (by decide) (ks_m_used hA) (by decide +kernel) ?_
        exact pq_iret rfl (by decide +kernel) ⟨_, _, _, rfl, rfl, rep_t, sh_eq z10 (by decide) e20 rfl (by show _ = I 162 (ixn (nI j)); rw [ixn_nI (by omega)]; rfl)⟩
      · refine pw_tableIn (off := 65) (tgt := 85) hsw20 (by rw [e20]; decide) (by rw [e20]; decide) (by rw [e20]; decide) (by decide +kernel) ?_
        refine pw_aload_n (k4 := 0) rfl (by decide +kernel) ?_
        refine pq_getP (c := 11) (k := 31) (ks_m hA) (by decide) (by decide) (kp_m_kindOf hA) lf_Mo_44 (by decide +kernel) ?_
        refine pw_iload_n (k4 := 1) rfl (by decide +kernel) ?_
        refine pq_iald j rfl (by omega) (by decide) (ks_m_kindOf hA) (by decide +kernel) ?_
        exact pq_iret rfl (by decide +kernel) ⟨_, _, _, rfl, rfl, rep_t, sh_eq z10 (by decide) e20 rfl (by show _ = I 145 (ixn (nI j)); rw [ixn_nI (by omega)]; rfl)⟩
      · refine pw_tableIn (off := 72) (tgt := 92) hsw20 (by rw [e20]; decide) (by rw [e20]; decide) (by rw [e20]; decide) (by decide +kernel) ?_
        refine pw_aload_n (k4 := 0) rfl (by decide +kernel) ?_
        refine pq_getP (c := 11) (k := 56) (ks_m hA) (by decide) (by decide) (kp_m_whose hA) lf_Mo_100 (by decide +kernel) ?_
        refine pw_iload_n (k4 := 1) rfl (by decide +kernel) ?_
        refine pq_iald j rfl (by omega) (by decide) (ks_m_whose hA) (by decide +kernel) ?_
        exact pq_iret rfl (by decide +kernel) ⟨_, _, _, rfl, rfl, rep_t, sh_eq z10 (by decide) e20 rfl (by show _ = I 163 (ixn (nI j)); rw [ixn_nI (by omega)]; rfl)⟩
      · refine pw_tableIn (off := 79) (tgt := 99) hsw20 (by rw [e20]; decide) (by rw [e20]; decide) (by rw [e20]; decide) (by decide +kernel) ?_
        refine pw_aload_n (k4 := 0) rfl (by decide +kernel) ?_
        refine pw_iconst (n := 0) (v := 0) (by decide) (by decide +kernel) ?_
        refine pw_iload_n (k4 := 1) rfl (by decide +kernel) ?_
        refine pq_callV (ν := m_Mo_worthOf) (d' := 5) (av := [_, _]) (c := 11) (by decide +kernel) lm_Mo_434 ok_Mo_worthOf (show _ = some 2 by decide +kernel) (ks_m hA) rfl (by decide) (by omega) (Nat.le_of_ble_eq_true rfl) (ct_Mo_worthOf hA (by exact hwf) (b := 0) (j := j) (by decide) (by omega) (by exact hoo j hj)) ?_
        rintro _ _ ⟨rfl, ev, L2, rfl, hL2⟩
        exact pq_iret rfl (by decide +kernel) ⟨_, _, _, rfl, rfl, rep_te, sh_eq z10 (by decide) e20 rfl (by show _ = yWorth I 0 (ixn (nI j)); rw [ixn_nI (by omega)]; rfl)⟩
      · refine pw_tableIn (off := 86) (tgt := 106) hsw20 (by rw [e20]; decide) (by rw [e20]; decide) (by rw [e20]; decide) (by decide +kernel) ?_
        refine pw_aload_n (k4 := 0) rfl (by decide +kernel) ?_
        refine pw_iconst (n := 0) (v := 0) (by decide) (by decide +kernel) ?_
        refine pw_iload_n (k4 := 1) rfl (by decide +kernel) ?_
        refine pq_callV (ν := m_Mo_isWorn) (d' := 0) (av := [_, _]) (c := 11) (by decide +kernel) lm_Mo_437 ok_Mo_isWorn (show _ = some 2 by decide +kernel) (ks_m hA) rfl (by decide) (by omega) (Nat.le_of_ble_eq_true rfl) (ct_Mo_isWorn hA (by exact hm) (b := 0) (by decide) _) ?_
        rintro _ _ ⟨rfl, rfl⟩
        refine pn_ifB_eq (off := 7) (tgt := 119) (by decide +kernel) (by decide +kernel) (fun z112 => ?_) (fun z112 => ?_)
        · refine pw_iconst (n := 0) (v := 0) (by decide) (by decide +kernel) ?_
          exact pq_iret rfl (by decide +kernel) ⟨_, _, _, rfl, rfl, rep_t, sh_eq z10 (by decide) e20 rfl (by show _ = B (yWornA I 0 (nI j) np); rw [B_f (show ¬ yWornA I 0 (nI j) np from z112)])⟩
        · refine pw_iconst (n := 1) (v := 1) (by decide) (by decide +kernel) ?_
          refine pw_goto (off := 4) (tgt := 120) (by decide +kernel) (by decide +kernel) ?_
          exact pq_iret rfl (by decide +kernel) ⟨_, _, _, rfl, rfl, rep_t, sh_eq z10 (by decide) e20 rfl (by show _ = B (yWornA I 0 (nI j) np); rw [B_t (show yWornA I 0 (nI j) np from z112)])⟩
  · refine pw_aload_n (k4 := 0) rfl (by decide +kernel) ?_
    refine pw_iconst (n := 1) (v := 1) (by decide) (by decide +kernel) ?_
    refine pq_callV (ν := m_Mo_fails) (d' := 0) (av := [_]) (c := 11) (by decide +kernel) lm_Mo_431 ok_Mo_fails (show _ = some 1 by decide +kernel) (ks_m hA) rfl (by decide) (by omega) (Nat.le_of_ble_eq_true rfl) (ct_Mo_fails hA _) ?_
    rintro _ _ ⟨rfl, rfl⟩
    exact pq_iret rfl (by decide +kernel) ⟨_, _, _, rfl, rfl, rep_tt, fun _ => sI_rs, fun h => absurd h z10⟩

def wk5 (a b c d x : Int32) (k : Nat) : Int32 := if k < 4 then a else if k < 8 then b else if k < 12 then c else if k < 16 then d else x
def fdF (f : Nat → Int32) (tp : Nat) (w : Nat → Int32) : Nat → Nat → Int32
  | 0 => f
  | k + 1 => upd (fdF f tp w k) (tp + k) ((w k >>> (nI (24 - 8 * (k % 4)) &&& 31)) &&& 255)
def rFd (I : Nat → Nat → Int32) (L : Nat → Nat → Int64) (P : Nat → Nat → Option Nat) (tp : Nat) (w : Nat → Int32) : Option Value → pM → Prop := fun r M => r = some (.int (nI (tp + 20))) ∧ M = (sI (aU (sI I 134 2 0) 135 (fdF (I 135) tp w 20)) 134 1 (nI (tp + 20)), L, P)

theorem ct_Mo_feed {sh : List pSh} {I : Nat → Nat → Int32} {L : Nat → Nat → Int64} {P : Nat → Nat → Option Nat} (hA : kA sh P) {tp : Nat} (ht0 : I 134 1 = nI tp) (ht7 : tp ≤ 700) (a b c d x : Int32) : pCn m_Mo_feed 0 [.ref 134, .int a, .int b, .int c, .int d, .int x] sh (I, L, P) (rIf (tp + 20 ≤ 700) (rFd I L P tp (wk5 a b c d x)) (rA (-1) I P)) := by
  refine pCn_of (by decide +kernel) (Nat.le_of_ble_eq_true rfl) ?_
  have hL : tp + 20 ≤ 700 → ∀ k, k ≤ 20 → pWn m_Mo_feed 0 sh (rIf (tp + 20 ≤ 700) (rFd I L P tp (wk5 a b c d x)) (rA (-1) I P)) 23 [some (.ref 134), some (.int a), some (.int b), some (.int c), some (.int d), some (.int x), some (.int (nI k)), none] [] (aU (sI I 134 2 0) 135 (fdF (I 135) tp (wk5 a b c d x) k), L, P) := fun h7 => pUpTo 20 _ (by
    intro k hk ih
    refine pw_iload (i := 6) rfl (by decide +kernel) ?_
    refine pw_bipush (n := 20) (v := 20) (by decide) (by decide +kernel) ?_
    refine pn_icmp_ge (off := 86) (tgt := 113) k 20 rfl rfl (by omega) (by omega) (by decide +kernel) (by decide +kernel) (fun z27 => ?_) (fun z27 => ?_)
    · obtain rfl : k = 20 := by omega
      refine pw_aload_n (k4 := 0) rfl (by decide +kernel) ?_
      refine pw_dup rfl (by decide +kernel) ?_
      refine pq_getI (c := 11) (k := 1) (ks_m hA) (by decide) (by decide) lf_Mo_178 (by decide +kernel) ?_
      refine pn_val (nI (tp)) ht0 ?_
      refine pw_bipush (n := 20) (v := 20) (by decide) (by decide +kernel) ?_
      refine pn_iadd tp 20 rfl rfl (by decide +kernel) ?_
      refine pq_putI (c := 11) (k := 1) (ks_m hA) (by decide) (by decide) lf_Mo_178 (Or.inl rfl) (by decide +kernel) ?_
      refine pw_aload_n (k4 := 0) rfl (by decide +kernel) ?_
      refine pq_getI (c := 11) (k := 1) (ks_m hA) (by decide) (by decide) lf_Mo_178 (by decide +kernel) ?_
      refine pn_val (nI (tp + 20)) sI_rs ?_
      exact pq_iret rfl (by decide +kernel) ⟨fun _ => ⟨rfl, rfl⟩, fun h => absurd h7 h⟩
    · refine pw_iload (i := 6) rfl (by decide +kernel) ?_
      refine pw_iconst (n := 4) (v := 4) (by decide) (by decide +kernel) ?_
      refine pn_icmp_ge (off := 7) (tgt := 40) k 4 rfl rfl (by omega) (by omega) (by decide +kernel) (by decide +kernel) (fun z33 => ?_) (fun z33 => ?_)
      · refine pw_iload (i := 6) rfl (by decide +kernel) ?_
        refine pw_bipush (n := 8) (v := 8) (by decide) (by decide +kernel) ?_
        refine pn_icmp_ge (off := 7) (tgt := 51) k 8 rfl rfl (by omega) (by omega) (by decide +kernel) (by decide +kernel) (fun z44 => ?_) (fun z44 => ?_)
        · refine pw_iload (i := 6) rfl (by decide +kernel) ?_
          refine pw_bipush (n := 12) (v := 12) (by decide) (by decide +kernel) ?_
          refine pn_icmp_ge (off := 7) (tgt := 62) k 12 rfl rfl (by omega) (by omega) (by decide +kernel) (by decide +kernel) (fun z55 => ?_) (fun z55 => ?_)
          · refine pw_iload (i := 6) rfl (by decide +kernel) ?_
            refine pw_bipush (n := 16) (v := 16) (by decide) (by decide +kernel) ?_
            refine pn_icmp_ge (off := 8) (tgt := 74) k 16 rfl rfl (by omega) (by omega) (by decide +kernel) (by decide +kernel) (fun z66 => ?_) (fun z66 => ?_)
            · refine pw_iload (i := 5) rfl (by decide +kernel) ?_
              refine pq_istore (i := 7) (Nat.le_of_ble_eq_true rfl) rfl (by decide +kernel) ?_
              refine pw_aload_n (k4 := 0) rfl (by decide +kernel) ?_
              refine pq_getP (c := 11) (k := 0) (ks_m hA) (by decide) (by decide) (kp_m_tape hA) lf_Mo_7 (by decide +kernel) ?_
              refine pw_aload_n (k4 := 0) rfl (by decide +kernel) ?_
              refine pq_getI (c := 11) (k := 1) (ks_m hA) (by decide) (by decide) lf_Mo_178 (by decide +kernel) ?_
              refine pn_val (nI (tp)) ht0 ?_
              refine pw_iload (i := 6) rfl (by decide +kernel) ?_
              refine pn_iadd tp k rfl rfl (by decide +kernel) ?_
              refine pw_iload (i := 7) rfl (by decide +kernel) ?_
              refine pw_bipush (n := 24) (v := 24) (by decide) (by decide +kernel) ?_
              refine pw_bipush (n := 8) (v := 8) (by decide) (by decide +kernel) ?_
              refine pw_iload (i := 6) rfl (by decide +kernel) ?_
              refine pw_iconst (n := 4) (v := 4) (by decide) (by decide +kernel) ?_
              refine pn_irem k 4 rfl rfl (by omega) (by omega) (by omega) (by decide +kernel) ?_
              refine pn_imul 8 (k % 4) rfl rfl (by decide +kernel) ?_
              refine pn_isub 24 (8 * (k % 4)) rfl rfl (by omega) (by decide +kernel) ?_
              refine pw_ishr (by decide +kernel) ?_
              refine pw_sipush (n := 255) (v := 255) (by decide) (by decide +kernel) ?_
              refine pw_iand (by decide +kernel) ?_
              refine pq_iast (tp + k) rfl (by omega) (by decide) (ks_m_tape hA) (by decide +kernel) ?_
              refine pn_iinc (i := 6) (n := 1) 1 k rfl rfl (by decide) rfl (by decide +kernel) ?_
              refine pw_goto (off := -87) (tgt := 23) (by decide +kernel) (by decide +kernel) ?_
              have w := ih (by omega)
              rw [show fdF (I 135) tp (wk5 a b c d x) (k + 1) = upd (fdF (I 135) tp (wk5 a b c d x) k) (tp + k) ((wk5 a b c d x k >>> (nI (24 - 8 * (k % 4)) &&& 31)) &&& 255) from rfl, show wk5 a b c d x k = x from (if_neg (by omega)).trans ((if_neg (by omega)).trans ((if_neg (by omega)).trans (if_neg (by omega))))] at w
              rw [sI_aU2]
              exact pw_forget [7] w
            · refine pw_iload (i := 4) rfl (by decide +kernel) ?_
              refine pw_goto (off := 5) (tgt := 76) (by decide +kernel) (by decide +kernel) ?_
              refine pq_istore (i := 7) (Nat.le_of_ble_eq_true rfl) rfl (by decide +kernel) ?_
              refine pw_aload_n (k4 := 0) rfl (by decide +kernel) ?_
              refine pq_getP (c := 11) (k := 0) (ks_m hA) (by decide) (by decide) (kp_m_tape hA) lf_Mo_7 (by decide +kernel) ?_
              refine pw_aload_n (k4 := 0) rfl (by decide +kernel) ?_
              refine pq_getI (c := 11) (k := 1) (ks_m hA) (by decide) (by decide) lf_Mo_178 (by decide +kernel) ?_
              refine pn_val (nI (tp)) ht0 ?_
              refine pw_iload (i := 6) rfl (by decide +kernel) ?_
              refine pn_iadd tp k rfl rfl (by decide +kernel) ?_
              refine pw_iload (i := 7) rfl (by decide +kernel) ?_
              refine pw_bipush (n := 24) (v := 24) (by decide) (by decide +kernel) ?_
              refine pw_bipush (n := 8) (v := 8) (by decide) (by decide +kernel) ?_
              refine pw_iload (i := 6) rfl (by decide +kernel) ?_
              refine pw_iconst (n := 4) (v := 4) (by decide) (by decide +kernel) ?_
              refine pn_irem k 4 rfl rfl (by omega) (by omega) (by omega) (by decide +kernel) ?_
              refine pn_imul 8 (k % 4) rfl rfl (by decide +kernel) ?_
              refine pn_isub 24 (8 * (k % 4)) rfl rfl (by omega) (by decide +kernel) ?_
              refine pw_ishr (by decide +kernel) ?_
              refine pw_sipush (n := 255) (v := 255) (by decide) (by decide +kernel) ?_
              refine pw_iand (by decide +kernel) ?_
              refine pq_iast (tp + k) rfl (by omega) (by decide) (ks_m_tape hA) (by decide +kernel) ?_
              refine pn_iinc (i := 6) (n := 1) 1 k rfl rfl (by decide) rfl (by decide +kernel) ?_
              refine pw_goto (off := -87) (tgt := 23) (by decide +kernel) (by decide +kernel) ?_
              have w := ih (by omega)
              rw [show fdF (I 135) tp (wk5 a b c d x) (k + 1) = upd (fdF (I 135) tp (wk5 a b c d x) k) (tp + k) ((wk5 a b c d x k >>> (nI (24 - 8 * (k % 4)) &&& 31)) &&& 255) from rfl, show wk5 a b c d x k = d from (if_neg (by omega)).trans ((if_neg (by omega)).trans ((if_neg (by omega)).trans (if_pos (by omega))))] at w
              rw [sI_aU2]
              exact pw_forget [7] w
          · refine pw_iload_n (k4 := 3) rfl (by decide +kernel) ?_
            refine pw_goto (off := 17) (tgt := 76) (by decide +kernel) (by decide +kernel) ?_
            refine pq_istore (i := 7) (Nat.le_of_ble_eq_true rfl) rfl (by decide +kernel) ?_
            refine pw_aload_n (k4 := 0) rfl (by decide +kernel) ?_
            refine pq_getP (c := 11) (k := 0) (ks_m hA) (by decide) (by decide) (kp_m_tape hA) lf_Mo_7 (by decide +kernel) ?_
            refine pw_aload_n (k4 := 0) rfl (by decide +kernel) ?_
            refine pq_getI (c := 11) (k := 1) (ks_m hA) (by decide) (by decide) lf_Mo_178 (by decide +kernel) ?_
            refine pn_val (nI (tp)) ht0 ?_
            refine pw_iload (i := 6) rfl (by decide +kernel) ?_
            refine pn_iadd tp k rfl rfl (by decide +kernel) ?_
            refine pw_iload (i := 7) rfl (by decide +kernel) ?_
            refine pw_bipush (n := 24) (v := 24) (by decide) (by decide +kernel) ?_
            refine pw_bipush (n := 8) (v := 8) (by decide) (by decide +kernel) ?_
            refine pw_iload (i := 6) rfl (by decide +kernel) ?_
            refine pw_iconst (n := 4) (v := 4) (by decide) (by decide +kernel) ?_
            refine pn_irem k 4 rfl rfl (by omega) (by omega) (by omega) (by decide +kernel) ?_
            refine pn_imul 8 (k % 4) rfl rfl (by decide +kernel) ?_
            refine pn_isub 24 (8 * (k % 4)) rfl rfl (by omega) (by decide +kernel) ?_
            refine pw_ishr (by decide +kernel) ?_
            refine pw_sipush (n := 255) (v := 255) (by decide) (by decide +kernel) ?_
            refine pw_iand (by decide +kernel) ?_
            refine pq_iast (tp + k) rfl (by omega) (by decide) (ks_m_tape hA) (by decide +kernel) ?_
            refine pn_iinc (i := 6) (n := 1) 1 k rfl rfl (by decide) rfl (by decide +kernel) ?_
            refine pw_goto (off := -87) (tgt := 23) (by decide +kernel) (by decide +kernel) ?_
            have w := ih (by omega)
            rw [show fdF (I 135) tp (wk5 a b c d x) (k + 1) = upd (fdF (I 135) tp (wk5 a b c d x) k) (tp + k) ((wk5 a b c d x k >>> (nI (24 - 8 * (k % 4)) &&& 31)) &&& 255) from rfl, show wk5 a b c d x k = c from (if_neg (by omega)).trans ((if_neg (by omega)).trans (if_pos (by omega)))] at w
            rw [sI_aU2]
            exact pw_forget [7] w
        · refine pw_iload_n (k4 := 2) rfl (by decide +kernel) ?_
          refine pw_goto (off := 28) (tgt := 76) (by decide +kernel) (by decide +kernel) ?_
          refine pq_istore (i := 7) (Nat.le_of_ble_eq_true rfl) rfl (by decide +kernel) ?_
          refine pw_aload_n (k4 := 0) rfl (by decide +kernel) ?_
          refine pq_getP (c := 11) (k := 0) (ks_m hA) (by decide) (by decide) (kp_m_tape hA) lf_Mo_7 (by decide +kernel) ?_
          refine pw_aload_n (k4 := 0) rfl (by decide +kernel) ?_
          refine pq_getI (c := 11) (k := 1) (ks_m hA) (by decide) (by decide) lf_Mo_178 (by decide +kernel) ?_
          refine pn_val (nI (tp)) ht0 ?_
          refine pw_iload (i := 6) rfl (by decide +kernel) ?_
          refine pn_iadd tp k rfl rfl (by decide +kernel) ?_
          refine pw_iload (i := 7) rfl (by decide +kernel) ?_
          refine pw_bipush (n := 24) (v := 24) (by decide) (by decide +kernel) ?_
          refine pw_bipush (n := 8) (v := 8) (by decide) (by decide +kernel) ?_
          refine pw_iload (i := 6) rfl (by decide +kernel) ?_
          refine pw_iconst (n := 4) (v := 4) (by decide) (by decide +kernel) ?_
          refine pn_irem k 4 rfl rfl (by omega) (by omega) (by omega) (by decide +kernel) ?_
          refine pn_imul 8 (k % 4) rfl rfl (by decide +kernel) ?_
          refine pn_isub 24 (8 * (k % 4)) rfl rfl (by omega) (by decide +kernel) ?_
          refine pw_ishr (by decide +kernel) ?_
          refine pw_sipush (n := 255) (v := 255) (by decide) (by decide +kernel) ?_
          refine pw_iand (by decide +kernel) ?_
          refine pq_iast (tp + k) rfl (by omega) (by decide) (ks_m_tape hA) (by decide +kernel) ?_
          refine pn_iinc (i := 6) (n := 1) 1 k rfl rfl (by decide) rfl (by decide +kernel) ?_
          refine pw_goto (off := -87) (tgt := 23) (by decide +kernel) (by decide +kernel) ?_
          have w := ih (by omega)
          rw [show fdF (I 135) tp (wk5 a b c d x) (k + 1) = upd (fdF (I 135) tp (wk5 a b c d x) k) (tp + k) ((wk5 a b c d x k >>> (nI (24 - 8 * (k % 4)) &&& 31)) &&& 255) from rfl, show wk5 a b c d x k = b from (if_neg (by omega)).trans (if_pos (by omega))] at w
          rw [sI_aU2]
          exact pw_forget [7] w
      · refine pw_iload_n (k4 := 1) rfl (by decide +kernel) ?_
        refine pw_goto (off := 39) (tgt := 76) (by decide +kernel) (by decide +kernel) ?_
        refine pq_istore (i := 7) (Nat.le_of_ble_eq_true rfl) rfl (by decide +kernel) ?_
        refine pw_aload_n (k4 := 0) rfl (by decide +kernel) ?_
        refine pq_getP (c := 11) (k := 0) (ks_m hA) (by decide) (by decide) (kp_m_tape hA) lf_Mo_7 (by decide +kernel) ?_
        refine pw_aload_n (k4 := 0) rfl (by decide +kernel) ?_
        refine pq_getI (c := 11) (k := 1) (ks_m hA) (by decide) (by decide) lf_Mo_178 (by decide +kernel) ?_
        refine pn_val (nI (tp)) ht0 ?_
        refine pw_iload (i := 6) rfl (by decide +kernel) ?_
        refine pn_iadd tp k rfl rfl (by decide +kernel) ?_
        refine pw_iload (i := 7) rfl (by decide +kernel) ?_
        refine pw_bipush (n := 24) (v := 24) (by decide) (by decide +kernel) ?_
        refine pw_bipush (n := 8) (v := 8) (by decide) (by decide +kernel) ?_
        refine pw_iload (i := 6) rfl (by decide +kernel) ?_
        refine pw_iconst (n := 4) (v := 4) (by decide) (by decide +kernel) ?_
        refine pn_irem k 4 rfl rfl (by omega) (by omega) (by omega) (by decide +kernel) ?_
        refine pn_imul 8 (k % 4) rfl rfl (by decide +kernel) ?_
        refine pn_isub 24 (8 * (k % 4)) rfl rfl (by omega) (by decide +kernel) ?_
        refine pw_ishr (by decide +kernel) ?_
        refine pw_sipush (n := 255) (v := 255) (by decide) (by decide +kernel) ?_
        refine pw_iand (by decide +kernel) ?_
        refine pq_iast (tp + k) rfl (by omega) (by decide) (ks_m_tape hA) (by decide +kernel) ?_
        refine pn_iinc (i := 6) (n := 1) 1 k rfl rfl (by decide) rfl (by decide +kernel) ?_
        refine pw_goto (off := -87) (tgt := 23) (by decide +kernel) (by decide +kernel) ?_
        have w := ih (by omega)
        rw [show fdF (I 135) tp (wk5 a b c d x) (k + 1) = upd (fdF (I 135) tp (wk5 a b c d x) k) (tp + k) ((wk5 a b c d x k >>> (nI (24 - 8 * (k % 4)) &&& 31)) &&& 255) from rfl, show wk5 a b c d x k = a from if_pos (by omega)] at w
        rw [sI_aU2]
        exact pw_forget [7] w
)
  refine pw_aload_n (k4 := 0) rfl (by decide +kernel) ?_
  refine pw_iconst (n := 0) (v := 0) (by decide) (by decide +kernel) ?_
  refine pq_putI (c := 11) (k := 2) (ks_m hA) (by decide) (by decide) lf_Mo_175 (Or.inl rfl) (by decide +kernel) ?_
  refine pw_aload_n (k4 := 0) rfl (by decide +kernel) ?_
  refine pq_getI (c := 11) (k := 1) (ks_m hA) (by decide) (by decide) lf_Mo_178 (by decide +kernel) ?_
  refine pn_val (nI (tp)) ht0 ?_
  refine pw_bipush (n := 20) (v := 20) (by decide) (by decide +kernel) ?_
  refine pn_iadd tp 20 rfl rfl (by decide +kernel) ?_
  refine pw_sipush (n := 700) (v := 700) (by decide) (by decide +kernel) ?_
  refine pn_icmp_le (off := 5) (tgt := 20) (tp + 20) 700 rfl rfl (by omega) (by omega) (by decide +kernel) (by decide +kernel) (fun z15 => ?_) (fun z15 => ?_)
  · refine pw_iconst (n := 0) (v := 0) (by decide) (by decide +kernel) ?_
    refine pq_istore (i := 6) (Nat.le_of_ble_eq_true rfl) rfl (by decide +kernel) ?_
    have w := hL z15 0 (Nat.zero_le _)
    rw [show aU (sI I 134 2 0) 135 (fdF (I 135) tp (wk5 a b c d x) 0) = sI I 134 2 0 from aU_self (sI I 134 2 0) 135] at w
    exact w
  · refine pw_iconst (n := -1) (v := -1) (by decide) (by decide +kernel) ?_
    exact pq_iret rfl (by decide +kernel) ⟨fun h => absurd h z15, fun _ => ⟨rfl, _, _, rfl, rep_t⟩⟩
