/-! ===== the class is made: scribe, and the whole ===== -/
def iHi80I (I : Nat → Nat → Int32) : Nat → Nat → Int32 := (hiN (hiM (I, (fun _ _ => 0), (fun _ _ => none)))).1
def iHi80L (L : Nat → Nat → Int64) : Nat → Nat → Int64 := (hiN (hiM ((fun _ _ => 0), L, (fun _ _ => none)))).2.1
def iHi80P (P : Nat → Nat → Option Nat) : Nat → Nat → Option Nat := (hiN (hiM ((fun _ _ => 0), (fun _ _ => 0), P))).2.2
theorem mMs_1 {M : pM} {n N : Nat} : ∀ i, (mMs M n N i).1 = (mMs (M.1, (fun _ _ => 0), (fun _ _ => none)) n N i).1
  | 0 => rfl
  | i + 1 => congrArg (fun z => va_up z (n + 1 + i) (fun _ => 0)) (mMs_1 i)
theorem mMs_2 {M : pM} {n N : Nat} : ∀ i, (mMs M n N i).2.1 = (mMs ((fun _ _ => 0), M.2.1, (fun _ _ => none)) n N i).2.1
  | 0 => rfl
  | i + 1 => congrArg (fun z => va_up z (n + 1 + i) (fun _ => 0)) (mMs_2 i)
theorem mMs_3 {M : pM} {n N : Nat} : ∀ i, (mMs M n N i).2.2 = (mMs ((fun _ _ => 0), (fun _ _ => 0), M.2.2) n N i).2.2
  | 0 => rfl
  | i + 1 => congrArg (fun z => va_up z (n + 1 + i) (fun _ => none)) (mMs_3 i)
theorem hi_1 (I : Nat → Nat → Int32) (L : Nat → Nat → Int64) (P : Nat → Nat → Option Nat) : hiN (hiM (I, L, P)) = (iHi80I I, iHi80L L, iHi80P P) := by
  have e1 : (hiN (hiM (I, L, P))).1 = iHi80I I := by
    show (mMs (hiM (I, L, P)) 102 20 20).1 = (mMs (hiM _) 102 20 20).1
    rw [mMs_1, mMs_1 (M := hiM (I, (fun _ _ => 0), (fun _ _ => none)))]
    have e : (hiM (I, L, P)).1 = (hiM (I, (fun _ _ => 0), (fun _ _ => none))).1 := by
      show (mMs (I, L, P) 81 20 20).1 = (mMs _ 81 20 20).1
      rw [mMs_1]
    rw [e]
  have e2 : (hiN (hiM (I, L, P))).2.1 = iHi80L L := by
    show (mMs (hiM (I, L, P)) 102 20 20).2.1 = (mMs (hiM _) 102 20 20).2.1
    rw [mMs_2, mMs_2 (M := hiM ((fun _ _ => 0), L, (fun _ _ => none)))]
    have e : (hiM (I, L, P)).2.1 = (hiM ((fun _ _ => 0), L, (fun _ _ => none))).2.1 := by
      show (mMs (I, L, P) 81 20 20).2.1 = (mMs _ 81 20 20).2.1
      rw [mMs_2]
    rw [e]
  have e3 : (hiN (hiM (I, L, P))).2.2 = iHi80P P := by
    show sP (mMs (hiM (I, L, P)) 102 20 20).2.2 80 3 102 = sP (mMs (hiM _) 102 20 20).2.2 80 3 102
    rw [mMs_3, mMs_3 (M := hiM ((fun _ _ => 0), (fun _ _ => 0), P))]
    have e : (hiM (I, L, P)).2.2 = (hiM ((fun _ _ => 0), (fun _ _ => 0), P)).2.2 := by
      show sP (mMs (I, L, P) 81 20 20).2.2 80 2 81 = sP (mMs _ 81 20 20).2.2 80 2 81
      rw [mMs_3]
    rw [e]
  rw [← e1, ← e2, ← e3]
theorem ct_Hi80b_init {x0 : pSh} {I : Nat → Nat → Int32} {L : Nat → Nat → Int64} {P : Nat → Nat → Option Nat} : kCt m_Hi_init 1 x0 81 123 [.ref 80] (I, L, P) (rV (iHi80I I, iHi80L L, iHi80P P)) := by
  rw [← hi_1]
  exact ct_Hi80_init
def iSc57I (I : Nat → Nat → Int32) : Nat → Nat → Int32 := (iRe58I (zI I 58))
def iSc57L (L : Nat → Nat → Int64) : Nat → Nat → Int64 := (iRe58L (zL L 58))
def iSc57P (P : Nat → Nat → Option Nat) : Nat → Nat → Option Nat := (sP (sP (iRe58P (zP P 58)) 57 4 58) 57 5 30)
set_option maxHeartbeats 2000000 in
theorem ct_Sc57_init {x0 : pSh} {I : Nat → Nat → Int32} {L : Nat → Nat → Int64} {P : Nat → Nat → Option Nat} : kCt m_Sc_init 5 x0 58 61 [.ref 57, .ref 30] (I, L, P) (rV (iSc57I I, iSc57L L, iSc57P P)) := by
  refine kCt_of (by decide +kernel) (Nat.le_of_ble_eq_true rfl) (by decide) (by decide) ?_
  refine pw_aload_n (k4 := 0) rfl (by decide +kernel) ?_
  refine pw_objInit (by decide +kernel) lo_Sc oi_i oi_c (by decide) (Nat.le_of_ble_eq_true rfl) ?_
  refine pw_aload_n (k4 := 0) rfl (by decide +kernel) ?_
  refine kw_new 58 3 (by decide +kernel) (by decide) lk_Sc_9 ins_Re ini_Re (by decide +kernel) (by decide) (by decide) (by decide) ?_
  refine pw_dup rfl (by decide +kernel) ?_
  refine kw_callI (ν := m_Re_init) (d' := 4) (av := []) (a := 58) (n := 59) (n' := 61) (by decide +kernel) lm_Sc_11 ok_Re_init rfl (show _ = some 0 by decide +kernel) (by decide) (Nat.le_of_ble_eq_true rfl) (by decide) (by decide) (by decide) ct_Re58_init ?_
  rintro _ _ ⟨rfl, rfl⟩
  refine pq_putP (c := 4) (k := 4) (kg_57 (by decide)) (by decide) (by decide) lf_Sc_12 (Or.inr ⟨rfl, rfl⟩) (by decide +kernel) ?_
  refine pw_aload_n (k4 := 0) rfl (by decide +kernel) ?_
  refine pw_aload_n (k4 := 1) rfl (by decide +kernel) ?_
  refine pq_putP (c := 4) (k := 5) (kg_57 (by decide)) (by decide) (by decide) lf_Sc_18 (Or.inl rfl) (by decide +kernel) ?_
  exact kw_vret rfl (by decide +kernel) ⟨rfl, rfl⟩
def iLs1I (I : Nat → Nat → Int32) : Nat → Nat → Int32 := (zI (iSt132I (zI (iCp126I (zI (iTr123I (zI (iHi80I (zI (iWo74I (zI (iWo68I (zI (iWo62I (zI (zI (sI (iSc57I (zI (iTa30I (zI (iTa3I (zI (zI I 2) 3)) 30)) 57)) 1 6 (-1)) 61) 62)) 68)) 74)) 80)) 123)) 126)) 132)) 133)
def iLs1L (L : Nat → Nat → Int64) : Nat → Nat → Int64 := (zL (iSt132L (zL (iCp126L (zL (iTr123L (zL (iHi80L (zL (iWo74L (zL (iWo68L (zL (iWo62L (zL (zL (iSc57L (zL (iTa30L (zL (iTa3L (zL (zL L 2) 3)) 30)) 57)) 61) 62)) 68)) 74)) 80)) 123)) 126)) 132)) 133)
def iLs1P (P : Nat → Nat → Option Nat) : Nat → Nat → Option Nat := (sP (zP (sP (iSt132P (zP (sP (iCp126P (zP (sP (iTr123P (zP (sP (iHi80P (zP (sP (iWo74P (zP (sP (iWo68P (zP (sP (iWo62P (zP (zP (sP (iSc57P (zP (sP (iTa30P (zP (sP (iTa3P (zP (sP (zP P 2) 1 0 2) 3)) 1 2 3) 30)) 1 3 30) 57)) 1 4 57) 61) 62)) 1 7 62) 68)) 1 8 68) 74)) 1 9 74) 80)) 1 11 80) 123)) 1 12 123) 126)) 1 13 126) 132)) 1 14 132) 133) 1 15 133)
set_option maxHeartbeats 2000000 in
theorem ct_Ls1_init {x0 : pSh} {I : Nat → Nat → Int32} {L : Nat → Nat → Int64} {P : Nat → Nat → Option Nat} : kCt m_Ls_init 6 x0 2 134 [.ref 1] (I, L, P) (rV (iLs1I I, iLs1L L, iLs1P P)) := by
  refine kCt_of (by decide +kernel) (Nat.le_of_ble_eq_true rfl) (by decide) (by decide) ?_
  refine pw_aload_n (k4 := 0) rfl (by decide +kernel) ?_
  refine pw_objInit (by decide +kernel) lo_Ls oi_i oi_c (by decide) (Nat.le_of_ble_eq_true rfl) ?_
  refine pw_aload_n (k4 := 0) rfl (by decide +kernel) ?_
  refine pw_sipush (n := 700) (v := 700) (by decide) (by decide +kernel) ?_
  refine kw_newB 2 700 (by decide +kernel) (by decide) (by decide) (by decide) (by decide +kernel) (by decide) (by decide) (by decide) ?_
  refine pq_putP (c := 10) (k := 0) (kg_1 (by decide)) (by decide) (by decide) lf_Ls_11 (Or.inr ⟨rfl, rfl⟩) (by decide +kernel) ?_
  refine pw_aload_n (k4 := 0) rfl (by decide +kernel) ?_
  refine kw_new 3 7 (by decide +kernel) (by decide) lk_Ls_15 ins_Ta ini_Ta (by decide +kernel) (by decide) (by decide) (by decide) ?_
  refine pw_dup rfl (by decide +kernel) ?_
  refine kw_callN (ν := m_Ta_init) (d' := 2) (av := []) (a := 3) (n := 4) (n' := 30) (by decide +kernel) (List.mem_of_getElem? (i := 0) rfl) ok_Ta_init rfl (show _ = some 0 by decide +kernel) (by decide) (Nat.le_of_ble_eq_true rfl) (by decide) (by decide) (by decide) ct_Ta3_init ?_
  rintro _ _ ⟨rfl, rfl⟩
  refine pq_putP (c := 10) (k := 2) (kg_1 (by decide)) (by decide) (by decide) lf_Ls_18 (Or.inl rfl) (by decide +kernel) ?_
  refine pw_aload_n (k4 := 0) rfl (by decide +kernel) ?_
  refine kw_new 30 7 (by decide +kernel) (by decide) lk_Ls_15 ins_Ta ini_Ta (by decide +kernel) (by decide) (by decide) (by decide) ?_
  refine pw_dup rfl (by decide +kernel) ?_
  refine kw_callN (ν := m_Ta_init) (d' := 2) (av := []) (a := 30) (n := 31) (n' := 57) (by decide +kernel) (List.mem_of_getElem? (i := 0) rfl) ok_Ta_init rfl (show _ = some 0 by decide +kernel) (by decide) (Nat.le_of_ble_eq_true rfl) (by decide) (by decide) (by decide) ct_Ta30_init ?_
  rintro _ _ ⟨rfl, rfl⟩
  refine pq_putP (c := 10) (k := 3) (kg_1 (by decide)) (by decide) (by decide) lf_Ls_22 (Or.inl rfl) (by decide +kernel) ?_
  refine pw_aload_n (k4 := 0) rfl (by decide +kernel) ?_
  refine kw_new 57 4 (by decide +kernel) (by decide) lk_Ls_25 ins_Sc ini_Sc (by decide +kernel) (by decide) (by decide) (by decide) ?_
  refine pw_dup rfl (by decide +kernel) ?_
  refine pw_aload_n (k4 := 0) rfl (by decide +kernel) ?_
  refine pq_getP (c := 10) (k := 3) (kg_1 (by decide)) (by decide) (by decide) (q := 30) (by rfl) lf_Ls_22 (by decide +kernel) ?_
  refine kw_callI (ν := m_Sc_init) (d' := 5) (av := [_]) (a := 57) (n := 58) (n' := 61) (by decide +kernel) lm_Ls_27 ok_Sc_init rfl (show _ = some 1 by decide +kernel) (by decide) (Nat.le_of_ble_eq_true rfl) (by decide) (by decide) (by decide) ct_Sc57_init ?_
  rintro _ _ ⟨rfl, rfl⟩
  refine pq_putP (c := 10) (k := 4) (kg_1 (by decide)) (by decide) (by decide) lf_Ls_30 (Or.inr ⟨rfl, rfl⟩) (by decide +kernel) ?_
  refine pw_aload_n (k4 := 0) rfl (by decide +kernel) ?_
  refine pw_iconst (n := -1) (v := -1) (by decide) (by decide +kernel) ?_
  refine pq_putI (c := 10) (k := 6) (kg_1 (by decide)) (by decide) (by decide) lf_Ls_34 (Or.inl rfl) (by decide +kernel) ?_
  refine pw_sipush (n := 10000) (v := 10000) (by decide) (by decide +kernel) ?_
  refine kw_newI 61 10000 (by decide +kernel) (by decide) (by decide) (by decide) (by decide +kernel) (by decide) (by decide) (by decide) ?_
  refine pq_astore_n (k4 := 1) (Nat.le_of_ble_eq_true rfl) rfl (by decide +kernel) ?_
  refine pw_aload_n (k4 := 0) rfl (by decide +kernel) ?_
  refine kw_new 62 9 (by decide +kernel) (by decide) lk_Ls_38 ins_Wo ini_Wo (by decide +kernel) (by decide) (by decide) (by decide) ?_
  refine pw_dup rfl (by decide +kernel) ?_
  refine pw_aload_n (k4 := 0) rfl (by decide +kernel) ?_
  refine pq_getP (c := 10) (k := 2) (kg_1 (by decide)) (by decide) (by decide) (q := 3) (by rfl) lf_Ls_18 (by decide +kernel) ?_
  refine pw_aload_n (k4 := 1) rfl (by decide +kernel) ?_
  refine kw_callI (ν := m_Wo_init) (d' := 1) (av := [_, _]) (a := 62) (n := 63) (n' := 68) (by decide +kernel) lm_Ls_40 ok_Wo_init rfl (show _ = some 2 by decide +kernel) (by decide) (Nat.le_of_ble_eq_true rfl) (by decide) (by decide) (by decide) ct_Wo62_init ?_
  rintro _ _ ⟨rfl, rfl⟩
  refine pq_putP (c := 10) (k := 7) (kg_1 (by decide)) (by decide) (by decide) lf_Ls_43 (Or.inr ⟨rfl, rfl⟩) (by decide +kernel) ?_
  refine pw_aload_n (k4 := 0) rfl (by decide +kernel) ?_
  refine kw_new 68 9 (by decide +kernel) (by decide) lk_Ls_38 ins_Wo ini_Wo (by decide +kernel) (by decide) (by decide) (by decide) ?_
  refine pw_dup rfl (by decide +kernel) ?_
  refine pw_aload_n (k4 := 0) rfl (by decide +kernel) ?_
  refine pq_getP (c := 10) (k := 2) (kg_1 (by decide)) (by decide) (by decide) (q := 3) (by rfl) lf_Ls_18 (by decide +kernel) ?_
  refine pw_aload_n (k4 := 1) rfl (by decide +kernel) ?_
  refine kw_callI (ν := m_Wo_init) (d' := 1) (av := [_, _]) (a := 68) (n := 69) (n' := 74) (by decide +kernel) lm_Ls_40 ok_Wo_init rfl (show _ = some 2 by decide +kernel) (by decide) (Nat.le_of_ble_eq_true rfl) (by decide) (by decide) (by decide) ct_Wo68_init ?_
  rintro _ _ ⟨rfl, rfl⟩
  refine pq_putP (c := 10) (k := 8) (kg_1 (by decide)) (by decide) (by decide) lf_Ls_47 (Or.inr ⟨rfl, rfl⟩) (by decide +kernel) ?_
  refine pw_aload_n (k4 := 0) rfl (by decide +kernel) ?_
  refine kw_new 74 9 (by decide +kernel) (by decide) lk_Ls_38 ins_Wo ini_Wo (by decide +kernel) (by decide) (by decide) (by decide) ?_
  refine pw_dup rfl (by decide +kernel) ?_
  refine pw_aload_n (k4 := 0) rfl (by decide +kernel) ?_
  refine pq_getP (c := 10) (k := 2) (kg_1 (by decide)) (by decide) (by decide) (q := 3) (by rfl) lf_Ls_18 (by decide +kernel) ?_
  refine pw_aload_n (k4 := 1) rfl (by decide +kernel) ?_
  refine kw_callI (ν := m_Wo_init) (d' := 1) (av := [_, _]) (a := 74) (n := 75) (n' := 80) (by decide +kernel) lm_Ls_40 ok_Wo_init rfl (show _ = some 2 by decide +kernel) (by decide) (Nat.le_of_ble_eq_true rfl) (by decide) (by decide) (by decide) ct_Wo74_init ?_
  rintro _ _ ⟨rfl, rfl⟩
  refine pq_putP (c := 10) (k := 9) (kg_1 (by decide)) (by decide) (by decide) lf_Ls_50 (Or.inr ⟨rfl, rfl⟩) (by decide +kernel) ?_
  refine pw_aload_n (k4 := 0) rfl (by decide +kernel) ?_
  refine kw_new 80 1 (by decide +kernel) (by decide) lk_Ls_53 ins_Hi ini_Hi (by decide +kernel) (by decide) (by decide) (by decide) ?_
  refine pw_dup rfl (by decide +kernel) ?_
  refine kw_callN (ν := m_Hi_init) (d' := 1) (av := []) (a := 80) (n := 81) (n' := 123) (by decide +kernel) (List.mem_of_getElem? (i := 3) rfl) ok_Hi_init rfl (show _ = some 0 by decide +kernel) (by decide) (Nat.le_of_ble_eq_true rfl) (by decide) (by decide) (by decide) ct_Hi80b_init ?_
  rintro _ _ ⟨rfl, rfl⟩
  refine pq_putP (c := 10) (k := 11) (kg_1 (by decide)) (by decide) (by decide) lf_Ls_56 (Or.inr ⟨rfl, rfl⟩) (by decide +kernel) ?_
  refine pw_aload_n (k4 := 0) rfl (by decide +kernel) ?_
  refine kw_new 123 8 (by decide +kernel) (by decide) lk_Ls_60 ins_Tr ini_Tr (by decide +kernel) (by decide) (by decide) (by decide) ?_
  refine pw_dup rfl (by decide +kernel) ?_
  refine kw_callN (ν := m_Tr_init) (d' := 1) (av := []) (a := 123) (n := 124) (n' := 126) (by decide +kernel) (List.mem_of_getElem? (i := 4) rfl) ok_Tr_init rfl (show _ = some 0 by decide +kernel) (by decide) (Nat.le_of_ble_eq_true rfl) (by decide) (by decide) (by decide) ct_Tr123_init ?_
  rintro _ _ ⟨rfl, rfl⟩
  refine pq_putP (c := 10) (k := 12) (kg_1 (by decide)) (by decide) (by decide) lf_Ls_63 (Or.inr ⟨rfl, rfl⟩) (by decide +kernel) ?_
  refine pw_aload_n (k4 := 0) rfl (by decide +kernel) ?_
  refine kw_new 126 0 (by decide +kernel) (by decide) lk_Ls_67 ins_Cp ini_Cp (by decide +kernel) (by decide) (by decide) (by decide) ?_
  refine pw_dup rfl (by decide +kernel) ?_
  refine kw_callN (ν := m_Cp_init) (d' := 1) (av := []) (a := 126) (n := 127) (n' := 132) (by decide +kernel) (List.mem_of_getElem? (i := 5) rfl) ok_Cp_init rfl (show _ = some 0 by decide +kernel) (by decide) (Nat.le_of_ble_eq_true rfl) (by decide) (by decide) (by decide) ct_Cp126_init ?_
  rintro _ _ ⟨rfl, rfl⟩
  refine pq_putP (c := 10) (k := 13) (kg_1 (by decide)) (by decide) (by decide) lf_Ls_70 (Or.inr ⟨rfl, rfl⟩) (by decide +kernel) ?_
  refine pw_aload_n (k4 := 0) rfl (by decide +kernel) ?_
  refine kw_new 132 5 (by decide +kernel) (by decide) lk_Ls_74 ins_St ini_St (by decide +kernel) (by decide) (by decide) (by decide) ?_
  refine pw_dup rfl (by decide +kernel) ?_
  refine pw_aload_n (k4 := 0) rfl (by decide +kernel) ?_
  refine pq_getP (c := 10) (k := 7) (kg_1 (by decide)) (by decide) (by decide) (q := 62) (by rfl) lf_Ls_43 (by decide +kernel) ?_
  refine kw_callI (ν := m_St_init) (d' := 1) (av := [_]) (a := 132) (n := 133) (n' := 133) (by decide +kernel) lm_Ls_76 ok_St_init rfl (show _ = some 1 by decide +kernel) (by decide) (Nat.le_of_ble_eq_true rfl) (by decide) (by decide) (by decide) ct_St132_init ?_
  rintro _ _ ⟨rfl, rfl⟩
  refine pq_putP (c := 10) (k := 14) (kg_1 (by decide)) (by decide) (by decide) lf_Ls_79 (Or.inr ⟨rfl, rfl⟩) (by decide +kernel) ?_
  refine pw_aload_n (k4 := 0) rfl (by decide +kernel) ?_
  refine pw_bipush (n := 10) (v := 10) (by decide) (by decide +kernel) ?_
  refine kw_newI 133 10 (by decide +kernel) (by decide) (by decide) (by decide) (by decide +kernel) (by decide) (by decide) (by decide) ?_
  refine pq_putP (c := 10) (k := 15) (kg_1 (by decide)) (by decide) (by decide) lf_Ls_83 (Or.inr ⟨rfl, rfl⟩) (by decide +kernel) ?_
  exact kw_vret rfl (by decide +kernel) ⟨rfl, rfl⟩
