/-! ===== the class is made ===== -/
def iSw18I (I : Nat → Nat → Int32) : Nat → Nat → Int32 := (zI (zI (zI I 19) 20) 21)
def iSw18L (L : Nat → Nat → Int64) : Nat → Nat → Int64 := (zL (zL (zL L 19) 20) 21)
def iSw18P (P : Nat → Nat → Option Nat) : Nat → Nat → Option Nat := (sP (zP (sP (zP (sP (zP P 19) 18 1 19) 20) 18 2 20) 21) 18 3 21)
set_option maxHeartbeats 2000000 in
theorem ct_Sw18_init {x0 : pSh} {I : Nat → Nat → Int32} {L : Nat → Nat → Int64} {P : Nat → Nat → Option Nat} : kCt m_Sw_init 1 x0 19 22 [.ref 18] (I, L, P) (rV (iSw18I I, iSw18L L, iSw18P P)) := by
  refine kCt_of (by decide +kernel) (Nat.le_of_ble_eq_true rfl) (by decide) (by decide) ?_
  refine pw_aload_n (k4 := 0) rfl (by decide +kernel) ?_
  refine pw_objInit (by decide +kernel) lo_Sw oi_i oi_c (by decide) (Nat.le_of_ble_eq_true rfl) ?_
  refine pw_aload_n (k4 := 0) rfl (by decide +kernel) ?_
  refine pw_bipush (n := 36) (v := 36) (by decide) (by decide +kernel) ?_
  refine kw_newI 19 36 (by decide +kernel) (by decide) (by decide) (by decide) (by decide +kernel) (by decide) (by decide) (by decide) ?_
  refine pq_putP (c := 6) (k := 1) (kg_18 (by decide)) (by decide) (by decide) lf_Sw_9 (Or.inr ⟨rfl, rfl⟩) (by decide +kernel) ?_
  refine pw_aload_n (k4 := 0) rfl (by decide +kernel) ?_
  refine pw_bipush (n := 36) (v := 36) (by decide) (by decide +kernel) ?_
  refine kw_newI 20 36 (by decide +kernel) (by decide) (by decide) (by decide) (by decide +kernel) (by decide) (by decide) (by decide) ?_
  refine pq_putP (c := 6) (k := 2) (kg_18 (by decide)) (by decide) (by decide) lf_Sw_15 (Or.inr ⟨rfl, rfl⟩) (by decide +kernel) ?_
  refine pw_aload_n (k4 := 0) rfl (by decide +kernel) ?_
  refine pw_bipush (n := 6) (v := 6) (by decide) (by decide +kernel) ?_
  refine kw_newI 21 6 (by decide +kernel) (by decide) (by decide) (by decide) (by decide +kernel) (by decide) (by decide) (by decide) ?_
  refine pq_putP (c := 6) (k := 3) (kg_18 (by decide)) (by decide) (by decide) lf_Sw_18 (Or.inr ⟨rfl, rfl⟩) (by decide +kernel) ?_
  exact kw_vret rfl (by decide +kernel) ⟨rfl, rfl⟩
def iLa22I (I : Nat → Nat → Int32) : Nat → Nat → Int32 := (zI (zI (zI (zI (zI (zI (zI I 23) 24) 25) 26) 27) 28) 29)
def iLa22L (L : Nat → Nat → Int64) : Nat → Nat → Int64 := (zL (zL (zL (zL (zL (zL (zL L 23) 24) 25) 26) 27) 28) 29)
def iLa22P (P : Nat → Nat → Option Nat) : Nat → Nat → Option Nat := (sP (zP (sP (zP (sP (zP (sP (zP (sP (zP (sP (zP (sP (zP P 23) 22 2 23) 24) 22 3 24) 25) 22 4 25) 26) 22 5 26) 27) 22 6 27) 28) 22 7 28) 29) 22 8 29)
set_option maxHeartbeats 2000000 in
theorem ct_La22_init {x0 : pSh} {I : Nat → Nat → Int32} {L : Nat → Nat → Int64} {P : Nat → Nat → Option Nat} : kCt m_La_init 1 x0 23 30 [.ref 22] (I, L, P) (rV (iLa22I I, iLa22L L, iLa22P P)) := by
  refine kCt_of (by decide +kernel) (Nat.le_of_ble_eq_true rfl) (by decide) (by decide) ?_
  refine pw_aload_n (k4 := 0) rfl (by decide +kernel) ?_
  refine pw_objInit (by decide +kernel) lo_La oi_i oi_c (by decide) (Nat.le_of_ble_eq_true rfl) ?_
  refine pw_aload_n (k4 := 0) rfl (by decide +kernel) ?_
  refine pw_bipush (n := 64) (v := 64) (by decide) (by decide +kernel) ?_
  refine kw_newI 23 64 (by decide +kernel) (by decide) (by decide) (by decide) (by decide +kernel) (by decide) (by decide) (by decide) ?_
  refine pq_putP (c := 2) (k := 2) (kg_22 (by decide)) (by decide) (by decide) lf_La_9 (Or.inr ⟨rfl, rfl⟩) (by decide +kernel) ?_
  refine pw_aload_n (k4 := 0) rfl (by decide +kernel) ?_
  refine pw_bipush (n := 64) (v := 64) (by decide) (by decide +kernel) ?_
  refine kw_newI 24 64 (by decide +kernel) (by decide) (by decide) (by decide) (by decide +kernel) (by decide) (by decide) (by decide) ?_
  refine pq_putP (c := 2) (k := 3) (kg_22 (by decide)) (by decide) (by decide) lf_La_15 (Or.inr ⟨rfl, rfl⟩) (by decide +kernel) ?_
  refine pw_aload_n (k4 := 0) rfl (by decide +kernel) ?_
  refine pw_iconst (n := 3) (v := 3) (by decide) (by decide +kernel) ?_
  refine kw_newI 25 3 (by decide +kernel) (by decide) (by decide) (by decide) (by decide +kernel) (by decide) (by decide) (by decide) ?_
  refine pq_putP (c := 2) (k := 4) (kg_22 (by decide)) (by decide) (by decide) lf_La_18 (Or.inr ⟨rfl, rfl⟩) (by decide +kernel) ?_
  refine pw_aload_n (k4 := 0) rfl (by decide +kernel) ?_
  refine pw_iconst (n := 3) (v := 3) (by decide) (by decide +kernel) ?_
  refine kw_newI 26 3 (by decide +kernel) (by decide) (by decide) (by decide) (by decide +kernel) (by decide) (by decide) (by decide) ?_
  refine pq_putP (c := 2) (k := 5) (kg_22 (by decide)) (by decide) (by decide) lf_La_21 (Or.inr ⟨rfl, rfl⟩) (by decide +kernel) ?_
  refine pw_aload_n (k4 := 0) rfl (by decide +kernel) ?_
  refine pw_iconst (n := 3) (v := 3) (by decide) (by decide +kernel) ?_
  refine kw_newZ 27 3 (by decide +kernel) (by decide) (by decide) (by decide) (by decide +kernel) (by decide) (by decide) (by decide) ?_
  refine pq_putP (c := 2) (k := 6) (kg_22 (by decide)) (by decide) (by decide) lf_La_24 (Or.inr ⟨rfl, rfl⟩) (by decide +kernel) ?_
  refine pw_aload_n (k4 := 0) rfl (by decide +kernel) ?_
  refine pw_bipush (n := 7) (v := 7) (by decide) (by decide +kernel) ?_
  refine kw_newL 28 7 (by decide +kernel) (by decide) (by decide) (by decide) (by decide +kernel) (by decide) (by decide) (by decide) ?_
  refine pq_putP (c := 2) (k := 7) (kg_22 (by decide)) (by decide) (by decide) lf_La_28 (Or.inr ⟨rfl, rfl⟩) (by decide +kernel) ?_
  refine pw_aload_n (k4 := 0) rfl (by decide +kernel) ?_
  refine pw_bipush (n := 64) (v := 64) (by decide) (by decide +kernel) ?_
  refine kw_newL 29 64 (by decide +kernel) (by decide) (by decide) (by decide) (by decide +kernel) (by decide) (by decide) (by decide) ?_
  refine pq_putP (c := 2) (k := 8) (kg_22 (by decide)) (by decide) (by decide) lf_La_32 (Or.inr ⟨rfl, rfl⟩) (by decide +kernel) ?_
  exact kw_vret rfl (by decide +kernel) ⟨rfl, rfl⟩
def iTa3I (I : Nat → Nat → Int32) : Nat → Nat → Int32 := (iLa22I (zI (iSw18I (zI (zI (zI (zI (zI (zI (zI (zI (zI (zI (zI (zI (zI (zI (zI I 4) 5) 6) 7) 8) 9) 10) 11) 12) 13) 14) 15) 16) 17) 18)) 22))
def iTa3L (L : Nat → Nat → Int64) : Nat → Nat → Int64 := (iLa22L (zL (iSw18L (zL (zL (zL (zL (zL (zL (zL (zL (zL (zL (zL (zL (zL (zL (zL L 4) 5) 6) 7) 8) 9) 10) 11) 12) 13) 14) 15) 16) 17) 18)) 22))
def iTa3P (P : Nat → Nat → Option Nat) : Nat → Nat → Option Nat := (sP (iLa22P (zP (sP (iSw18P (zP (sP (zP (sP (zP (sP (zP (sP (zP (sP (zP (sP (zP (sP (zP (sP (zP (sP (zP (sP (zP (sP (zP (sP (zP (sP (zP (sP (zP P 4) 3 1 4) 5) 3 2 5) 6) 3 3 6) 7) 3 4 7) 8) 3 5 8) 9) 3 7 9) 10) 3 8 10) 11) 3 9 11) 12) 3 10 12) 13) 3 11 13) 14) 3 13 14) 15) 3 14 15) 16) 3 15 16) 17) 3 16 17) 18)) 3 17 18) 22)) 3 18 22)
set_option maxHeartbeats 2000000 in
theorem ct_Ta3_init {x0 : pSh} {I : Nat → Nat → Int32} {L : Nat → Nat → Int64} {P : Nat → Nat → Option Nat} : kCt m_Ta_init 2 x0 4 30 [.ref 3] (I, L, P) (rV (iTa3I I, iTa3L L, iTa3P P)) := by
  refine kCt_of (by decide +kernel) (Nat.le_of_ble_eq_true rfl) (by decide) (by decide) ?_
  refine pw_aload_n (k4 := 0) rfl (by decide +kernel) ?_
  refine pw_objInit (by decide +kernel) lo_Ta oi_i oi_c (by decide) (Nat.le_of_ble_eq_true rfl) ?_
  refine pw_aload_n (k4 := 0) rfl (by decide +kernel) ?_
  refine pw_iconst (n := 5) (v := 5) (by decide) (by decide +kernel) ?_
  refine kw_newI 4 5 (by decide +kernel) (by decide) (by decide) (by decide) (by decide +kernel) (by decide) (by decide) (by decide) ?_
  refine pq_putP (c := 7) (k := 1) (kg_3 (by decide)) (by decide) (by decide) lf_Ta_9 (Or.inr ⟨rfl, rfl⟩) (by decide +kernel) ?_
  refine pw_aload_n (k4 := 0) rfl (by decide +kernel) ?_
  refine pw_iconst (n := 5) (v := 5) (by decide) (by decide +kernel) ?_
  refine kw_newI 5 5 (by decide +kernel) (by decide) (by decide) (by decide) (by decide +kernel) (by decide) (by decide) (by decide) ?_
  refine pq_putP (c := 7) (k := 2) (kg_3 (by decide)) (by decide) (by decide) lf_Ta_15 (Or.inr ⟨rfl, rfl⟩) (by decide +kernel) ?_
  refine pw_aload_n (k4 := 0) rfl (by decide +kernel) ?_
  refine pw_iconst (n := 5) (v := 5) (by decide) (by decide +kernel) ?_
  refine kw_newI 6 5 (by decide +kernel) (by decide) (by decide) (by decide) (by decide +kernel) (by decide) (by decide) (by decide) ?_
  refine pq_putP (c := 7) (k := 3) (kg_3 (by decide)) (by decide) (by decide) lf_Ta_18 (Or.inr ⟨rfl, rfl⟩) (by decide +kernel) ?_
  refine pw_aload_n (k4 := 0) rfl (by decide +kernel) ?_
  refine pw_iconst (n := 5) (v := 5) (by decide) (by decide +kernel) ?_
  refine kw_newI 7 5 (by decide +kernel) (by decide) (by decide) (by decide) (by decide +kernel) (by decide) (by decide) (by decide) ?_
  refine pq_putP (c := 7) (k := 4) (kg_3 (by decide)) (by decide) (by decide) lf_Ta_21 (Or.inr ⟨rfl, rfl⟩) (by decide +kernel) ?_
  refine pw_aload_n (k4 := 0) rfl (by decide +kernel) ?_
  refine pw_iconst (n := 5) (v := 5) (by decide) (by decide +kernel) ?_
  refine kw_newI 8 5 (by decide +kernel) (by decide) (by decide) (by decide) (by decide +kernel) (by decide) (by decide) (by decide) ?_
  refine pq_putP (c := 7) (k := 5) (kg_3 (by decide)) (by decide) (by decide) lf_Ta_24 (Or.inr ⟨rfl, rfl⟩) (by decide +kernel) ?_
  refine pw_aload_n (k4 := 0) rfl (by decide +kernel) ?_
  refine pw_bipush (n := 16) (v := 16) (by decide) (by decide +kernel) ?_
  refine kw_newI 9 16 (by decide +kernel) (by decide) (by decide) (by decide) (by decide +kernel) (by decide) (by decide) (by decide) ?_
  refine pq_putP (c := 7) (k := 7) (kg_3 (by decide)) (by decide) (by decide) lf_Ta_27 (Or.inr ⟨rfl, rfl⟩) (by decide +kernel) ?_
  refine pw_aload_n (k4 := 0) rfl (by decide +kernel) ?_
  refine pw_bipush (n := 16) (v := 16) (by decide) (by decide +kernel) ?_
  refine kw_newI 10 16 (by decide +kernel) (by decide) (by decide) (by decide) (by decide +kernel) (by decide) (by decide) (by decide) ?_
  refine pq_putP (c := 7) (k := 8) (kg_3 (by decide)) (by decide) (by decide) lf_Ta_30 (Or.inr ⟨rfl, rfl⟩) (by decide +kernel) ?_
  refine pw_aload_n (k4 := 0) rfl (by decide +kernel) ?_
  refine pw_bipush (n := 16) (v := 16) (by decide) (by decide +kernel) ?_
  refine kw_newI 11 16 (by decide +kernel) (by decide) (by decide) (by decide) (by decide +kernel) (by decide) (by decide) (by decide) ?_
  refine pq_putP (c := 7) (k := 9) (kg_3 (by decide)) (by decide) (by decide) lf_Ta_33 (Or.inr ⟨rfl, rfl⟩) (by decide +kernel) ?_
  refine pw_aload_n (k4 := 0) rfl (by decide +kernel) ?_
  refine pw_bipush (n := 16) (v := 16) (by decide) (by decide +kernel) ?_
  refine kw_newI 12 16 (by decide +kernel) (by decide) (by decide) (by decide) (by decide +kernel) (by decide) (by decide) (by decide) ?_
  refine pq_putP (c := 7) (k := 10) (kg_3 (by decide)) (by decide) (by decide) lf_Ta_36 (Or.inr ⟨rfl, rfl⟩) (by decide +kernel) ?_
  refine pw_aload_n (k4 := 0) rfl (by decide +kernel) ?_
  refine pw_bipush (n := 16) (v := 16) (by decide) (by decide +kernel) ?_
  refine kw_newI 13 16 (by decide +kernel) (by decide) (by decide) (by decide) (by decide +kernel) (by decide) (by decide) (by decide) ?_
  refine pq_putP (c := 7) (k := 11) (kg_3 (by decide)) (by decide) (by decide) lf_Ta_39 (Or.inr ⟨rfl, rfl⟩) (by decide +kernel) ?_
  refine pw_aload_n (k4 := 0) rfl (by decide +kernel) ?_
  refine pw_bipush (n := 8) (v := 8) (by decide) (by decide +kernel) ?_
  refine kw_newI 14 8 (by decide +kernel) (by decide) (by decide) (by decide) (by decide +kernel) (by decide) (by decide) (by decide) ?_
  refine pq_putP (c := 7) (k := 13) (kg_3 (by decide)) (by decide) (by decide) lf_Ta_42 (Or.inr ⟨rfl, rfl⟩) (by decide +kernel) ?_
  refine pw_aload_n (k4 := 0) rfl (by decide +kernel) ?_
  refine pw_bipush (n := 8) (v := 8) (by decide) (by decide +kernel) ?_
  refine kw_newI 15 8 (by decide +kernel) (by decide) (by decide) (by decide) (by decide +kernel) (by decide) (by decide) (by decide) ?_
  refine pq_putP (c := 7) (k := 14) (kg_3 (by decide)) (by decide) (by decide) lf_Ta_45 (Or.inr ⟨rfl, rfl⟩) (by decide +kernel) ?_
  refine pw_aload_n (k4 := 0) rfl (by decide +kernel) ?_
  refine pw_bipush (n := 8) (v := 8) (by decide) (by decide +kernel) ?_
  refine kw_newI 16 8 (by decide +kernel) (by decide) (by decide) (by decide) (by decide +kernel) (by decide) (by decide) (by decide) ?_
  refine pq_putP (c := 7) (k := 15) (kg_3 (by decide)) (by decide) (by decide) lf_Ta_48 (Or.inr ⟨rfl, rfl⟩) (by decide +kernel) ?_
  refine pw_aload_n (k4 := 0) rfl (by decide +kernel) ?_
  refine pw_bipush (n := 8) (v := 8) (by decide) (by decide +kernel) ?_
  refine kw_newI 17 8 (by decide +kernel) (by decide) (by decide) (by decide) (by decide +kernel) (by decide) (by decide) (by decide) ?_
  refine pq_putP (c := 7) (k := 16) (kg_3 (by decide)) (by decide) (by decide) lf_Ta_51 (Or.inr ⟨rfl, rfl⟩) (by decide +kernel) ?_
  refine pw_aload_n (k4 := 0) rfl (by decide +kernel) ?_
  refine kw_new 18 6 (by decide +kernel) (by decide) lk_Ta_54 ins_Sw ini_Sw (by decide +kernel) (by decide) (by decide) (by decide) ?_
  refine pw_dup rfl (by decide +kernel) ?_
  refine kw_callN (ν := m_Sw_init) (d' := 1) (av := []) (a := 18) (n := 19) (n' := 22) (by decide +kernel) (List.mem_of_getElem? (i := 1) rfl) ok_Sw_init rfl (show _ = some 0 by decide +kernel) (by decide) (Nat.le_of_ble_eq_true rfl) (by decide) (by decide) (by decide) ct_Sw18_init ?_
  rintro _ _ ⟨rfl, rfl⟩
  refine pq_putP (c := 7) (k := 17) (kg_3 (by decide)) (by decide) (by decide) lf_Ta_57 (Or.inr ⟨rfl, rfl⟩) (by decide +kernel) ?_
  refine pw_aload_n (k4 := 0) rfl (by decide +kernel) ?_
  refine kw_new 22 2 (by decide +kernel) (by decide) lk_Ta_61 ins_La ini_La (by decide +kernel) (by decide) (by decide) (by decide) ?_
  refine pw_dup rfl (by decide +kernel) ?_
  refine kw_callN (ν := m_La_init) (d' := 1) (av := []) (a := 22) (n := 23) (n' := 30) (by decide +kernel) (List.mem_of_getElem? (i := 2) rfl) ok_La_init rfl (show _ = some 0 by decide +kernel) (by decide) (Nat.le_of_ble_eq_true rfl) (by decide) (by decide) (by decide) ct_La22_init ?_
  rintro _ _ ⟨rfl, rfl⟩
  refine pq_putP (c := 7) (k := 18) (kg_3 (by decide)) (by decide) (by decide) lf_Ta_64 (Or.inr ⟨rfl, rfl⟩) (by decide +kernel) ?_
  exact kw_vret rfl (by decide +kernel) ⟨rfl, rfl⟩
def iSw45I (I : Nat → Nat → Int32) : Nat → Nat → Int32 := (zI (zI (zI I 46) 47) 48)
def iSw45L (L : Nat → Nat → Int64) : Nat → Nat → Int64 := (zL (zL (zL L 46) 47) 48)
def iSw45P (P : Nat → Nat → Option Nat) : Nat → Nat → Option Nat := (sP (zP (sP (zP (sP (zP P 46) 45 1 46) 47) 45 2 47) 48) 45 3 48)
set_option maxHeartbeats 2000000 in
theorem ct_Sw45_init {x0 : pSh} {I : Nat → Nat → Int32} {L : Nat → Nat → Int64} {P : Nat → Nat → Option Nat} : kCt m_Sw_init 1 x0 46 49 [.ref 45] (I, L, P) (rV (iSw45I I, iSw45L L, iSw45P P)) := by
  refine kCt_of (by decide +kernel) (Nat.le_of_ble_eq_true rfl) (by decide) (by decide) ?_
  refine pw_aload_n (k4 := 0) rfl (by decide +kernel) ?_
  refine pw_objInit (by decide +kernel) lo_Sw oi_i oi_c (by decide) (Nat.le_of_ble_eq_true rfl) ?_
  refine pw_aload_n (k4 := 0) rfl (by decide +kernel) ?_
  refine pw_bipush (n := 36) (v := 36) (by decide) (by decide +kernel) ?_
  refine kw_newI 46 36 (by decide +kernel) (by decide) (by decide) (by decide) (by decide +kernel) (by decide) (by decide) (by decide) ?_
  refine pq_putP (c := 6) (k := 1) (kg_45 (by decide)) (by decide) (by decide) lf_Sw_9 (Or.inr ⟨rfl, rfl⟩) (by decide +kernel) ?_
  refine pw_aload_n (k4 := 0) rfl (by decide +kernel) ?_
  refine pw_bipush (n := 36) (v := 36) (by decide) (by decide +kernel) ?_
  refine kw_newI 47 36 (by decide +kernel) (by decide) (by decide) (by decide) (by decide +kernel) (by decide) (by decide) (by decide) ?_
  refine pq_putP (c := 6) (k := 2) (kg_45 (by decide)) (by decide) (by decide) lf_Sw_15 (Or.inr ⟨rfl, rfl⟩) (by decide +kernel) ?_
  refine pw_aload_n (k4 := 0) rfl (by decide +kernel) ?_
  refine pw_bipush (n := 6) (v := 6) (by decide) (by decide +kernel) ?_
  refine kw_newI 48 6 (by decide +kernel) (by decide) (by decide) (by decide) (by decide +kernel) (by decide) (by decide) (by decide) ?_
  refine pq_putP (c := 6) (k := 3) (kg_45 (by decide)) (by decide) (by decide) lf_Sw_18 (Or.inr ⟨rfl, rfl⟩) (by decide +kernel) ?_
  exact kw_vret rfl (by decide +kernel) ⟨rfl, rfl⟩
def iLa49I (I : Nat → Nat → Int32) : Nat → Nat → Int32 := (zI (zI (zI (zI (zI (zI (zI I 50) 51) 52) 53) 54) 55) 56)
def iLa49L (L : Nat → Nat → Int64) : Nat → Nat → Int64 := (zL (zL (zL (zL (zL (zL (zL L 50) 51) 52) 53) 54) 55) 56)
def iLa49P (P : Nat → Nat → Option Nat) : Nat → Nat → Option Nat := (sP (zP (sP (zP (sP (zP (sP (zP (sP (zP (sP (zP (sP (zP P 50) 49 2 50) 51) 49 3 51) 52) 49 4 52) 53) 49 5 53) 54) 49 6 54) 55) 49 7 55) 56) 49 8 56)
set_option maxHeartbeats 2000000 in
theorem ct_La49_init {x0 : pSh} {I : Nat → Nat → Int32} {L : Nat → Nat → Int64} {P : Nat → Nat → Option Nat} : kCt m_La_init 1 x0 50 57 [.ref 49] (I, L, P) (rV (iLa49I I, iLa49L L, iLa49P P)) := by
  refine kCt_of (by decide +kernel) (Nat.le_of_ble_eq_true rfl) (by decide) (by decide) ?_
  refine pw_aload_n (k4 := 0) rfl (by decide +kernel) ?_
  refine pw_objInit (by decide +kernel) lo_La oi_i oi_c (by decide) (Nat.le_of_ble_eq_true rfl) ?_
  refine pw_aload_n (k4 := 0) rfl (by decide +kernel) ?_
  refine pw_bipush (n := 64) (v := 64) (by decide) (by decide +kernel) ?_
  refine kw_newI 50 64 (by decide +kernel) (by decide) (by decide) (by decide) (by decide +kernel) (by decide) (by decide) (by decide) ?_
  refine pq_putP (c := 2) (k := 2) (kg_49 (by decide)) (by decide) (by decide) lf_La_9 (Or.inr ⟨rfl, rfl⟩) (by decide +kernel) ?_
  refine pw_aload_n (k4 := 0) rfl (by decide +kernel) ?_
  refine pw_bipush (n := 64) (v := 64) (by decide) (by decide +kernel) ?_
  refine kw_newI 51 64 (by decide +kernel) (by decide) (by decide) (by decide) (by decide +kernel) (by decide) (by decide) (by decide) ?_
  refine pq_putP (c := 2) (k := 3) (kg_49 (by decide)) (by decide) (by decide) lf_La_15 (Or.inr ⟨rfl, rfl⟩) (by decide +kernel) ?_
  refine pw_aload_n (k4 := 0) rfl (by decide +kernel) ?_
  refine pw_iconst (n := 3) (v := 3) (by decide) (by decide +kernel) ?_
  refine kw_newI 52 3 (by decide +kernel) (by decide) (by decide) (by decide) (by decide +kernel) (by decide) (by decide) (by decide) ?_
  refine pq_putP (c := 2) (k := 4) (kg_49 (by decide)) (by decide) (by decide) lf_La_18 (Or.inr ⟨rfl, rfl⟩) (by decide +kernel) ?_
  refine pw_aload_n (k4 := 0) rfl (by decide +kernel) ?_
  refine pw_iconst (n := 3) (v := 3) (by decide) (by decide +kernel) ?_
  refine kw_newI 53 3 (by decide +kernel) (by decide) (by decide) (by decide) (by decide +kernel) (by decide) (by decide) (by decide) ?_
  refine pq_putP (c := 2) (k := 5) (kg_49 (by decide)) (by decide) (by decide) lf_La_21 (Or.inr ⟨rfl, rfl⟩) (by decide +kernel) ?_
  refine pw_aload_n (k4 := 0) rfl (by decide +kernel) ?_
  refine pw_iconst (n := 3) (v := 3) (by decide) (by decide +kernel) ?_
  refine kw_newZ 54 3 (by decide +kernel) (by decide) (by decide) (by decide) (by decide +kernel) (by decide) (by decide) (by decide) ?_
  refine pq_putP (c := 2) (k := 6) (kg_49 (by decide)) (by decide) (by decide) lf_La_24 (Or.inr ⟨rfl, rfl⟩) (by decide +kernel) ?_
  refine pw_aload_n (k4 := 0) rfl (by decide +kernel) ?_
  refine pw_bipush (n := 7) (v := 7) (by decide) (by decide +kernel) ?_
  refine kw_newL 55 7 (by decide +kernel) (by decide) (by decide) (by decide) (by decide +kernel) (by decide) (by decide) (by decide) ?_
  refine pq_putP (c := 2) (k := 7) (kg_49 (by decide)) (by decide) (by decide) lf_La_28 (Or.inr ⟨rfl, rfl⟩) (by decide +kernel) ?_
  refine pw_aload_n (k4 := 0) rfl (by decide +kernel) ?_
  refine pw_bipush (n := 64) (v := 64) (by decide) (by decide +kernel) ?_
  refine kw_newL 56 64 (by decide +kernel) (by decide) (by decide) (by decide) (by decide +kernel) (by decide) (by decide) (by decide) ?_
  refine pq_putP (c := 2) (k := 8) (kg_49 (by decide)) (by decide) (by decide) lf_La_32 (Or.inr ⟨rfl, rfl⟩) (by decide +kernel) ?_
  exact kw_vret rfl (by decide +kernel) ⟨rfl, rfl⟩
def iTa30I (I : Nat → Nat → Int32) : Nat → Nat → Int32 := (iLa49I (zI (iSw45I (zI (zI (zI (zI (zI (zI (zI (zI (zI (zI (zI (zI (zI (zI (zI I 31) 32) 33) 34) 35) 36) 37) 38) 39) 40) 41) 42) 43) 44) 45)) 49))
def iTa30L (L : Nat → Nat → Int64) : Nat → Nat → Int64 := (iLa49L (zL (iSw45L (zL (zL (zL (zL (zL (zL (zL (zL (zL (zL (zL (zL (zL (zL (zL L 31) 32) 33) 34) 35) 36) 37) 38) 39) 40) 41) 42) 43) 44) 45)) 49))
def iTa30P (P : Nat → Nat → Option Nat) : Nat → Nat → Option Nat := (sP (iLa49P (zP (sP (iSw45P (zP (sP (zP (sP (zP (sP (zP (sP (zP (sP (zP (sP (zP (sP (zP (sP (zP (sP (zP (sP (zP (sP (zP (sP (zP (sP (zP (sP (zP P 31) 30 1 31) 32) 30 2 32) 33) 30 3 33) 34) 30 4 34) 35) 30 5 35) 36) 30 7 36) 37) 30 8 37) 38) 30 9 38) 39) 30 10 39) 40) 30 11 40) 41) 30 13 41) 42) 30 14 42) 43) 30 15 43) 44) 30 16 44) 45)) 30 17 45) 49)) 30 18 49)
set_option maxHeartbeats 2000000 in
theorem ct_Ta30_init {x0 : pSh} {I : Nat → Nat → Int32} {L : Nat → Nat → Int64} {P : Nat → Nat → Option Nat} : kCt m_Ta_init 2 x0 31 57 [.ref 30] (I, L, P) (rV (iTa30I I, iTa30L L, iTa30P P)) := by
  refine kCt_of (by decide +kernel) (Nat.le_of_ble_eq_true rfl) (by decide) (by decide) ?_
  refine pw_aload_n (k4 := 0) rfl (by decide +kernel) ?_
  refine pw_objInit (by decide +kernel) lo_Ta oi_i oi_c (by decide) (Nat.le_of_ble_eq_true rfl) ?_
  refine pw_aload_n (k4 := 0) rfl (by decide +kernel) ?_
  refine pw_iconst (n := 5) (v := 5) (by decide) (by decide +kernel) ?_
  refine kw_newI 31 5 (by decide +kernel) (by decide) (by decide) (by decide) (by decide +kernel) (by decide) (by decide) (by decide) ?_
  refine pq_putP (c := 7) (k := 1) (kg_30 (by decide)) (by decide) (by decide) lf_Ta_9 (Or.inr ⟨rfl, rfl⟩) (by decide +kernel) ?_
  refine pw_aload_n (k4 := 0) rfl (by decide +kernel) ?_
  refine pw_iconst (n := 5) (v := 5) (by decide) (by decide +kernel) ?_
  refine kw_newI 32 5 (by decide +kernel) (by decide) (by decide) (by decide) (by decide +kernel) (by decide) (by decide) (by decide) ?_
  refine pq_putP (c := 7) (k := 2) (kg_30 (by decide)) (by decide) (by decide) lf_Ta_15 (Or.inr ⟨rfl, rfl⟩) (by decide +kernel) ?_
  refine pw_aload_n (k4 := 0) rfl (by decide +kernel) ?_
  refine pw_iconst (n := 5) (v := 5) (by decide) (by decide +kernel) ?_
  refine kw_newI 33 5 (by decide +kernel) (by decide) (by decide) (by decide) (by decide +kernel) (by decide) (by decide) (by decide) ?_
  refine pq_putP (c := 7) (k := 3) (kg_30 (by decide)) (by decide) (by decide) lf_Ta_18 (Or.inr ⟨rfl, rfl⟩) (by decide +kernel) ?_
  refine pw_aload_n (k4 := 0) rfl (by decide +kernel) ?_
  refine pw_iconst (n := 5) (v := 5) (by decide) (by decide +kernel) ?_
  refine kw_newI 34 5 (by decide +kernel) (by decide) (by decide) (by decide) (by decide +kernel) (by decide) (by decide) (by decide) ?_
  refine pq_putP (c := 7) (k := 4) (kg_30 (by decide)) (by decide) (by decide) lf_Ta_21 (Or.inr ⟨rfl, rfl⟩) (by decide +kernel) ?_
  refine pw_aload_n (k4 := 0) rfl (by decide +kernel) ?_
  refine pw_iconst (n := 5) (v := 5) (by decide) (by decide +kernel) ?_
  refine kw_newI 35 5 (by decide +kernel) (by decide) (by decide) (by decide) (by decide +kernel) (by decide) (by decide) (by decide) ?_
  refine pq_putP (c := 7) (k := 5) (kg_30 (by decide)) (by decide) (by decide) lf_Ta_24 (Or.inr ⟨rfl, rfl⟩) (by decide +kernel) ?_
  refine pw_aload_n (k4 := 0) rfl (by decide +kernel) ?_
  refine pw_bipush (n := 16) (v := 16) (by decide) (by decide +kernel) ?_
  refine kw_newI 36 16 (by decide +kernel) (by decide) (by decide) (by decide) (by decide +kernel) (by decide) (by decide) (by decide) ?_
  refine pq_putP (c := 7) (k := 7) (kg_30 (by decide)) (by decide) (by decide) lf_Ta_27 (Or.inr ⟨rfl, rfl⟩) (by decide +kernel) ?_
  refine pw_aload_n (k4 := 0) rfl (by decide +kernel) ?_
  refine pw_bipush (n := 16) (v := 16) (by decide) (by decide +kernel) ?_
  refine kw_newI 37 16 (by decide +kernel) (by decide) (by decide) (by decide) (by decide +kernel) (by decide) (by decide) (by decide) ?_
  refine pq_putP (c := 7) (k := 8) (kg_30 (by decide)) (by decide) (by decide) lf_Ta_30 (Or.inr ⟨rfl, rfl⟩) (by decide +kernel) ?_
  refine pw_aload_n (k4 := 0) rfl (by decide +kernel) ?_
  refine pw_bipush (n := 16) (v := 16) (by decide) (by decide +kernel) ?_
  refine kw_newI 38 16 (by decide +kernel) (by decide) (by decide) (by decide) (by decide +kernel) (by decide) (by decide) (by decide) ?_
  refine pq_putP (c := 7) (k := 9) (kg_30 (by decide)) (by decide) (by decide) lf_Ta_33 (Or.inr ⟨rfl, rfl⟩) (by decide +kernel) ?_
  refine pw_aload_n (k4 := 0) rfl (by decide +kernel) ?_
  refine pw_bipush (n := 16) (v := 16) (by decide) (by decide +kernel) ?_
  refine kw_newI 39 16 (by decide +kernel) (by decide) (by decide) (by decide) (by decide +kernel) (by decide) (by decide) (by decide) ?_
  refine pq_putP (c := 7) (k := 10) (kg_30 (by decide)) (by decide) (by decide) lf_Ta_36 (Or.inr ⟨rfl, rfl⟩) (by decide +kernel) ?_
  refine pw_aload_n (k4 := 0) rfl (by decide +kernel) ?_
  refine pw_bipush (n := 16) (v := 16) (by decide) (by decide +kernel) ?_
  refine kw_newI 40 16 (by decide +kernel) (by decide) (by decide) (by decide) (by decide +kernel) (by decide) (by decide) (by decide) ?_
  refine pq_putP (c := 7) (k := 11) (kg_30 (by decide)) (by decide) (by decide) lf_Ta_39 (Or.inr ⟨rfl, rfl⟩) (by decide +kernel) ?_
  refine pw_aload_n (k4 := 0) rfl (by decide +kernel) ?_
  refine pw_bipush (n := 8) (v := 8) (by decide) (by decide +kernel) ?_
  refine kw_newI 41 8 (by decide +kernel) (by decide) (by decide) (by decide) (by decide +kernel) (by decide) (by decide) (by decide) ?_
  refine pq_putP (c := 7) (k := 13) (kg_30 (by decide)) (by decide) (by decide) lf_Ta_42 (Or.inr ⟨rfl, rfl⟩) (by decide +kernel) ?_
  refine pw_aload_n (k4 := 0) rfl (by decide +kernel) ?_
  refine pw_bipush (n := 8) (v := 8) (by decide) (by decide +kernel) ?_
  refine kw_newI 42 8 (by decide +kernel) (by decide) (by decide) (by decide) (by decide +kernel) (by decide) (by decide) (by decide) ?_
  refine pq_putP (c := 7) (k := 14) (kg_30 (by decide)) (by decide) (by decide) lf_Ta_45 (Or.inr ⟨rfl, rfl⟩) (by decide +kernel) ?_
  refine pw_aload_n (k4 := 0) rfl (by decide +kernel) ?_
  refine pw_bipush (n := 8) (v := 8) (by decide) (by decide +kernel) ?_
  refine kw_newI 43 8 (by decide +kernel) (by decide) (by decide) (by decide) (by decide +kernel) (by decide) (by decide) (by decide) ?_
  refine pq_putP (c := 7) (k := 15) (kg_30 (by decide)) (by decide) (by decide) lf_Ta_48 (Or.inr ⟨rfl, rfl⟩) (by decide +kernel) ?_
  refine pw_aload_n (k4 := 0) rfl (by decide +kernel) ?_
  refine pw_bipush (n := 8) (v := 8) (by decide) (by decide +kernel) ?_
  refine kw_newI 44 8 (by decide +kernel) (by decide) (by decide) (by decide) (by decide +kernel) (by decide) (by decide) (by decide) ?_
  refine pq_putP (c := 7) (k := 16) (kg_30 (by decide)) (by decide) (by decide) lf_Ta_51 (Or.inr ⟨rfl, rfl⟩) (by decide +kernel) ?_
  refine pw_aload_n (k4 := 0) rfl (by decide +kernel) ?_
  refine kw_new 45 6 (by decide +kernel) (by decide) lk_Ta_54 ins_Sw ini_Sw (by decide +kernel) (by decide) (by decide) (by decide) ?_
  refine pw_dup rfl (by decide +kernel) ?_
  refine kw_callN (ν := m_Sw_init) (d' := 1) (av := []) (a := 45) (n := 46) (n' := 49) (by decide +kernel) (List.mem_of_getElem? (i := 1) rfl) ok_Sw_init rfl (show _ = some 0 by decide +kernel) (by decide) (Nat.le_of_ble_eq_true rfl) (by decide) (by decide) (by decide) ct_Sw45_init ?_
  rintro _ _ ⟨rfl, rfl⟩
  refine pq_putP (c := 7) (k := 17) (kg_30 (by decide)) (by decide) (by decide) lf_Ta_57 (Or.inr ⟨rfl, rfl⟩) (by decide +kernel) ?_
  refine pw_aload_n (k4 := 0) rfl (by decide +kernel) ?_
  refine kw_new 49 2 (by decide +kernel) (by decide) lk_Ta_61 ins_La ini_La (by decide +kernel) (by decide) (by decide) (by decide) ?_
  refine pw_dup rfl (by decide +kernel) ?_
  refine kw_callN (ν := m_La_init) (d' := 1) (av := []) (a := 49) (n := 50) (n' := 57) (by decide +kernel) (List.mem_of_getElem? (i := 2) rfl) ok_La_init rfl (show _ = some 0 by decide +kernel) (by decide) (Nat.le_of_ble_eq_true rfl) (by decide) (by decide) (by decide) ct_La49_init ?_
  rintro _ _ ⟨rfl, rfl⟩
  refine pq_putP (c := 7) (k := 18) (kg_30 (by decide)) (by decide) (by decide) lf_Ta_64 (Or.inr ⟨rfl, rfl⟩) (by decide +kernel) ?_
  exact kw_vret rfl (by decide +kernel) ⟨rfl, rfl⟩
def iWo62I (I : Nat → Nat → Int32) : Nat → Nat → Int32 := (sI (sI (zI (zI (zI (zI (zI I 63) 64) 65) 66) 67) 62 2 (1)) 62 3 (1))
def iWo62L (L : Nat → Nat → Int64) : Nat → Nat → Int64 := (zL (zL (zL (zL (zL L 63) 64) 65) 66) 67)
def iWo62P (P : Nat → Nat → Option Nat) : Nat → Nat → Option Nat := (sP (sP (sP (zP (sP (zP (sP (zP (sP (zP (sP (zP P 63) 62 4 63) 64) 62 5 64) 65) 62 6 65) 66) 62 7 66) 67) 62 8 67) 62 0 3) 62 9 61)
set_option maxHeartbeats 2000000 in
theorem ct_Wo62_init {x0 : pSh} {I : Nat → Nat → Int32} {L : Nat → Nat → Int64} {P : Nat → Nat → Option Nat} : kCt m_Wo_init 1 x0 63 68 [.ref 62, .ref 3, .ref 61] (I, L, P) (rV (iWo62I I, iWo62L L, iWo62P P)) := by
  refine kCt_of (by decide +kernel) (Nat.le_of_ble_eq_true rfl) (by decide) (by decide) ?_
  refine pw_aload_n (k4 := 0) rfl (by decide +kernel) ?_
  refine pw_objInit (by decide +kernel) lo_Wo oi_i oi_c (by decide) (Nat.le_of_ble_eq_true rfl) ?_
  refine pw_aload_n (k4 := 0) rfl (by decide +kernel) ?_
  refine pw_bipush (n := 16) (v := 16) (by decide) (by decide +kernel) ?_
  refine kw_newI 63 16 (by decide +kernel) (by decide) (by decide) (by decide) (by decide +kernel) (by decide) (by decide) (by decide) ?_
  refine pq_putP (c := 9) (k := 4) (kg_62 (by decide)) (by decide) (by decide) lf_Wo_11 (Or.inr ⟨rfl, rfl⟩) (by decide +kernel) ?_
  refine pw_aload_n (k4 := 0) rfl (by decide +kernel) ?_
  refine pw_bipush (n := 16) (v := 16) (by decide) (by decide +kernel) ?_
  refine kw_newI 64 16 (by decide +kernel) (by decide) (by decide) (by decide) (by decide +kernel) (by decide) (by decide) (by decide) ?_
  refine pq_putP (c := 9) (k := 5) (kg_62 (by decide)) (by decide) (by decide) lf_Wo_17 (Or.inr ⟨rfl, rfl⟩) (by decide +kernel) ?_
  refine pw_aload_n (k4 := 0) rfl (by decide +kernel) ?_
  refine pw_bipush (n := 16) (v := 16) (by decide) (by decide +kernel) ?_
  refine kw_newI 65 16 (by decide +kernel) (by decide) (by decide) (by decide) (by decide +kernel) (by decide) (by decide) (by decide) ?_
  refine pq_putP (c := 9) (k := 6) (kg_62 (by decide)) (by decide) (by decide) lf_Wo_20 (Or.inr ⟨rfl, rfl⟩) (by decide +kernel) ?_
  refine pw_aload_n (k4 := 0) rfl (by decide +kernel) ?_
  refine pw_bipush (n := 10) (v := 10) (by decide) (by decide +kernel) ?_
  refine kw_newI 66 10 (by decide +kernel) (by decide) (by decide) (by decide) (by decide +kernel) (by decide) (by decide) (by decide) ?_
  refine pq_putP (c := 9) (k := 7) (kg_62 (by decide)) (by decide) (by decide) lf_Wo_23 (Or.inr ⟨rfl, rfl⟩) (by decide +kernel) ?_
  refine pw_aload_n (k4 := 0) rfl (by decide +kernel) ?_
  refine pw_bipush (n := 8) (v := 8) (by decide) (by decide +kernel) ?_
  refine kw_newI 67 8 (by decide +kernel) (by decide) (by decide) (by decide) (by decide +kernel) (by decide) (by decide) (by decide) ?_
  refine pq_putP (c := 9) (k := 8) (kg_62 (by decide)) (by decide) (by decide) lf_Wo_26 (Or.inr ⟨rfl, rfl⟩) (by decide +kernel) ?_
  refine pw_aload_n (k4 := 0) rfl (by decide +kernel) ?_
  refine pw_aload_n (k4 := 1) rfl (by decide +kernel) ?_
  refine pq_putP (c := 9) (k := 0) (kg_62 (by decide)) (by decide) (by decide) lf_Wo_29 (Or.inl rfl) (by decide +kernel) ?_
  refine pw_aload_n (k4 := 0) rfl (by decide +kernel) ?_
  refine pw_aload_n (k4 := 2) rfl (by decide +kernel) ?_
  refine pq_putP (c := 9) (k := 9) (kg_62 (by decide)) (by decide) (by decide) lf_Wo_33 (Or.inr ⟨rfl, rfl⟩) (by decide +kernel) ?_
  refine pw_aload_n (k4 := 0) rfl (by decide +kernel) ?_
  refine pw_iconst (n := 1) (v := 1) (by decide) (by decide +kernel) ?_
  refine pq_putZ (c := 9) (k := 2) (kg_62 (by decide)) (by decide) (by decide) (by decide) lf_Wo_36 (Or.inl rfl) (by decide +kernel) ?_
  refine pw_aload_n (k4 := 0) rfl (by decide +kernel) ?_
  refine pw_iconst (n := 1) (v := 1) (by decide) (by decide +kernel) ?_
  refine pq_putZ (c := 9) (k := 3) (kg_62 (by decide)) (by decide) (by decide) (by decide) lf_Wo_40 (Or.inl rfl) (by decide +kernel) ?_
  exact kw_vret rfl (by decide +kernel) ⟨rfl, rfl⟩
def iWo68I (I : Nat → Nat → Int32) : Nat → Nat → Int32 := (sI (sI (zI (zI (zI (zI (zI I 69) 70) 71) 72) 73) 68 2 (1)) 68 3 (1))
def iWo68L (L : Nat → Nat → Int64) : Nat → Nat → Int64 := (zL (zL (zL (zL (zL L 69) 70) 71) 72) 73)
def iWo68P (P : Nat → Nat → Option Nat) : Nat → Nat → Option Nat := (sP (sP (sP (zP (sP (zP (sP (zP (sP (zP (sP (zP P 69) 68 4 69) 70) 68 5 70) 71) 68 6 71) 72) 68 7 72) 73) 68 8 73) 68 0 3) 68 9 61)
set_option maxHeartbeats 2000000 in
theorem ct_Wo68_init {x0 : pSh} {I : Nat → Nat → Int32} {L : Nat → Nat → Int64} {P : Nat → Nat → Option Nat} : kCt m_Wo_init 1 x0 69 74 [.ref 68, .ref 3, .ref 61] (I, L, P) (rV (iWo68I I, iWo68L L, iWo68P P)) := by
  refine kCt_of (by decide +kernel) (Nat.le_of_ble_eq_true rfl) (by decide) (by decide) ?_
  refine pw_aload_n (k4 := 0) rfl (by decide +kernel) ?_
  refine pw_objInit (by decide +kernel) lo_Wo oi_i oi_c (by decide) (Nat.le_of_ble_eq_true rfl) ?_
  refine pw_aload_n (k4 := 0) rfl (by decide +kernel) ?_
  refine pw_bipush (n := 16) (v := 16) (by decide) (by decide +kernel) ?_
  refine kw_newI 69 16 (by decide +kernel) (by decide) (by decide) (by decide) (by decide +kernel) (by decide) (by decide) (by decide) ?_
  refine pq_putP (c := 9) (k := 4) (kg_68 (by decide)) (by decide) (by decide) lf_Wo_11 (Or.inr ⟨rfl, rfl⟩) (by decide +kernel) ?_
  refine pw_aload_n (k4 := 0) rfl (by decide +kernel) ?_
  refine pw_bipush (n := 16) (v := 16) (by decide) (by decide +kernel) ?_
  refine kw_newI 70 16 (by decide +kernel) (by decide) (by decide) (by decide) (by decide +kernel) (by decide) (by decide) (by decide) ?_
  refine pq_putP (c := 9) (k := 5) (kg_68 (by decide)) (by decide) (by decide) lf_Wo_17 (Or.inr ⟨rfl, rfl⟩) (by decide +kernel) ?_
  refine pw_aload_n (k4 := 0) rfl (by decide +kernel) ?_
  refine pw_bipush (n := 16) (v := 16) (by decide) (by decide +kernel) ?_
  refine kw_newI 71 16 (by decide +kernel) (by decide) (by decide) (by decide) (by decide +kernel) (by decide) (by decide) (by decide) ?_
  refine pq_putP (c := 9) (k := 6) (kg_68 (by decide)) (by decide) (by decide) lf_Wo_20 (Or.inr ⟨rfl, rfl⟩) (by decide +kernel) ?_
  refine pw_aload_n (k4 := 0) rfl (by decide +kernel) ?_
  refine pw_bipush (n := 10) (v := 10) (by decide) (by decide +kernel) ?_
  refine kw_newI 72 10 (by decide +kernel) (by decide) (by decide) (by decide) (by decide +kernel) (by decide) (by decide) (by decide) ?_
  refine pq_putP (c := 9) (k := 7) (kg_68 (by decide)) (by decide) (by decide) lf_Wo_23 (Or.inr ⟨rfl, rfl⟩) (by decide +kernel) ?_
  refine pw_aload_n (k4 := 0) rfl (by decide +kernel) ?_
  refine pw_bipush (n := 8) (v := 8) (by decide) (by decide +kernel) ?_
  refine kw_newI 73 8 (by decide +kernel) (by decide) (by decide) (by decide) (by decide +kernel) (by decide) (by decide) (by decide) ?_
  refine pq_putP (c := 9) (k := 8) (kg_68 (by decide)) (by decide) (by decide) lf_Wo_26 (Or.inr ⟨rfl, rfl⟩) (by decide +kernel) ?_
  refine pw_aload_n (k4 := 0) rfl (by decide +kernel) ?_
  refine pw_aload_n (k4 := 1) rfl (by decide +kernel) ?_
  refine pq_putP (c := 9) (k := 0) (kg_68 (by decide)) (by decide) (by decide) lf_Wo_29 (Or.inl rfl) (by decide +kernel) ?_
  refine pw_aload_n (k4 := 0) rfl (by decide +kernel) ?_
  refine pw_aload_n (k4 := 2) rfl (by decide +kernel) ?_
  refine pq_putP (c := 9) (k := 9) (kg_68 (by decide)) (by decide) (by decide) lf_Wo_33 (Or.inr ⟨rfl, rfl⟩) (by decide +kernel) ?_
  refine pw_aload_n (k4 := 0) rfl (by decide +kernel) ?_
  refine pw_iconst (n := 1) (v := 1) (by decide) (by decide +kernel) ?_
  refine pq_putZ (c := 9) (k := 2) (kg_68 (by decide)) (by decide) (by decide) (by decide) lf_Wo_36 (Or.inl rfl) (by decide +kernel) ?_
  refine pw_aload_n (k4 := 0) rfl (by decide +kernel) ?_
  refine pw_iconst (n := 1) (v := 1) (by decide) (by decide +kernel) ?_
  refine pq_putZ (c := 9) (k := 3) (kg_68 (by decide)) (by decide) (by decide) (by decide) lf_Wo_40 (Or.inl rfl) (by decide +kernel) ?_
  exact kw_vret rfl (by decide +kernel) ⟨rfl, rfl⟩
def iWo74I (I : Nat → Nat → Int32) : Nat → Nat → Int32 := (sI (sI (zI (zI (zI (zI (zI I 75) 76) 77) 78) 79) 74 2 (1)) 74 3 (1))
def iWo74L (L : Nat → Nat → Int64) : Nat → Nat → Int64 := (zL (zL (zL (zL (zL L 75) 76) 77) 78) 79)
def iWo74P (P : Nat → Nat → Option Nat) : Nat → Nat → Option Nat := (sP (sP (sP (zP (sP (zP (sP (zP (sP (zP (sP (zP P 75) 74 4 75) 76) 74 5 76) 77) 74 6 77) 78) 74 7 78) 79) 74 8 79) 74 0 3) 74 9 61)
set_option maxHeartbeats 2000000 in
theorem ct_Wo74_init {x0 : pSh} {I : Nat → Nat → Int32} {L : Nat → Nat → Int64} {P : Nat → Nat → Option Nat} : kCt m_Wo_init 1 x0 75 80 [.ref 74, .ref 3, .ref 61] (I, L, P) (rV (iWo74I I, iWo74L L, iWo74P P)) := by
  refine kCt_of (by decide +kernel) (Nat.le_of_ble_eq_true rfl) (by decide) (by decide) ?_
  refine pw_aload_n (k4 := 0) rfl (by decide +kernel) ?_
  refine pw_objInit (by decide +kernel) lo_Wo oi_i oi_c (by decide) (Nat.le_of_ble_eq_true rfl) ?_
  refine pw_aload_n (k4 := 0) rfl (by decide +kernel) ?_
  refine pw_bipush (n := 16) (v := 16) (by decide) (by decide +kernel) ?_
  refine kw_newI 75 16 (by decide +kernel) (by decide) (by decide) (by decide) (by decide +kernel) (by decide) (by decide) (by decide) ?_
  refine pq_putP (c := 9) (k := 4) (kg_74 (by decide)) (by decide) (by decide) lf_Wo_11 (Or.inr ⟨rfl, rfl⟩) (by decide +kernel) ?_
  refine pw_aload_n (k4 := 0) rfl (by decide +kernel) ?_
  refine pw_bipush (n := 16) (v := 16) (by decide) (by decide +kernel) ?_
  refine kw_newI 76 16 (by decide +kernel) (by decide) (by decide) (by decide) (by decide +kernel) (by decide) (by decide) (by decide) ?_
  refine pq_putP (c := 9) (k := 5) (kg_74 (by decide)) (by decide) (by decide) lf_Wo_17 (Or.inr ⟨rfl, rfl⟩) (by decide +kernel) ?_
  refine pw_aload_n (k4 := 0) rfl (by decide +kernel) ?_
  refine pw_bipush (n := 16) (v := 16) (by decide) (by decide +kernel) ?_
  refine kw_newI 77 16 (by decide +kernel) (by decide) (by decide) (by decide) (by decide +kernel) (by decide) (by decide) (by decide) ?_
  refine pq_putP (c := 9) (k := 6) (kg_74 (by decide)) (by decide) (by decide) lf_Wo_20 (Or.inr ⟨rfl, rfl⟩) (by decide +kernel) ?_
  refine pw_aload_n (k4 := 0) rfl (by decide +kernel) ?_
  refine pw_bipush (n := 10) (v := 10) (by decide) (by decide +kernel) ?_
  refine kw_newI 78 10 (by decide +kernel) (by decide) (by decide) (by decide) (by decide +kernel) (by decide) (by decide) (by decide) ?_
  refine pq_putP (c := 9) (k := 7) (kg_74 (by decide)) (by decide) (by decide) lf_Wo_23 (Or.inr ⟨rfl, rfl⟩) (by decide +kernel) ?_
  refine pw_aload_n (k4 := 0) rfl (by decide +kernel) ?_
  refine pw_bipush (n := 8) (v := 8) (by decide) (by decide +kernel) ?_
  refine kw_newI 79 8 (by decide +kernel) (by decide) (by decide) (by decide) (by decide +kernel) (by decide) (by decide) (by decide) ?_
  refine pq_putP (c := 9) (k := 8) (kg_74 (by decide)) (by decide) (by decide) lf_Wo_26 (Or.inr ⟨rfl, rfl⟩) (by decide +kernel) ?_
  refine pw_aload_n (k4 := 0) rfl (by decide +kernel) ?_
  refine pw_aload_n (k4 := 1) rfl (by decide +kernel) ?_
  refine pq_putP (c := 9) (k := 0) (kg_74 (by decide)) (by decide) (by decide) lf_Wo_29 (Or.inl rfl) (by decide +kernel) ?_
  refine pw_aload_n (k4 := 0) rfl (by decide +kernel) ?_
  refine pw_aload_n (k4 := 2) rfl (by decide +kernel) ?_
  refine pq_putP (c := 9) (k := 9) (kg_74 (by decide)) (by decide) (by decide) lf_Wo_33 (Or.inr ⟨rfl, rfl⟩) (by decide +kernel) ?_
  refine pw_aload_n (k4 := 0) rfl (by decide +kernel) ?_
  refine pw_iconst (n := 1) (v := 1) (by decide) (by decide +kernel) ?_
  refine pq_putZ (c := 9) (k := 2) (kg_74 (by decide)) (by decide) (by decide) (by decide) lf_Wo_36 (Or.inl rfl) (by decide +kernel) ?_
  refine pw_aload_n (k4 := 0) rfl (by decide +kernel) ?_
  refine pw_iconst (n := 1) (v := 1) (by decide) (by decide +kernel) ?_
  refine pq_putZ (c := 9) (k := 3) (kg_74 (by decide)) (by decide) (by decide) (by decide) lf_Wo_40 (Or.inl rfl) (by decide +kernel) ?_
  exact kw_vret rfl (by decide +kernel) ⟨rfl, rfl⟩
def iTr123I (I : Nat → Nat → Int32) : Nat → Nat → Int32 := (zI (zI (sI I 123 1 (-1)) 124) 125)
def iTr123L (L : Nat → Nat → Int64) : Nat → Nat → Int64 := (zL (zL L 124) 125)
def iTr123P (P : Nat → Nat → Option Nat) : Nat → Nat → Option Nat := (sP (zP (sP (zP P 124) 123 2 124) 125) 123 3 125)
set_option maxHeartbeats 2000000 in
theorem ct_Tr123_init {x0 : pSh} {I : Nat → Nat → Int32} {L : Nat → Nat → Int64} {P : Nat → Nat → Option Nat} : kCt m_Tr_init 1 x0 124 126 [.ref 123] (I, L, P) (rV (iTr123I I, iTr123L L, iTr123P P)) := by
  refine kCt_of (by decide +kernel) (Nat.le_of_ble_eq_true rfl) (by decide) (by decide) ?_
  refine pw_aload_n (k4 := 0) rfl (by decide +kernel) ?_
  refine pw_objInit (by decide +kernel) lo_Tr oi_i oi_c (by decide) (Nat.le_of_ble_eq_true rfl) ?_
  refine pw_aload_n (k4 := 0) rfl (by decide +kernel) ?_
  refine pw_iconst (n := -1) (v := -1) (by decide) (by decide +kernel) ?_
  refine pq_putI (c := 8) (k := 1) (kg_123 (by decide)) (by decide) (by decide) lf_Tr_11 (Or.inl rfl) (by decide +kernel) ?_
  refine pw_aload_n (k4 := 0) rfl (by decide +kernel) ?_
  refine pw_bipush (n := 24) (v := 24) (by decide) (by decide +kernel) ?_
  refine kw_newI 124 24 (by decide +kernel) (by decide) (by decide) (by decide) (by decide +kernel) (by decide) (by decide) (by decide) ?_
  refine pq_putP (c := 8) (k := 2) (kg_123 (by decide)) (by decide) (by decide) lf_Tr_15 (Or.inr ⟨rfl, rfl⟩) (by decide +kernel) ?_
  refine pw_aload_n (k4 := 0) rfl (by decide +kernel) ?_
  refine pw_bipush (n := 24) (v := 24) (by decide) (by decide +kernel) ?_
  refine kw_newI 125 24 (by decide +kernel) (by decide) (by decide) (by decide) (by decide +kernel) (by decide) (by decide) (by decide) ?_
  refine pq_putP (c := 8) (k := 3) (kg_123 (by decide)) (by decide) (by decide) lf_Tr_19 (Or.inr ⟨rfl, rfl⟩) (by decide +kernel) ?_
  exact kw_vret rfl (by decide +kernel) ⟨rfl, rfl⟩
def iCp126I (I : Nat → Nat → Int32) : Nat → Nat → Int32 := (zI (zI (zI (zI (zI I 127) 128) 129) 130) 131)
def iCp126L (L : Nat → Nat → Int64) : Nat → Nat → Int64 := (zL (zL (zL (zL (zL L 127) 128) 129) 130) 131)
def iCp126P (P : Nat → Nat → Option Nat) : Nat → Nat → Option Nat := (sP (zP (sP (zP (sP (zP (sP (zP (sP (zP P 127) 126 1 127) 128) 126 2 128) 129) 126 3 129) 130) 126 4 130) 131) 126 5 131)
set_option maxHeartbeats 2000000 in
theorem ct_Cp126_init {x0 : pSh} {I : Nat → Nat → Int32} {L : Nat → Nat → Int64} {P : Nat → Nat → Option Nat} : kCt m_Cp_init 1 x0 127 132 [.ref 126] (I, L, P) (rV (iCp126I I, iCp126L L, iCp126P P)) := by
  refine kCt_of (by decide +kernel) (Nat.le_of_ble_eq_true rfl) (by decide) (by decide) ?_
  refine pw_aload_n (k4 := 0) rfl (by decide +kernel) ?_
  refine pw_objInit (by decide +kernel) lo_Cp oi_i oi_c (by decide) (Nat.le_of_ble_eq_true rfl) ?_
  refine pw_aload_n (k4 := 0) rfl (by decide +kernel) ?_
  refine pw_bipush (n := 16) (v := 16) (by decide) (by decide +kernel) ?_
  refine kw_newI 127 16 (by decide +kernel) (by decide) (by decide) (by decide) (by decide +kernel) (by decide) (by decide) (by decide) ?_
  refine pq_putP (c := 0) (k := 1) (kg_126 (by decide)) (by decide) (by decide) lf_Cp_9 (Or.inr ⟨rfl, rfl⟩) (by decide +kernel) ?_
  refine pw_aload_n (k4 := 0) rfl (by decide +kernel) ?_
  refine pw_bipush (n := 16) (v := 16) (by decide) (by decide +kernel) ?_
  refine kw_newI 128 16 (by decide +kernel) (by decide) (by decide) (by decide) (by decide +kernel) (by decide) (by decide) (by decide) ?_
  refine pq_putP (c := 0) (k := 2) (kg_126 (by decide)) (by decide) (by decide) lf_Cp_15 (Or.inr ⟨rfl, rfl⟩) (by decide +kernel) ?_
  refine pw_aload_n (k4 := 0) rfl (by decide +kernel) ?_
  refine pw_bipush (n := 16) (v := 16) (by decide) (by decide +kernel) ?_
  refine kw_newI 129 16 (by decide +kernel) (by decide) (by decide) (by decide) (by decide +kernel) (by decide) (by decide) (by decide) ?_
  refine pq_putP (c := 0) (k := 3) (kg_126 (by decide)) (by decide) (by decide) lf_Cp_18 (Or.inr ⟨rfl, rfl⟩) (by decide +kernel) ?_
  refine pw_aload_n (k4 := 0) rfl (by decide +kernel) ?_
  refine pw_sipush (n := 256) (v := 256) (by decide) (by decide +kernel) ?_
  refine kw_newL 130 256 (by decide +kernel) (by decide) (by decide) (by decide) (by decide +kernel) (by decide) (by decide) (by decide) ?_
  refine pq_putP (c := 0) (k := 4) (kg_126 (by decide)) (by decide) (by decide) lf_Cp_21 (Or.inr ⟨rfl, rfl⟩) (by decide +kernel) ?_
  refine pw_aload_n (k4 := 0) rfl (by decide +kernel) ?_
  refine pw_bipush (n := 8) (v := 8) (by decide) (by decide +kernel) ?_
  refine kw_newL 131 8 (by decide +kernel) (by decide) (by decide) (by decide) (by decide +kernel) (by decide) (by decide) (by decide) ?_
  refine pq_putP (c := 0) (k := 5) (kg_126 (by decide)) (by decide) (by decide) lf_Cp_25 (Or.inr ⟨rfl, rfl⟩) (by decide +kernel) ?_
  exact kw_vret rfl (by decide +kernel) ⟨rfl, rfl⟩
def iSt132I (I : Nat → Nat → Int32) : Nat → Nat → Int32 := I
def iSt132L (L : Nat → Nat → Int64) : Nat → Nat → Int64 := L
def iSt132P (P : Nat → Nat → Option Nat) : Nat → Nat → Option Nat := (sP P 132 2 62)
set_option maxHeartbeats 2000000 in
theorem ct_St132_init {x0 : pSh} {I : Nat → Nat → Int32} {L : Nat → Nat → Int64} {P : Nat → Nat → Option Nat} : kCt m_St_init 1 x0 133 133 [.ref 132, .ref 62] (I, L, P) (rV (iSt132I I, iSt132L L, iSt132P P)) := by
  refine kCt_of (by decide +kernel) (Nat.le_of_ble_eq_true rfl) (by decide) (by decide) ?_
  refine pw_aload_n (k4 := 0) rfl (by decide +kernel) ?_
  refine pw_objInit (by decide +kernel) lo_St oi_i oi_c (by decide) (Nat.le_of_ble_eq_true rfl) ?_
  refine pw_aload_n (k4 := 0) rfl (by decide +kernel) ?_
  refine pw_aload_n (k4 := 1) rfl (by decide +kernel) ?_
  refine pq_putP (c := 5) (k := 2) (kg_132 (by decide)) (by decide) (by decide) lf_St_9 (Or.inr ⟨rfl, rfl⟩) (by decide +kernel) ?_
  exact kw_vret rfl (by decide +kernel) ⟨rfl, rfl⟩
