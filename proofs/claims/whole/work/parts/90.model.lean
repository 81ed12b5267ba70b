/-! ===== the reference is made ===== -/
def mk1I (I : Nat → Nat → Int32) : Nat → Nat → Int32 := (zI (zI I 135) 136)
def mk1L (L : Nat → Nat → Int64) : Nat → Nat → Int64 := (zL (zL L 135) 136)
def mk1P (P : Nat → Nat → Option Nat) : Nat → Nat → Option Nat := (zP (sP (zP P 135) 134 0 135) 136)
theorem mk1I_lo (I : Nat → Nat → Int32) {a : Nat} (h : a < 134) : mk1I I a = I a := by
  unfold mk1I
  rw [zI_ne (by omega), zI_ne (by omega)]
theorem mk1L_lo (L : Nat → Nat → Int64) {a : Nat} (h : a < 134) : mk1L L a = L a := by
  unfold mk1L
  rw [zL_ne (by omega), zL_ne (by omega)]
theorem mk1P_lo (P : Nat → Nat → Option Nat) {a : Nat} (h : a < 134) : mk1P P a = P a := by
  unfold mk1P
  rw [zP_ne (by omega), sP_ne (by omega), zP_ne (by omega)]
theorem mq_1 {x0 : pSh} {Q : Option Value → pM → Prop} {I : Nat → Nat → Int32} {L : Nat → Nat → Int64} {P : Nat → Nat → Option Nat} (k : kWP m_Mo_init 2 x0 185 Q 18 [some (.ref 134)] [.ref 136, .ref 134] 137 (mk1I I, mk1L L, mk1P P)) : kWP m_Mo_init 2 x0 185 Q 0 [some (.ref 134)] [] 135 (I, L, P) := by
  refine pw_aload_n (k4 := 0) rfl (by decide +kernel) ?_
  refine pw_objInit (by decide +kernel) lo_Mo oi_i oi_c (by decide) (Nat.le_of_ble_eq_true rfl) ?_
  refine pw_aload_n (k4 := 0) rfl (by decide +kernel) ?_
  refine pw_sipush (n := 700) (v := 700) (by decide) (by decide +kernel) ?_
  refine kw_newI 135 700 (by decide +kernel) (by decide) (by decide) (by decide) (by decide +kernel) (by decide) (by decide) (by decide) ?_
  refine pq_putP (c := 11) (k := 0) (kg_134 (by decide)) (by decide) (by decide) lf_Mo_7 (Or.inr ⟨rfl, rfl⟩) (by decide +kernel) ?_
  refine pw_aload_n (k4 := 0) rfl (by decide +kernel) ?_
  refine pw_bipush (n := 127) (v := 127) (by decide) (by decide +kernel) ?_
  refine kw_newI 136 127 (by decide +kernel) (by decide) (by decide) (by decide) (by decide +kernel) (by decide) (by decide) (by decide) ?_
  exact k
def mk2I (I : Nat → Nat → Int32) : Nat → Nat → Int32 := (sI (sI (sI (sI (sI (sI (sI (sI (sI (sI (sI (sI (sI (sI (sI (sI (sI (sI (sI (sI (sI (sI (sI (sI (sI (sI (sI (sI (sI (sI (sI (sI I 136 0 (112)) 136 1 (101)) 136 2 (114)) 136 3 (115)) 136 4 (111)) 136 5 (110)) 136 6 (32)) 136 7 (115)) 136 8 (104)) 136 9 (111)) 136 10 (101)) 136 11 (32)) 136 12 (100)) 136 13 (101)) 136 14 (98)) 136 15 (116)) 136 16 (32)) 136 17 (99)) 136 18 (108)) 136 19 (97)) 136 20 (105)) 136 21 (109)) 136 22 (32)) 136 23 (115)) 136 24 (119)) 136 25 (97)) 136 26 (112)) 136 27 (32)) 136 28 (115)) 136 29 (101)) 136 30 (101)) 136 31 (100))
def mk2L (L : Nat → Nat → Int64) : Nat → Nat → Int64 := L
def mk2P (P : Nat → Nat → Option Nat) : Nat → Nat → Option Nat := P
theorem mk2I_lo (I : Nat → Nat → Int32) {a : Nat} (h : a < 134) : mk2I I a = I a := by
  unfold mk2I
  rw [sI_ne (by omega), sI_ne (by omega), sI_ne (by omega), sI_ne (by omega), sI_ne (by omega), sI_ne (by omega), sI_ne (by omega), sI_ne (by omega), sI_ne (by omega), sI_ne (by omega), sI_ne (by omega), sI_ne (by omega), sI_ne (by omega), sI_ne (by omega), sI_ne (by omega), sI_ne (by omega), sI_ne (by omega), sI_ne (by omega), sI_ne (by omega), sI_ne (by omega), sI_ne (by omega), sI_ne (by omega), sI_ne (by omega), sI_ne (by omega), sI_ne (by omega), sI_ne (by omega), sI_ne (by omega), sI_ne (by omega), sI_ne (by omega), sI_ne (by omega), sI_ne (by omega), sI_ne (by omega)]
theorem mk2L_lo (L : Nat → Nat → Int64) {a : Nat} (h : a < 134) : mk2L L a = L a := by
  unfold mk2L
  rfl
theorem mk2P_lo (P : Nat → Nat → Option Nat) {a : Nat} (h : a < 134) : mk2P P a = P a := by
  unfold mk2P
  rfl
theorem mq_2 {x0 : pSh} {Q : Option Value → pM → Prop} {I : Nat → Nat → Int32} {L : Nat → Nat → Int64} {P : Nat → Nat → Option Nat} (k : kWP m_Mo_init 2 x0 185 Q 204 [some (.ref 134)] [.ref 136, .ref 134] 137 (mk2I I, mk2L L, mk2P P)) : kWP m_Mo_init 2 x0 185 Q 18 [some (.ref 134)] [.ref 136, .ref 134] 137 (I, L, P) := by
  refine pw_dup rfl (by decide +kernel) ?_
  refine pw_iconst (n := 0) (v := 0) (by decide) (by decide +kernel) ?_
  refine pw_bipush (n := 112) (v := 112) (by decide) (by decide +kernel) ?_
  refine pq_iast 0 (by decide) (by decide) (by decide) (kg_136 (by decide)) (by decide +kernel) ?_
  refine pw_dup rfl (by decide +kernel) ?_
  refine pw_iconst (n := 1) (v := 1) (by decide) (by decide +kernel) ?_
  refine pw_bipush (n := 101) (v := 101) (by decide) (by decide +kernel) ?_
  refine pq_iast 1 (by decide) (by decide) (by decide) (kg_136 (by decide)) (by decide +kernel) ?_
  refine pw_dup rfl (by decide +kernel) ?_
  refine pw_iconst (n := 2) (v := 2) (by decide) (by decide +kernel) ?_
  refine pw_bipush (n := 114) (v := 114) (by decide) (by decide +kernel) ?_
  refine pq_iast 2 (by decide) (by decide) (by decide) (kg_136 (by decide)) (by decide +kernel) ?_
  refine pw_dup rfl (by decide +kernel) ?_
  refine pw_iconst (n := 3) (v := 3) (by decide) (by decide +kernel) ?_
  refine pw_bipush (n := 115) (v := 115) (by decide) (by decide +kernel) ?_
  refine pq_iast 3 (by decide) (by decide) (by decide) (kg_136 (by decide)) (by decide +kernel) ?_
  refine pw_dup rfl (by decide +kernel) ?_
  refine pw_iconst (n := 4) (v := 4) (by decide) (by decide +kernel) ?_
  refine pw_bipush (n := 111) (v := 111) (by decide) (by decide +kernel) ?_
  refine pq_iast 4 (by decide) (by decide) (by decide) (kg_136 (by decide)) (by decide +kernel) ?_
  refine pw_dup rfl (by decide +kernel) ?_
  refine pw_iconst (n := 5) (v := 5) (by decide) (by decide +kernel) ?_
  refine pw_bipush (n := 110) (v := 110) (by decide) (by decide +kernel) ?_
  refine pq_iast 5 (by decide) (by decide) (by decide) (kg_136 (by decide)) (by decide +kernel) ?_
  refine pw_dup rfl (by decide +kernel) ?_
  refine pw_bipush (n := 6) (v := 6) (by decide) (by decide +kernel) ?_
  refine pw_bipush (n := 32) (v := 32) (by decide) (by decide +kernel) ?_
  refine pq_iast 6 (by decide) (by decide) (by decide) (kg_136 (by decide)) (by decide +kernel) ?_
  refine pw_dup rfl (by decide +kernel) ?_
  refine pw_bipush (n := 7) (v := 7) (by decide) (by decide +kernel) ?_
  refine pw_bipush (n := 115) (v := 115) (by decide) (by decide +kernel) ?_
  refine pq_iast 7 (by decide) (by decide) (by decide) (kg_136 (by decide)) (by decide +kernel) ?_
  refine pw_dup rfl (by decide +kernel) ?_
  refine pw_bipush (n := 8) (v := 8) (by decide) (by decide +kernel) ?_
  refine pw_bipush (n := 104) (v := 104) (by decide) (by decide +kernel) ?_
  refine pq_iast 8 (by decide) (by decide) (by decide) (kg_136 (by decide)) (by decide +kernel) ?_
  refine pw_dup rfl (by decide +kernel) ?_
  refine pw_bipush (n := 9) (v := 9) (by decide) (by decide +kernel) ?_
  refine pw_bipush (n := 111) (v := 111) (by decide) (by decide +kernel) ?_
  refine pq_iast 9 (by decide) (by decide) (by decide) (kg_136 (by decide)) (by decide +kernel) ?_
  refine pw_dup rfl (by decide +kernel) ?_
  refine pw_bipush (n := 10) (v := 10) (by decide) (by decide +kernel) ?_
  refine pw_bipush (n := 101) (v := 101) (by decide) (by decide +kernel) ?_
  refine pq_iast 10 (by decide) (by decide) (by decide) (kg_136 (by decide)) (by decide +kernel) ?_
  refine pw_dup rfl (by decide +kernel) ?_
  refine pw_bipush (n := 11) (v := 11) (by decide) (by decide +kernel) ?_
  refine pw_bipush (n := 32) (v := 32) (by decide) (by decide +kernel) ?_
  refine pq_iast 11 (by decide) (by decide) (by decide) (kg_136 (by decide)) (by decide +kernel) ?_
  refine pw_dup rfl (by decide +kernel) ?_
  refine pw_bipush (n := 12) (v := 12) (by decide) (by decide +kernel) ?_
  refine pw_bipush (n := 100) (v := 100) (by decide) (by decide +kernel) ?_
  refine pq_iast 12 (by decide) (by decide) (by decide) (kg_136 (by decide)) (by decide +kernel) ?_
  refine pw_dup rfl (by decide +kernel) ?_
  refine pw_bipush (n := 13) (v := 13) (by decide) (by decide +kernel) ?_
  refine pw_bipush (n := 101) (v := 101) (by decide) (by decide +kernel) ?_
  refine pq_iast 13 (by decide) (by decide) (by decide) (kg_136 (by decide)) (by decide +kernel) ?_
  refine pw_dup rfl (by decide +kernel) ?_
  refine pw_bipush (n := 14) (v := 14) (by decide) (by decide +kernel) ?_
  refine pw_bipush (n := 98) (v := 98) (by decide) (by decide +kernel) ?_
  refine pq_iast 14 (by decide) (by decide) (by decide) (kg_136 (by decide)) (by decide +kernel) ?_
  refine pw_dup rfl (by decide +kernel) ?_
  refine pw_bipush (n := 15) (v := 15) (by decide) (by decide +kernel) ?_
  refine pw_bipush (n := 116) (v := 116) (by decide) (by decide +kernel) ?_
  refine pq_iast 15 (by decide) (by decide) (by decide) (kg_136 (by decide)) (by decide +kernel) ?_
  refine pw_dup rfl (by decide +kernel) ?_
  refine pw_bipush (n := 16) (v := 16) (by decide) (by decide +kernel) ?_
  refine pw_bipush (n := 32) (v := 32) (by decide) (by decide +kernel) ?_
  refine pq_iast 16 (by decide) (by decide) (by decide) (kg_136 (by decide)) (by decide +kernel) ?_
  refine pw_dup rfl (by decide +kernel) ?_
  refine pw_bipush (n := 17) (v := 17) (by decide) (by decide +kernel) ?_
  refine pw_bipush (n := 99) (v := 99) (by decide) (by decide +kernel) ?_
  refine pq_iast 17 (by decide) (by decide) (by decide) (kg_136 (by decide)) (by decide +kernel) ?_
  refine pw_dup rfl (by decide +kernel) ?_
  refine pw_bipush (n := 18) (v := 18) (by decide) (by decide +kernel) ?_
  refine pw_bipush (n := 108) (v := 108) (by decide) (by decide +kernel) ?_
  refine pq_iast 18 (by decide) (by decide) (by decide) (kg_136 (by decide)) (by decide +kernel) ?_
  refine pw_dup rfl (by decide +kernel) ?_
  refine pw_bipush (n := 19) (v := 19) (by decide) (by decide +kernel) ?_
  refine pw_bipush (n := 97) (v := 97) (by decide) (by decide +kernel) ?_
  refine pq_iast 19 (by decide) (by decide) (by decide) (kg_136 (by decide)) (by decide +kernel) ?_
  refine pw_dup rfl (by decide +kernel) ?_
  refine pw_bipush (n := 20) (v := 20) (by decide) (by decide +kernel) ?_
  refine pw_bipush (n := 105) (v := 105) (by decide) (by decide +kernel) ?_
  refine pq_iast 20 (by decide) (by decide) (by decide) (kg_136 (by decide)) (by decide +kernel) ?_
  refine pw_dup rfl (by decide +kernel) ?_
  refine pw_bipush (n := 21) (v := 21) (by decide) (by decide +kernel) ?_
  refine pw_bipush (n := 109) (v := 109) (by decide) (by decide +kernel) ?_
  refine pq_iast 21 (by decide) (by decide) (by decide) (kg_136 (by decide)) (by decide +kernel) ?_
  refine pw_dup rfl (by decide +kernel) ?_
  refine pw_bipush (n := 22) (v := 22) (by decide) (by decide +kernel) ?_
  refine pw_bipush (n := 32) (v := 32) (by decide) (by decide +kernel) ?_
  refine pq_iast 22 (by decide) (by decide) (by decide) (kg_136 (by decide)) (by decide +kernel) ?_
  refine pw_dup rfl (by decide +kernel) ?_
  refine pw_bipush (n := 23) (v := 23) (by decide) (by decide +kernel) ?_
  refine pw_bipush (n := 115) (v := 115) (by decide) (by decide +kernel) ?_
  refine pq_iast 23 (by decide) (by decide) (by decide) (kg_136 (by decide)) (by decide +kernel) ?_
  refine pw_dup rfl (by decide +kernel) ?_
  refine pw_bipush (n := 24) (v := 24) (by decide) (by decide +kernel) ?_
  refine pw_bipush (n := 119) (v := 119) (by decide) (by decide +kernel) ?_
  refine pq_iast 24 (by decide) (by decide) (by decide) (kg_136 (by decide)) (by decide +kernel) ?_
  refine pw_dup rfl (by decide +kernel) ?_
  refine pw_bipush (n := 25) (v := 25) (by decide) (by decide +kernel) ?_
  refine pw_bipush (n := 97) (v := 97) (by decide) (by decide +kernel) ?_
  refine pq_iast 25 (by decide) (by decide) (by decide) (kg_136 (by decide)) (by decide +kernel) ?_
  refine pw_dup rfl (by decide +kernel) ?_
  refine pw_bipush (n := 26) (v := 26) (by decide) (by decide +kernel) ?_
  refine pw_bipush (n := 112) (v := 112) (by decide) (by decide +kernel) ?_
  refine pq_iast 26 (by decide) (by decide) (by decide) (kg_136 (by decide)) (by decide +kernel) ?_
  refine pw_dup rfl (by decide +kernel) ?_
  refine pw_bipush (n := 27) (v := 27) (by decide) (by decide +kernel) ?_
  refine pw_bipush (n := 32) (v := 32) (by decide) (by decide +kernel) ?_
  refine pq_iast 27 (by decide) (by decide) (by decide) (kg_136 (by decide)) (by decide +kernel) ?_
  refine pw_dup rfl (by decide +kernel) ?_
  refine pw_bipush (n := 28) (v := 28) (by decide) (by decide +kernel) ?_
  refine pw_bipush (n := 115) (v := 115) (by decide) (by decide +kernel) ?_
  refine pq_iast 28 (by decide) (by decide) (by decide) (kg_136 (by decide)) (by decide +kernel) ?_
  refine pw_dup rfl (by decide +kernel) ?_
  refine pw_bipush (n := 29) (v := 29) (by decide) (by decide +kernel) ?_
  refine pw_bipush (n := 101) (v := 101) (by decide) (by decide +kernel) ?_
  refine pq_iast 29 (by decide) (by decide) (by decide) (kg_136 (by decide)) (by decide +kernel) ?_
  refine pw_dup rfl (by decide +kernel) ?_
  refine pw_bipush (n := 30) (v := 30) (by decide) (by decide +kernel) ?_
  refine pw_bipush (n := 101) (v := 101) (by decide) (by decide +kernel) ?_
  refine pq_iast 30 (by decide) (by decide) (by decide) (kg_136 (by decide)) (by decide +kernel) ?_
  refine pw_dup rfl (by decide +kernel) ?_
  refine pw_bipush (n := 31) (v := 31) (by decide) (by decide +kernel) ?_
  refine pw_bipush (n := 100) (v := 100) (by decide) (by decide +kernel) ?_
  refine pq_iast 31 (by decide) (by decide) (by decide) (kg_136 (by decide)) (by decide +kernel) ?_
  exact k
def mk3I (I : Nat → Nat → Int32) : Nat → Nat → Int32 := (sI (sI (sI (sI (sI (sI (sI (sI (sI (sI (sI (sI (sI (sI (sI (sI (sI (sI (sI (sI (sI (sI (sI (sI (sI (sI (sI (sI (sI (sI (sI (sI I 136 32 (32)) 136 33 (108)) 136 34 (97)) 136 35 (119)) 136 36 (32)) 136 37 (108)) 136 38 (101)) 136 39 (102)) 136 40 (116)) 136 41 (32)) 136 42 (114)) 136 43 (105)) 136 44 (103)) 136 45 (104)) 136 46 (116)) 136 47 (32)) 136 48 (98)) 136 49 (111)) 136 50 (111)) 136 51 (116)) 136 52 (32)) 136 53 (115)) 136 54 (97)) 136 55 (110)) 136 56 (100)) 136 57 (97)) 136 58 (108)) 136 59 (32)) 136 60 (102)) 136 61 (101)) 136 62 (108)) 136 63 (116))
def mk3L (L : Nat → Nat → Int64) : Nat → Nat → Int64 := L
def mk3P (P : Nat → Nat → Option Nat) : Nat → Nat → Option Nat := P
theorem mk3I_lo (I : Nat → Nat → Int32) {a : Nat} (h : a < 134) : mk3I I a = I a := by
  unfold mk3I
  rw [sI_ne (by omega), sI_ne (by omega), sI_ne (by omega), sI_ne (by omega), sI_ne (by omega), sI_ne (by omega), sI_ne (by omega), sI_ne (by omega), sI_ne (by omega), sI_ne (by omega), sI_ne (by omega), sI_ne (by omega), sI_ne (by omega), sI_ne (by omega), sI_ne (by omega), sI_ne (by omega), sI_ne (by omega), sI_ne (by omega), sI_ne (by omega), sI_ne (by omega), sI_ne (by omega), sI_ne (by omega), sI_ne (by omega), sI_ne (by omega), sI_ne (by omega), sI_ne (by omega), sI_ne (by omega), sI_ne (by omega), sI_ne (by omega), sI_ne (by omega), sI_ne (by omega), sI_ne (by omega)]
theorem mk3L_lo (L : Nat → Nat → Int64) {a : Nat} (h : a < 134) : mk3L L a = L a := by
  unfold mk3L
  rfl
theorem mk3P_lo (P : Nat → Nat → Option Nat) {a : Nat} (h : a < 134) : mk3P P a = P a := by
  unfold mk3P
  rfl
theorem mq_3 {x0 : pSh} {Q : Option Value → pM → Prop} {I : Nat → Nat → Int32} {L : Nat → Nat → Int64} {P : Nat → Nat → Option Nat} (k : kWP m_Mo_init 2 x0 185 Q 396 [some (.ref 134)] [.ref 136, .ref 134] 137 (mk3I I, mk3L L, mk3P P)) : kWP m_Mo_init 2 x0 185 Q 204 [some (.ref 134)] [.ref 136, .ref 134] 137 (I, L, P) := by
  refine pw_dup rfl (by decide +kernel) ?_
  refine pw_bipush (n := 32) (v := 32) (by decide) (by decide +kernel) ?_
  refine pw_bipush (n := 32) (v := 32) (by decide) (by decide +kernel) ?_
  refine pq_iast 32 (by decide) (by decide) (by decide) (kg_136 (by decide)) (by decide +kernel) ?_
  refine pw_dup rfl (by decide +kernel) ?_
  refine pw_bipush (n := 33) (v := 33) (by decide) (by decide +kernel) ?_
  refine pw_bipush (n := 108) (v := 108) (by decide) (by decide +kernel) ?_
  refine pq_iast 33 (by decide) (by decide) (by decide) (kg_136 (by decide)) (by decide +kernel) ?_
  refine pw_dup rfl (by decide +kernel) ?_
  refine pw_bipush (n := 34) (v := 34) (by decide) (by decide +kernel) ?_
  refine pw_bipush (n := 97) (v := 97) (by decide) (by decide +kernel) ?_
  refine pq_iast 34 (by decide) (by decide) (by decide) (kg_136 (by decide)) (by decide +kernel) ?_
  refine pw_dup rfl (by decide +kernel) ?_
  refine pw_bipush (n := 35) (v := 35) (by decide) (by decide +kernel) ?_
  refine pw_bipush (n := 119) (v := 119) (by decide) (by decide +kernel) ?_
  refine pq_iast 35 (by decide) (by decide) (by decide) (kg_136 (by decide)) (by decide +kernel) ?_
  refine pw_dup rfl (by decide +kernel) ?_
  refine pw_bipush (n := 36) (v := 36) (by decide) (by decide +kernel) ?_
  refine pw_bipush (n := 32) (v := 32) (by decide) (by decide +kernel) ?_
  refine pq_iast 36 (by decide) (by decide) (by decide) (kg_136 (by decide)) (by decide +kernel) ?_
  refine pw_dup rfl (by decide +kernel) ?_
  refine pw_bipush (n := 37) (v := 37) (by decide) (by decide +kernel) ?_
  refine pw_bipush (n := 108) (v := 108) (by decide) (by decide +kernel) ?_
  refine pq_iast 37 (by decide) (by decide) (by decide) (kg_136 (by decide)) (by decide +kernel) ?_
  refine pw_dup rfl (by decide +kernel) ?_
  refine pw_bipush (n := 38) (v := 38) (by decide) (by decide +kernel) ?_
  refine pw_bipush (n := 101) (v := 101) (by decide) (by decide +kernel) ?_
  refine pq_iast 38 (by decide) (by decide) (by decide) (kg_136 (by decide)) (by decide +kernel) ?_
  refine pw_dup rfl (by decide +kernel) ?_
  refine pw_bipush (n := 39) (v := 39) (by decide) (by decide +kernel) ?_
  refine pw_bipush (n := 102) (v := 102) (by decide) (by decide +kernel) ?_
  refine pq_iast 39 (by decide) (by decide) (by decide) (kg_136 (by decide)) (by decide +kernel) ?_
  refine pw_dup rfl (by decide +kernel) ?_
  refine pw_bipush (n := 40) (v := 40) (by decide) (by decide +kernel) ?_
  refine pw_bipush (n := 116) (v := 116) (by decide) (by decide +kernel) ?_
  refine pq_iast 40 (by decide) (by decide) (by decide) (kg_136 (by decide)) (by decide +kernel) ?_
  refine pw_dup rfl (by decide +kernel) ?_
  refine pw_bipush (n := 41) (v := 41) (by decide) (by decide +kernel) ?_
  refine pw_bipush (n := 32) (v := 32) (by decide) (by decide +kernel) ?_
  refine pq_iast 41 (by decide) (by decide) (by decide) (kg_136 (by decide)) (by decide +kernel) ?_
  refine pw_dup rfl (by decide +kernel) ?_
  refine pw_bipush (n := 42) (v := 42) (by decide) (by decide +kernel) ?_
  refine pw_bipush (n := 114) (v := 114) (by decide) (by decide +kernel) ?_
  refine pq_iast 42 (by decide) (by decide) (by decide) (kg_136 (by decide)) (by decide +kernel) ?_
  refine pw_dup rfl (by decide +kernel) ?_
  refine pw_bipush (n := 43) (v := 43) (by decide) (by decide +kernel) ?_
  refine pw_bipush (n := 105) (v := 105) (by decide) (by decide +kernel) ?_
  refine pq_iast 43 (by decide) (by decide) (by decide) (kg_136 (by decide)) (by decide +kernel) ?_
  refine pw_dup rfl (by decide +kernel) ?_
  refine pw_bipush (n := 44) (v := 44) (by decide) (by decide +kernel) ?_
  refine pw_bipush (n := 103) (v := 103) (by decide) (by decide +kernel) ?_
  refine pq_iast 44 (by decide) (by decide) (by decide) (kg_136 (by decide)) (by decide +kernel) ?_
  refine pw_dup rfl (by decide +kernel) ?_
  refine pw_bipush (n := 45) (v := 45) (by decide) (by decide +kernel) ?_
  refine pw_bipush (n := 104) (v := 104) (by decide) (by decide +kernel) ?_
  refine pq_iast 45 (by decide) (by decide) (by decide) (kg_136 (by decide)) (by decide +kernel) ?_
  refine pw_dup rfl (by decide +kernel) ?_
  refine pw_bipush (n := 46) (v := 46) (by decide) (by decide +kernel) ?_
  refine pw_bipush (n := 116) (v := 116) (by decide) (by decide +kernel) ?_
  refine pq_iast 46 (by decide) (by decide) (by decide) (kg_136 (by decide)) (by decide +kernel) ?_
  refine pw_dup rfl (by decide +kernel) ?_
  refine pw_bipush (n := 47) (v := 47) (by decide) (by decide +kernel) ?_
  refine pw_bipush (n := 32) (v := 32) (by decide) (by decide +kernel) ?_
  refine pq_iast 47 (by decide) (by decide) (by decide) (kg_136 (by decide)) (by decide +kernel) ?_
  refine pw_dup rfl (by decide +kernel) ?_
  refine pw_bipush (n := 48) (v := 48) (by decide) (by decide +kernel) ?_
  refine pw_bipush (n := 98) (v := 98) (by decide) (by decide +kernel) ?_
  refine pq_iast 48 (by decide) (by decide) (by decide) (kg_136 (by decide)) (by decide +kernel) ?_
  refine pw_dup rfl (by decide +kernel) ?_
  refine pw_bipush (n := 49) (v := 49) (by decide) (by decide +kernel) ?_
  refine pw_bipush (n := 111) (v := 111) (by decide) (by decide +kernel) ?_
  refine pq_iast 49 (by decide) (by decide) (by decide) (kg_136 (by decide)) (by decide +kernel) ?_
  refine pw_dup rfl (by decide +kernel) ?_
  refine pw_bipush (n := 50) (v := 50) (by decide) (by decide +kernel) ?_
  refine pw_bipush (n := 111) (v := 111) (by decide) (by decide +kernel) ?_
  refine pq_iast 50 (by decide) (by decide) (by decide) (kg_136 (by decide)) (by decide +kernel) ?_
  refine pw_dup rfl (by decide +kernel) ?_
  refine pw_bipush (n := 51) (v := 51) (by decide) (by decide +kernel) ?_
  refine pw_bipush (n := 116) (v := 116) (by decide) (by decide +kernel) ?_
  refine pq_iast 51 (by decide) (by decide) (by decide) (kg_136 (by decide)) (by decide +kernel) ?_
  refine pw_dup rfl (by decide +kernel) ?_
  refine pw_bipush (n := 52) (v := 52) (by decide) (by decide +kernel) ?_
  refine pw_bipush (n := 32) (v := 32) (by decide) (by decide +kernel) ?_
  refine pq_iast 52 (by decide) (by decide) (by decide) (kg_136 (by decide)) (by decide +kernel) ?_
  refine pw_dup rfl (by decide +kernel) ?_
  refine pw_bipush (n := 53) (v := 53) (by decide) (by decide +kernel) ?_
  refine pw_bipush (n := 115) (v := 115) (by decide) (by decide +kernel) ?_
  refine pq_iast 53 (by decide) (by decide) (by decide) (kg_136 (by decide)) (by decide +kernel) ?_
  refine pw_dup rfl (by decide +kernel) ?_
  refine pw_bipush (n := 54) (v := 54) (by decide) (by decide +kernel) ?_
  refine pw_bipush (n := 97) (v := 97) (by decide) (by decide +kernel) ?_
  refine pq_iast 54 (by decide) (by decide) (by decide) (kg_136 (by decide)) (by decide +kernel) ?_
  refine pw_dup rfl (by decide +kernel) ?_
  refine pw_bipush (n := 55) (v := 55) (by decide) (by decide +kernel) ?_
  refine pw_bipush (n := 110) (v := 110) (by decide) (by decide +kernel) ?_
  refine pq_iast 55 (by decide) (by decide) (by decide) (kg_136 (by decide)) (by decide +kernel) ?_
  refine pw_dup rfl (by decide +kernel) ?_
  refine pw_bipush (n := 56) (v := 56) (by decide) (by decide +kernel) ?_
  refine pw_bipush (n := 100) (v := 100) (by decide) (by decide +kernel) ?_
  refine pq_iast 56 (by decide) (by decide) (by decide) (kg_136 (by decide)) (by decide +kernel) ?_
  refine pw_dup rfl (by decide +kernel) ?_
  refine pw_bipush (n := 57) (v := 57) (by decide) (by decide +kernel) ?_
  refine pw_bipush (n := 97) (v := 97) (by decide) (by decide +kernel) ?_
  refine pq_iast 57 (by decide) (by decide) (by decide) (kg_136 (by decide)) (by decide +kernel) ?_
  refine pw_dup rfl (by decide +kernel) ?_
  refine pw_bipush (n := 58) (v := 58) (by decide) (by decide +kernel) ?_
  refine pw_bipush (n := 108) (v := 108) (by decide) (by decide +kernel) ?_
  refine pq_iast 58 (by decide) (by decide) (by decide) (kg_136 (by decide)) (by decide +kernel) ?_
  refine pw_dup rfl (by decide +kernel) ?_
  refine pw_bipush (n := 59) (v := 59) (by decide) (by decide +kernel) ?_
  refine pw_bipush (n := 32) (v := 32) (by decide) (by decide +kernel) ?_
  refine pq_iast 59 (by decide) (by decide) (by decide) (kg_136 (by decide)) (by decide +kernel) ?_
  refine pw_dup rfl (by decide +kernel) ?_
  refine pw_bipush (n := 60) (v := 60) (by decide) (by decide +kernel) ?_
  refine pw_bipush (n := 102) (v := 102) (by decide) (by decide +kernel) ?_
  refine pq_iast 60 (by decide) (by decide) (by decide) (kg_136 (by decide)) (by decide +kernel) ?_
  refine pw_dup rfl (by decide +kernel) ?_
  refine pw_bipush (n := 61) (v := 61) (by decide) (by decide +kernel) ?_
  refine pw_bipush (n := 101) (v := 101) (by decide) (by decide +kernel) ?_
  refine pq_iast 61 (by decide) (by decide) (by decide) (kg_136 (by decide)) (by decide +kernel) ?_
  refine pw_dup rfl (by decide +kernel) ?_
  refine pw_bipush (n := 62) (v := 62) (by decide) (by decide +kernel) ?_
  refine pw_bipush (n := 108) (v := 108) (by decide) (by decide +kernel) ?_
  refine pq_iast 62 (by decide) (by decide) (by decide) (kg_136 (by decide)) (by decide +kernel) ?_
  refine pw_dup rfl (by decide +kernel) ?_
  refine pw_bipush (n := 63) (v := 63) (by decide) (by decide +kernel) ?_
  refine pw_bipush (n := 116) (v := 116) (by decide) (by decide +kernel) ?_
  refine pq_iast 63 (by decide) (by decide) (by decide) (kg_136 (by decide)) (by decide +kernel) ?_
  exact k
def mk4I (I : Nat → Nat → Int32) : Nat → Nat → Int32 := (sI (sI (sI (sI (sI (sI (sI (sI (sI (sI (sI (sI (sI (sI (sI (sI (sI (sI (sI (sI (sI (sI (sI (sI (sI (sI (sI (sI (sI (sI (sI (sI I 136 64 (32)) 136 65 (98)) 136 66 (97)) 136 67 (110)) 136 68 (107)) 136 69 (32)) 136 70 (119)) 136 71 (111)) 136 72 (114)) 136 73 (116)) 136 74 (104)) 136 75 (32)) 136 76 (112)) 136 77 (97)) 136 78 (105)) 136 79 (114)) 136 80 (32)) 136 81 (119)) 136 82 (101)) 136 83 (97)) 136 84 (114)) 136 85 (32)) 136 86 (97)) 136 87 (110)) 136 88 (100)) 136 89 (32)) 136 90 (111)) 136 91 (114)) 136 92 (32)) 136 93 (110)) 136 94 (111)) 136 95 (116))
def mk4L (L : Nat → Nat → Int64) : Nat → Nat → Int64 := L
def mk4P (P : Nat → Nat → Option Nat) : Nat → Nat → Option Nat := P
theorem mk4I_lo (I : Nat → Nat → Int32) {a : Nat} (h : a < 134) : mk4I I a = I a := by
  unfold mk4I
  rw [sI_ne (by omega), sI_ne (by omega), sI_ne (by omega), sI_ne (by omega), sI_ne (by omega), sI_ne (by omega), sI_ne (by omega), sI_ne (by omega), sI_ne (by omega), sI_ne (by omega), sI_ne (by omega), sI_ne (by omega), sI_ne (by omega), sI_ne (by omega), sI_ne (by omega), sI_ne (by omega), sI_ne (by omega), sI_ne (by omega), sI_ne (by omega), sI_ne (by omega), sI_ne (by omega), sI_ne (by omega), sI_ne (by omega), sI_ne (by omega), sI_ne (by omega), sI_ne (by omega), sI_ne (by omega), sI_ne (by omega), sI_ne (by omega), sI_ne (by omega), sI_ne (by omega), sI_ne (by omega)]
theorem mk4L_lo (L : Nat → Nat → Int64) {a : Nat} (h : a < 134) : mk4L L a = L a := by
  unfold mk4L
  rfl
theorem mk4P_lo (P : Nat → Nat → Option Nat) {a : Nat} (h : a < 134) : mk4P P a = P a := by
  unfold mk4P
  rfl
theorem mq_4 {x0 : pSh} {Q : Option Value → pM → Prop} {I : Nat → Nat → Int32} {L : Nat → Nat → Int64} {P : Nat → Nat → Option Nat} (k : kWP m_Mo_init 2 x0 185 Q 588 [some (.ref 134)] [.ref 136, .ref 134] 137 (mk4I I, mk4L L, mk4P P)) : kWP m_Mo_init 2 x0 185 Q 396 [some (.ref 134)] [.ref 136, .ref 134] 137 (I, L, P) := by
  refine pw_dup rfl (by decide +kernel) ?_
  refine pw_bipush (n := 64) (v := 64) (by decide) (by decide +kernel) ?_
  refine pw_bipush (n := 32) (v := 32) (by decide) (by decide +kernel) ?_
  refine pq_iast 64 (by decide) (by decide) (by decide) (kg_136 (by decide)) (by decide +kernel) ?_
  refine pw_dup rfl (by decide +kernel) ?_
  refine pw_bipush (n := 65) (v := 65) (by decide) (by decide +kernel) ?_
  refine pw_bipush (n := 98) (v := 98) (by decide) (by decide +kernel) ?_
  refine pq_iast 65 (by decide) (by decide) (by decide) (kg_136 (by decide)) (by decide +kernel) ?_
  refine pw_dup rfl (by decide +kernel) ?_
  refine pw_bipush (n := 66) (v := 66) (by decide) (by decide +kernel) ?_
  refine pw_bipush (n := 97) (v := 97) (by decide) (by decide +kernel) ?_
  refine pq_iast 66 (by decide) (by decide) (by decide) (kg_136 (by decide)) (by decide +kernel) ?_
  refine pw_dup rfl (by decide +kernel) ?_
  refine pw_bipush (n := 67) (v := 67) (by decide) (by decide +kernel) ?_
  refine pw_bipush (n := 110) (v := 110) (by decide) (by decide +kernel) ?_
  refine pq_iast 67 (by decide) (by decide) (by decide) (kg_136 (by decide)) (by decide +kernel) ?_
  refine pw_dup rfl (by decide +kernel) ?_
  refine pw_bipush (n := 68) (v := 68) (by decide) (by decide +kernel) ?_
  refine pw_bipush (n := 107) (v := 107) (by decide) (by decide +kernel) ?_
  refine pq_iast 68 (by decide) (by decide) (by decide) (kg_136 (by decide)) (by decide +kernel) ?_
  refine pw_dup rfl (by decide +kernel) ?_
  refine pw_bipush (n := 69) (v := 69) (by decide) (by decide +kernel) ?_
  refine pw_bipush (n := 32) (v := 32) (by decide) (by decide +kernel) ?_
  refine pq_iast 69 (by decide) (by decide) (by decide) (kg_136 (by decide)) (by decide +kernel) ?_
  refine pw_dup rfl (by decide +kernel) ?_
  refine pw_bipush (n := 70) (v := 70) (by decide) (by decide +kernel) ?_
  refine pw_bipush (n := 119) (v := 119) (by decide) (by decide +kernel) ?_
  refine pq_iast 70 (by decide) (by decide) (by decide) (kg_136 (by decide)) (by decide +kernel) ?_
  refine pw_dup rfl (by decide +kernel) ?_
  refine pw_bipush (n := 71) (v := 71) (by decide) (by decide +kernel) ?_
  refine pw_bipush (n := 111) (v := 111) (by decide) (by decide +kernel) ?_
  refine pq_iast 71 (by decide) (by decide) (by decide) (kg_136 (by decide)) (by decide +kernel) ?_
  refine pw_dup rfl (by decide +kernel) ?_
  refine pw_bipush (n := 72) (v := 72) (by decide) (by decide +kernel) ?_
  refine pw_bipush (n := 114) (v := 114) (by decide) (by decide +kernel) ?_
  refine pq_iast 72 (by decide) (by decide) (by decide) (kg_136 (by decide)) (by decide +kernel) ?_
  refine pw_dup rfl (by decide +kernel) ?_
  refine pw_bipush (n := 73) (v := 73) (by decide) (by decide +kernel) ?_
  refine pw_bipush (n := 116) (v := 116) (by decide) (by decide +kernel) ?_
  refine pq_iast 73 (by decide) (by decide) (by decide) (kg_136 (by decide)) (by decide +kernel) ?_
  refine pw_dup rfl (by decide +kernel) ?_
  refine pw_bipush (n := 74) (v := 74) (by decide) (by decide +kernel) ?_
  refine pw_bipush (n := 104) (v := 104) (by decide) (by decide +kernel) ?_
  refine pq_iast 74 (by decide) (by decide) (by decide) (kg_136 (by decide)) (by decide +kernel) ?_
  refine pw_dup rfl (by decide +kernel) ?_
  refine pw_bipush (n := 75) (v := 75) (by decide) (by decide +kernel) ?_
  refine pw_bipush (n := 32) (v := 32) (by decide) (by decide +kernel) ?_
  refine pq_iast 75 (by decide) (by decide) (by decide) (kg_136 (by decide)) (by decide +kernel) ?_
  refine pw_dup rfl (by decide +kernel) ?_
  refine pw_bipush (n := 76) (v := 76) (by decide) (by decide +kernel) ?_
  refine pw_bipush (n := 112) (v := 112) (by decide) (by decide +kernel) ?_
  refine pq_iast 76 (by decide) (by decide) (by decide) (kg_136 (by decide)) (by decide +kernel) ?_
  refine pw_dup rfl (by decide +kernel) ?_
  refine pw_bipush (n := 77) (v := 77) (by decide) (by decide +kernel) ?_
  refine pw_bipush (n := 97) (v := 97) (by decide) (by decide +kernel) ?_
  refine pq_iast 77 (by decide) (by decide) (by decide) (kg_136 (by decide)) (by decide +kernel) ?_
  refine pw_dup rfl (by decide +kernel) ?_
  refine pw_bipush (n := 78) (v := 78) (by decide) (by decide +kernel) ?_
  refine pw_bipush (n := 105) (v := 105) (by decide) (by decide +kernel) ?_
  refine pq_iast 78 (by decide) (by decide) (by decide) (kg_136 (by decide)) (by decide +kernel) ?_
  refine pw_dup rfl (by decide +kernel) ?_
  refine pw_bipush (n := 79) (v := 79) (by decide) (by decide +kernel) ?_
  refine pw_bipush (n := 114) (v := 114) (by decide) (by decide +kernel) ?_
  refine pq_iast 79 (by decide) (by decide) (by decide) (kg_136 (by decide)) (by decide +kernel) ?_
  refine pw_dup rfl (by decide +kernel) ?_
  refine pw_bipush (n := 80) (v := 80) (by decide) (by decide +kernel) ?_
  refine pw_bipush (n := 32) (v := 32) (by decide) (by decide +kernel) ?_
  refine pq_iast 80 (by decide) (by decide) (by decide) (kg_136 (by decide)) (by decide +kernel) ?_
  refine pw_dup rfl (by decide +kernel) ?_
  refine pw_bipush (n := 81) (v := 81) (by decide) (by decide +kernel) ?_
  refine pw_bipush (n := 119) (v := 119) (by decide) (by decide +kernel) ?_
  refine pq_iast 81 (by decide) (by decide) (by decide) (kg_136 (by decide)) (by decide +kernel) ?_
  refine pw_dup rfl (by decide +kernel) ?_
  refine pw_bipush (n := 82) (v := 82) (by decide) (by decide +kernel) ?_
  refine pw_bipush (n := 101) (v := 101) (by decide) (by decide +kernel) ?_
  refine pq_iast 82 (by decide) (by decide) (by decide) (kg_136 (by decide)) (by decide +kernel) ?_
  refine pw_dup rfl (by decide +kernel) ?_
  refine pw_bipush (n := 83) (v := 83) (by decide) (by decide +kernel) ?_
  refine pw_bipush (n := 97) (v := 97) (by decide) (by decide +kernel) ?_
  refine pq_iast 83 (by decide) (by decide) (by decide) (kg_136 (by decide)) (by decide +kernel) ?_
  refine pw_dup rfl (by decide +kernel) ?_
  refine pw_bipush (n := 84) (v := 84) (by decide) (by decide +kernel) ?_
  refine pw_bipush (n := 114) (v := 114) (by decide) (by decide +kernel) ?_
  refine pq_iast 84 (by decide) (by decide) (by decide) (kg_136 (by decide)) (by decide +kernel) ?_
  refine pw_dup rfl (by decide +kernel) ?_
  refine pw_bipush (n := 85) (v := 85) (by decide) (by decide +kernel) ?_
  refine pw_bipush (n := 32) (v := 32) (by decide) (by decide +kernel) ?_
  refine pq_iast 85 (by decide) (by decide) (by decide) (kg_136 (by decide)) (by decide +kernel) ?_
  refine pw_dup rfl (by decide +kernel) ?_
  refine pw_bipush (n := 86) (v := 86) (by decide) (by decide +kernel) ?_
  refine pw_bipush (n := 97) (v := 97) (by decide) (by decide +kernel) ?_
  refine pq_iast 86 (by decide) (by decide) (by decide) (kg_136 (by decide)) (by decide +kernel) ?_
  refine pw_dup rfl (by decide +kernel) ?_
  refine pw_bipush (n := 87) (v := 87) (by decide) (by decide +kernel) ?_
  refine pw_bipush (n := 110) (v := 110) (by decide) (by decide +kernel) ?_
  refine pq_iast 87 (by decide) (by decide) (by decide) (kg_136 (by decide)) (by decide +kernel) ?_
  refine pw_dup rfl (by decide +kernel) ?_
  refine pw_bipush (n := 88) (v := 88) (by decide) (by decide +kernel) ?_
  refine pw_bipush (n := 100) (v := 100) (by decide) (by decide +kernel) ?_
  refine pq_iast 88 (by decide) (by decide) (by decide) (kg_136 (by decide)) (by decide +kernel) ?_
  refine pw_dup rfl (by decide +kernel) ?_
  refine pw_bipush (n := 89) (v := 89) (by decide) (by decide +kernel) ?_
  refine pw_bipush (n := 32) (v := 32) (by decide) (by decide +kernel) ?_
  refine pq_iast 89 (by decide) (by decide) (by decide) (kg_136 (by decide)) (by decide +kernel) ?_
  refine pw_dup rfl (by decide +kernel) ?_
  refine pw_bipush (n := 90) (v := 90) (by decide) (by decide +kernel) ?_
  refine pw_bipush (n := 111) (v := 111) (by decide) (by decide +kernel) ?_
  refine pq_iast 90 (by decide) (by decide) (by decide) (kg_136 (by decide)) (by decide +kernel) ?_
  refine pw_dup rfl (by decide +kernel) ?_
  refine pw_bipush (n := 91) (v := 91) (by decide) (by decide +kernel) ?_
  refine pw_bipush (n := 114) (v := 114) (by decide) (by decide +kernel) ?_
  refine pq_iast 91 (by decide) (by decide) (by decide) (kg_136 (by decide)) (by decide +kernel) ?_
  refine pw_dup rfl (by decide +kernel) ?_
  refine pw_bipush (n := 92) (v := 92) (by decide) (by decide +kernel) ?_
  refine pw_bipush (n := 32) (v := 32) (by decide) (by decide +kernel) ?_
  refine pq_iast 92 (by decide) (by decide) (by decide) (kg_136 (by decide)) (by decide +kernel) ?_
  refine pw_dup rfl (by decide +kernel) ?_
  refine pw_bipush (n := 93) (v := 93) (by decide) (by decide +kernel) ?_
  refine pw_bipush (n := 110) (v := 110) (by decide) (by decide +kernel) ?_
  refine pq_iast 93 (by decide) (by decide) (by decide) (kg_136 (by decide)) (by decide +kernel) ?_
  refine pw_dup rfl (by decide +kernel) ?_
  refine pw_bipush (n := 94) (v := 94) (by decide) (by decide +kernel) ?_
  refine pw_bipush (n := 111) (v := 111) (by decide) (by decide +kernel) ?_
  refine pq_iast 94 (by decide) (by decide) (by decide) (kg_136 (by decide)) (by decide +kernel) ?_
  refine pw_dup rfl (by decide +kernel) ?_
  refine pw_bipush (n := 95) (v := 95) (by decide) (by decide +kernel) ?_
  refine pw_bipush (n := 116) (v := 116) (by decide) (by decide +kernel) ?_
  refine pq_iast 95 (by decide) (by decide) (by decide) (kg_136 (by decide)) (by decide +kernel) ?_
  exact k
def mk5I (I : Nat → Nat → Int32) : Nat → Nat → Int32 := (sI (sI (sI (sI (sI (sI (sI (sI (sI (sI (sI (sI (sI (sI (sI (sI (sI (sI (sI (sI (sI (sI (sI (sI (sI (sI (sI (sI (sI (sI (sI I 136 96 (32)) 136 97 (115)) 136 98 (105)) 136 99 (122)) 136 100 (101)) 136 101 (32)) 136 102 (117)) 136 103 (115)) 136 104 (101)) 136 105 (100)) 136 106 (32)) 136 107 (115)) 136 108 (111)) 136 109 (114)) 136 110 (116)) 136 111 (32)) 136 112 (115)) 136 113 (116)) 136 114 (101)) 136 115 (112)) 136 116 (115)) 136 117 (32)) 136 118 (100)) 136 119 (97)) 136 120 (121)) 136 121 (32)) 136 122 (102)) 136 123 (111)) 136 124 (111)) 136 125 (116)) 136 126 (32))
def mk5L (L : Nat → Nat → Int64) : Nat → Nat → Int64 := L
def mk5P (P : Nat → Nat → Option Nat) : Nat → Nat → Option Nat := P
theorem mk5I_lo (I : Nat → Nat → Int32) {a : Nat} (h : a < 134) : mk5I I a = I a := by
  unfold mk5I
  rw [sI_ne (by omega), sI_ne (by omega), sI_ne (by omega), sI_ne (by omega), sI_ne (by omega), sI_ne (by omega), sI_ne (by omega), sI_ne (by omega), sI_ne (by omega), sI_ne (by omega), sI_ne (by omega), sI_ne (by omega), sI_ne (by omega), sI_ne (by omega), sI_ne (by omega), sI_ne (by omega), sI_ne (by omega), sI_ne (by omega), sI_ne (by omega), sI_ne (by omega), sI_ne (by omega), sI_ne (by omega), sI_ne (by omega), sI_ne (by omega), sI_ne (by omega), sI_ne (by omega), sI_ne (by omega), sI_ne (by omega), sI_ne (by omega), sI_ne (by omega), sI_ne (by omega)]
theorem mk5L_lo (L : Nat → Nat → Int64) {a : Nat} (h : a < 134) : mk5L L a = L a := by
  unfold mk5L
  rfl
theorem mk5P_lo (P : Nat → Nat → Option Nat) {a : Nat} (h : a < 134) : mk5P P a = P a := by
  unfold mk5P
  rfl
theorem mq_5 {x0 : pSh} {Q : Option Value → pM → Prop} {I : Nat → Nat → Int32} {L : Nat → Nat → Int64} {P : Nat → Nat → Option Nat} (k : kWP m_Mo_init 2 x0 185 Q 774 [some (.ref 134)] [.ref 136, .ref 134] 137 (mk5I I, mk5L L, mk5P P)) : kWP m_Mo_init 2 x0 185 Q 588 [some (.ref 134)] [.ref 136, .ref 134] 137 (I, L, P) := by
  refine pw_dup rfl (by decide +kernel) ?_
  refine pw_bipush (n := 96) (v := 96) (by decide) (by decide +kernel) ?_
  refine pw_bipush (n := 32) (v := 32) (by decide) (by decide +kernel) ?_
  refine pq_iast 96 (by decide) (by decide) (by decide) (kg_136 (by decide)) (by decide +kernel) ?_
  refine pw_dup rfl (by decide +kernel) ?_
  refine pw_bipush (n := 97) (v := 97) (by decide) (by decide +kernel) ?_
  refine pw_bipush (n := 115) (v := 115) (by decide) (by decide +kernel) ?_
  refine pq_iast 97 (by decide) (by decide) (by decide) (kg_136 (by decide)) (by decide +kernel) ?_
  refine pw_dup rfl (by decide +kernel) ?_
  refine pw_bipush (n := 98) (v := 98) (by decide) (by decide +kernel) ?_
  refine pw_bipush (n := 105) (v := 105) (by decide) (by decide +kernel) ?_
  refine pq_iast 98 (by decide) (by decide) (by decide) (kg_136 (by decide)) (by decide +kernel) ?_
  refine pw_dup rfl (by decide +kernel) ?_
  refine pw_bipush (n := 99) (v := 99) (by decide) (by decide +kernel) ?_
  refine pw_bipush (n := 122) (v := 122) (by decide) (by decide +kernel) ?_
  refine pq_iast 99 (by decide) (by decide) (by decide) (kg_136 (by decide)) (by decide +kernel) ?_
  refine pw_dup rfl (by decide +kernel) ?_
  refine pw_bipush (n := 100) (v := 100) (by decide) (by decide +kernel) ?_
  refine pw_bipush (n := 101) (v := 101) (by decide) (by decide +kernel) ?_
  refine pq_iast 100 (by decide) (by decide) (by decide) (kg_136 (by decide)) (by decide +kernel) ?_
  refine pw_dup rfl (by decide +kernel) ?_
  refine pw_bipush (n := 101) (v := 101) (by decide) (by decide +kernel) ?_
  refine pw_bipush (n := 32) (v := 32) (by decide) (by decide +kernel) ?_
  refine pq_iast 101 (by decide) (by decide) (by decide) (kg_136 (by decide)) (by decide +kernel) ?_
  refine pw_dup rfl (by decide +kernel) ?_
  refine pw_bipush (n := 102) (v := 102) (by decide) (by decide +kernel) ?_
  refine pw_bipush (n := 117) (v := 117) (by decide) (by decide +kernel) ?_
  refine pq_iast 102 (by decide) (by decide) (by decide) (kg_136 (by decide)) (by decide +kernel) ?_
  refine pw_dup rfl (by decide +kernel) ?_
  refine pw_bipush (n := 103) (v := 103) (by decide) (by decide +kernel) ?_
  refine pw_bipush (n := 115) (v := 115) (by decide) (by decide +kernel) ?_
  refine pq_iast 103 (by decide) (by decide) (by decide) (kg_136 (by decide)) (by decide +kernel) ?_
  refine pw_dup rfl (by decide +kernel) ?_
  refine pw_bipush (n := 104) (v := 104) (by decide) (by decide +kernel) ?_
  refine pw_bipush (n := 101) (v := 101) (by decide) (by decide +kernel) ?_
  refine pq_iast 104 (by decide) (by decide) (by decide) (kg_136 (by decide)) (by decide +kernel) ?_
  refine pw_dup rfl (by decide +kernel) ?_
  refine pw_bipush (n := 105) (v := 105) (by decide) (by decide +kernel) ?_
  refine pw_bipush (n := 100) (v := 100) (by decide) (by decide +kernel) ?_
  refine pq_iast 105 (by decide) (by decide) (by decide) (kg_136 (by decide)) (by decide +kernel) ?_
  refine pw_dup rfl (by decide +kernel) ?_
  refine pw_bipush (n := 106) (v := 106) (by decide) (by decide +kernel) ?_
  refine pw_bipush (n := 32) (v := 32) (by decide) (by decide +kernel) ?_
  refine pq_iast 106 (by decide) (by decide) (by decide) (kg_136 (by decide)) (by decide +kernel) ?_
  refine pw_dup rfl (by decide +kernel) ?_
  refine pw_bipush (n := 107) (v := 107) (by decide) (by decide +kernel) ?_
  refine pw_bipush (n := 115) (v := 115) (by decide) (by decide +kernel) ?_
  refine pq_iast 107 (by decide) (by decide) (by decide) (kg_136 (by decide)) (by decide +kernel) ?_
  refine pw_dup rfl (by decide +kernel) ?_
  refine pw_bipush (n := 108) (v := 108) (by decide) (by decide +kernel) ?_
  refine pw_bipush (n := 111) (v := 111) (by decide) (by decide +kernel) ?_
  refine pq_iast 108 (by decide) (by decide) (by decide) (kg_136 (by decide)) (by decide +kernel) ?_
  refine pw_dup rfl (by decide +kernel) ?_
  refine pw_bipush (n := 109) (v := 109) (by decide) (by decide +kernel) ?_
  refine pw_bipush (n := 114) (v := 114) (by decide) (by decide +kernel) ?_
  refine pq_iast 109 (by decide) (by decide) (by decide) (kg_136 (by decide)) (by decide +kernel) ?_
  refine pw_dup rfl (by decide +kernel) ?_
  refine pw_bipush (n := 110) (v := 110) (by decide) (by decide +kernel) ?_
  refine pw_bipush (n := 116) (v := 116) (by decide) (by decide +kernel) ?_
  refine pq_iast 110 (by decide) (by decide) (by decide) (kg_136 (by decide)) (by decide +kernel) ?_
  refine pw_dup rfl (by decide +kernel) ?_
  refine pw_bipush (n := 111) (v := 111) (by decide) (by decide +kernel) ?_
  refine pw_bipush (n := 32) (v := 32) (by decide) (by decide +kernel) ?_
  refine pq_iast 111 (by decide) (by decide) (by decide) (kg_136 (by decide)) (by decide +kernel) ?_
  refine pw_dup rfl (by decide +kernel) ?_
  refine pw_bipush (n := 112) (v := 112) (by decide) (by decide +kernel) ?_
  refine pw_bipush (n := 115) (v := 115) (by decide) (by decide +kernel) ?_
  refine pq_iast 112 (by decide) (by decide) (by decide) (kg_136 (by decide)) (by decide +kernel) ?_
  refine pw_dup rfl (by decide +kernel) ?_
  refine pw_bipush (n := 113) (v := 113) (by decide) (by decide +kernel) ?_
  refine pw_bipush (n := 116) (v := 116) (by decide) (by decide +kernel) ?_
  refine pq_iast 113 (by decide) (by decide) (by decide) (kg_136 (by decide)) (by decide +kernel) ?_
  refine pw_dup rfl (by decide +kernel) ?_
  refine pw_bipush (n := 114) (v := 114) (by decide) (by decide +kernel) ?_
  refine pw_bipush (n := 101) (v := 101) (by decide) (by decide +kernel) ?_
  refine pq_iast 114 (by decide) (by decide) (by decide) (kg_136 (by decide)) (by decide +kernel) ?_
  refine pw_dup rfl (by decide +kernel) ?_
  refine pw_bipush (n := 115) (v := 115) (by decide) (by decide +kernel) ?_
  refine pw_bipush (n := 112) (v := 112) (by decide) (by decide +kernel) ?_
  refine pq_iast 115 (by decide) (by decide) (by decide) (kg_136 (by decide)) (by decide +kernel) ?_
  refine pw_dup rfl (by decide +kernel) ?_
  refine pw_bipush (n := 116) (v := 116) (by decide) (by decide +kernel) ?_
  refine pw_bipush (n := 115) (v := 115) (by decide) (by decide +kernel) ?_
  refine pq_iast 116 (by decide) (by decide) (by decide) (kg_136 (by decide)) (by decide +kernel) ?_
  refine pw_dup rfl (by decide +kernel) ?_
  refine pw_bipush (n := 117) (v := 117) (by decide) (by decide +kernel) ?_
  refine pw_bipush (n := 32) (v := 32) (by decide) (by decide +kernel) ?_
  refine pq_iast 117 (by decide) (by decide) (by decide) (kg_136 (by decide)) (by decide +kernel) ?_
  refine pw_dup rfl (by decide +kernel) ?_
  refine pw_bipush (n := 118) (v := 118) (by decide) (by decide +kernel) ?_
  refine pw_bipush (n := 100) (v := 100) (by decide) (by decide +kernel) ?_
  refine pq_iast 118 (by decide) (by decide) (by decide) (kg_136 (by decide)) (by decide +kernel) ?_
  refine pw_dup rfl (by decide +kernel) ?_
  refine pw_bipush (n := 119) (v := 119) (by decide) (by decide +kernel) ?_
  refine pw_bipush (n := 97) (v := 97) (by decide) (by decide +kernel) ?_
  refine pq_iast 119 (by decide) (by decide) (by decide) (kg_136 (by decide)) (by decide +kernel) ?_
  refine pw_dup rfl (by decide +kernel) ?_
  refine pw_bipush (n := 120) (v := 120) (by decide) (by decide +kernel) ?_
  refine pw_bipush (n := 121) (v := 121) (by decide) (by decide +kernel) ?_
  refine pq_iast 120 (by decide) (by decide) (by decide) (kg_136 (by decide)) (by decide +kernel) ?_
  refine pw_dup rfl (by decide +kernel) ?_
  refine pw_bipush (n := 121) (v := 121) (by decide) (by decide +kernel) ?_
  refine pw_bipush (n := 32) (v := 32) (by decide) (by decide +kernel) ?_
  refine pq_iast 121 (by decide) (by decide) (by decide) (kg_136 (by decide)) (by decide +kernel) ?_
  refine pw_dup rfl (by decide +kernel) ?_
  refine pw_bipush (n := 122) (v := 122) (by decide) (by decide +kernel) ?_
  refine pw_bipush (n := 102) (v := 102) (by decide) (by decide +kernel) ?_
  refine pq_iast 122 (by decide) (by decide) (by decide) (kg_136 (by decide)) (by decide +kernel) ?_
  refine pw_dup rfl (by decide +kernel) ?_
  refine pw_bipush (n := 123) (v := 123) (by decide) (by decide +kernel) ?_
  refine pw_bipush (n := 111) (v := 111) (by decide) (by decide +kernel) ?_
  refine pq_iast 123 (by decide) (by decide) (by decide) (kg_136 (by decide)) (by decide +kernel) ?_
  refine pw_dup rfl (by decide +kernel) ?_
  refine pw_bipush (n := 124) (v := 124) (by decide) (by decide +kernel) ?_
  refine pw_bipush (n := 111) (v := 111) (by decide) (by decide +kernel) ?_
  refine pq_iast 124 (by decide) (by decide) (by decide) (kg_136 (by decide)) (by decide +kernel) ?_
  refine pw_dup rfl (by decide +kernel) ?_
  refine pw_bipush (n := 125) (v := 125) (by decide) (by decide +kernel) ?_
  refine pw_bipush (n := 116) (v := 116) (by decide) (by decide +kernel) ?_
  refine pq_iast 125 (by decide) (by decide) (by decide) (kg_136 (by decide)) (by decide +kernel) ?_
  refine pw_dup rfl (by decide +kernel) ?_
  refine pw_bipush (n := 126) (v := 126) (by decide) (by decide +kernel) ?_
  refine pw_bipush (n := 32) (v := 32) (by decide) (by decide +kernel) ?_
  refine pq_iast 126 (by decide) (by decide) (by decide) (kg_136 (by decide)) (by decide +kernel) ?_
  exact k
def mk6I (I : Nat → Nat → Int32) : Nat → Nat → Int32 := (zI (zI (zI (zI (zI (zI (zI (sI I 134 5 (-1)) 137) 138) 139) 140) 141) 142) 143)
def mk6L (L : Nat → Nat → Int64) : Nat → Nat → Int64 := (zL (zL (zL (zL (zL (zL (zL L 137) 138) 139) 140) 141) 142) 143)
def mk6P (P : Nat → Nat → Option Nat) : Nat → Nat → Option Nat := (sP (zP (sP (zP (sP (zP (sP (zP (sP (zP (sP (zP (sP (zP (sP P 134 3 136) 137) 134 23 137) 138) 134 24 138) 139) 134 25 139) 140) 134 26 140) 141) 134 27 141) 142) 134 28 142) 143) 134 29 143)
theorem mk6I_lo (I : Nat → Nat → Int32) {a : Nat} (h : a < 134) : mk6I I a = I a := by
  unfold mk6I
  rw [zI_ne (by omega), zI_ne (by omega), zI_ne (by omega), zI_ne (by omega), zI_ne (by omega), zI_ne (by omega), zI_ne (by omega), sI_ne (by omega)]
theorem mk6L_lo (L : Nat → Nat → Int64) {a : Nat} (h : a < 134) : mk6L L a = L a := by
  unfold mk6L
  rw [zL_ne (by omega), zL_ne (by omega), zL_ne (by omega), zL_ne (by omega), zL_ne (by omega), zL_ne (by omega), zL_ne (by omega)]
theorem mk6P_lo (P : Nat → Nat → Option Nat) {a : Nat} (h : a < 134) : mk6P P a = P a := by
  unfold mk6P
  rw [sP_ne (by omega), zP_ne (by omega), sP_ne (by omega), zP_ne (by omega), sP_ne (by omega), zP_ne (by omega), sP_ne (by omega), zP_ne (by omega), sP_ne (by omega), zP_ne (by omega), sP_ne (by omega), zP_ne (by omega), sP_ne (by omega), zP_ne (by omega), sP_ne (by omega)]
theorem mq_6 {x0 : pSh} {Q : Option Value → pM → Prop} {I : Nat → Nat → Int32} {L : Nat → Nat → Int64} {P : Nat → Nat → Option Nat} (k : kWP m_Mo_init 2 x0 185 Q 838 [some (.ref 134)] [] 144 (mk6I I, mk6L L, mk6P P)) : kWP m_Mo_init 2 x0 185 Q 774 [some (.ref 134)] [.ref 136, .ref 134] 137 (I, L, P) := by
  refine pq_putP (c := 11) (k := 3) (kg_134 (by decide)) (by decide) (by decide) lf_Mo_13 (Or.inr ⟨rfl, rfl⟩) (by decide +kernel) ?_
  refine pw_aload_n (k4 := 0) rfl (by decide +kernel) ?_
  refine pw_iconst (n := -1) (v := -1) (by decide) (by decide +kernel) ?_
  refine pq_putI (c := 11) (k := 5) (kg_134 (by decide)) (by decide) (by decide) lf_Mo_16 (Or.inl rfl) (by decide +kernel) ?_
  refine pw_aload_n (k4 := 0) rfl (by decide +kernel) ?_
  refine pw_bipush (n := 10) (v := 10) (by decide) (by decide +kernel) ?_
  refine kw_newI 137 10 (by decide +kernel) (by decide) (by decide) (by decide) (by decide +kernel) (by decide) (by decide) (by decide) ?_
  refine pq_putP (c := 11) (k := 23) (kg_134 (by decide)) (by decide) (by decide) lf_Mo_20 (Or.inr ⟨rfl, rfl⟩) (by decide +kernel) ?_
  refine pw_aload_n (k4 := 0) rfl (by decide +kernel) ?_
  refine pw_bipush (n := 10) (v := 10) (by decide) (by decide +kernel) ?_
  refine kw_newI 138 10 (by decide +kernel) (by decide) (by decide) (by decide) (by decide +kernel) (by decide) (by decide) (by decide) ?_
  refine pq_putP (c := 11) (k := 24) (kg_134 (by decide)) (by decide) (by decide) lf_Mo_23 (Or.inr ⟨rfl, rfl⟩) (by decide +kernel) ?_
  refine pw_aload_n (k4 := 0) rfl (by decide +kernel) ?_
  refine pw_bipush (n := 10) (v := 10) (by decide) (by decide +kernel) ?_
  refine kw_newI 139 10 (by decide +kernel) (by decide) (by decide) (by decide) (by decide +kernel) (by decide) (by decide) (by decide) ?_
  refine pq_putP (c := 11) (k := 25) (kg_134 (by decide)) (by decide) (by decide) lf_Mo_26 (Or.inr ⟨rfl, rfl⟩) (by decide +kernel) ?_
  refine pw_aload_n (k4 := 0) rfl (by decide +kernel) ?_
  refine pw_bipush (n := 10) (v := 10) (by decide) (by decide +kernel) ?_
  refine kw_newI 140 10 (by decide +kernel) (by decide) (by decide) (by decide) (by decide +kernel) (by decide) (by decide) (by decide) ?_
  refine pq_putP (c := 11) (k := 26) (kg_134 (by decide)) (by decide) (by decide) lf_Mo_29 (Or.inr ⟨rfl, rfl⟩) (by decide +kernel) ?_
  refine pw_aload_n (k4 := 0) rfl (by decide +kernel) ?_
  refine pw_bipush (n := 10) (v := 10) (by decide) (by decide +kernel) ?_
  refine kw_newI 141 10 (by decide +kernel) (by decide) (by decide) (by decide) (by decide +kernel) (by decide) (by decide) (by decide) ?_
  refine pq_putP (c := 11) (k := 27) (kg_134 (by decide)) (by decide) (by decide) lf_Mo_32 (Or.inr ⟨rfl, rfl⟩) (by decide +kernel) ?_
  refine pw_aload_n (k4 := 0) rfl (by decide +kernel) ?_
  refine pw_bipush (n := 32) (v := 32) (by decide) (by decide +kernel) ?_
  refine kw_newI 142 32 (by decide +kernel) (by decide) (by decide) (by decide) (by decide +kernel) (by decide) (by decide) (by decide) ?_
  refine pq_putP (c := 11) (k := 28) (kg_134 (by decide)) (by decide) (by decide) lf_Mo_35 (Or.inr ⟨rfl, rfl⟩) (by decide +kernel) ?_
  refine pw_aload_n (k4 := 0) rfl (by decide +kernel) ?_
  refine pw_bipush (n := 32) (v := 32) (by decide) (by decide +kernel) ?_
  refine kw_newI 143 32 (by decide +kernel) (by decide) (by decide) (by decide) (by decide +kernel) (by decide) (by decide) (by decide) ?_
  refine pq_putP (c := 11) (k := 29) (kg_134 (by decide)) (by decide) (by decide) lf_Mo_38 (Or.inr ⟨rfl, rfl⟩) (by decide +kernel) ?_
  exact k
def mk7I (I : Nat → Nat → Int32) : Nat → Nat → Int32 := (zI (zI (zI (zI (zI (zI (zI (zI (zI I 144) 145) 146) 147) 148) 149) 150) 151) 152)
def mk7L (L : Nat → Nat → Int64) : Nat → Nat → Int64 := (zL (zL (zL (zL (zL (zL (zL (zL (zL L 144) 145) 146) 147) 148) 149) 150) 151) 152)
def mk7P (P : Nat → Nat → Option Nat) : Nat → Nat → Option Nat := (sP (zP (sP (zP (sP (zP (sP (zP (sP (zP (sP (zP (sP (zP (sP (zP (sP (zP P 144) 134 30 144) 145) 134 31 145) 146) 134 32 146) 147) 134 33 147) 148) 134 34 148) 149) 134 35 149) 150) 134 36 150) 151) 134 37 151) 152) 134 38 152)
theorem mk7I_lo (I : Nat → Nat → Int32) {a : Nat} (h : a < 134) : mk7I I a = I a := by
  unfold mk7I
  rw [zI_ne (by omega), zI_ne (by omega), zI_ne (by omega), zI_ne (by omega), zI_ne (by omega), zI_ne (by omega), zI_ne (by omega), zI_ne (by omega), zI_ne (by omega)]
theorem mk7L_lo (L : Nat → Nat → Int64) {a : Nat} (h : a < 134) : mk7L L a = L a := by
  unfold mk7L
  rw [zL_ne (by omega), zL_ne (by omega), zL_ne (by omega), zL_ne (by omega), zL_ne (by omega), zL_ne (by omega), zL_ne (by omega), zL_ne (by omega), zL_ne (by omega)]
theorem mk7P_lo (P : Nat → Nat → Option Nat) {a : Nat} (h : a < 134) : mk7P P a = P a := by
  unfold mk7P
  rw [sP_ne (by omega), zP_ne (by omega), sP_ne (by omega), zP_ne (by omega), sP_ne (by omega), zP_ne (by omega), sP_ne (by omega), zP_ne (by omega), sP_ne (by omega), zP_ne (by omega), sP_ne (by omega), zP_ne (by omega), sP_ne (by omega), zP_ne (by omega), sP_ne (by omega), zP_ne (by omega), sP_ne (by omega), zP_ne (by omega)]
theorem mq_7 {x0 : pSh} {Q : Option Value → pM → Prop} {I : Nat → Nat → Int32} {L : Nat → Nat → Int64} {P : Nat → Nat → Option Nat} (k : kWP m_Mo_init 2 x0 185 Q 910 [some (.ref 134)] [] 153 (mk7I I, mk7L L, mk7P P)) : kWP m_Mo_init 2 x0 185 Q 838 [some (.ref 134)] [] 144 (I, L, P) := by
  refine pw_aload_n (k4 := 0) rfl (by decide +kernel) ?_
  refine pw_bipush (n := 32) (v := 32) (by decide) (by decide +kernel) ?_
  refine kw_newI 144 32 (by decide +kernel) (by decide) (by decide) (by decide) (by decide +kernel) (by decide) (by decide) (by decide) ?_
  refine pq_putP (c := 11) (k := 30) (kg_134 (by decide)) (by decide) (by decide) lf_Mo_41 (Or.inr ⟨rfl, rfl⟩) (by decide +kernel) ?_
  refine pw_aload_n (k4 := 0) rfl (by decide +kernel) ?_
  refine pw_bipush (n := 32) (v := 32) (by decide) (by decide +kernel) ?_
  refine kw_newI 145 32 (by decide +kernel) (by decide) (by decide) (by decide) (by decide +kernel) (by decide) (by decide) (by decide) ?_
  refine pq_putP (c := 11) (k := 31) (kg_134 (by decide)) (by decide) (by decide) lf_Mo_44 (Or.inr ⟨rfl, rfl⟩) (by decide +kernel) ?_
  refine pw_aload_n (k4 := 0) rfl (by decide +kernel) ?_
  refine pw_bipush (n := 32) (v := 32) (by decide) (by decide +kernel) ?_
  refine kw_newI 146 32 (by decide +kernel) (by decide) (by decide) (by decide) (by decide +kernel) (by decide) (by decide) (by decide) ?_
  refine pq_putP (c := 11) (k := 32) (kg_134 (by decide)) (by decide) (by decide) lf_Mo_47 (Or.inr ⟨rfl, rfl⟩) (by decide +kernel) ?_
  refine pw_aload_n (k4 := 0) rfl (by decide +kernel) ?_
  refine pw_bipush (n := 16) (v := 16) (by decide) (by decide +kernel) ?_
  refine kw_newI 147 16 (by decide +kernel) (by decide) (by decide) (by decide) (by decide +kernel) (by decide) (by decide) (by decide) ?_
  refine pq_putP (c := 11) (k := 33) (kg_134 (by decide)) (by decide) (by decide) lf_Mo_50 (Or.inr ⟨rfl, rfl⟩) (by decide +kernel) ?_
  refine pw_aload_n (k4 := 0) rfl (by decide +kernel) ?_
  refine pw_bipush (n := 16) (v := 16) (by decide) (by decide +kernel) ?_
  refine kw_newI 148 16 (by decide +kernel) (by decide) (by decide) (by decide) (by decide +kernel) (by decide) (by decide) (by decide) ?_
  refine pq_putP (c := 11) (k := 34) (kg_134 (by decide)) (by decide) (by decide) lf_Mo_53 (Or.inr ⟨rfl, rfl⟩) (by decide +kernel) ?_
  refine pw_aload_n (k4 := 0) rfl (by decide +kernel) ?_
  refine pw_bipush (n := 16) (v := 16) (by decide) (by decide +kernel) ?_
  refine kw_newI 149 16 (by decide +kernel) (by decide) (by decide) (by decide) (by decide +kernel) (by decide) (by decide) (by decide) ?_
  refine pq_putP (c := 11) (k := 35) (kg_134 (by decide)) (by decide) (by decide) lf_Mo_56 (Or.inr ⟨rfl, rfl⟩) (by decide +kernel) ?_
  refine pw_aload_n (k4 := 0) rfl (by decide +kernel) ?_
  refine pw_bipush (n := 16) (v := 16) (by decide) (by decide +kernel) ?_
  refine kw_newI 150 16 (by decide +kernel) (by decide) (by decide) (by decide) (by decide +kernel) (by decide) (by decide) (by decide) ?_
  refine pq_putP (c := 11) (k := 36) (kg_134 (by decide)) (by decide) (by decide) lf_Mo_59 (Or.inr ⟨rfl, rfl⟩) (by decide +kernel) ?_
  refine pw_aload_n (k4 := 0) rfl (by decide +kernel) ?_
  refine pw_bipush (n := 64) (v := 64) (by decide) (by decide +kernel) ?_
  refine kw_newI 151 64 (by decide +kernel) (by decide) (by decide) (by decide) (by decide +kernel) (by decide) (by decide) (by decide) ?_
  refine pq_putP (c := 11) (k := 37) (kg_134 (by decide)) (by decide) (by decide) lf_Mo_62 (Or.inr ⟨rfl, rfl⟩) (by decide +kernel) ?_
  refine pw_aload_n (k4 := 0) rfl (by decide +kernel) ?_
  refine pw_bipush (n := 6) (v := 6) (by decide) (by decide +kernel) ?_
  refine kw_newZ 152 6 (by decide +kernel) (by decide) (by decide) (by decide) (by decide +kernel) (by decide) (by decide) (by decide) ?_
  refine pq_putP (c := 11) (k := 38) (kg_134 (by decide)) (by decide) (by decide) lf_Mo_65 (Or.inr ⟨rfl, rfl⟩) (by decide +kernel) ?_
  exact k
def mk8I (I : Nat → Nat → Int32) : Nat → Nat → Int32 := (zI (zI (zI (zI (zI (zI (zI (zI (zI I 153) 154) 155) 156) 157) 158) 159) 160) 161)
def mk8L (L : Nat → Nat → Int64) : Nat → Nat → Int64 := (zL (zL (zL (zL (zL (zL (zL (zL (zL L 153) 154) 155) 156) 157) 158) 159) 160) 161)
def mk8P (P : Nat → Nat → Option Nat) : Nat → Nat → Option Nat := (sP (zP (sP (zP (sP (zP (sP (zP (sP (zP (sP (zP (sP (zP (sP (zP (sP (zP P 153) 134 39 153) 154) 134 40 154) 155) 134 41 155) 156) 134 42 156) 157) 134 43 157) 158) 134 44 158) 159) 134 45 159) 160) 134 52 160) 161) 134 53 161)
theorem mk8I_lo (I : Nat → Nat → Int32) {a : Nat} (h : a < 134) : mk8I I a = I a := by
  unfold mk8I
  rw [zI_ne (by omega), zI_ne (by omega), zI_ne (by omega), zI_ne (by omega), zI_ne (by omega), zI_ne (by omega), zI_ne (by omega), zI_ne (by omega), zI_ne (by omega)]
theorem mk8L_lo (L : Nat → Nat → Int64) {a : Nat} (h : a < 134) : mk8L L a = L a := by
  unfold mk8L
  rw [zL_ne (by omega), zL_ne (by omega), zL_ne (by omega), zL_ne (by omega), zL_ne (by omega), zL_ne (by omega), zL_ne (by omega), zL_ne (by omega), zL_ne (by omega)]
theorem mk8P_lo (P : Nat → Nat → Option Nat) {a : Nat} (h : a < 134) : mk8P P a = P a := by
  unfold mk8P
  rw [sP_ne (by omega), zP_ne (by omega), sP_ne (by omega), zP_ne (by omega), sP_ne (by omega), zP_ne (by omega), sP_ne (by omega), zP_ne (by omega), sP_ne (by omega), zP_ne (by omega), sP_ne (by omega), zP_ne (by omega), sP_ne (by omega), zP_ne (by omega), sP_ne (by omega), zP_ne (by omega), sP_ne (by omega), zP_ne (by omega)]
theorem mq_8 {x0 : pSh} {Q : Option Value → pM → Prop} {I : Nat → Nat → Int32} {L : Nat → Nat → Int64} {P : Nat → Nat → Option Nat} (k : kWP m_Mo_init 2 x0 185 Q 985 [some (.ref 134)] [] 162 (mk8I I, mk8L L, mk8P P)) : kWP m_Mo_init 2 x0 185 Q 910 [some (.ref 134)] [] 153 (I, L, P) := by
  refine pw_aload_n (k4 := 0) rfl (by decide +kernel) ?_
  refine pw_bipush (n := 6) (v := 6) (by decide) (by decide +kernel) ?_
  refine kw_newI 153 6 (by decide +kernel) (by decide) (by decide) (by decide) (by decide +kernel) (by decide) (by decide) (by decide) ?_
  refine pq_putP (c := 11) (k := 39) (kg_134 (by decide)) (by decide) (by decide) lf_Mo_69 (Or.inr ⟨rfl, rfl⟩) (by decide +kernel) ?_
  refine pw_aload_n (k4 := 0) rfl (by decide +kernel) ?_
  refine pw_bipush (n := 6) (v := 6) (by decide) (by decide +kernel) ?_
  refine kw_newI 154 6 (by decide +kernel) (by decide) (by decide) (by decide) (by decide +kernel) (by decide) (by decide) (by decide) ?_
  refine pq_putP (c := 11) (k := 40) (kg_134 (by decide)) (by decide) (by decide) lf_Mo_72 (Or.inr ⟨rfl, rfl⟩) (by decide +kernel) ?_
  refine pw_aload_n (k4 := 0) rfl (by decide +kernel) ?_
  refine pw_sipush (n := 128) (v := 128) (by decide) (by decide +kernel) ?_
  refine kw_newI 155 128 (by decide +kernel) (by decide) (by decide) (by decide) (by decide +kernel) (by decide) (by decide) (by decide) ?_
  refine pq_putP (c := 11) (k := 41) (kg_134 (by decide)) (by decide) (by decide) lf_Mo_75 (Or.inr ⟨rfl, rfl⟩) (by decide +kernel) ?_
  refine pw_aload_n (k4 := 0) rfl (by decide +kernel) ?_
  refine pw_sipush (n := 128) (v := 128) (by decide) (by decide +kernel) ?_
  refine kw_newI 156 128 (by decide +kernel) (by decide) (by decide) (by decide) (by decide +kernel) (by decide) (by decide) (by decide) ?_
  refine pq_putP (c := 11) (k := 42) (kg_134 (by decide)) (by decide) (by decide) lf_Mo_78 (Or.inr ⟨rfl, rfl⟩) (by decide +kernel) ?_
  refine pw_aload_n (k4 := 0) rfl (by decide +kernel) ?_
  refine pw_sipush (n := 128) (v := 128) (by decide) (by decide +kernel) ?_
  refine kw_newI 157 128 (by decide +kernel) (by decide) (by decide) (by decide) (by decide +kernel) (by decide) (by decide) (by decide) ?_
  refine pq_putP (c := 11) (k := 43) (kg_134 (by decide)) (by decide) (by decide) lf_Mo_81 (Or.inr ⟨rfl, rfl⟩) (by decide +kernel) ?_
  refine pw_aload_n (k4 := 0) rfl (by decide +kernel) ?_
  refine pw_bipush (n := 96) (v := 96) (by decide) (by decide +kernel) ?_
  refine kw_newI 158 96 (by decide +kernel) (by decide) (by decide) (by decide) (by decide +kernel) (by decide) (by decide) (by decide) ?_
  refine pq_putP (c := 11) (k := 44) (kg_134 (by decide)) (by decide) (by decide) lf_Mo_84 (Or.inr ⟨rfl, rfl⟩) (by decide +kernel) ?_
  refine pw_aload_n (k4 := 0) rfl (by decide +kernel) ?_
  refine pw_bipush (n := 96) (v := 96) (by decide) (by decide +kernel) ?_
  refine kw_newI 159 96 (by decide +kernel) (by decide) (by decide) (by decide) (by decide +kernel) (by decide) (by decide) (by decide) ?_
  refine pq_putP (c := 11) (k := 45) (kg_134 (by decide)) (by decide) (by decide) lf_Mo_87 (Or.inr ⟨rfl, rfl⟩) (by decide +kernel) ?_
  refine pw_aload_n (k4 := 0) rfl (by decide +kernel) ?_
  refine pw_bipush (n := 7) (v := 7) (by decide) (by decide +kernel) ?_
  refine kw_newL 160 7 (by decide +kernel) (by decide) (by decide) (by decide) (by decide +kernel) (by decide) (by decide) (by decide) ?_
  refine pq_putP (c := 11) (k := 52) (kg_134 (by decide)) (by decide) (by decide) lf_Mo_90 (Or.inr ⟨rfl, rfl⟩) (by decide +kernel) ?_
  refine pw_aload_n (k4 := 0) rfl (by decide +kernel) ?_
  refine pw_bipush (n := 64) (v := 64) (by decide) (by decide +kernel) ?_
  refine kw_newL 161 64 (by decide +kernel) (by decide) (by decide) (by decide) (by decide +kernel) (by decide) (by decide) (by decide) ?_
  refine pq_putP (c := 11) (k := 53) (kg_134 (by decide)) (by decide) (by decide) lf_Mo_94 (Or.inr ⟨rfl, rfl⟩) (by decide +kernel) ?_
  exact k
def mk9I (I : Nat → Nat → Int32) : Nat → Nat → Int32 := (zI (zI (zI (zI (zI (zI (zI (zI (zI I 162) 163) 164) 165) 166) 167) 168) 169) 170)
def mk9L (L : Nat → Nat → Int64) : Nat → Nat → Int64 := (zL (zL (zL (zL (zL (zL (zL (zL (zL L 162) 163) 164) 165) 166) 167) 168) 169) 170)
def mk9P (P : Nat → Nat → Option Nat) : Nat → Nat → Option Nat := (sP (zP (sP (zP (sP (zP (sP (zP (sP (zP (sP (zP (sP (zP (sP (zP (sP (zP P 162) 134 55 162) 163) 134 56 163) 164) 134 57 164) 165) 134 58 165) 166) 134 59 166) 167) 134 60 167) 168) 134 65 168) 169) 134 66 169) 170) 134 67 170)
theorem mk9I_lo (I : Nat → Nat → Int32) {a : Nat} (h : a < 134) : mk9I I a = I a := by
  unfold mk9I
  rw [zI_ne (by omega), zI_ne (by omega), zI_ne (by omega), zI_ne (by omega), zI_ne (by omega), zI_ne (by omega), zI_ne (by omega), zI_ne (by omega), zI_ne (by omega)]
theorem mk9L_lo (L : Nat → Nat → Int64) {a : Nat} (h : a < 134) : mk9L L a = L a := by
  unfold mk9L
  rw [zL_ne (by omega), zL_ne (by omega), zL_ne (by omega), zL_ne (by omega), zL_ne (by omega), zL_ne (by omega), zL_ne (by omega), zL_ne (by omega), zL_ne (by omega)]
theorem mk9P_lo (P : Nat → Nat → Option Nat) {a : Nat} (h : a < 134) : mk9P P a = P a := by
  unfold mk9P
  rw [sP_ne (by omega), zP_ne (by omega), sP_ne (by omega), zP_ne (by omega), sP_ne (by omega), zP_ne (by omega), sP_ne (by omega), zP_ne (by omega), sP_ne (by omega), zP_ne (by omega), sP_ne (by omega), zP_ne (by omega), sP_ne (by omega), zP_ne (by omega), sP_ne (by omega), zP_ne (by omega), sP_ne (by omega), zP_ne (by omega)]
theorem mq_9 {x0 : pSh} {Q : Option Value → pM → Prop} {I : Nat → Nat → Int32} {L : Nat → Nat → Int64} {P : Nat → Nat → Option Nat} (k : kWP m_Mo_init 2 x0 185 Q 1058 [some (.ref 134)] [] 171 (mk9I I, mk9L L, mk9P P)) : kWP m_Mo_init 2 x0 185 Q 985 [some (.ref 134)] [] 162 (I, L, P) := by
  refine pw_aload_n (k4 := 0) rfl (by decide +kernel) ?_
  refine pw_bipush (n := 32) (v := 32) (by decide) (by decide +kernel) ?_
  refine kw_newI 162 32 (by decide +kernel) (by decide) (by decide) (by decide) (by decide +kernel) (by decide) (by decide) (by decide) ?_
  refine pq_putP (c := 11) (k := 55) (kg_134 (by decide)) (by decide) (by decide) lf_Mo_97 (Or.inr ⟨rfl, rfl⟩) (by decide +kernel) ?_
  refine pw_aload_n (k4 := 0) rfl (by decide +kernel) ?_
  refine pw_bipush (n := 32) (v := 32) (by decide) (by decide +kernel) ?_
  refine kw_newI 163 32 (by decide +kernel) (by decide) (by decide) (by decide) (by decide +kernel) (by decide) (by decide) (by decide) ?_
  refine pq_putP (c := 11) (k := 56) (kg_134 (by decide)) (by decide) (by decide) lf_Mo_100 (Or.inr ⟨rfl, rfl⟩) (by decide +kernel) ?_
  refine pw_aload_n (k4 := 0) rfl (by decide +kernel) ?_
  refine pw_bipush (n := 10) (v := 10) (by decide) (by decide +kernel) ?_
  refine kw_newI 164 10 (by decide +kernel) (by decide) (by decide) (by decide) (by decide +kernel) (by decide) (by decide) (by decide) ?_
  refine pq_putP (c := 11) (k := 57) (kg_134 (by decide)) (by decide) (by decide) lf_Mo_103 (Or.inr ⟨rfl, rfl⟩) (by decide +kernel) ?_
  refine pw_aload_n (k4 := 0) rfl (by decide +kernel) ?_
  refine pw_bipush (n := 10) (v := 10) (by decide) (by decide +kernel) ?_
  refine kw_newI 165 10 (by decide +kernel) (by decide) (by decide) (by decide) (by decide +kernel) (by decide) (by decide) (by decide) ?_
  refine pq_putP (c := 11) (k := 58) (kg_134 (by decide)) (by decide) (by decide) lf_Mo_106 (Or.inr ⟨rfl, rfl⟩) (by decide +kernel) ?_
  refine pw_aload_n (k4 := 0) rfl (by decide +kernel) ?_
  refine pw_bipush (n := 16) (v := 16) (by decide) (by decide +kernel) ?_
  refine kw_newI 166 16 (by decide +kernel) (by decide) (by decide) (by decide) (by decide +kernel) (by decide) (by decide) (by decide) ?_
  refine pq_putP (c := 11) (k := 59) (kg_134 (by decide)) (by decide) (by decide) lf_Mo_109 (Or.inr ⟨rfl, rfl⟩) (by decide +kernel) ?_
  refine pw_aload_n (k4 := 0) rfl (by decide +kernel) ?_
  refine pw_iconst (n := 2) (v := 2) (by decide) (by decide +kernel) ?_
  refine kw_newI 167 2 (by decide +kernel) (by decide) (by decide) (by decide) (by decide +kernel) (by decide) (by decide) (by decide) ?_
  refine pq_putP (c := 11) (k := 60) (kg_134 (by decide)) (by decide) (by decide) lf_Mo_112 (Or.inr ⟨rfl, rfl⟩) (by decide +kernel) ?_
  refine pw_aload_n (k4 := 0) rfl (by decide +kernel) ?_
  refine pw_sipush (n := 512) (v := 512) (by decide) (by decide +kernel) ?_
  refine kw_newI 168 512 (by decide +kernel) (by decide) (by decide) (by decide) (by decide +kernel) (by decide) (by decide) (by decide) ?_
  refine pq_putP (c := 11) (k := 65) (kg_134 (by decide)) (by decide) (by decide) lf_Mo_115 (Or.inr ⟨rfl, rfl⟩) (by decide +kernel) ?_
  refine pw_aload_n (k4 := 0) rfl (by decide +kernel) ?_
  refine pw_sipush (n := 512) (v := 512) (by decide) (by decide +kernel) ?_
  refine kw_newI 169 512 (by decide +kernel) (by decide) (by decide) (by decide) (by decide +kernel) (by decide) (by decide) (by decide) ?_
  refine pq_putP (c := 11) (k := 66) (kg_134 (by decide)) (by decide) (by decide) lf_Mo_118 (Or.inr ⟨rfl, rfl⟩) (by decide +kernel) ?_
  refine pw_aload_n (k4 := 0) rfl (by decide +kernel) ?_
  refine pw_bipush (n := 16) (v := 16) (by decide) (by decide +kernel) ?_
  refine kw_newI 170 16 (by decide +kernel) (by decide) (by decide) (by decide) (by decide +kernel) (by decide) (by decide) (by decide) ?_
  refine pq_putP (c := 11) (k := 67) (kg_134 (by decide)) (by decide) (by decide) lf_Mo_121 (Or.inr ⟨rfl, rfl⟩) (by decide +kernel) ?_
  exact k
def mk10I (I : Nat → Nat → Int32) : Nat → Nat → Int32 := (zI (sI (zI (zI (zI (zI (zI (zI (zI I 171) 172) 173) 174) 175) 176) 177) 134 81 (-1)) 178)
def mk10L (L : Nat → Nat → Int64) : Nat → Nat → Int64 := (zL (zL (zL (zL (zL (zL (zL (zL L 171) 172) 173) 174) 175) 176) 177) 178)
def mk10P (P : Nat → Nat → Option Nat) : Nat → Nat → Option Nat := (sP (zP (sP (zP (sP (zP (sP (zP (sP (zP (sP (zP (sP (zP (sP (zP P 171) 134 68 171) 172) 134 69 172) 173) 134 72 173) 174) 134 73 174) 175) 134 74 175) 176) 134 75 176) 177) 134 76 177) 178) 134 82 178)
theorem mk10I_lo (I : Nat → Nat → Int32) {a : Nat} (h : a < 134) : mk10I I a = I a := by
  unfold mk10I
  rw [zI_ne (by omega), sI_ne (by omega), zI_ne (by omega), zI_ne (by omega), zI_ne (by omega), zI_ne (by omega), zI_ne (by omega), zI_ne (by omega), zI_ne (by omega)]
theorem mk10L_lo (L : Nat → Nat → Int64) {a : Nat} (h : a < 134) : mk10L L a = L a := by
  unfold mk10L
  rw [zL_ne (by omega), zL_ne (by omega), zL_ne (by omega), zL_ne (by omega), zL_ne (by omega), zL_ne (by omega), zL_ne (by omega), zL_ne (by omega)]
theorem mk10P_lo (P : Nat → Nat → Option Nat) {a : Nat} (h : a < 134) : mk10P P a = P a := by
  unfold mk10P
  rw [sP_ne (by omega), zP_ne (by omega), sP_ne (by omega), zP_ne (by omega), sP_ne (by omega), zP_ne (by omega), sP_ne (by omega), zP_ne (by omega), sP_ne (by omega), zP_ne (by omega), sP_ne (by omega), zP_ne (by omega), sP_ne (by omega), zP_ne (by omega), sP_ne (by omega), zP_ne (by omega)]
theorem mq_10 {x0 : pSh} {Q : Option Value → pM → Prop} {I : Nat → Nat → Int32} {L : Nat → Nat → Int64} {P : Nat → Nat → Option Nat} (k : kWP m_Mo_init 2 x0 185 Q 1129 [some (.ref 134)] [] 179 (mk10I I, mk10L L, mk10P P)) : kWP m_Mo_init 2 x0 185 Q 1058 [some (.ref 134)] [] 171 (I, L, P) := by
  refine pw_aload_n (k4 := 0) rfl (by decide +kernel) ?_
  refine pw_bipush (n := 11) (v := 11) (by decide) (by decide +kernel) ?_
  refine kw_newI 171 11 (by decide +kernel) (by decide) (by decide) (by decide) (by decide +kernel) (by decide) (by decide) (by decide) ?_
  refine pq_putP (c := 11) (k := 68) (kg_134 (by decide)) (by decide) (by decide) lf_Mo_124 (Or.inr ⟨rfl, rfl⟩) (by decide +kernel) ?_
  refine pw_aload_n (k4 := 0) rfl (by decide +kernel) ?_
  refine pw_bipush (n := 41) (v := 41) (by decide) (by decide +kernel) ?_
  refine kw_newI 172 41 (by decide +kernel) (by decide) (by decide) (by decide) (by decide +kernel) (by decide) (by decide) (by decide) ?_
  refine pq_putP (c := 11) (k := 69) (kg_134 (by decide)) (by decide) (by decide) lf_Mo_127 (Or.inr ⟨rfl, rfl⟩) (by decide +kernel) ?_
  refine pw_aload_n (k4 := 0) rfl (by decide +kernel) ?_
  refine pw_bipush (n := 16) (v := 16) (by decide) (by decide +kernel) ?_
  refine kw_newI 173 16 (by decide +kernel) (by decide) (by decide) (by decide) (by decide +kernel) (by decide) (by decide) (by decide) ?_
  refine pq_putP (c := 11) (k := 72) (kg_134 (by decide)) (by decide) (by decide) lf_Mo_130 (Or.inr ⟨rfl, rfl⟩) (by decide +kernel) ?_
  refine pw_aload_n (k4 := 0) rfl (by decide +kernel) ?_
  refine pw_bipush (n := 16) (v := 16) (by decide) (by decide +kernel) ?_
  refine kw_newI 174 16 (by decide +kernel) (by decide) (by decide) (by decide) (by decide +kernel) (by decide) (by decide) (by decide) ?_
  refine pq_putP (c := 11) (k := 73) (kg_134 (by decide)) (by decide) (by decide) lf_Mo_133 (Or.inr ⟨rfl, rfl⟩) (by decide +kernel) ?_
  refine pw_aload_n (k4 := 0) rfl (by decide +kernel) ?_
  refine pw_sipush (n := 256) (v := 256) (by decide) (by decide +kernel) ?_
  refine kw_newI 175 256 (by decide +kernel) (by decide) (by decide) (by decide) (by decide +kernel) (by decide) (by decide) (by decide) ?_
  refine pq_putP (c := 11) (k := 74) (kg_134 (by decide)) (by decide) (by decide) lf_Mo_136 (Or.inr ⟨rfl, rfl⟩) (by decide +kernel) ?_
  refine pw_aload_n (k4 := 0) rfl (by decide +kernel) ?_
  refine pw_sipush (n := 256) (v := 256) (by decide) (by decide +kernel) ?_
  refine kw_newI 176 256 (by decide +kernel) (by decide) (by decide) (by decide) (by decide +kernel) (by decide) (by decide) (by decide) ?_
  refine pq_putP (c := 11) (k := 75) (kg_134 (by decide)) (by decide) (by decide) lf_Mo_139 (Or.inr ⟨rfl, rfl⟩) (by decide +kernel) ?_
  refine pw_aload_n (k4 := 0) rfl (by decide +kernel) ?_
  refine pw_bipush (n := 16) (v := 16) (by decide) (by decide +kernel) ?_
  refine kw_newI 177 16 (by decide +kernel) (by decide) (by decide) (by decide) (by decide +kernel) (by decide) (by decide) (by decide) ?_
  refine pq_putP (c := 11) (k := 76) (kg_134 (by decide)) (by decide) (by decide) lf_Mo_142 (Or.inr ⟨rfl, rfl⟩) (by decide +kernel) ?_
  refine pw_aload_n (k4 := 0) rfl (by decide +kernel) ?_
  refine pw_iconst (n := -1) (v := -1) (by decide) (by decide +kernel) ?_
  refine pq_putI (c := 11) (k := 81) (kg_134 (by decide)) (by decide) (by decide) lf_Mo_145 (Or.inl rfl) (by decide +kernel) ?_
  refine pw_aload_n (k4 := 0) rfl (by decide +kernel) ?_
  refine pw_bipush (n := 48) (v := 48) (by decide) (by decide +kernel) ?_
  refine kw_newI 178 48 (by decide +kernel) (by decide) (by decide) (by decide) (by decide +kernel) (by decide) (by decide) (by decide) ?_
  refine pq_putP (c := 11) (k := 82) (kg_134 (by decide)) (by decide) (by decide) lf_Mo_148 (Or.inr ⟨rfl, rfl⟩) (by decide +kernel) ?_
  exact k
def mk11I (I : Nat → Nat → Int32) : Nat → Nat → Int32 := (zI (zI (zI (zI (zI (zI I 179) 180) 181) 182) 183) 184)
def mk11L (L : Nat → Nat → Int64) : Nat → Nat → Int64 := (zL (zL (zL (zL (zL (zL L 179) 180) 181) 182) 183) 184)
def mk11P (P : Nat → Nat → Option Nat) : Nat → Nat → Option Nat := (sP (zP (sP (zP (sP (zP (sP (zP (sP (zP (sP (zP P 179) 134 83 179) 180) 134 84 180) 181) 134 87 181) 182) 134 89 182) 183) 134 90 183) 184) 134 91 184)
theorem mk11I_lo (I : Nat → Nat → Int32) {a : Nat} (h : a < 134) : mk11I I a = I a := by
  unfold mk11I
  rw [zI_ne (by omega), zI_ne (by omega), zI_ne (by omega), zI_ne (by omega), zI_ne (by omega), zI_ne (by omega)]
theorem mk11L_lo (L : Nat → Nat → Int64) {a : Nat} (h : a < 134) : mk11L L a = L a := by
  unfold mk11L
  rw [zL_ne (by omega), zL_ne (by omega), zL_ne (by omega), zL_ne (by omega), zL_ne (by omega), zL_ne (by omega)]
theorem mk11P_lo (P : Nat → Nat → Option Nat) {a : Nat} (h : a < 134) : mk11P P a = P a := by
  unfold mk11P
  rw [sP_ne (by omega), zP_ne (by omega), sP_ne (by omega), zP_ne (by omega), sP_ne (by omega), zP_ne (by omega), sP_ne (by omega), zP_ne (by omega), sP_ne (by omega), zP_ne (by omega), sP_ne (by omega), zP_ne (by omega)]
theorem mq_11 {x0 : pSh} {Q : Option Value → pM → Prop} {I : Nat → Nat → Int32} {L : Nat → Nat → Int64} {P : Nat → Nat → Option Nat} (k : kWP m_Mo_init 2 x0 185 Q 1178 [some (.ref 134)] [] 185 (mk11I I, mk11L L, mk11P P)) : kWP m_Mo_init 2 x0 185 Q 1129 [some (.ref 134)] [] 179 (I, L, P) := by
  refine pw_aload_n (k4 := 0) rfl (by decide +kernel) ?_
  refine pw_bipush (n := 24) (v := 24) (by decide) (by decide +kernel) ?_
  refine kw_newZ 179 24 (by decide +kernel) (by decide) (by decide) (by decide) (by decide +kernel) (by decide) (by decide) (by decide) ?_
  refine pq_putP (c := 11) (k := 83) (kg_134 (by decide)) (by decide) (by decide) lf_Mo_151 (Or.inr ⟨rfl, rfl⟩) (by decide +kernel) ?_
  refine pw_aload_n (k4 := 0) rfl (by decide +kernel) ?_
  refine pw_bipush (n := 6) (v := 6) (by decide) (by decide +kernel) ?_
  refine kw_newI 180 6 (by decide +kernel) (by decide) (by decide) (by decide) (by decide +kernel) (by decide) (by decide) (by decide) ?_
  refine pq_putP (c := 11) (k := 84) (kg_134 (by decide)) (by decide) (by decide) lf_Mo_154 (Or.inr ⟨rfl, rfl⟩) (by decide +kernel) ?_
  refine pw_aload_n (k4 := 0) rfl (by decide +kernel) ?_
  refine pw_sipush (n := 520) (v := 520) (by decide) (by decide +kernel) ?_
  refine kw_newI 181 520 (by decide +kernel) (by decide) (by decide) (by decide) (by decide +kernel) (by decide) (by decide) (by decide) ?_
  refine pq_putP (c := 11) (k := 87) (kg_134 (by decide)) (by decide) (by decide) lf_Mo_157 (Or.inr ⟨rfl, rfl⟩) (by decide +kernel) ?_
  refine pw_aload_n (k4 := 0) rfl (by decide +kernel) ?_
  refine pw_bipush (n := 26) (v := 26) (by decide) (by decide +kernel) ?_
  refine kw_newI 182 26 (by decide +kernel) (by decide) (by decide) (by decide) (by decide +kernel) (by decide) (by decide) (by decide) ?_
  refine pq_putP (c := 11) (k := 89) (kg_134 (by decide)) (by decide) (by decide) lf_Mo_160 (Or.inr ⟨rfl, rfl⟩) (by decide +kernel) ?_
  refine pw_aload_n (k4 := 0) rfl (by decide +kernel) ?_
  refine pw_bipush (n := 16) (v := 16) (by decide) (by decide +kernel) ?_
  refine kw_newI 183 16 (by decide +kernel) (by decide) (by decide) (by decide) (by decide +kernel) (by decide) (by decide) (by decide) ?_
  refine pq_putP (c := 11) (k := 90) (kg_134 (by decide)) (by decide) (by decide) lf_Mo_163 (Or.inr ⟨rfl, rfl⟩) (by decide +kernel) ?_
  refine pw_aload_n (k4 := 0) rfl (by decide +kernel) ?_
  refine pw_bipush (n := 8) (v := 8) (by decide) (by decide +kernel) ?_
  refine kw_newI 184 8 (by decide +kernel) (by decide) (by decide) (by decide) (by decide +kernel) (by decide) (by decide) (by decide) ?_
  refine pq_putP (c := 11) (k := 91) (kg_134 (by decide)) (by decide) (by decide) lf_Mo_166 (Or.inr ⟨rfl, rfl⟩) (by decide +kernel) ?_
  exact k
def moI (I : Nat → Nat → Int32) : Nat → Nat → Int32 := (mk11I (mk10I (mk9I (mk8I (mk7I (mk6I (mk5I (mk4I (mk3I (mk2I (mk1I I)))))))))))
theorem moI_lo (I : Nat → Nat → Int32) {a : Nat} (h : a < 134) : moI I a = I a := by
  unfold moI
  rw [mk11I_lo _ h, mk10I_lo _ h, mk9I_lo _ h, mk8I_lo _ h, mk7I_lo _ h, mk6I_lo _ h, mk5I_lo _ h, mk4I_lo _ h, mk3I_lo _ h, mk2I_lo _ h, mk1I_lo _ h]
def moL (L : Nat → Nat → Int64) : Nat → Nat → Int64 := (mk11L (mk10L (mk9L (mk8L (mk7L (mk6L (mk5L (mk4L (mk3L (mk2L (mk1L L)))))))))))
theorem moL_lo (L : Nat → Nat → Int64) {a : Nat} (h : a < 134) : moL L a = L a := by
  unfold moL
  rw [mk11L_lo _ h, mk10L_lo _ h, mk9L_lo _ h, mk8L_lo _ h, mk7L_lo _ h, mk6L_lo _ h, mk5L_lo _ h, mk4L_lo _ h, mk3L_lo _ h, mk2L_lo _ h, mk1L_lo _ h]
def moP (P : Nat → Nat → Option Nat) : Nat → Nat → Option Nat := (mk11P (mk10P (mk9P (mk8P (mk7P (mk6P (mk5P (mk4P (mk3P (mk2P (mk1P P)))))))))))
theorem moP_lo (P : Nat → Nat → Option Nat) {a : Nat} (h : a < 134) : moP P a = P a := by
  unfold moP
  rw [mk11P_lo _ h, mk10P_lo _ h, mk9P_lo _ h, mk8P_lo _ h, mk7P_lo _ h, mk6P_lo _ h, mk5P_lo _ h, mk4P_lo _ h, mk3P_lo _ h, mk2P_lo _ h, mk1P_lo _ h]
def kPm : List (Nat × Nat × Nat) := [(134, 0, 135), (134, 3, 136), (134, 23, 137), (134, 24, 138), (134, 25, 139), (134, 26, 140), (134, 27, 141), (134, 28, 142), (134, 29, 143), (134, 30, 144), (134, 31, 145), (134, 32, 146), (134, 33, 147), (134, 34, 148), (134, 35, 149), (134, 36, 150), (134, 37, 151), (134, 38, 152), (134, 39, 153), (134, 40, 154), (134, 41, 155), (134, 42, 156), (134, 43, 157), (134, 44, 158), (134, 45, 159), (134, 52, 160), (134, 53, 161), (134, 55, 162), (134, 56, 163), (134, 57, 164), (134, 58, 165), (134, 59, 166), (134, 60, 167), (134, 65, 168), (134, 66, 169), (134, 67, 170), (134, 68, 171), (134, 69, 172), (134, 72, 173), (134, 73, 174), (134, 74, 175), (134, 75, 176), (134, 76, 177), (134, 82, 178), (134, 83, 179), (134, 84, 180), (134, 87, 181), (134, 89, 182), (134, 90, 183), (134, 91, 184)]
theorem kPs_cut : kPs = kPs.take 132 ++ kPm := by decide +kernel
theorem kPs_lo : ∀ q ∈ kPs.take 132, q.1 < 134 := by decide +kernel
set_option maxRecDepth 20000 in
theorem moP_hi (P : Nat → Nat → Option Nat) : ∀ q ∈ kPm, moP P q.1 q.2.1 = some q.2.2 := by
  unfold kPm
  refine List.forall_mem_cons.mpr ⟨rfl, ?_⟩
  refine List.forall_mem_cons.mpr ⟨rfl, ?_⟩
  refine List.forall_mem_cons.mpr ⟨rfl, ?_⟩
  refine List.forall_mem_cons.mpr ⟨rfl, ?_⟩
  refine List.forall_mem_cons.mpr ⟨rfl, ?_⟩
  refine List.forall_mem_cons.mpr ⟨rfl, ?_⟩
  refine List.forall_mem_cons.mpr ⟨rfl, ?_⟩
  refine List.forall_mem_cons.mpr ⟨rfl, ?_⟩
  refine List.forall_mem_cons.mpr ⟨rfl, ?_⟩
  refine List.forall_mem_cons.mpr ⟨rfl, ?_⟩
  refine List.forall_mem_cons.mpr ⟨rfl, ?_⟩
  refine List.forall_mem_cons.mpr ⟨rfl, ?_⟩
  refine List.forall_mem_cons.mpr ⟨rfl, ?_⟩
  refine List.forall_mem_cons.mpr ⟨rfl, ?_⟩
  refine List.forall_mem_cons.mpr ⟨rfl, ?_⟩
  refine List.forall_mem_cons.mpr ⟨rfl, ?_⟩
  refine List.forall_mem_cons.mpr ⟨rfl, ?_⟩
  refine List.forall_mem_cons.mpr ⟨rfl, ?_⟩
  refine List.forall_mem_cons.mpr ⟨rfl, ?_⟩
  refine List.forall_mem_cons.mpr ⟨rfl, ?_⟩
  refine List.forall_mem_cons.mpr ⟨rfl, ?_⟩
  refine List.forall_mem_cons.mpr ⟨rfl, ?_⟩
  refine List.forall_mem_cons.mpr ⟨rfl, ?_⟩
  refine List.forall_mem_cons.mpr ⟨rfl, ?_⟩
  refine List.forall_mem_cons.mpr ⟨rfl, ?_⟩
  refine List.forall_mem_cons.mpr ⟨rfl, ?_⟩
  refine List.forall_mem_cons.mpr ⟨rfl, ?_⟩
  refine List.forall_mem_cons.mpr ⟨rfl, ?_⟩
  refine List.forall_mem_cons.mpr ⟨rfl, ?_⟩
  refine List.forall_mem_cons.mpr ⟨rfl, ?_⟩
  refine List.forall_mem_cons.mpr ⟨rfl, ?_⟩
  refine List.forall_mem_cons.mpr ⟨rfl, ?_⟩
  refine List.forall_mem_cons.mpr ⟨rfl, ?_⟩
  refine List.forall_mem_cons.mpr ⟨rfl, ?_⟩
  refine List.forall_mem_cons.mpr ⟨rfl, ?_⟩
  refine List.forall_mem_cons.mpr ⟨rfl, ?_⟩
  refine List.forall_mem_cons.mpr ⟨rfl, ?_⟩
  refine List.forall_mem_cons.mpr ⟨rfl, ?_⟩
  refine List.forall_mem_cons.mpr ⟨rfl, ?_⟩
  refine List.forall_mem_cons.mpr ⟨rfl, ?_⟩
  refine List.forall_mem_cons.mpr ⟨rfl, ?_⟩
  refine List.forall_mem_cons.mpr ⟨rfl, ?_⟩
  refine List.forall_mem_cons.mpr ⟨rfl, ?_⟩
  refine List.forall_mem_cons.mpr ⟨rfl, ?_⟩
  refine List.forall_mem_cons.mpr ⟨rfl, ?_⟩
  refine List.forall_mem_cons.mpr ⟨rfl, ?_⟩
  refine List.forall_mem_cons.mpr ⟨rfl, ?_⟩
  refine List.forall_mem_cons.mpr ⟨rfl, ?_⟩
  refine List.forall_mem_cons.mpr ⟨rfl, ?_⟩
  refine List.forall_mem_cons.mpr ⟨rfl, ?_⟩
  intro q hq
  cases hq
theorem kSs_kT {x0 : pSh} {n : Nat} (hn : 185 ≤ n) : ∀ q ∈ kSs, (kT x0 n)[q.1]? = some q.2 := by
  have h : ∀ q ∈ kSs, kFs[q.1 - 1]? = some q.2 ∧ 1 ≤ q.1 ∧ q.1 < 185 := by decide +kernel
  intro q hq
  obtain ⟨h1, h2, h3⟩ := h q hq
  have := kT_get (x0 := x0) (n := n) h1 (by omega)
  rwa [Nat.sub_add_cancel h2] at this
/-- the pointers of the class -/
def kPc (P : Nat → Nat → Option Nat) : Prop := ∀ q ∈ kPs.take 132, P q.1 q.2.1 = some q.2.2
theorem moP_kA {x0 : pSh} {n : Nat} {P : Nat → Nat → Option Nat} (hn : 185 ≤ n) (hP : kPc P) : kA (kT x0 n) (moP P) := by
  refine ⟨kSs_kT hn, fun q hq => ?_⟩
  rw [kPs_cut] at hq
  rcases List.mem_append.mp hq with h | h
  · rw [moP_lo P (kPs_lo q h)]; exact hP q h
  · exact moP_hi P q h
set_option maxHeartbeats 2000000 in
theorem ct_Mo_init {x0 : pSh} {I : Nat → Nat → Int32} {L : Nat → Nat → Int64} {P : Nat → Nat → Option Nat} (hP : kPc P) : kCt m_Mo_init 2 x0 135 185 [.ref 134] (I, L, P) (rV (yKt (yPlain (moI I)), moL L, moP P)) := by
  refine kCt_of (by decide +kernel) (Nat.le_of_ble_eq_true rfl) (by decide) (by decide) ?_
  show kWP m_Mo_init 2 x0 185 _ 0 [some (.ref 134)] [] 135 (I, L, P)
  refine mq_1 ?_
  refine mq_2 ?_
  refine mq_3 ?_
  refine mq_4 ?_
  refine mq_5 ?_
  refine mq_6 ?_
  refine mq_7 ?_
  refine mq_8 ?_
  refine mq_9 ?_
  refine mq_10 ?_
  refine mq_11 ?_
  have hA : kA (kT x0 185) (moP P) := moP_kA (Nat.le_refl _) hP
  show pWn m_Mo_init 2 (kT x0 185) _ 1178 [some (.ref 134)] [] (moI I, moL L, moP P)
  refine pw_aload_n (k4 := 0) rfl (by decide +kernel) ?_
  refine pq_callV (ν := m_Mo_plain) (d' := 0) (av := []) (c := 11) (by decide +kernel) lm_Mo_169 ok_Mo_plain (show _ = some 0 by decide +kernel) (ks_m hA) rfl (by decide) (by decide) (Nat.le_of_ble_eq_true rfl) (ct_Mo_plain hA) ?_
  rintro _ _ ⟨rfl, rfl⟩
  refine pw_aload_n (k4 := 0) rfl (by decide +kernel) ?_
  refine pq_callV (ν := m_Mo_keepText) (d' := 1) (av := []) (c := 11) (by decide +kernel) lm_Mo_172 ok_Mo_keepText (show _ = some 0 by decide +kernel) (ks_m hA) rfl (by decide) (by decide) (Nat.le_of_ble_eq_true rfl) (ct_Mo_keepText hA) ?_
  rintro _ _ ⟨rfl, rfl⟩
  exact pq_vret rfl (by decide +kernel) ⟨rfl, rfl⟩
