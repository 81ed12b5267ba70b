/-! ===== the class: laws as they are written ===== -/
def lPut (I : Nat → Nat → Int32) (t w : Nat) (c v : Int32) : Nat → Nat → Int32 := if w < 64 then sI (sI (sI I (t + 20) w c) (t + 21) w v) (t + 19) 1 (nI (w + 1)) else I
def lOpen (I : Nat → Nat → Int32) (t r : Nat) : Nat → Nat → Int32 := sI (sI (sI I (t + 24) r 1) (t + 22) r (I (t + 19) 1)) (t + 23) r (I (t + 19) 1)
theorem ct_La_put {sh : List pSh} {I : Nat → Nat → Int32} {L : Nat → Nat → Int64} {P : Nat → Nat → Option Nat} (hA : kA sh P) {t : Nat} (ht : t = 3 ∨ t = 30) {w : Nat} (hw : I (t + 19) 1 = nI w) (hw6 : w ≤ 64) (c v : Int32) : pCn m_La_put 0 [.ref (t + 19), .int c, .int v] sh (I, L, P) (rV (lPut I t w c v, L, P)) := by
  refine pCn_of (by decide +kernel) (Nat.le_of_ble_eq_true rfl) ?_
  refine pw_aload_n (k4 := 0) rfl (by decide +kernel) ?_
  refine pq_getI (c := 2) (k := 1) (ks_t_laws hA ht) (by decide) (by decide) lf_La_39 (by decide +kernel) ?_
  refine pn_val (nI (w)) (by first | exact hw | (rw [sI_ne (by omega)]; exact hw) | (rw [sI_ne (by omega), sI_ne (by omega)]; exact hw)) ?_
  refine pw_bipush (n := 64) (v := 64) (by decide) (by decide +kernel) ?_
  refine pn_icmp_ge (off := 33) (tgt := 39) w 64 rfl rfl (by omega) (by omega) (by decide +kernel) (by decide +kernel) (fun z6 => ?_) (fun z6 => ?_)
  · exact pq_vret rfl (by decide +kernel) ⟨rfl, by unfold lPut; rw [if_neg (by omega)]⟩
  · refine pw_aload_n (k4 := 0) rfl (by decide +kernel) ?_
    refine pq_getP (c := 2) (k := 2) (ks_t_laws hA ht) (by decide) (by decide) (kp_t_laws_code hA ht) lf_La_9 (by decide +kernel) ?_
    refine pw_aload_n (k4 := 0) rfl (by decide +kernel) ?_
    refine pq_getI (c := 2) (k := 1) (ks_t_laws hA ht) (by decide) (by decide) lf_La_39 (by decide +kernel) ?_
    refine pn_val (nI (w)) (by first | exact hw | (rw [sI_ne (by omega)]; exact hw) | (rw [sI_ne (by omega), sI_ne (by omega)]; exact hw)) ?_
    refine pw_iload_n (k4 := 1) rfl (by decide +kernel) ?_
    refine pq_iast w rfl (by omega) (by decide) (ks_t_laws_code hA ht) (by decide +kernel) ?_
    refine pw_aload_n (k4 := 0) rfl (by decide +kernel) ?_
    refine pq_getP (c := 2) (k := 3) (ks_t_laws hA ht) (by decide) (by decide) (kp_t_laws_number hA ht) lf_La_15 (by decide +kernel) ?_
    refine pw_aload_n (k4 := 0) rfl (by decide +kernel) ?_
    refine pq_getI (c := 2) (k := 1) (ks_t_laws hA ht) (by decide) (by decide) lf_La_39 (by decide +kernel) ?_
    refine pn_val (nI (w)) (by first | exact hw | (rw [sI_ne (by omega)]; exact hw) | (rw [sI_ne (by omega), sI_ne (by omega)]; exact hw)) ?_
    refine pw_iload_n (k4 := 2) rfl (by decide +kernel) ?_
    refine pq_iast w rfl (by omega) (by decide) (ks_t_laws_number hA ht) (by decide +kernel) ?_
    refine pw_aload_n (k4 := 0) rfl (by decide +kernel) ?_
    refine pw_dup rfl (by decide +kernel) ?_
    refine pq_getI (c := 2) (k := 1) (ks_t_laws hA ht) (by decide) (by decide) lf_La_39 (by decide +kernel) ?_
    refine pn_val (nI (w)) (by first | exact hw | (rw [sI_ne (by omega)]; exact hw) | (rw [sI_ne (by omega), sI_ne (by omega)]; exact hw)) ?_
    refine pw_iconst (n := 1) (v := 1) (by decide) (by decide +kernel) ?_
    refine pn_iadd w 1 rfl rfl (by decide +kernel) ?_
    refine pq_putI (c := 2) (k := 1) (ks_t_laws hA ht) (by decide) (by decide) lf_La_39 (Or.inl rfl) (by decide +kernel) ?_
    exact pq_vret rfl (by decide +kernel) ⟨rfl, by unfold lPut; rw [if_pos (by omega)]⟩

theorem ct_La_open {sh : List pSh} {I : Nat → Nat → Int32} {L : Nat → Nat → Int64} {P : Nat → Nat → Option Nat} (hA : kA sh P) {t : Nat} (ht : t = 3 ∨ t = 30) {r : Nat} (hr : r < 3) : pCn m_La_open 0 [.ref (t + 19), .int (nI r)] sh (I, L, P) (rV (lOpen I t r, L, P)) := by
  refine pCn_of (by decide +kernel) (Nat.le_of_ble_eq_true rfl) ?_
  refine pw_iload_n (k4 := 1) rfl (by decide +kernel) ?_
  refine pn_if_lt (off := 35) (tgt := 36) r rfl (by omega) (by decide +kernel) (by decide +kernel) (fun z1 => ?_) (fun z1 => ?_)
  · exact absurd z1 (by omega)
  · refine pw_iload_n (k4 := 1) rfl (by decide +kernel) ?_
    refine pw_iconst (n := 3) (v := 3) (by decide) (by decide +kernel) ?_
    refine pn_icmp_ge (off := 30) (tgt := 36) r 3 rfl rfl (by omega) (by omega) (by decide +kernel) (by decide +kernel) (fun z6 => ?_) (fun z6 => ?_)
    · exact absurd z6 (by omega)
    · refine pw_aload_n (k4 := 0) rfl (by decide +kernel) ?_
      refine pq_getP (c := 2) (k := 6) (ks_t_laws hA ht) (by decide) (by decide) (kp_t_laws_told hA ht) lf_La_24 (by decide +kernel) ?_
      refine pw_iload_n (k4 := 1) rfl (by decide +kernel) ?_
      refine pw_iconst (n := 1) (v := 1) (by decide) (by decide +kernel) ?_
      refine pq_zast r rfl (by omega) (by decide) (ks_t_laws_told hA ht) (by decide +kernel) ?_
      refine pw_aload_n (k4 := 0) rfl (by decide +kernel) ?_
      refine pq_getP (c := 2) (k := 4) (ks_t_laws hA ht) (by decide) (by decide) (kp_t_laws_from hA ht) lf_La_18 (by decide +kernel) ?_
      refine pw_iload_n (k4 := 1) rfl (by decide +kernel) ?_
      refine pw_aload_n (k4 := 0) rfl (by decide +kernel) ?_
      refine pq_getI (c := 2) (k := 1) (ks_t_laws hA ht) (by decide) (by decide) lf_La_39 (by decide +kernel) ?_
      refine pq_iast r rfl (by omega) (by decide) (ks_t_laws_from hA ht) (by decide +kernel) ?_
      refine pw_aload_n (k4 := 0) rfl (by decide +kernel) ?_
      refine pq_getP (c := 2) (k := 5) (ks_t_laws hA ht) (by decide) (by decide) (kp_t_laws_to hA ht) lf_La_21 (by decide +kernel) ?_
      refine pw_iload_n (k4 := 1) rfl (by decide +kernel) ?_
      refine pw_aload_n (k4 := 0) rfl (by decide +kernel) ?_
      refine pq_getI (c := 2) (k := 1) (ks_t_laws hA ht) (by decide) (by decide) lf_La_39 (by decide +kernel) ?_
      refine pq_iast r rfl (by omega) (by decide) (ks_t_laws_to hA ht) (by decide +kernel) ?_
      exact pq_vret rfl (by decide +kernel) ⟨rfl, by unfold lOpen; rw [sI_ne (show t + 19 ≠ t + 24 by omega), sI_ne (show t + 19 ≠ t + 22 by omega), sI_ne (show t + 19 ≠ t + 24 by omega)]; rfl⟩

theorem ct_La_close {sh : List pSh} {I : Nat → Nat → Int32} {L : Nat → Nat → Int64} {P : Nat → Nat → Option Nat} (hA : kA sh P) {t : Nat} (ht : t = 3 ∨ t = 30) {r : Nat} (hr : r < 3) : pCn m_La_close 0 [.ref (t + 19), .int (nI r)] sh (I, L, P) (rV (sI I (t + 23) r (I (t + 19) 1), L, P)) := by
  refine pCn_of (by decide +kernel) (Nat.le_of_ble_eq_true rfl) ?_
  refine pw_iload_n (k4 := 1) rfl (by decide +kernel) ?_
  refine pn_if_lt (off := 18) (tgt := 19) r rfl (by omega) (by decide +kernel) (by decide +kernel) (fun z1 => ?_) (fun z1 => ?_)
  · exact absurd z1 (by omega)
  · refine pw_iload_n (k4 := 1) rfl (by decide +kernel) ?_
    refine pw_iconst (n := 3) (v := 3) (by decide) (by decide +kernel) ?_
    refine pn_icmp_ge (off := 13) (tgt := 19) r 3 rfl rfl (by omega) (by omega) (by decide +kernel) (by decide +kernel) (fun z6 => ?_) (fun z6 => ?_)
    · exact absurd z6 (by omega)
    · refine pw_aload_n (k4 := 0) rfl (by decide +kernel) ?_
      refine pq_getP (c := 2) (k := 5) (ks_t_laws hA ht) (by decide) (by decide) (kp_t_laws_to hA ht) lf_La_21 (by decide +kernel) ?_
      refine pw_iload_n (k4 := 1) rfl (by decide +kernel) ?_
      refine pw_aload_n (k4 := 0) rfl (by decide +kernel) ?_
      refine pq_getI (c := 2) (k := 1) (ks_t_laws hA ht) (by decide) (by decide) lf_La_39 (by decide +kernel) ?_
      refine pq_iast r rfl (by omega) (by decide) (ks_t_laws_to hA ht) (by decide +kernel) ?_
      exact pq_vret rfl (by decide +kernel) ⟨rfl, rfl⟩

theorem ct_Sc_levelOf {sh : List pSh} {I : Nat → Nat → Int32} {L : Nat → Nat → Int64} {P : Nat → Nat → Option Nat} {K : Nat} (hK : K ≤ 41) : pCn m_Sc_levelOf 0 [.int (nI K)] sh (I, L, P) (rI (lvK K) (I, L, P)) := by
  refine pCn_of (by decide +kernel) (Nat.le_of_ble_eq_true rfl) ?_
  refine pw_iload_n (k4 := 0) rfl (by decide +kernel) ?_
  refine pw_bipush (n := 16) (v := 16) (by decide) (by decide +kernel) ?_
  refine pn_icmp_ne (off := 5) (tgt := 8) K 16 rfl rfl (by omega) (by omega) (by decide +kernel) (by decide +kernel) (fun z3 => ?_) (fun z3 => ?_)
  · refine pw_iload_n (k4 := 0) rfl (by decide +kernel) ?_
    refine pw_bipush (n := 17) (v := 17) (by decide) (by decide +kernel) ?_
    refine pn_icmp_ne (off := 5) (tgt := 16) K 17 rfl rfl (by omega) (by omega) (by decide +kernel) (by decide +kernel) (fun z11 => ?_) (fun z11 => ?_)
    · refine pw_iload_n (k4 := 0) rfl (by decide +kernel) ?_
      refine pw_bipush (n := 30) (v := 30) (by decide) (by decide +kernel) ?_
      refine pn_icmp_lt (off := 11) (tgt := 30) K 30 rfl rfl (by omega) (by omega) (by decide +kernel) (by decide +kernel) (fun z19 => ?_) (fun z19 => ?_)
      · refine pw_iload_n (k4 := 0) rfl (by decide +kernel) ?_
        refine pw_bipush (n := 36) (v := 36) (by decide) (by decide +kernel) ?_
        refine pn_icmp_eq (off := 9) (tgt := 42) K 36 rfl rfl (by omega) (by omega) (by decide +kernel) (by decide +kernel) (fun z33 => ?_) (fun z33 => ?_)
        · refine pw_iconst (n := 4) (v := 4) (by decide) (by decide +kernel) ?_
          exact pq_iret rfl (by decide +kernel) ⟨congrArg (fun z => some (Value.int z)) (by first | (exfalso; omega) | (unfold lvK; repeat (first | rw [if_pos (by omega)] | rw [if_neg (by omega)]))), rfl⟩
        · refine pw_iload_n (k4 := 0) rfl (by decide +kernel) ?_
          refine pw_bipush (n := 37) (v := 37) (by decide) (by decide +kernel) ?_
          refine pn_icmp_ne (off := 5) (tgt := 44) K 37 rfl rfl (by omega) (by omega) (by decide +kernel) (by decide +kernel) (fun z39 => ?_) (fun z39 => ?_)
          · refine pw_iload_n (k4 := 0) rfl (by decide +kernel) ?_
            refine pw_bipush (n := 38) (v := 38) (by decide) (by decide +kernel) ?_
            refine pn_icmp_eq (off := 9) (tgt := 56) K 38 rfl rfl (by omega) (by omega) (by decide +kernel) (by decide +kernel) (fun z47 => ?_) (fun z47 => ?_)
            · refine pw_iconst (n := 5) (v := 5) (by decide) (by decide +kernel) ?_
              refine pw_goto (off := 4) (tgt := 61) (by decide +kernel) (by decide +kernel) ?_
              exact pq_iret rfl (by decide +kernel) ⟨congrArg (fun z => some (Value.int z)) (by first | (exfalso; omega) | (unfold lvK; repeat (first | rw [if_pos (by omega)] | rw [if_neg (by omega)]))), rfl⟩
            · refine pw_iload_n (k4 := 0) rfl (by decide +kernel) ?_
              refine pw_bipush (n := 39) (v := 39) (by decide) (by decide +kernel) ?_
              refine pn_icmp_ne (off := 7) (tgt := 60) K 39 rfl rfl (by omega) (by omega) (by decide +kernel) (by decide +kernel) (fun z53 => ?_) (fun z53 => ?_)
              · refine pw_iconst (n := -1) (v := -1) (by decide) (by decide +kernel) ?_
                exact pq_iret rfl (by decide +kernel) ⟨congrArg (fun z => some (Value.int z)) (by first | (exfalso; omega) | (unfold lvK; repeat (first | rw [if_pos (by omega)] | rw [if_neg (by omega)]))), rfl⟩
              · refine pw_iconst (n := 5) (v := 5) (by decide) (by decide +kernel) ?_
                refine pw_goto (off := 4) (tgt := 61) (by decide +kernel) (by decide +kernel) ?_
                exact pq_iret rfl (by decide +kernel) ⟨congrArg (fun z => some (Value.int z)) (by first | (exfalso; omega) | (unfold lvK; repeat (first | rw [if_pos (by omega)] | rw [if_neg (by omega)]))), rfl⟩
          · refine pw_iconst (n := 4) (v := 4) (by decide) (by decide +kernel) ?_
            exact pq_iret rfl (by decide +kernel) ⟨congrArg (fun z => some (Value.int z)) (by first | (exfalso; omega) | (unfold lvK; repeat (first | rw [if_pos (by omega)] | rw [if_neg (by omega)]))), rfl⟩
      · refine pw_iload_n (k4 := 0) rfl (by decide +kernel) ?_
        refine pw_bipush (n := 35) (v := 35) (by decide) (by decide +kernel) ?_
        refine pn_icmp_gt (off := 5) (tgt := 30) K 35 rfl rfl (by omega) (by omega) (by decide +kernel) (by decide +kernel) (fun z25 => ?_) (fun z25 => ?_)
        · refine pw_iload_n (k4 := 0) rfl (by decide +kernel) ?_
          refine pw_bipush (n := 36) (v := 36) (by decide) (by decide +kernel) ?_
          refine pn_icmp_eq (off := 9) (tgt := 42) K 36 rfl rfl (by omega) (by omega) (by decide +kernel) (by decide +kernel) (fun z33 => ?_) (fun z33 => ?_)
          · refine pw_iconst (n := 4) (v := 4) (by decide) (by decide +kernel) ?_
            exact pq_iret rfl (by decide +kernel) ⟨congrArg (fun z => some (Value.int z)) (by first | (exfalso; omega) | (unfold lvK; repeat (first | rw [if_pos (by omega)] | rw [if_neg (by omega)]))), rfl⟩
          · refine pw_iload_n (k4 := 0) rfl (by decide +kernel) ?_
            refine pw_bipush (n := 37) (v := 37) (by decide) (by decide +kernel) ?_
            refine pn_icmp_ne (off := 5) (tgt := 44) K 37 rfl rfl (by omega) (by omega) (by decide +kernel) (by decide +kernel) (fun z39 => ?_) (fun z39 => ?_)
            · refine pw_iload_n (k4 := 0) rfl (by decide +kernel) ?_
              refine pw_bipush (n := 38) (v := 38) (by decide) (by decide +kernel) ?_
              refine pn_icmp_eq (off := 9) (tgt := 56) K 38 rfl rfl (by omega) (by omega) (by decide +kernel) (by decide +kernel) (fun z47 => ?_) (fun z47 => ?_)
              · refine pw_iconst (n := 5) (v := 5) (by decide) (by decide +kernel) ?_
                refine pw_goto (off := 4) (tgt := 61) (by decide +kernel) (by decide +kernel) ?_
                exact pq_iret rfl (by decide +kernel) ⟨congrArg (fun z => some (Value.int z)) (by first | (exfalso; omega) | (unfold lvK; repeat (first | rw [if_pos (by omega)] | rw [if_neg (by omega)]))), rfl⟩
              · refine pw_iload_n (k4 := 0) rfl (by decide +kernel) ?_
                refine pw_bipush (n := 39) (v := 39) (by decide) (by decide +kernel) ?_
                refine pn_icmp_ne (off := 7) (tgt := 60) K 39 rfl rfl (by omega) (by omega) (by decide +kernel) (by decide +kernel) (fun z53 => ?_) (fun z53 => ?_)
                · refine pw_iconst (n := -1) (v := -1) (by decide) (by decide +kernel) ?_
                  exact pq_iret rfl (by decide +kernel) ⟨congrArg (fun z => some (Value.int z)) (by first | (exfalso; omega) | (unfold lvK; repeat (first | rw [if_pos (by omega)] | rw [if_neg (by omega)]))), rfl⟩
                · refine pw_iconst (n := 5) (v := 5) (by decide) (by decide +kernel) ?_
                  refine pw_goto (off := 4) (tgt := 61) (by decide +kernel) (by decide +kernel) ?_
                  exact pq_iret rfl (by decide +kernel) ⟨congrArg (fun z => some (Value.int z)) (by first | (exfalso; omega) | (unfold lvK; repeat (first | rw [if_pos (by omega)] | rw [if_neg (by omega)]))), rfl⟩
            · refine pw_iconst (n := 4) (v := 4) (by decide) (by decide +kernel) ?_
              exact pq_iret rfl (by decide +kernel) ⟨congrArg (fun z => some (Value.int z)) (by first | (exfalso; omega) | (unfold lvK; repeat (first | rw [if_pos (by omega)] | rw [if_neg (by omega)]))), rfl⟩
        · refine pw_iconst (n := 3) (v := 3) (by decide) (by decide +kernel) ?_
          exact pq_iret rfl (by decide +kernel) ⟨congrArg (fun z => some (Value.int z)) (by first | (exfalso; omega) | (unfold lvK; repeat (first | rw [if_pos (by omega)] | rw [if_neg (by omega)]))), rfl⟩
    · refine pw_iconst (n := 1) (v := 1) (by decide) (by decide +kernel) ?_
      exact pq_iret rfl (by decide +kernel) ⟨congrArg (fun z => some (Value.int z)) (by first | (exfalso; omega) | (unfold lvK; repeat (first | rw [if_pos (by omega)] | rw [if_neg (by omega)]))), rfl⟩
  · refine pw_iconst (n := 0) (v := 0) (by decide) (by decide +kernel) ?_
    exact pq_iret rfl (by decide +kernel) ⟨congrArg (fun z => some (Value.int z)) (by first | (exfalso; omega) | (unfold lvK; repeat (first | rw [if_pos (by omega)] | rw [if_neg (by omega)]))), rfl⟩

/-- one more knot is counted -/
def rKn (J I : Nat → Nat → Int32) (L : Nat → Nat → Int64) (P : Nat → Nat → Option Nat) (n t cn : Nat) : Option Value → pM → Prop := fun r M => ∃ I' b, r = some (.int (bI b)) ∧ M = (I', L, P) ∧ (b = true → cn < 64 ∧ rdR I' (yTok J) n ∧ ∀ a, a ≠ 58 → I' a = sI I (t + 19) 0 (nI (cn + 1)) a) ∧ (b = false → cn = 64 ∧ I' = scRf I 2)
theorem ct_Sc_takeKnot {sh : List pSh} {I : Nat → Nat → Int32} {L : Nat → Nat → Int64} {P : Nat → Nat → Option Nat} (hA : kA sh P) (hrb : P 58 3 = some 2) {J : Nat → Nat → Int32} {n : Nat} (hr : rdR I J n) {t : Nat} (ht : t = 3 ∨ t = 30) (hst : P 57 5 = some t) {cn : Nat} (hc : I (t + 19) 0 = nI cn) (hc6 : cn ≤ 64) : pCn m_Sc_takeKnot 3 [.ref 57] sh (I, L, P) (rKn J I L P n t cn) := by
  refine pCn_of (by decide +kernel) (Nat.le_of_ble_eq_true rfl) ?_
  refine pw_aload_n (k4 := 0) rfl (by decide +kernel) ?_
  refine pq_getP (c := 4) (k := 5) (ks_sc hA) (by decide) (by decide) hst lf_Sc_18 (by decide +kernel) ?_
  refine pq_getP (c := 7) (k := 18) (ks_t hA ht) (by decide) (by decide) (kp_t_laws hA ht) lf_Sc_174 (by decide +kernel) ?_
  refine pq_getI (c := 2) (k := 0) (ks_t_laws hA ht) (by decide) (by decide) lf_Sc_194 (by decide +kernel) ?_
  refine pn_val (nI (cn)) hc ?_
  refine pw_bipush (n := 64) (v := 64) (by decide) (by decide +kernel) ?_
  refine pn_icmp_lt (off := 9) (tgt := 21) cn 64 rfl rfl (by omega) (by omega) (by decide +kernel) (by decide +kernel) (fun z12 => ?_) (fun z12 => ?_)
  · refine pw_aload_n (k4 := 0) rfl (by decide +kernel) ?_
    refine pq_getP (c := 4) (k := 5) (ks_sc hA) (by decide) (by decide) hst lf_Sc_18 (by decide +kernel) ?_
    refine pq_getP (c := 7) (k := 18) (ks_t hA ht) (by decide) (by decide) (kp_t_laws hA ht) lf_Sc_174 (by decide +kernel) ?_
    refine pw_dup rfl (by decide +kernel) ?_
    refine pq_getI (c := 2) (k := 0) (ks_t_laws hA ht) (by decide) (by decide) lf_Sc_194 (by decide +kernel) ?_
    refine pn_val (nI (cn)) hc ?_
    refine pw_iconst (n := 1) (v := 1) (by decide) (by decide +kernel) ?_
    refine pn_iadd cn 1 rfl rfl (by decide +kernel) ?_
    refine pq_putI (c := 2) (k := 0) (ks_t_laws hA ht) (by decide) (by decide) lf_Sc_194 (Or.inl rfl) (by decide +kernel) ?_
    refine pw_aload_n (k4 := 0) rfl (by decide +kernel) ?_
    refine pq_getP (c := 4) (k := 4) (ks_sc hA) (by decide) (by decide) (kp_sc_reader hA) lf_Sc_12 (by decide +kernel) ?_
    refine pq_callV (ν := m_Re_advance) (d' := 2) (av := []) (c := 3) (by decide +kernel) lm_Sc_62 ok_Re_advance (show _ = some 0 by decide +kernel) (ks_re hA) rfl (by decide) (by omega) (Nat.le_of_ble_eq_true rfl) (gt_advance hA hrb (J := J) (rdR_sX hr (by omega) _ _)) ?_
    rintro _ _ ⟨rfl, I1, rfl, hr1, hf1⟩
    refine pw_iconst (n := 1) (v := 1) (by decide) (by decide +kernel) ?_
    exact pq_zret rfl (by decide) (by decide +kernel) ⟨_, true, rfl, rfl, fun _ => ⟨by omega, hr1, hf1⟩, fun q => (by cases q)⟩
  · refine pw_aload_n (k4 := 0) rfl (by decide +kernel) ?_
    refine pw_iconst (n := 2) (v := 2) (by decide) (by decide +kernel) ?_
    refine pq_callV (ν := m_Sc_refuse) (d' := 0) (av := [_]) (c := 4) (by decide +kernel) lm_Sc_59 ok_Sc_refuse (show _ = some 1 by decide +kernel) (ks_sc hA) rfl (by decide) (by omega) (Nat.le_of_ble_eq_true rfl) (ct_Sc_refuse hA _) ?_
    rintro _ _ ⟨rfl, rfl⟩
    exact pq_zret rfl (Or.inl rfl) (by decide +kernel) ⟨_, false, rfl, rfl, fun q => (by cases q), fun _ => ⟨by omega, rfl⟩⟩

/-- the class has written these knots -/
def cdL (X : Nat → Nat → Int32) (t b0 : Nat) (E : List (Nat × Nat)) : Prop := ∀ i q v, E.reverse[i]? = some (q, v) → cdR (X (t + 20) (b0 + i)) (X (t + 21) (b0 + i)) (nI q) (nI v)
theorem cdL_nil (X : Nat → Nat → Int32) (t b0 : Nat) : cdL X t b0 [] := fun i q v h => by simp at h
theorem cdL_cg {X X' : Nat → Nat → Int32} {t b0 : Nat} {E : List (Nat × Nat)} (h : cdL X t b0 E) (he : ∀ i, i < b0 + E.length → X' (t + 20) i = X (t + 20) i ∧ X' (t + 21) i = X (t + 21) i) : cdL X' t b0 E := by
  intro i q v hi
  have hl : i < E.length := by
    obtain ⟨w, -⟩ := List.getElem?_eq_some_iff.mp hi
    rw [List.length_reverse] at w
    exact w
  obtain ⟨e1, e2⟩ := he (b0 + i) (by omega)
  rw [e1, e2]
  exact h i q v hi
theorem cdL_cons {X X' : Nat → Nat → Int32} {t b0 q v : Nat} {E : List (Nat × Nat)} (h : cdL X t b0 E) (he : ∀ i, i < b0 + E.length → X' (t + 20) i = X (t + 20) i ∧ X' (t + 21) i = X (t + 21) i) (hc : cdR (X' (t + 20) (b0 + E.length)) (X' (t + 21) (b0 + E.length)) (nI q) (nI v)) : cdL X' t b0 ((q, v) :: E) := by
  intro i q' v' hi
  rw [List.reverse_cons] at hi
  by_cases c : i < E.length
  · rw [List.getElem?_append_left (by rw [List.length_reverse]; exact c)] at hi
    exact cdL_cg h he i q' v' hi
  · have w := (List.getElem?_eq_some_iff.mp hi).1
    rw [List.length_append, List.length_reverse] at w
    have w2 : i = E.length := by
      have : [(q, v)].length = 1 := rfl
      omega
    subst w2
    rw [List.getElem?_append_right (by rw [List.length_reverse]; exact Nat.le_refl _), List.length_reverse, Nat.sub_self] at hi
    cases hi
    exact hc
/-- the class stands where the machine's knots E and signs W stand -/
def lvI (I G : Nat → Nat → Int32) (n t b0 : Nat) (E : List (Nat × Nat)) (W : List Nat) (cn : Nat) : Prop := rdR I G n ∧ I 57 1 = 0 ∧ I (t + 19) 0 = nI cn ∧ I (t + 19) 1 = nI (b0 + E.length) ∧ cdL I t b0 E ∧ b0 + E.length + opW W = cn ∧ cn ≤ 64
def gwN (t : Nat) (I I' : Nat → Nat → Int32) : Prop := ∀ u, u ≤ 64 → I (t + 19) 1 = nI u → ∃ v, u ≤ v ∧ v ≤ 64 ∧ I' (t + 19) 1 = nI v
theorem gwN_e {t : Nat} {I I' : Nat → Nat → Int32} (h : I' (t + 19) 1 = I (t + 19) 1) : gwN t I I' := fun u h6 hu => ⟨u, Nat.le_refl u, h6, h.trans hu⟩
theorem gwN.tr {t : Nat} {I J K : Nat → Nat → Int32} (h1 : gwN t I J) (h2 : gwN t J K) : gwN t I K := fun u h6 hu => by
  obtain ⟨v, a, b, c⟩ := h1 u h6 hu
  obtain ⟨w, d, e, f⟩ := h2 v b c
  exact ⟨w, by omega, e, f⟩
theorem gwN_s {t w : Nat} {I I' : Nat → Nat → Int32} (h : I (t + 19) 1 = nI w) (hw : w < 64) (h' : I' (t + 19) 1 = nI (w + 1)) : gwN t I I' := fun u h6 hu => by
  have e : u = w := (nI_eq (by omega) (by omega)).mp (hu.symm.trans h)
  exact ⟨w + 1, by omega, by omega, h'⟩
/-- what reading a level leaves -/
def lvF (t w0 : Nat) (I I' : Nat → Nat → Int32) : Prop := (∀ a, a ≠ 57 → a ≠ 58 → a ≠ t + 19 → a ≠ t + 20 → a ≠ t + 21 → I' a = I a) ∧ (∀ i, i < w0 → I' (t + 20) i = I (t + 20) i ∧ I' (t + 21) i = I (t + 21) i) ∧ gwN t I I'
theorem lvF.rf (t w0 : Nat) (I : Nat → Nat → Int32) : lvF t w0 I I := ⟨fun _ _ _ _ _ _ => rfl, fun _ _ => ⟨rfl, rfl⟩, gwN_e rfl⟩
theorem lvF.tr {t w0 w1 : Nat} {I J K : Nat → Nat → Int32} (h1 : lvF t w0 I J) (h2 : lvF t w1 J K) (hw : w0 ≤ w1) : lvF t w0 I K := ⟨fun a a1 a2 a3 a4 a5 => (h2.1 a a1 a2 a3 a4 a5).trans (h1.1 a a1 a2 a3 a4 a5), fun i hi => ⟨(h2.2.1 i (by omega)).1.trans (h1.2.1 i hi).1, (h2.2.1 i (by omega)).2.trans (h1.2.1 i hi).2⟩, gwN.tr h1.2.2 h2.2.2⟩
theorem lvF_rf (t w0 : Nat) (ht : t = 3 ∨ t = 30) (I : Nat → Nat → Int32) (k : Int32) : lvF t w0 I (scRf I k) := by
  unfold scRf
  refine ⟨fun a a1 _ _ _ _ => by rw [sI_ne a1, sI_ne a1], fun i _ => ?_, gwN_e (by rw [sI_ne (by omega), sI_ne (by omega)])⟩
  rw [sI_ne (show t + 20 ≠ 57 by omega), sI_ne (show t + 20 ≠ 57 by omega), sI_ne (show t + 21 ≠ 57 by omega), sI_ne (show t + 21 ≠ 57 by omega)]
  exact ⟨rfl, rfl⟩
theorem lvF_ad {t w0 : Nat} (ht : t = 3 ∨ t = 30) {I I' : Nat → Nat → Int32} (h : ∀ a, a ≠ 58 → I' a = I a) : lvF t w0 I I' := ⟨fun a _ a2 _ _ _ => h a a2, fun i _ => by rw [h (t + 20) (by omega), h (t + 21) (by omega)]; exact ⟨rfl, rfl⟩, gwN_e (by rw [h (t + 19) (by omega)])⟩
/-- a sign has been written behind its operands -/
theorem lvI_put {I G : Nat → Nat → Int32} {n t b0 cn k : Nat} {E : List (Nat × Nat)} {W : List Nat} {c v : Int32} (ht : t = 3 ∨ t = 30) (h : lvI I G n t b0 E (k :: W) cn) (hk : 2 ≤ k) (hk14 : k ≤ 14) (hc : c = nI (cdO k)) : lvI (lPut I t (b0 + E.length) c v) G n t b0 ((k, 0) :: E) W cn ∧ lvF t (b0 + E.length) I (lPut I t (b0 + E.length) c v) ∧ lPut I t (b0 + E.length) c v 57 = I 57 := by
  obtain ⟨h1, h2, h3, h4, h5, h6, h7⟩ := h
  have ho : opW (k :: W) = 1 + opW W := by show (if 2 ≤ k then 1 else 0) + opW W = _; rw [if_pos hk]
  rw [ho] at h6
  unfold lPut
  rw [if_pos (show b0 + E.length < 64 by omega)]
  have e20 : ∀ i, i < b0 + E.length → sI (sI (sI I (t + 20) (b0 + E.length) c) (t + 21) (b0 + E.length) v) (t + 19) 1 (nI (b0 + E.length + 1)) (t + 20) i = I (t + 20) i ∧ sI (sI (sI I (t + 20) (b0 + E.length) c) (t + 21) (b0 + E.length) v) (t + 19) 1 (nI (b0 + E.length + 1)) (t + 21) i = I (t + 21) i := by
    intro i hi
    rw [sI_ne (show t + 20 ≠ t + 19 by omega), sI_ne (show t + 20 ≠ t + 21 by omega), sI_rd (show i ≠ b0 + E.length by omega), sI_ne (show t + 21 ≠ t + 19 by omega), sI_rd (show i ≠ b0 + E.length by omega), sI_ne (show t + 21 ≠ t + 20 by omega)]
    exact ⟨rfl, rfl⟩
  have e57 : sI (sI (sI I (t + 20) (b0 + E.length) c) (t + 21) (b0 + E.length) v) (t + 19) 1 (nI (b0 + E.length + 1)) 57 = I 57 := by rw [sI_ne (by omega), sI_ne (by omega), sI_ne (by omega)]
  refine ⟨⟨rdR_sX (rdR_sX (rdR_sX h1 (by omega) _ _) (by omega) _ _) (by omega) _ _, by rw [e57]; exact h2, ?_, ?_, cdL_cons h5 e20 ?_, ?_, h7⟩, ⟨fun a a1 a2 a3 a4 a5 => by rw [sI_ne a3, sI_ne a5, sI_ne a4], e20, gwN_s h4 (by omega) sI_rs⟩, e57⟩
  · rw [sI_rd (by decide), sI_ne (show t + 19 ≠ t + 21 by omega), sI_ne (show t + 19 ≠ t + 20 by omega)]; exact h3
  · rw [sI_rs]; show nI (b0 + E.length + 1) = nI (b0 + (E.length + 1)); rfl
  · rw [sI_ne (show t + 20 ≠ t + 19 by omega), sI_ne (show t + 20 ≠ t + 21 by omega), sI_rs]
    exact Or.inr (Or.inr ⟨k, hk, hk14, rfl, hc⟩)
  · show b0 + (E.length + 1) + opW W = cn; omega
