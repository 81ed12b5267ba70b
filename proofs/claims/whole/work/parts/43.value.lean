/-! ===== the reference: the value of a law ===== -/
theorem lge0 (x y : Int64) : 0 ≤ lg_cmp x y ↔ y ≤ x := by rw [← Int32.not_lt, llt, Int64.not_lt]
theorem lle0 (x y : Int64) : lg_cmp x y ≤ 0 ↔ x ≤ y := by rw [← Int32.not_lt, lgt, Int64.not_lt]
theorem lneg0 {x : Int64} (h : ¬ x = 0) : ¬ -x = 0 := fun e => h (by have := congrArg (fun z => -z) e; simpa using this)
theorem rEr_cg {x y : Option Int64} {e : Int32} {I : Nat → Nat → Int32} {L : Nat → Nat → Int64} {P : Nat → Nat → Option Nat} {r : Option Value} {M : pM} (h : x = y) (q : rEr y e I L P r M) : rEr x e I L P r M := by rw [h]; exact q
theorem yCmp_5 (a b : Int64) : yCmp 5 a b ↔ a < b := Iff.rfl
theorem yCmp_6 (a b : Int64) : yCmp 6 a b ↔ a ≤ b := Iff.rfl
theorem yCmp_7 (a b : Int64) : yCmp 7 a b ↔ a = b := Iff.rfl
theorem yCmp_8 (a b : Int64) : yCmp 8 a b ↔ ¬ a = b := Iff.rfl
theorem yCmp_9 (a b : Int64) : yCmp 9 a b ↔ b ≤ a := Iff.rfl
theorem yCmp_o {k : Int32} (a b : Int64) (h5 : ¬ k = 5) (h6 : ¬ k = 6) (h7 : ¬ k = 7) (h8 : ¬ k = 8) (h9 : ¬ k = 9) : yCmp k a b ↔ b < a := by
  unfold yCmp
  rw [if_neg h5, if_neg h6, if_neg h7, if_neg h8, if_neg h9]

theorem ct_Mo_compares {sh : List pSh} {I : Nat → Nat → Int32} {L : Nat → Nat → Int64} {P : Nat → Nat → Option Nat} (k : Int32) (a b : Int64) : pCn m_Mo_compares 0 [.int k, .long a, .long b] sh (I, L, P) (rI (B (yCmp k a b)) (I, L, P)) := by
  refine pCn_of (by decide +kernel) (Nat.le_of_ble_eq_true rfl) ?_
  refine pw_iload_n (k4 := 0) rfl (by decide +kernel) ?_
  have hsw1 : decode m_Mo_compares.2.1 1 = .ok (.tableswitch 95 5 9 #[35, 47, 59, 71, 83], 35) := by decide +kernel
  rcases swIn k 5 9 (by decide) (by decide) with z1 | ⟨j1, z1, y1, e1⟩
  · refine pw_tableOut (tgt := 96) hsw1 z1 (by decide +kernel) ?_
    refine pw_lload_n (k4 := 1) rfl (by decide +kernel) ?_
    refine pw_lload_n (k4 := 3) rfl (by decide +kernel) ?_
    refine pw_lcmp (by decide +kernel) ?_
    refine pw_if_le (off := 7) (tgt := 106) (by decide +kernel) (by decide +kernel) (fun z99 => ?_) (fun z99 => ?_)
    · rw [lle0] at z99
      refine pw_iconst (n := 0) (v := 0) (by decide) (by decide +kernel) ?_
      exact pq_zret rfl (by decide) (by decide +kernel) ⟨congrArg (fun z => some (Value.int z)) (by exact (B_f (fun q => absurd ((yCmp_o a b (sw_ne (k := 5) z1 (by decide) (by decide) (by decide)) (sw_ne (k := 6) z1 (by decide) (by decide) (by decide)) (sw_ne (k := 7) z1 (by decide) (by decide) (by decide)) (sw_ne (k := 8) z1 (by decide) (by decide) (by decide)) (sw_ne (k := 9) z1 (by decide) (by decide) (by decide))).mp q) (Int64.not_lt.mpr z99))).symm), rfl⟩
    · rw [lle0] at z99
      refine pw_iconst (n := 1) (v := 1) (by decide) (by decide +kernel) ?_
      refine pw_goto (off := 4) (tgt := 107) (by decide +kernel) (by decide +kernel) ?_
      exact pq_zret rfl (by decide) (by decide +kernel) ⟨congrArg (fun z => some (Value.int z)) (by exact (B_t ((yCmp_o a b (sw_ne (k := 5) z1 (by decide) (by decide) (by decide)) (sw_ne (k := 6) z1 (by decide) (by decide) (by decide)) (sw_ne (k := 7) z1 (by decide) (by decide) (by decide)) (sw_ne (k := 8) z1 (by decide) (by decide) (by decide)) (sw_ne (k := 9) z1 (by decide) (by decide) (by decide))).mpr (Int64.not_le.mp z99))).symm), rfl⟩
  · rcases (show j1 = 5 ∨ j1 = 6 ∨ j1 = 7 ∨ j1 = 8 ∨ j1 = 9 by omega) with rfl | rfl | rfl | rfl | rfl
    · refine pw_tableIn (off := 35) (tgt := 36) hsw1 (by rw [e1]; decide) (by rw [e1]; decide) (by rw [e1]; decide) (by decide +kernel) ?_
      refine pw_lload_n (k4 := 1) rfl (by decide +kernel) ?_
      refine pw_lload_n (k4 := 3) rfl (by decide +kernel) ?_
      refine pw_lcmp (by decide +kernel) ?_
      refine pw_if_ge (off := 7) (tgt := 46) (by decide +kernel) (by decide +kernel) (fun z39 => ?_) (fun z39 => ?_)
      · rw [lge0] at z39
        refine pw_iconst (n := 0) (v := 0) (by decide) (by decide +kernel) ?_
        exact pq_zret rfl (by decide) (by decide +kernel) ⟨congrArg (fun z => some (Value.int z)) (by obtain rfl : k = nI 5 := e1; exact (B_f (fun q => absurd ((yCmp_5 a b).mp q) (Int64.not_lt.mpr z39))).symm), rfl⟩
      · rw [lge0] at z39
        refine pw_iconst (n := 1) (v := 1) (by decide) (by decide +kernel) ?_
        refine pw_goto (off := 4) (tgt := 47) (by decide +kernel) (by decide +kernel) ?_
        exact pq_zret rfl (by decide) (by decide +kernel) ⟨congrArg (fun z => some (Value.int z)) (by obtain rfl : k = nI 5 := e1; exact (B_t ((yCmp_5 a b).mpr (Int64.not_le.mp z39))).symm), rfl⟩
    · refine pw_tableIn (off := 47) (tgt := 48) hsw1 (by rw [e1]; decide) (by rw [e1]; decide) (by rw [e1]; decide) (by decide +kernel) ?_
      refine pw_lload_n (k4 := 1) rfl (by decide +kernel) ?_
      refine pw_lload_n (k4 := 3) rfl (by decide +kernel) ?_
      refine pw_lcmp (by decide +kernel) ?_
      refine pw_if_gt (off := 7) (tgt := 58) (by decide +kernel) (by decide +kernel) (fun z51 => ?_) (fun z51 => ?_)
      · rw [lgt] at z51
        refine pw_iconst (n := 0) (v := 0) (by decide) (by decide +kernel) ?_
        exact pq_zret rfl (by decide) (by decide +kernel) ⟨congrArg (fun z => some (Value.int z)) (by obtain rfl : k = nI 6 := e1; exact (B_f (fun q => absurd ((yCmp_6 a b).mp q) (Int64.not_le.mpr z51))).symm), rfl⟩
      · rw [lgt] at z51
        refine pw_iconst (n := 1) (v := 1) (by decide) (by decide +kernel) ?_
        refine pw_goto (off := 4) (tgt := 59) (by decide +kernel) (by decide +kernel) ?_
        exact pq_zret rfl (by decide) (by decide +kernel) ⟨congrArg (fun z => some (Value.int z)) (by obtain rfl : k = nI 6 := e1; exact (B_t ((yCmp_6 a b).mpr (Int64.not_lt.mp z51))).symm), rfl⟩
    · refine pw_tableIn (off := 59) (tgt := 60) hsw1 (by rw [e1]; decide) (by rw [e1]; decide) (by rw [e1]; decide) (by decide +kernel) ?_
      refine pw_lload_n (k4 := 1) rfl (by decide +kernel) ?_
      refine pw_lload_n (k4 := 3) rfl (by decide +kernel) ?_
      refine pw_lcmp (by decide +kernel) ?_
      refine pw_if_ne (off := 7) (tgt := 70) (by decide +kernel) (by decide +kernel) (fun z63 => ?_) (fun z63 => ?_)
      · rw [lge] at z63
        refine pw_iconst (n := 0) (v := 0) (by decide) (by decide +kernel) ?_
        exact pq_zret rfl (by decide) (by decide +kernel) ⟨congrArg (fun z => some (Value.int z)) (by obtain rfl : k = nI 7 := e1; exact (B_f (fun q => absurd ((yCmp_7 a b).mp q) z63)).symm), rfl⟩
      · rw [lge] at z63
        refine pw_iconst (n := 1) (v := 1) (by decide) (by decide +kernel) ?_
        refine pw_goto (off := 4) (tgt := 71) (by decide +kernel) (by decide +kernel) ?_
        exact pq_zret rfl (by decide) (by decide +kernel) ⟨congrArg (fun z => some (Value.int z)) (by obtain rfl : k = nI 7 := e1; exact (B_t ((yCmp_7 a b).mpr z63)).symm), rfl⟩
    · refine pw_tableIn (off := 71) (tgt := 72) hsw1 (by rw [e1]; decide) (by rw [e1]; decide) (by rw [e1]; decide) (by decide +kernel) ?_
      refine pw_lload_n (k4 := 1) rfl (by decide +kernel) ?_
      refine pw_lload_n (k4 := 3) rfl (by decide +kernel) ?_
      refine pw_lcmp (by decide +kernel) ?_
      refine pw_if_eq (off := 7) (tgt := 82) (by decide +kernel) (by decide +kernel) (fun z75 => ?_) (fun z75 => ?_)
      · rw [lge] at z75
        refine pw_iconst (n := 0) (v := 0) (by decide) (by decide +kernel) ?_
        exact pq_zret rfl (by decide) (by decide +kernel) ⟨congrArg (fun z => some (Value.int z)) (by obtain rfl : k = nI 8 := e1; exact (B_f (fun q => absurd ((yCmp_8 a b).mp q) (fun q => q z75))).symm), rfl⟩
      · rw [lge] at z75
        refine pw_iconst (n := 1) (v := 1) (by decide) (by decide +kernel) ?_
        refine pw_goto (off := 4) (tgt := 83) (by decide +kernel) (by decide +kernel) ?_
        exact pq_zret rfl (by decide) (by decide +kernel) ⟨congrArg (fun z => some (Value.int z)) (by obtain rfl : k = nI 8 := e1; exact (B_t ((yCmp_8 a b).mpr z75)).symm), rfl⟩
    · refine pw_tableIn (off := 83) (tgt := 84) hsw1 (by rw [e1]; decide) (by rw [e1]; decide) (by rw [e1]; decide) (by decide +kernel) ?_
      refine pw_lload_n (k4 := 1) rfl (by decide +kernel) ?_
      refine pw_lload_n (k4 := 3) rfl (by decide +kernel) ?_
      refine pw_lcmp (by decide +kernel) ?_
      refine pw_if_lt (off := 7) (tgt := 94) (by decide +kernel) (by decide +kernel) (fun z87 => ?_) (fun z87 => ?_)
      · rw [llt] at z87
        refine pw_iconst (n := 0) (v := 0) (by decide) (by decide +kernel) ?_
        exact pq_zret rfl (by decide) (by decide +kernel) ⟨congrArg (fun z => some (Value.int z)) (by obtain rfl : k = nI 9 := e1; exact (B_f (fun q => absurd ((yCmp_9 a b).mp q) (Int64.not_le.mpr z87))).symm), rfl⟩
      · rw [llt] at z87
        refine pw_iconst (n := 1) (v := 1) (by decide) (by decide +kernel) ?_
        refine pw_goto (off := 4) (tgt := 95) (by decide +kernel) (by decide +kernel) ?_
        exact pq_zret rfl (by decide) (by decide +kernel) ⟨congrArg (fun z => some (Value.int z)) (by obtain rfl : k = nI 9 := e1; exact (B_t ((yCmp_9 a b).mpr (Int64.not_lt.mp z87))).symm), rfl⟩

theorem ct_Mo_times {sh : List pSh} {I : Nat → Nat → Int32} {L : Nat → Nat → Int64} {P : Nat → Nat → Option Nat} (hA : kA sh P) (a b : Int64) : pCn m_Mo_times 0 [.ref 134, .long a, .long b] sh (I, L, P) (rEr (yTim a b) (I 134 54) I L P) := by
  refine pCn_of (by decide +kernel) (Nat.le_of_ble_eq_true rfl) ?_
  refine pw_lload_n (k4 := 1) rfl (by decide +kernel) ?_
  refine pw_lconst (n := 0) (v := 0) (by decide) (by decide +kernel) ?_
  refine pw_lcmp (by decide +kernel) ?_
  refine pw_if_eq (off := 45) (tgt := 48) (by decide +kernel) (by decide +kernel) (fun z3 => ?_) (fun z3 => ?_)
  · rw [lge] at z3
    refine pw_iconst (n := 0) (v := 0) (by decide) (by decide +kernel) ?_
    refine pq_istore (i := 5) (Nat.le_of_ble_eq_true rfl) rfl (by decide +kernel) ?_
    refine pw_aload_n (k4 := 0) rfl (by decide +kernel) ?_
    refine pw_aload_n (k4 := 0) rfl (by decide +kernel) ?_
    refine pq_getI (c := 11) (k := 54) (ks_m hA) (by decide) (by decide) lf_Mo_362 (by decide +kernel) ?_
    refine pw_if_ne (off := 8) (tgt := 64) (by decide +kernel) (by decide +kernel) (fun z56 => ?_) (fun z56 => ?_)
    · refine pw_iconst (n := 1) (v := 1) (by decide) (by decide +kernel) ?_
      refine pw_goto (off := 4) (tgt := 69) (by decide +kernel) (by decide +kernel) ?_
      refine pq_putZ (c := 11) (k := 54) (ks_m hA) (by decide) (by decide) (by decide) lf_Mo_362 (Or.inl rfl) (by decide +kernel) ?_
      refine pw_aload_n (k4 := 0) rfl (by decide +kernel) ?_
      refine pq_getI (c := 11) (k := 54) (ks_m hA) (by decide) (by decide) lf_Mo_362 (by decide +kernel) ?_
      refine pw_if_eq (off := 7) (tgt := 83) (by decide +kernel) (by decide +kernel) (fun z76 => ?_) (fun z76 => ?_)
      · exact absurd z76 (by rw [sI_rs]; decide)
      · refine pw_lconst (n := 0) (v := 0) (by decide) (by decide +kernel) ?_
        refine pw_goto (off := 6) (tgt := 86) (by decide +kernel) (by decide +kernel) ?_
        exact pq_lret rfl (by decide +kernel) (rEr_er (Or.inl z56))
    · refine pw_iload (i := 5) rfl (by decide +kernel) ?_
      refine pw_if_eq (off := 7) (tgt := 68) (by decide +kernel) (by decide +kernel) (fun z61 => ?_) (fun z61 => ?_)
      · refine pw_iconst (n := 0) (v := 0) (by decide) (by decide +kernel) ?_
        refine pq_putZ (c := 11) (k := 54) (ks_m hA) (by decide) (by decide) (by decide) lf_Mo_362 (Or.inl rfl) (by decide +kernel) ?_
        refine pw_aload_n (k4 := 0) rfl (by decide +kernel) ?_
        refine pq_getI (c := 11) (k := 54) (ks_m hA) (by decide) (by decide) lf_Mo_362 (by decide +kernel) ?_
        refine pw_if_eq (off := 7) (tgt := 83) (by decide +kernel) (by decide +kernel) (fun z76 => ?_) (fun z76 => ?_)
        · refine pw_lload_n (k4 := 1) rfl (by decide +kernel) ?_
          refine pw_lload_n (k4 := 3) rfl (by decide +kernel) ?_
          refine pw_lmul (by decide +kernel) ?_
          exact pq_lret rfl (by decide +kernel) (rEr_ok z56 (if_neg (fun q => q.1 z3)))
        · exact absurd sI_rs z76
      · exact absurd z61 (by decide)
  · rw [lge] at z3
    refine pw_lload_n (k4 := 3) rfl (by decide +kernel) ?_
    refine pw_lconst (n := 0) (v := 0) (by decide) (by decide +kernel) ?_
    refine pw_lcmp (by decide +kernel) ?_
    refine pw_if_eq (off := 39) (tgt := 48) (by decide +kernel) (by decide +kernel) (fun z9 => ?_) (fun z9 => ?_)
    · rw [lge] at z9
      refine pw_iconst (n := 0) (v := 0) (by decide) (by decide +kernel) ?_
      refine pq_istore (i := 5) (Nat.le_of_ble_eq_true rfl) rfl (by decide +kernel) ?_
      refine pw_aload_n (k4 := 0) rfl (by decide +kernel) ?_
      refine pw_aload_n (k4 := 0) rfl (by decide +kernel) ?_
      refine pq_getI (c := 11) (k := 54) (ks_m hA) (by decide) (by decide) lf_Mo_362 (by decide +kernel) ?_
      refine pw_if_ne (off := 8) (tgt := 64) (by decide +kernel) (by decide +kernel) (fun z56 => ?_) (fun z56 => ?_)
      · refine pw_iconst (n := 1) (v := 1) (by decide) (by decide +kernel) ?_
        refine pw_goto (off := 4) (tgt := 69) (by decide +kernel) (by decide +kernel) ?_
        refine pq_putZ (c := 11) (k := 54) (ks_m hA) (by decide) (by decide) (by decide) lf_Mo_362 (Or.inl rfl) (by decide +kernel) ?_
        refine pw_aload_n (k4 := 0) rfl (by decide +kernel) ?_
        refine pq_getI (c := 11) (k := 54) (ks_m hA) (by decide) (by decide) lf_Mo_362 (by decide +kernel) ?_
        refine pw_if_eq (off := 7) (tgt := 83) (by decide +kernel) (by decide +kernel) (fun z76 => ?_) (fun z76 => ?_)
        · exact absurd z76 (by rw [sI_rs]; decide)
        · refine pw_lconst (n := 0) (v := 0) (by decide) (by decide +kernel) ?_
          refine pw_goto (off := 6) (tgt := 86) (by decide +kernel) (by decide +kernel) ?_
          exact pq_lret rfl (by decide +kernel) (rEr_er (Or.inl z56))
      · refine pw_iload (i := 5) rfl (by decide +kernel) ?_
        refine pw_if_eq (off := 7) (tgt := 68) (by decide +kernel) (by decide +kernel) (fun z61 => ?_) (fun z61 => ?_)
        · refine pw_iconst (n := 0) (v := 0) (by decide) (by decide +kernel) ?_
          refine pq_putZ (c := 11) (k := 54) (ks_m hA) (by decide) (by decide) (by decide) lf_Mo_362 (Or.inl rfl) (by decide +kernel) ?_
          refine pw_aload_n (k4 := 0) rfl (by decide +kernel) ?_
          refine pq_getI (c := 11) (k := 54) (ks_m hA) (by decide) (by decide) lf_Mo_362 (by decide +kernel) ?_
          refine pw_if_eq (off := 7) (tgt := 83) (by decide +kernel) (by decide +kernel) (fun z76 => ?_) (fun z76 => ?_)
          · refine pw_lload_n (k4 := 1) rfl (by decide +kernel) ?_
            refine pw_lload_n (k4 := 3) rfl (by decide +kernel) ?_
            refine pw_lmul (by decide +kernel) ?_
            exact pq_lret rfl (by decide +kernel) (rEr_ok z56 (if_neg (fun q => q.2.1 z9)))
          · exact absurd sI_rs z76
        · exact absurd z61 (by decide)
    · rw [lge] at z9
      refine pw_lload_n (k4 := 3) rfl (by decide +kernel) ?_
      refine pw_lconst (n := 0) (v := 0) (by decide) (by decide +kernel) ?_
      refine pw_lcmp (by decide +kernel) ?_
      refine pw_if_ge (off := 8) (tgt := 23) (by decide +kernel) (by decide +kernel) (fun z15 => ?_) (fun z15 => ?_)
      · rw [lge0] at z15
        refine pw_lload_n (k4 := 3) rfl (by decide +kernel) ?_
        refine pw_ldc2 lc_Mo_365 (by decide +kernel) ?_
        refine pw_lload_n (k4 := 1) rfl (by decide +kernel) ?_
        refine pw_lconst (n := 0) (v := 0) (by decide) (by decide +kernel) ?_
        refine pw_lcmp (by decide +kernel) ?_
        refine pw_if_ge (off := 8) (tgt := 38) (by decide +kernel) (by decide +kernel) (fun z30 => ?_) (fun z30 => ?_)
        · rw [lge0] at z30
          refine pw_lload_n (k4 := 1) rfl (by decide +kernel) ?_
          refine pw_ldiv z3 (by decide +kernel) ?_
          refine pw_lcmp (by decide +kernel) ?_
          refine pw_if_le (off := 7) (tgt := 48) (by decide +kernel) (by decide +kernel) (fun z41 => ?_) (fun z41 => ?_)
          · rw [lle0] at z41
            refine pw_iconst (n := 0) (v := 0) (by decide) (by decide +kernel) ?_
            refine pq_istore (i := 5) (Nat.le_of_ble_eq_true rfl) rfl (by decide +kernel) ?_
            refine pw_aload_n (k4 := 0) rfl (by decide +kernel) ?_
            refine pw_aload_n (k4 := 0) rfl (by decide +kernel) ?_
            refine pq_getI (c := 11) (k := 54) (ks_m hA) (by decide) (by decide) lf_Mo_362 (by decide +kernel) ?_
            refine pw_if_ne (off := 8) (tgt := 64) (by decide +kernel) (by decide +kernel) (fun z56 => ?_) (fun z56 => ?_)
            · refine pw_iconst (n := 1) (v := 1) (by decide) (by decide +kernel) ?_
              refine pw_goto (off := 4) (tgt := 69) (by decide +kernel) (by decide +kernel) ?_
              refine pq_putZ (c := 11) (k := 54) (ks_m hA) (by decide) (by decide) (by decide) lf_Mo_362 (Or.inl rfl) (by decide +kernel) ?_
              refine pw_aload_n (k4 := 0) rfl (by decide +kernel) ?_
              refine pq_getI (c := 11) (k := 54) (ks_m hA) (by decide) (by decide) lf_Mo_362 (by decide +kernel) ?_
              refine pw_if_eq (off := 7) (tgt := 83) (by decide +kernel) (by decide +kernel) (fun z76 => ?_) (fun z76 => ?_)
              · exact absurd z76 (by rw [sI_rs]; decide)
              · refine pw_lconst (n := 0) (v := 0) (by decide) (by decide +kernel) ?_
                refine pw_goto (off := 6) (tgt := 86) (by decide +kernel) (by decide +kernel) ?_
                exact pq_lret rfl (by decide +kernel) (rEr_er (Or.inl z56))
            · refine pw_iload (i := 5) rfl (by decide +kernel) ?_
              refine pw_if_eq (off := 7) (tgt := 68) (by decide +kernel) (by decide +kernel) (fun z61 => ?_) (fun z61 => ?_)
              · refine pw_iconst (n := 0) (v := 0) (by decide) (by decide +kernel) ?_
                refine pq_putZ (c := 11) (k := 54) (ks_m hA) (by decide) (by decide) (by decide) lf_Mo_362 (Or.inl rfl) (by decide +kernel) ?_
                refine pw_aload_n (k4 := 0) rfl (by decide +kernel) ?_
                refine pq_getI (c := 11) (k := 54) (ks_m hA) (by decide) (by decide) lf_Mo_362 (by decide +kernel) ?_
                refine pw_if_eq (off := 7) (tgt := 83) (by decide +kernel) (by decide +kernel) (fun z76 => ?_) (fun z76 => ?_)
                · refine pw_lload_n (k4 := 1) rfl (by decide +kernel) ?_
                  refine pw_lload_n (k4 := 3) rfl (by decide +kernel) ?_
                  refine pw_lmul (by decide +kernel) ?_
                  exact pq_lret rfl (by decide +kernel) (rEr_ok z56 (if_neg (fun q => by have q2 := q.2.2; rw [if_pos z30, if_pos z15] at q2; exact absurd q2 (Int64.not_lt.mpr z41))))
                · exact absurd sI_rs z76
              · exact absurd z61 (by decide)
          · rw [lle0] at z41
            refine pw_iconst (n := 1) (v := 1) (by decide) (by decide +kernel) ?_
            refine pw_goto (off := 4) (tgt := 49) (by decide +kernel) (by decide +kernel) ?_
            refine pq_istore (i := 5) (Nat.le_of_ble_eq_true rfl) rfl (by decide +kernel) ?_
            refine pw_aload_n (k4 := 0) rfl (by decide +kernel) ?_
            refine pw_aload_n (k4 := 0) rfl (by decide +kernel) ?_
            refine pq_getI (c := 11) (k := 54) (ks_m hA) (by decide) (by decide) lf_Mo_362 (by decide +kernel) ?_
            refine pw_if_ne (off := 8) (tgt := 64) (by decide +kernel) (by decide +kernel) (fun z56 => ?_) (fun z56 => ?_)
            · refine pw_iconst (n := 1) (v := 1) (by decide) (by decide +kernel) ?_
              refine pw_goto (off := 4) (tgt := 69) (by decide +kernel) (by decide +kernel) ?_
              refine pq_putZ (c := 11) (k := 54) (ks_m hA) (by decide) (by decide) (by decide) lf_Mo_362 (Or.inl rfl) (by decide +kernel) ?_
              refine pw_aload_n (k4 := 0) rfl (by decide +kernel) ?_
              refine pq_getI (c := 11) (k := 54) (ks_m hA) (by decide) (by decide) lf_Mo_362 (by decide +kernel) ?_
              refine pw_if_eq (off := 7) (tgt := 83) (by decide +kernel) (by decide +kernel) (fun z76 => ?_) (fun z76 => ?_)
              · exact absurd z76 (by rw [sI_rs]; decide)
              · refine pw_lconst (n := 0) (v := 0) (by decide) (by decide +kernel) ?_
                refine pw_goto (off := 6) (tgt := 86) (by decide +kernel) (by decide +kernel) ?_
                exact pq_lret rfl (by decide +kernel) (rEr_er (Or.inl z56))
            · refine pw_iload (i := 5) rfl (by decide +kernel) ?_
              refine pw_if_eq (off := 7) (tgt := 68) (by decide +kernel) (by decide +kernel) (fun z61 => ?_) (fun z61 => ?_)
              · exact absurd z61 (by decide)
              · refine pw_iconst (n := 1) (v := 1) (by decide) (by decide +kernel) ?_
                refine pw_goto (off := 4) (tgt := 69) (by decide +kernel) (by decide +kernel) ?_
                refine pq_putZ (c := 11) (k := 54) (ks_m hA) (by decide) (by decide) (by decide) lf_Mo_362 (Or.inl rfl) (by decide +kernel) ?_
                refine pw_aload_n (k4 := 0) rfl (by decide +kernel) ?_
                refine pq_getI (c := 11) (k := 54) (ks_m hA) (by decide) (by decide) lf_Mo_362 (by decide +kernel) ?_
                refine pw_if_eq (off := 7) (tgt := 83) (by decide +kernel) (by decide +kernel) (fun z76 => ?_) (fun z76 => ?_)
                · exact absurd z76 (by rw [sI_rs]; decide)
                · refine pw_lconst (n := 0) (v := 0) (by decide) (by decide +kernel) ?_
                  refine pw_goto (off := 6) (tgt := 86) (by decide +kernel) (by decide +kernel) ?_
                  exact pq_lret rfl (by decide +kernel) (rEr_er (Or.inr (if_pos ⟨z3, z9, by rw [if_pos z30, if_pos z15]; exact Int64.not_le.mp z41⟩)))
        · rw [lge0] at z30
          refine pw_lload_n (k4 := 1) rfl (by decide +kernel) ?_
          refine pw_lneg (by decide +kernel) ?_
          refine pw_goto (off := 4) (tgt := 39) (by decide +kernel) (by decide +kernel) ?_
          refine pw_ldiv (lneg0 z3) (by decide +kernel) ?_
          refine pw_lcmp (by decide +kernel) ?_
          refine pw_if_le (off := 7) (tgt := 48) (by decide +kernel) (by decide +kernel) (fun z41 => ?_) (fun z41 => ?_)
          · rw [lle0] at z41
            refine pw_iconst (n := 0) (v := 0) (by decide) (by decide +kernel) ?_
            refine pq_istore (i := 5) (Nat.le_of_ble_eq_true rfl) rfl (by decide +kernel) ?_
            refine pw_aload_n (k4 := 0) rfl (by decide +kernel) ?_
            refine pw_aload_n (k4 := 0) rfl (by decide +kernel) ?_
            refine pq_getI (c := 11) (k := 54) (ks_m hA) (by decide) (by decide) lf_Mo_362 (by decide +kernel) ?_
            refine pw_if_ne (off := 8) (tgt := 64) (by decide +kernel) (by decide +kernel) (fun z56 => ?_) (fun z56 => ?_)
            · refine pw_iconst (n := 1) (v := 1) (by decide) (by decide +kernel) ?_
              refine pw_goto (off := 4) (tgt := 69) (by decide +kernel) (by decide +kernel) ?_
              refine pq_putZ (c := 11) (k := 54) (ks_m hA) (by decide) (by decide) (by decide) lf_Mo_362 (Or.inl rfl) (by decide +kernel) ?_
              refine pw_aload_n (k4 := 0) rfl (by decide +kernel) ?_
              refine pq_getI (c := 11) (k := 54) (ks_m hA) (by decide) (by decide) lf_Mo_362 (by decide +kernel) ?_
              refine pw_if_eq (off := 7) (tgt := 83) (by decide +kernel) (by decide +kernel) (fun z76 => ?_) (fun z76 => ?_)
              · exact absurd z76 (by rw [sI_rs]; decide)
              · refine pw_lconst (n := 0) (v := 0) (by decide) (by decide +kernel) ?_
                refine pw_goto (off := 6) (tgt := 86) (by decide +kernel) (by decide +kernel) ?_
                exact pq_lret rfl (by decide +kernel) (rEr_er (Or.inl z56))
            · refine pw_iload (i := 5) rfl (by decide +kernel) ?_
              refine pw_if_eq (off := 7) (tgt := 68) (by decide +kernel) (by decide +kernel) (fun z61 => ?_) (fun z61 => ?_)
              · refine pw_iconst (n := 0) (v := 0) (by decide) (by decide +kernel) ?_
                refine pq_putZ (c := 11) (k := 54) (ks_m hA) (by decide) (by decide) (by decide) lf_Mo_362 (Or.inl rfl) (by decide +kernel) ?_
                refine pw_aload_n (k4 := 0) rfl (by decide +kernel) ?_
                refine pq_getI (c := 11) (k := 54) (ks_m hA) (by decide) (by decide) lf_Mo_362 (by decide +kernel) ?_
                refine pw_if_eq (off := 7) (tgt := 83) (by decide +kernel) (by decide +kernel) (fun z76 => ?_) (fun z76 => ?_)
                · refine pw_lload_n (k4 := 1) rfl (by decide +kernel) ?_
                  refine pw_lload_n (k4 := 3) rfl (by decide +kernel) ?_
                  refine pw_lmul (by decide +kernel) ?_
                  exact pq_lret rfl (by decide +kernel) (rEr_ok z56 (if_neg (fun q => by have q2 := q.2.2; rw [if_neg z30, if_pos z15] at q2; exact absurd q2 (Int64.not_lt.mpr z41))))
                · exact absurd sI_rs z76
              · exact absurd z61 (by decide)
          · rw [lle0] at z41
            refine pw_iconst (n := 1) (v := 1) (by decide) (by decide +kernel) ?_
            refine pw_goto (off := 4) (tgt := 49) (by decide +kernel) (by decide +kernel) ?_
            refine pq_istore (i := 5) (Nat.le_of_ble_eq_true rfl) rfl (by decide +kernel) ?_
            refine pw_aload_n (k4 := 0) rfl (by decide +kernel) ?_
            refine pw_aload_n (k4 := 0) rfl (by decide +kernel) ?_
            refine pq_getI (c := 11) (k := 54) (ks_m hA) (by decide) (by decide) lf_Mo_362 (by decide +kernel) ?_
            refine pw_if_ne (off := 8) (tgt := 64) (by decide +kernel) (by decide +kernel) (fun z56 => ?_) (fun z56 => ?_)
            · refine pw_iconst (n := 1) (v := 1) (by decide) (by decide +kernel) ?_
              refine pw_goto (off := 4) (tgt := 69) (by decide +kernel) (by decide +kernel) ?_
              refine pq_putZ (c := 11) (k := 54) (ks_m hA) (by decide) (by decide) (by decide) lf_Mo_362 (Or.inl rfl) (by decide +kernel) ?_
              refine pw_aload_n (k4 := 0) rfl (by decide +kernel) ?_
              refine pq_getI (c := 11) (k := 54) (ks_m hA) (by decide) (by decide) lf_Mo_362 (by decide +kernel) ?_
              refine pw_if_eq (off := 7) (tgt := 83) (by decide +kernel) (by decide +kernel) (fun z76 => ?_) (fun z76 => ?_)
              · exact absurd z76 (by rw [sI_rs]; decide)
              · refine pw_lconst (n := 0) (v := 0) (by decide) (by decide +kernel) ?_
                refine pw_goto (off := 6) (tgt := 86) (by decide +kernel) (by decide +kernel) ?_
                exact pq_lret rfl (by decide +kernel) (rEr_er (Or.inl z56))
            · refine pw_iload (i := 5) rfl (by decide +kernel) ?_
              refine pw_if_eq (off := 7) (tgt := 68) (by decide +kernel) (by decide +kernel) (fun z61 => ?_) (fun z61 => ?_)
              · exact absurd z61 (by decide)
              · refine pw_iconst (n := 1) (v := 1) (by decide) (by decide +kernel) ?_
                refine pw_goto (off := 4) (tgt := 69) (by decide +kernel) (by decide +kernel) ?_
                refine pq_putZ (c := 11) (k := 54) (ks_m hA) (by decide) (by decide) (by decide) lf_Mo_362 (Or.inl rfl) (by decide +kernel) ?_
                refine pw_aload_n (k4 := 0) rfl (by decide +kernel) ?_
                refine pq_getI (c := 11) (k := 54) (ks_m hA) (by decide) (by decide) lf_Mo_362 (by decide +kernel) ?_
                refine pw_if_eq (off := 7) (tgt := 83) (by decide +kernel) (by decide +kernel) (fun z76 => ?_) (fun z76 => ?_)
                · exact absurd z76 (by rw [sI_rs]; decide)
                · refine pw_lconst (n := 0) (v := 0) (by decide) (by decide +kernel) ?_
                  refine pw_goto (off := 6) (tgt := 86) (by decide +kernel) (by decide +kernel) ?_
                  exact pq_lret rfl (by decide +kernel) (rEr_er (Or.inr (if_pos ⟨z3, z9, by rw [if_neg z30, if_pos z15]; exact Int64.not_le.mp z41⟩)))
      · rw [lge0] at z15
        refine pw_lload_n (k4 := 3) rfl (by decide +kernel) ?_
        refine pw_lneg (by decide +kernel) ?_
        refine pw_goto (off := 4) (tgt := 24) (by decide +kernel) (by decide +kernel) ?_
        refine pw_ldc2 lc_Mo_365 (by decide +kernel) ?_
        refine pw_lload_n (k4 := 1) rfl (by decide +kernel) ?_
        refine pw_lconst (n := 0) (v := 0) (by decide) (by decide +kernel) ?_
        refine pw_lcmp (by decide +kernel) ?_
        refine pw_if_ge (off := 8) (tgt := 38) (by decide +kernel) (by decide +kernel) (fun z30 => ?_) (fun z30 => ?_)
        · rw [lge0] at z30
          refine pw_lload_n (k4 := 1) rfl (by decide +kernel) ?_
          refine pw_ldiv z3 (by decide +kernel) ?_
          refine pw_lcmp (by decide +kernel) ?_
          refine pw_if_le (off := 7) (tgt := 48) (by decide +kernel) (by decide +kernel) (fun z41 => ?_) (fun z41 => ?_)
          · rw [lle0] at z41
            refine pw_iconst (n := 0) (v := 0) (by decide) (by decide +kernel) ?_
            refine pq_istore (i := 5) (Nat.le_of_ble_eq_true rfl) rfl (by decide +kernel) ?_
            refine pw_aload_n (k4 := 0) rfl (by decide +kernel) ?_
            refine pw_aload_n (k4 := 0) rfl (by decide +kernel) ?_
            refine pq_getI (c := 11) (k := 54) (ks_m hA) (by decide) (by decide) lf_Mo_362 (by decide +kernel) ?_
            refine pw_if_ne (off := 8) (tgt := 64) (by decide +kernel) (by decide +kernel) (fun z56 => ?_) (fun z56 => ?_)
            · refine pw_iconst (n := 1) (v := 1) (by decide) (by decide +kernel) ?_
              refine pw_goto (off := 4) (tgt := 69) (by decide +kernel) (by decide +kernel) ?_
              refine pq_putZ (c := 11) (k := 54) (ks_m hA) (by decide) (by decide) (by decide) lf_Mo_362 (Or.inl rfl) (by decide +kernel) ?_
              refine pw_aload_n (k4 := 0) rfl (by decide +kernel) ?_
              refine pq_getI (c := 11) (k := 54) (ks_m hA) (by decide) (by decide) lf_Mo_362 (by decide +kernel) ?_
              refine pw_if_eq (off := 7) (tgt := 83) (by decide +kernel) (by decide +kernel) (fun z76 => ?_) (fun z76 => ?_)
              · exact absurd z76 (by rw [sI_rs]; decide)
              · refine pw_lconst (n := 0) (v := 0) (by decide) (by decide +kernel) ?_
                refine pw_goto (off := 6) (tgt := 86) (by decide +kernel) (by decide +kernel) ?_
                exact pq_lret rfl (by decide +kernel) (rEr_er (Or.inl z56))
            · refine pw_iload (i := 5) rfl (by decide +kernel) ?_
              refine pw_if_eq (off := 7) (tgt := 68) (by decide +kernel) (by decide +kernel) (fun z61 => ?_) (fun z61 => ?_)
              · refine pw_iconst (n := 0) (v := 0) (by decide) (by decide +kernel) ?_
                refine pq_putZ (c := 11) (k := 54) (ks_m hA) (by decide) (by decide) (by decide) lf_Mo_362 (Or.inl rfl) (by decide +kernel) ?_
                refine pw_aload_n (k4 := 0) rfl (by decide +kernel) ?_
                refine pq_getI (c := 11) (k := 54) (ks_m hA) (by decide) (by decide) lf_Mo_362 (by decide +kernel) ?_
                refine pw_if_eq (off := 7) (tgt := 83) (by decide +kernel) (by decide +kernel) (fun z76 => ?_) (fun z76 => ?_)
                · refine pw_lload_n (k4 := 1) rfl (by decide +kernel) ?_
                  refine pw_lload_n (k4 := 3) rfl (by decide +kernel) ?_
                  refine pw_lmul (by decide +kernel) ?_
                  exact pq_lret rfl (by decide +kernel) (rEr_ok z56 (if_neg (fun q => by have q2 := q.2.2; rw [if_pos z30, if_neg z15] at q2; exact absurd q2 (Int64.not_lt.mpr z41))))
                · exact absurd sI_rs z76
              · exact absurd z61 (by decide)
          · rw [lle0] at z41
            refine pw_iconst (n := 1) (v := 1) (by decide) (by decide +kernel) ?_
            refine pw_goto (off := 4) (tgt := 49) (by decide +kernel) (by decide +kernel) ?_
            refine pq_istore (i := 5) (Nat.le_of_ble_eq_true rfl) rfl (by decide +kernel) ?_
            refine pw_aload_n (k4 := 0) rfl (by decide +kernel) ?_
            refine pw_aload_n (k4 := 0) rfl (by decide +kernel) ?_
            refine pq_getI (c := 11) (k := 54) (ks_m hA) (by decide) (by decide) lf_Mo_362 (by decide +kernel) ?_
            refine pw_if_ne (off := 8) (tgt := 64) (by decide +kernel) (by decide +kernel) (fun z56 => ?_) (fun z56 => ?_)
            · refine pw_iconst (n := 1) (v := 1) (by decide) (by decide +kernel) ?_
              refine pw_goto (off := 4) (tgt := 69) (by decide +kernel) (by decide +kernel) ?_
              refine pq_putZ (c := 11) (k := 54) (ks_m hA) (by decide) (by decide) (by decide) lf_Mo_362 (Or.inl rfl) (by decide +kernel) ?_
              refine pw_aload_n (k4 := 0) rfl (by decide +kernel) ?_
              refine pq_getI (c := 11) (k := 54) (ks_m hA) (by decide) (by decide) lf_Mo_362 (by decide +kernel) ?_
              refine pw_if_eq (off := 7) (tgt := 83) (by decide +kernel) (by decide +kernel) (fun z76 => ?_) (fun z76 => ?_)
              · exact absurd z76 (by rw [sI_rs]; decide)
              · refine pw_lconst (n := 0) (v := 0) (by decide) (by decide +kernel) ?_
                refine pw_goto (off := 6) (tgt := 86) (by decide +kernel) (by decide +kernel) ?_
                exact pq_lret rfl (by decide +kernel) (rEr_er (Or.inl z56))
            · refine pw_iload (i := 5) rfl (by decide +kernel) ?_
              refine pw_if_eq (off := 7) (tgt := 68) (by decide +kernel) (by decide +kernel) (fun z61 => ?_) (fun z61 => ?_)
              · exact absurd z61 (by decide)
              · refine pw_iconst (n := 1) (v := 1) (by decide) (by decide +kernel) ?_
                refine pw_goto (off := 4) (tgt := 69) (by decide +kernel) (by decide +kernel) ?_
                refine pq_putZ (c := 11) (k := 54) (ks_m hA) (by decide) (by decide) (by decide) lf_Mo_362 (Or.inl rfl) (by decide +kernel) ?_
                refine pw_aload_n (k4 := 0) rfl (by decide +kernel) ?_
                refine pq_getI (c := 11) (k := 54) (ks_m hA) (by decide) (by decide) lf_Mo_362 (by decide +kernel) ?_
                refine pw_if_eq (off := 7) (tgt := 83) (by decide +kernel) (by decide +kernel) (fun z76 => ?_) (fun z76 => ?_)
                · exact absurd z76 (by rw [sI_rs]; decide)
                · refine pw_lconst (n := 0) (v := 0) (by decide) (by decide +kernel) ?_
                  refine pw_goto (off := 6) (tgt := 86) (by decide +kernel) (by decide +kernel) ?_
                  exact pq_lret rfl (by decide +kernel) (rEr_er (Or.inr (if_pos ⟨z3, z9, by rw [if_pos z30, if_neg z15]; exact Int64.not_le.mp z41⟩)))
        · rw [lge0] at z30
          refine pw_lload_n (k4 := 1) rfl (by decide +kernel) ?_
          refine pw_lneg (by decide +kernel) ?_
          refine pw_goto (off := 4) (tgt := 39) (by decide +kernel) (by decide +kernel) ?_
          refine pw_ldiv (lneg0 z3) (by decide +kernel) ?_
          refine pw_lcmp (by decide +kernel) ?_
          refine pw_if_le (off := 7) (tgt := 48) (by decide +kernel) (by decide +kernel) (fun z41 => ?_) (fun z41 => ?_)
          · rw [lle0] at z41
            refine pw_iconst (n := 0) (v := 0) (by decide) (by decide +kernel) ?_
            refine pq_istore (i := 5) (Nat.le_of_ble_eq_true rfl) rfl (by decide +kernel) ?_
            refine pw_aload_n (k4 := 0) rfl (by decide +kernel) ?_
            refine pw_aload_n (k4 := 0) rfl (by decide +kernel) ?_
            refine pq_getI (c := 11) (k := 54) (ks_m hA) (by decide) (by decide) lf_Mo_362 (by decide +kernel) ?_
            refine pw_if_ne (off := 8) (tgt := 64) (by decide +kernel) (by decide +kernel) (fun z56 => ?_) (fun z56 => ?_)
            · refine pw_iconst (n := 1) (v := 1) (by decide) (by decide +kernel) ?_
              refine pw_goto (off := 4) (tgt := 69) (by decide +kernel) (by decide +kernel) ?_
              refine pq_putZ (c := 11) (k := 54) (ks_m hA) (by decide) (by decide) (by decide) lf_Mo_362 (Or.inl rfl) (by decide +kernel) ?_
              refine pw_aload_n (k4 := 0) rfl (by decide +kernel) ?_
              refine pq_getI (c := 11) (k := 54) (ks_m hA) (by decide) (by decide) lf_Mo_362 (by decide +kernel) ?_
              refine pw_if_eq (off := 7) (tgt := 83) (by decide +kernel) (by decide +kernel) (fun z76 => ?_) (fun z76 => ?_)
              · exact absurd z76 (by rw [sI_rs]; decide)
              · refine pw_lconst (n := 0) (v := 0) (by decide) (by decide +kernel) ?_
                refine pw_goto (off := 6) (tgt := 86) (by decide +kernel) (by decide +kernel) ?_
                exact pq_lret rfl (by decide +kernel) (rEr_er (Or.inl z56))
            · refine pw_iload (i := 5) rfl (by decide +kernel) ?_
              refine pw_if_eq (off := 7) (tgt := 68) (by decide +kernel) (by decide +kernel) (fun z61 => ?_) (fun z61 => ?_)
              · refine pw_iconst (n := 0) (v := 0) (by decide) (by decide +kernel) ?_
                refine pq_putZ (c := 11) (k := 54) (ks_m hA) (by decide) (by decide) (by decide) lf_Mo_362 (Or.inl rfl) (by decide +kernel) ?_
                refine pw_aload_n (k4 := 0) rfl (by decide +kernel) ?_
                refine pq_getI (c := 11) (k := 54) (ks_m hA) (by decide) (by decide) lf_Mo_362 (by decide +kernel) ?_
                refine pw_if_eq (off := 7) (tgt := 83) (by decide +kernel) (by decide +kernel) (fun z76 => ?_) (fun z76 => ?_)
                · refine pw_lload_n (k4 := 1) rfl (by decide +kernel) ?_
                  refine pw_lload_n (k4 := 3) rfl (by decide +kernel) ?_
                  refine pw_lmul (by decide +kernel) ?_
                  exact pq_lret rfl (by decide +kernel) (rEr_ok z56 (if_neg (fun q => by have q2 := q.2.2; rw [if_neg z30, if_neg z15] at q2; exact absurd q2 (Int64.not_lt.mpr z41))))
                · exact absurd sI_rs z76
              · exact absurd z61 (by decide)
          · rw [lle0] at z41
            refine pw_iconst (n := 1) (v := 1) (by decide) (by decide +kernel) ?_
            refine pw_goto (off := 4) (tgt := 49) (by decide +kernel) (by decide +kernel) ?_
            refine pq_istore (i := 5) (Nat.le_of_ble_eq_true rfl) rfl (by decide +kernel) ?_
            refine pw_aload_n (k4 := 0) rfl (by decide +kernel) ?_
            refine pw_aload_n (k4 := 0) rfl (by decide +kernel) ?_
            refine pq_getI (c := 11) (k := 54) (ks_m hA) (by decide) (by decide) lf_Mo_362 (by decide +kernel) ?_
            refine pw_if_ne (off := 8) (tgt := 64) (by decide +kernel) (by decide +kernel) (fun z56 => ?_) (fun z56 => ?_)
            · refine pw_iconst (n := 1) (v := 1) (by decide) (by decide +kernel) ?_
              refine pw_goto (off := 4) (tgt := 69) (by decide +kernel) (by decide +kernel) ?_
              refine pq_putZ (c := 11) (k := 54) (ks_m hA) (by decide) (by decide) (by decide) lf_Mo_362 (Or.inl rfl) (by decide +kernel) ?_
              refine pw_aload_n (k4 := 0) rfl (by decide +kernel) ?_
              refine pq_getI (c := 11) (k := 54) (ks_m hA) (by decide) (by decide) lf_Mo_362 (by decide +kernel) ?_
              refine pw_if_eq (off := 7) (tgt := 83) (by decide +kernel) (by decide +kernel) (fun z76 => ?_) (fun z76 => ?_)
              · exact absurd z76 (by rw [sI_rs]; decide)
              · refine pw_lconst (n := 0) (v := 0) (by decide) (by decide +kernel) ?_
                refine pw_goto (off := 6) (tgt := 86) (by decide +kernel) (by decide +kernel) ?_
                exact pq_lret rfl (by decide +kernel) (rEr_er (Or.inl z56))
            · refine pw_iload (i := 5) rfl (by decide +kernel) ?_
              refine pw_if_eq (off := 7) (tgt := 68) (by decide +kernel) (by decide +kernel) (fun z61 => ?_) (fun z61 => ?_)
              · exact absurd z61 (by decide)
              · refine pw_iconst (n := 1) (v := 1) (by decide) (by decide +kernel) ?_
                refine pw_goto (off := 4) (tgt := 69) (by decide +kernel) (by decide +kernel) ?_
                refine pq_putZ (c := 11) (k := 54) (ks_m hA) (by decide) (by decide) (by decide) lf_Mo_362 (Or.inl rfl) (by decide +kernel) ?_
                refine pw_aload_n (k4 := 0) rfl (by decide +kernel) ?_
                refine pq_getI (c := 11) (k := 54) (ks_m hA) (by decide) (by decide) lf_Mo_362 (by decide +kernel) ?_
                refine pw_if_eq (off := 7) (tgt := 83) (by decide +kernel) (by decide +kernel) (fun z76 => ?_) (fun z76 => ?_)
                · exact absurd z76 (by rw [sI_rs]; decide)
                · refine pw_lconst (n := 0) (v := 0) (by decide) (by decide +kernel) ?_
                  refine pw_goto (off := 6) (tgt := 86) (by decide +kernel) (by decide +kernel) ?_
                  exact pq_lret rfl (by decide +kernel) (rEr_er (Or.inr (if_pos ⟨z3, z9, by rw [if_neg z30, if_neg z15]; exact Int64.not_le.mp z41⟩)))

def yValF (kn pt ot : Nat → Int32) (nm val : Nat → Int64) (i : Nat) : Option Int64 :=
  if kn i = 0 then some (pt i).toInt64 else if kn i = 1 then some (nm (ixn (pt i))) else if kn i = 2 then some (bL (val (ixn (pt i)) = 0)) else yBin (kn i) (val (ixn (pt i))) (val (ixn (ot i)))
theorem yBin_3 (a b : Int64) : yBin 3 a b = some (bL (¬ a = 0 ∧ ¬ b = 0)) := rfl
theorem yBin_4 (a b : Int64) : yBin 4 a b = some (bL (¬ a = 0 ∨ ¬ b = 0)) := rfl
theorem yBin_11 (a b : Int64) : yBin 11 a b = yBnd (a + b) := rfl
theorem yBin_12 (a b : Int64) : yBin 12 a b = yBnd (a - b) := rfl
theorem yBin_13 (a b : Int64) : yBin 13 a b = yTim a b := rfl
theorem yBin_14 (a b : Int64) : yBin 14 a b = if b = 0 then none else some (a / b) := rfl
theorem yBin_c {k : Int32} (a b : Int64) (h3 : ¬ k = 3) (h4 : ¬ k = 4) (h5 : ¬ k = 11) (h6 : ¬ k = 12) (h7 : ¬ k = 13) (h8 : ¬ k = 14) : yBin k a b = some (bL (yCmp k a b)) := by
  unfold yBin
  rw [if_neg h3, if_neg h4, if_neg h5, if_neg h6, if_neg h7, if_neg h8]
theorem bL_t {c : Prop} [Decidable c] (h : c) : bL c = 1 := if_pos h
theorem bL_f {c : Prop} [Decidable c] (h : ¬ c) : bL c = 0 := if_neg h
def vOK (kn pt ot : Nat → Int32) (i : Nat) : Prop := (kn i = 1 → ∃ p, p < 7 ∧ pt i = nI p) ∧ (¬ kn i = 0 → ¬ kn i = 1 → ∃ a, a < 64 ∧ pt i = nI a) ∧ (¬ kn i = 0 → ¬ kn i = 1 → ¬ kn i = 2 → ∃ b, b < 64 ∧ ot i = nI b)

set_option maxHeartbeats 2000000 in
theorem ct_Mo_valueOf {sh : List pSh} {I : Nat → Nat → Int32} {L : Nat → Nat → Int64} {P : Nat → Nat → Option Nat} (hA : kA sh P) (he : I 134 54 = 0 ∨ I 134 54 = 1) {k : Nat} (hk : k < 64) (hv : vOK (I 155) (I 156) (I 157) k) : pCn m_Mo_valueOf 1 [.ref 134, .int (nI k)] sh (I, L, P) (rEr (yValF (I 155) (I 156) (I 157) (L 160) (L 161) k) (I 134 54) I L P) := by
  refine pCn_of (by decide +kernel) (Nat.le_of_ble_eq_true rfl) ?_
  refine pw_aload_n (k4 := 0) rfl (by decide +kernel) ?_
  refine pq_getP (c := 11) (k := 41) (ks_m hA) (by decide) (by decide) (kp_m_knot hA) lf_Mo_75 (by decide +kernel) ?_
  refine pw_iload_n (k4 := 1) rfl (by decide +kernel) ?_
  refine pq_iald k rfl (by omega) (by decide) (ks_m_knot hA) (by decide +kernel) ?_
  refine pw_if_ne (off := 11) (tgt := 17) (by decide +kernel) (by decide +kernel) (fun z6 => ?_) (fun z6 => ?_)
  · refine pw_aload_n (k4 := 0) rfl (by decide +kernel) ?_
    refine pq_getP (c := 11) (k := 41) (ks_m hA) (by decide) (by decide) (kp_m_knot hA) lf_Mo_75 (by decide +kernel) ?_
    refine pw_iload_n (k4 := 1) rfl (by decide +kernel) ?_
    refine pq_iald k rfl (by omega) (by decide) (ks_m_knot hA) (by decide +kernel) ?_
    refine pw_iconst (n := 1) (v := 1) (by decide) (by decide +kernel) ?_
    refine pw_icmp_ne (off := 15) (tgt := 39) (by decide +kernel) (by decide +kernel) (fun z24 => ?_) (fun z24 => ?_)
    · obtain ⟨a, ha, hpa⟩ := hv.2.1 z6 z24
      refine pw_aload_n (k4 := 0) rfl (by decide +kernel) ?_
      refine pq_getP (c := 11) (k := 53) (ks_m hA) (by decide) (by decide) (kp_m_value hA) lf_Mo_94 (by decide +kernel) ?_
      refine pw_aload_n (k4 := 0) rfl (by decide +kernel) ?_
      refine pq_getP (c := 11) (k := 42) (ks_m hA) (by decide) (by decide) (kp_m_part hA) lf_Mo_78 (by decide +kernel) ?_
      refine pw_iload_n (k4 := 1) rfl (by decide +kernel) ?_
      refine pq_iald k rfl (by omega) (by decide) (ks_m_part hA) (by decide +kernel) ?_
      refine pq_lald a hpa (by omega) (by decide) (ks_m_value hA) (by decide +kernel) ?_
      refine pq_lstore_n (k4 := 2) (Nat.le_of_ble_eq_true rfl) rfl (by decide +kernel) ?_
      refine pw_aload_n (k4 := 0) rfl (by decide +kernel) ?_
      refine pq_getP (c := 11) (k := 41) (ks_m hA) (by decide) (by decide) (kp_m_knot hA) lf_Mo_75 (by decide +kernel) ?_
      refine pw_iload_n (k4 := 1) rfl (by decide +kernel) ?_
      refine pq_iald k rfl (by omega) (by decide) (ks_m_knot hA) (by decide +kernel) ?_
      refine pw_iconst (n := 2) (v := 2) (by decide) (by decide +kernel) ?_
      refine pw_icmp_ne (off := 15) (tgt := 73) (by decide +kernel) (by decide +kernel) (fun z58 => ?_) (fun z58 => ?_)
      · obtain ⟨b, hb, hob⟩ := hv.2.2 z6 z24 z58
        refine pw_aload_n (k4 := 0) rfl (by decide +kernel) ?_
        refine pq_getP (c := 11) (k := 53) (ks_m hA) (by decide) (by decide) (kp_m_value hA) lf_Mo_94 (by decide +kernel) ?_
        refine pw_aload_n (k4 := 0) rfl (by decide +kernel) ?_
        refine pq_getP (c := 11) (k := 43) (ks_m hA) (by decide) (by decide) (kp_m_other hA) lf_Mo_81 (by decide +kernel) ?_
        refine pw_iload_n (k4 := 1) rfl (by decide +kernel) ?_
        refine pq_iald k rfl (by omega) (by decide) (ks_m_other hA) (by decide +kernel) ?_
        refine pq_lald b hob (by omega) (by decide) (ks_m_value hA) (by decide +kernel) ?_
        refine pq_lstore (i := 4) (Nat.le_of_ble_eq_true rfl) rfl (by decide +kernel) ?_
        refine pw_aload_n (k4 := 0) rfl (by decide +kernel) ?_
        refine pq_getP (c := 11) (k := 41) (ks_m hA) (by decide) (by decide) (kp_m_knot hA) lf_Mo_75 (by decide +kernel) ?_
        refine pw_iload_n (k4 := 1) rfl (by decide +kernel) ?_
        refine pq_iald k rfl (by omega) (by decide) (ks_m_knot hA) (by decide +kernel) ?_
        have hsw92 : decode m_Mo_valueOf.2.1 92 = .ok (.tableswitch 167 3 14 #[64, 83, 167, 167, 167, 167, 167, 167, 102, 111, 120, 128], 64) := by decide +kernel
        rcases swIn (I 155 k) 3 14 (by decide) (by decide) with z92 | ⟨j92, z92, y92, e92⟩
        · refine pw_tableOut (tgt := 259) hsw92 z92 (by decide +kernel) ?_
          refine pw_aload_n (k4 := 0) rfl (by decide +kernel) ?_
          refine pq_getP (c := 11) (k := 41) (ks_m hA) (by decide) (by decide) (kp_m_knot hA) lf_Mo_75 (by decide +kernel) ?_
          refine pw_iload_n (k4 := 1) rfl (by decide +kernel) ?_
          refine pq_iald k rfl (by omega) (by decide) (ks_m_knot hA) (by decide +kernel) ?_
          refine pw_lload_n (k4 := 2) rfl (by decide +kernel) ?_
          refine pw_lload (i := 4) rfl (by decide +kernel) ?_
          refine pq_callS (ν := m_Mo_compares) (d' := 0) (av := [_, _, _]) (by decide +kernel) lm_Mo_377 ok_Mo_compares (show _ = some 3 by decide +kernel) (by omega) (Nat.le_of_ble_eq_true rfl) (ct_Mo_compares _ _ _) ?_
          rintro _ _ ⟨rfl, rfl⟩
          refine pn_ifB_eq (off := 7) (tgt := 278) (by decide +kernel) (by decide +kernel) (fun z271 => ?_) (fun z271 => ?_)
          · refine pw_lconst (n := 0) (v := 0) (by decide) (by decide +kernel) ?_
            exact pq_lret rfl (by decide +kernel) (rEr_cg (show yValF (I 155) (I 156) (I 157) (L 160) (L 161) k = _ from by unfold yValF; rw [if_neg z6, if_neg z24, if_neg z58, hpa, hob, ixn_nI (by omega), ixn_nI (by omega)]; exact (yBin_c _ _ (sw_ne (k := 3) z92 (by decide) (by decide) (by decide)) (sw_ne (k := 4) z92 (by decide) (by decide) (by decide)) (sw_ne (k := 11) z92 (by decide) (by decide) (by decide)) (sw_ne (k := 12) z92 (by decide) (by decide) (by decide)) (sw_ne (k := 13) z92 (by decide) (by decide) (by decide)) (sw_ne (k := 14) z92 (by decide) (by decide) (by decide))).trans (congrArg some (bL_f z271))) (rEr_no he))
          · refine pw_lconst (n := 1) (v := 1) (by decide) (by decide +kernel) ?_
            refine pw_goto (off := 4) (tgt := 279) (by decide +kernel) (by decide +kernel) ?_
            exact pq_lret rfl (by decide +kernel) (rEr_cg (show yValF (I 155) (I 156) (I 157) (L 160) (L 161) k = _ from by unfold yValF; rw [if_neg z6, if_neg z24, if_neg z58, hpa, hob, ixn_nI (by omega), ixn_nI (by omega)]; exact (yBin_c _ _ (sw_ne (k := 3) z92 (by decide) (by decide) (by decide)) (sw_ne (k := 4) z92 (by decide) (by decide) (by decide)) (sw_ne (k := 11) z92 (by decide) (by decide) (by decide)) (sw_ne (k := 12) z92 (by decide) (by decide) (by decide)) (sw_ne (k := 13) z92 (by decide) (by decide) (by decide)) (sw_ne (k := 14) z92 (by decide) (by decide) (by decide))).trans (congrArg some (bL_t z271))) (rEr_no he))
        · rcases (show j92 = 3 ∨ j92 = 4 ∨ j92 = 5 ∨ j92 = 6 ∨ j92 = 7 ∨ j92 = 8 ∨ j92 = 9 ∨ j92 = 10 ∨ j92 = 11 ∨ j92 = 12 ∨ j92 = 13 ∨ j92 = 14 by omega) with rfl | rfl | rfl | rfl | rfl | rfl | rfl | rfl | rfl | rfl | rfl | rfl
          · refine pw_tableIn (off := 64) (tgt := 156) hsw92 (by rw [e92]; decide) (by rw [e92]; decide) (by rw [e92]; decide) (by decide +kernel) ?_
            refine pw_lload_n (k4 := 2) rfl (by decide +kernel) ?_
            refine pw_lconst (n := 0) (v := 0) (by decide) (by decide +kernel) ?_
            refine pw_lcmp (by decide +kernel) ?_
            refine pw_if_eq (off := 14) (tgt := 173) (by decide +kernel) (by decide +kernel) (fun z159 => ?_) (fun z159 => ?_)
            · rw [lge] at z159
              refine pw_lconst (n := 0) (v := 0) (by decide) (by decide +kernel) ?_
              exact pq_lret rfl (by decide +kernel) (rEr_cg (show yValF (I 155) (I 156) (I 157) (L 160) (L 161) k = _ from by unfold yValF; rw [if_neg z6, if_neg z24, if_neg z58, hpa, hob, ixn_nI (by omega), ixn_nI (by omega), e92]; exact (yBin_3 _ _).trans (congrArg some (bL_f (fun q => q.1 z159)))) (rEr_no he))
            · rw [lge] at z159
              refine pw_lload (i := 4) rfl (by decide +kernel) ?_
              refine pw_lconst (n := 0) (v := 0) (by decide) (by decide +kernel) ?_
              refine pw_lcmp (by decide +kernel) ?_
              refine pw_if_eq (off := 7) (tgt := 173) (by decide +kernel) (by decide +kernel) (fun z166 => ?_) (fun z166 => ?_)
              · rw [lge] at z166
                refine pw_lconst (n := 0) (v := 0) (by decide) (by decide +kernel) ?_
                exact pq_lret rfl (by decide +kernel) (rEr_cg (show yValF (I 155) (I 156) (I 157) (L 160) (L 161) k = _ from by unfold yValF; rw [if_neg z6, if_neg z24, if_neg z58, hpa, hob, ixn_nI (by omega), ixn_nI (by omega), e92]; exact (yBin_3 _ _).trans (congrArg some (bL_f (fun q => q.2 z166)))) (rEr_no he))
              · rw [lge] at z166
                refine pw_lconst (n := 1) (v := 1) (by decide) (by decide +kernel) ?_
                refine pw_goto (off := 4) (tgt := 174) (by decide +kernel) (by decide +kernel) ?_
                exact pq_lret rfl (by decide +kernel) (rEr_cg (show yValF (I 155) (I 156) (I 157) (L 160) (L 161) k = _ from by unfold yValF; rw [if_neg z6, if_neg z24, if_neg z58, hpa, hob, ixn_nI (by omega), ixn_nI (by omega), e92]; exact (yBin_3 _ _).trans (congrArg some (bL_t ⟨z159, z166⟩))) (rEr_no he))
          · refine pw_tableIn (off := 83) (tgt := 175) hsw92 (by rw [e92]; decide) (by rw [e92]; decide) (by rw [e92]; decide) (by decide +kernel) ?_
            refine pw_lload_n (k4 := 2) rfl (by decide +kernel) ?_
            refine pw_lconst (n := 0) (v := 0) (by decide) (by decide +kernel) ?_
            refine pw_lcmp (by decide +kernel) ?_
            refine pw_if_ne (off := 10) (tgt := 188) (by decide +kernel) (by decide +kernel) (fun z178 => ?_) (fun z178 => ?_)
            · rw [lge] at z178
              refine pw_lconst (n := 1) (v := 1) (by decide) (by decide +kernel) ?_
              refine pw_goto (off := 4) (tgt := 193) (by decide +kernel) (by decide +kernel) ?_
              exact pq_lret rfl (by decide +kernel) (rEr_cg (show yValF (I 155) (I 156) (I 157) (L 160) (L 161) k = _ from by unfold yValF; rw [if_neg z6, if_neg z24, if_neg z58, hpa, hob, ixn_nI (by omega), ixn_nI (by omega), e92]; exact (yBin_4 _ _).trans (congrArg some (bL_t (Or.inl z178)))) (rEr_no he))
            · rw [lge] at z178
              refine pw_lload (i := 4) rfl (by decide +kernel) ?_
              refine pw_lconst (n := 0) (v := 0) (by decide) (by decide +kernel) ?_
              refine pw_lcmp (by decide +kernel) ?_
              refine pw_if_eq (off := 7) (tgt := 192) (by decide +kernel) (by decide +kernel) (fun z185 => ?_) (fun z185 => ?_)
              · rw [lge] at z185
                refine pw_lconst (n := 0) (v := 0) (by decide) (by decide +kernel) ?_
                exact pq_lret rfl (by decide +kernel) (rEr_cg (show yValF (I 155) (I 156) (I 157) (L 160) (L 161) k = _ from by unfold yValF; rw [if_neg z6, if_neg z24, if_neg z58, hpa, hob, ixn_nI (by omega), ixn_nI (by omega), e92]; exact (yBin_4 _ _).trans (congrArg some (bL_f (fun q => q.elim (fun r => r z178) (fun r => r z185))))) (rEr_no he))
              · rw [lge] at z185
                refine pw_lconst (n := 1) (v := 1) (by decide) (by decide +kernel) ?_
                refine pw_goto (off := 4) (tgt := 193) (by decide +kernel) (by decide +kernel) ?_
                exact pq_lret rfl (by decide +kernel) (rEr_cg (show yValF (I 155) (I 156) (I 157) (L 160) (L 161) k = _ from by unfold yValF; rw [if_neg z6, if_neg z24, if_neg z58, hpa, hob, ixn_nI (by omega), ixn_nI (by omega), e92]; exact (yBin_4 _ _).trans (congrArg some (bL_t (Or.inr z185)))) (rEr_no he))
          · refine pw_tableIn (off := 167) (tgt := 259) hsw92 (by rw [e92]; decide) (by rw [e92]; decide) (by rw [e92]; decide) (by decide +kernel) ?_
            refine pw_aload_n (k4 := 0) rfl (by decide +kernel) ?_
            refine pq_getP (c := 11) (k := 41) (ks_m hA) (by decide) (by decide) (kp_m_knot hA) lf_Mo_75 (by decide +kernel) ?_
            refine pw_iload_n (k4 := 1) rfl (by decide +kernel) ?_
            refine pq_iald k rfl (by omega) (by decide) (ks_m_knot hA) (by decide +kernel) ?_
            refine pw_lload_n (k4 := 2) rfl (by decide +kernel) ?_
            refine pw_lload (i := 4) rfl (by decide +kernel) ?_
            refine pq_callS (ν := m_Mo_compares) (d' := 0) (av := [_, _, _]) (by decide +kernel) lm_Mo_377 ok_Mo_compares (show _ = some 3 by decide +kernel) (by omega) (Nat.le_of_ble_eq_true rfl) (ct_Mo_compares _ _ _) ?_
            rintro _ _ ⟨rfl, rfl⟩
            refine pn_ifB_eq (off := 7) (tgt := 278) (by decide +kernel) (by decide +kernel) (fun z271 => ?_) (fun z271 => ?_)
            · refine pw_lconst (n := 0) (v := 0) (by decide) (by decide +kernel) ?_
              exact pq_lret rfl (by decide +kernel) (rEr_cg (show yValF (I 155) (I 156) (I 157) (L 160) (L 161) k = _ from by unfold yValF; rw [if_neg z6, if_neg z24, if_neg z58, hpa, hob, ixn_nI (by omega), ixn_nI (by omega)]; exact (yBin_c _ _ (by rw [e92]; decide) (by rw [e92]; decide) (by rw [e92]; decide) (by rw [e92]; decide) (by rw [e92]; decide) (by rw [e92]; decide)).trans (congrArg some (bL_f z271))) (rEr_no he))
            · refine pw_lconst (n := 1) (v := 1) (by decide) (by decide +kernel) ?_
              refine pw_goto (off := 4) (tgt := 279) (by decide +kernel) (by decide +kernel) ?_
              exact pq_lret rfl (by decide +kernel) (rEr_cg (show yValF (I 155) (I 156) (I 157) (L 160) (L 161) k = _ from by unfold yValF; rw [if_neg z6, if_neg z24, if_neg z58, hpa, hob, ixn_nI (by omega), ixn_nI (by omega)]; exact (yBin_c _ _ (by rw [e92]; decide) (by rw [e92]; decide) (by rw [e92]; decide) (by rw [e92]; decide) (by rw [e92]; decide) (by rw [e92]; decide)).trans (congrArg some (bL_t z271))) (rEr_no he))
          · refine pw_tableIn (off := 167) (tgt := 259) hsw92 (by rw [e92]; decide) (by rw [e92]; decide) (by rw [e92]; decide) (by decide +kernel) ?_
            refine pw_aload_n (k4 := 0) rfl (by decide +kernel) ?_
            refine pq_getP (c := 11) (k := 41) (ks_m hA) (by decide) (by decide) (kp_m_knot hA) lf_Mo_75 (by decide +kernel) ?_
            refine pw_iload_n (k4 := 1) rfl (by decide +kernel) ?_
            refine pq_iald k rfl (by omega) (by decide) (ks_m_knot hA) (by decide +kernel) ?_
            refine pw_lload_n (k4 := 2) rfl (by decide +kernel) ?_
            refine pw_lload (i := 4) rfl (by decide +kernel) ?_
            refine pq_callS (ν := m_Mo_compares) (d' := 0) (av := [_, _, _]) (by decide +kernel) lm_Mo_377 ok_Mo_compares (show _ = some 3 by decide +kernel) (by omega) (Nat.le_of_ble_eq_true rfl) (ct_Mo_compares _ _ _) ?_
            rintro _ _ ⟨rfl, rfl⟩
            refine pn_ifB_eq (off := 7) (tgt := 278) (by decide +kernel) (by decide +kernel) (fun z271 => ?_) (fun z271 => ?_)
            · refine pw_lconst (n := 0) (v := 0) (by decide) (by decide +kernel) ?_
              exact pq_lret rfl (by decide +kernel) (rEr_cg (show yValF (I 155) (I 156) (I 157) (L 160) (L 161) k = _ from by unfold yValF; rw [if_neg z6, if_neg z24, if_neg z58, hpa, hob, ixn_nI (by omega), ixn_nI (by omega)]; exact (yBin_c _ _ (by rw [e92]; decide) (by rw [e92]; decide) (by rw [e92]; decide) (by rw [e92]; decide) (by rw [e92]; decide) (by rw [e92]; decide)).trans (congrArg some (bL_f z271))) (rEr_no he))
            · refine pw_lconst (n := 1) (v := 1) (by decide) (by decide +kernel) ?_
              refine pw_goto (off := 4) (tgt := 279) (by decide +kernel) (by decide +kernel) ?_
              exact pq_lret rfl (by decide +kernel) (rEr_cg (show yValF (I 155) (I 156) (I 157) (L 160) (L 161) k = _ from by unfold yValF; rw [if_neg z6, if_neg z24, if_neg z58, hpa, hob, ixn_nI (by omega), ixn_nI (by omega)]; exact (yBin_c _ _ (by rw [e92]; decide) (by rw [e92]; decide) (by rw [e92]; decide) (by rw [e92]; decide) (by rw [e92]; decide) (by rw [e92]; decide)).trans (congrArg some (bL_t z271))) (rEr_no he))
          · refine pw_tableIn (off := 167) (tgt := 259) hsw92 (by rw [e92]; decide) (by rw [e92]; decide) (by rw [e92]; decide) (by decide +kernel) ?_
            refine pw_aload_n (k4 := 0) rfl (by decide +kernel) ?_
            refine pq_getP (c := 11) (k := 41) (ks_m hA) (by decide) (by decide) (kp_m_knot hA) lf_Mo_75 (by decide +kernel) ?_
            refine pw_iload_n (k4 := 1) rfl (by decide +kernel) ?_
            refine pq_iald k rfl (by omega) (by decide) (ks_m_knot hA) (by decide +kernel) ?_
            refine pw_lload_n (k4 := 2) rfl (by decide +kernel) ?_
            refine pw_lload (i := 4) rfl (by decide +kernel) ?_
            refine pq_callS (ν := m_Mo_compares) (d' := 0) (av := [_, _, _]) (by decide +kernel) lm_Mo_377 ok_Mo_compares (show _ = some 3 by decide +kernel) (by omega) (Nat.le_of_ble_eq_true rfl) (ct_Mo_compares _ _ _) ?_
            rintro _ _ ⟨rfl, rfl⟩
            refine pn_ifB_eq (off := 7) (tgt := 278) (by decide +kernel) (by decide +kernel) (fun z271 => ?_) (fun z271 => ?_)
            · refine pw_lconst (n := 0) (v := 0) (by decide) (by decide +kernel) ?_
              exact pq_lret rfl (by decide +kernel) (rEr_cg (show yValF (I 155) (I 156) (I 157) (L 160) (L 161) k = _ from by unfold yValF; rw [if_neg z6, if_neg z24, if_neg z58, hpa, hob, ixn_nI (by omega), ixn_nI (by omega)]; exact (yBin_c _ _ (by rw [e92]; decide) (by rw [e92]; decide) (by rw [e92]; decide) (by rw [e92]; decide) (by rw [e92]; decide) (by rw [e92]; decide)).trans (congrArg some (bL_f z271))) (rEr_no he))
            · refine pw_lconst (n := 1) (v := 1) (by decide) (by decide +kernel) ?_
              refine pw_goto (off := 4) (tgt := 279) (by decide +kernel) (by decide +kernel) ?_
              exact pq_lret rfl (by decide +kernel) (rEr_cg (show yValF (I 155) (I 156) (I 157) (L 160) (L 161) k = _ from by unfold yValF; rw [if_neg z6, if_neg z24, if_neg z58, hpa, hob, ixn_nI (by omega), ixn_nI (by omega)]; exact (yBin_c _ _ (by rw [e92]; decide) (by rw [e92]; decide) (by rw [e92]; decide) (by rw [e92]; decide) (by rw [e92]; decide) (by rw [e92]; decide)).trans (congrArg some (bL_t z271))) (rEr_no he))
          · refine pw_tableIn (off := 167) (tgt := 259) hsw92 (by rw [e92]; decide) (by rw [e92]; decide) (by rw [e92]; decide) (by decide +kernel) ?_
            refine pw_aload_n (k4 := 0) rfl (by decide +kernel) ?_
            refine pq_getP (c := 11) (k := 41) (ks_m hA) (by decide) (by decide) (kp_m_knot hA) lf_Mo_75 (by decide +kernel) ?_
            refine pw_iload_n (k4 := 1) rfl (by decide +kernel) ?_
            refine pq_iald k rfl (by omega) (by decide) (ks_m_knot hA) (by decide +kernel) ?_
            refine pw_lload_n (k4 := 2) rfl (by decide +kernel) ?_
            refine pw_lload (i := 4) rfl (by decide +kernel) ?_
            refine pq_callS (ν := m_Mo_compares) (d' := 0) (av := [_, _, _]) (by decide +kernel) lm_Mo_377 ok_Mo_compares (show _ = some 3 by decide +kernel) (by omega) (Nat.le_of_ble_eq_true rfl) (ct_Mo_compares _ _ _) ?_
            rintro _ _ ⟨rfl, rfl⟩
            refine pn_ifB_eq (off := 7) (tgt := 278) (by decide +kernel) (by decide +kernel) (fun z271 => ?_) (fun z271 => ?_)
            · refine pw_lconst (n := 0) (v := 0) (by decide) (by decide +kernel) ?_
              exact pq_lret rfl (by decide +kernel) (rEr_cg (show yValF (I 155) (I 156) (I 157) (L 160) (L 161) k = _ from by unfold yValF; rw [if_neg z6, if_neg z24, if_neg z58, hpa, hob, ixn_nI (by omega), ixn_nI (by omega)]; exact (yBin_c _ _ (by rw [e92]; decide) (by rw [e92]; decide) (by rw [e92]; decide) (by rw [e92]; decide) (by rw [e92]; decide) (by rw [e92]; decide)).trans (congrArg some (bL_f z271))) (rEr_no he))
            · refine pw_lconst (n := 1) (v := 1) (by decide) (by decide +kernel) ?_
              refine pw_goto (off := 4) (tgt := 279) (by decide +kernel) (by decide +kernel) ?_
              exact pq_lret rfl (by decide +kernel) (rEr_cg (show yValF (I 155) (I 156) (I 157) (L 160) (L 161) k = _ from by unfold yValF; rw [if_neg z6, if_neg z24, if_neg z58, hpa, hob, ixn_nI (by omega), ixn_nI (by omega)]; exact (yBin_c _ _ (by rw [e92]; decide) (by rw [e92]; decide) (by rw [e92]; decide) (by rw [e92]; decide) (by rw [e92]; decide) (by rw [e92]; decide)).trans (congrArg some (bL_t z271))) (rEr_no he))
          · refine pw_tableIn (off := 167) (tgt := 259) hsw92 (by rw [e92]; decide) (by rw [e92]; decide) (by rw [e92]; decide) (by decide +kernel) ?_
            refine pw_aload_n (k4 := 0) rfl (by decide +kernel) ?_
            refine pq_getP (c := 11) (k := 41) (ks_m hA) (by decide) (by decide) (kp_m_knot hA) lf_Mo_75 (by decide +kernel) ?_
            refine pw_iload_n (k4 := 1) rfl (by decide +kernel) ?_
            refine pq_iald k rfl (by omega) (by decide) (ks_m_knot hA) (by decide +kernel) ?_
            refine pw_lload_n (k4 := 2) rfl (by decide +kernel) ?_
            refine pw_lload (i := 4) rfl (by decide +kernel) ?_
            refine pq_callS (ν := m_Mo_compares) (d' := 0) (av := [_, _, _]) (by decide +kernel) lm_Mo_377 ok_Mo_compares (show _ = some 3 by decide +kernel) (by omega) (Nat.le_of_ble_eq_true rfl) (ct_Mo_compares _ _ _) ?_
            rintro _ _ ⟨rfl, rfl⟩
            refine pn_ifB_eq (off := 7) (tgt := 278) (by decide +kernel) (by decide +kernel) (fun z271 => ?_) (fun z271 => ?_)
            · refine pw_lconst (n := 0) (v := 0) (by decide) (by decide +kernel) ?_
              exact pq_lret rfl (by decide +kernel) (rEr_cg (show yValF (I 155) (I 156) (I 157) (L 160) (L 161) k = _ from by unfold yValF; rw [if_neg z6, if_neg z24, if_neg z58, hpa, hob, ixn_nI (by omega), ixn_nI (by omega)]; exact (yBin_c _ _ (by rw [e92]; decide) (by rw [e92]; decide) (by rw [e92]; decide) (by rw [e92]; decide) (by rw [e92]; decide) (by rw [e92]; decide)).trans (congrArg some (bL_f z271))) (rEr_no he))
            · refine pw_lconst (n := 1) (v := 1) (by decide) (by decide +kernel) ?_
              refine pw_goto (off := 4) (tgt := 279) (by decide +kernel) (by decide +kernel) ?_
              exact pq_lret rfl (by decide +kernel) (rEr_cg (show yValF (I 155) (I 156) (I 157) (L 160) (L 161) k = _ from by unfold yValF; rw [if_neg z6, if_neg z24, if_neg z58, hpa, hob, ixn_nI (by omega), ixn_nI (by omega)]; exact (yBin_c _ _ (by rw [e92]; decide) (by rw [e92]; decide) (by rw [e92]; decide) (by rw [e92]; decide) (by rw [e92]; decide) (by rw [e92]; decide)).trans (congrArg some (bL_t z271))) (rEr_no he))
          · refine pw_tableIn (off := 167) (tgt := 259) hsw92 (by rw [e92]; decide) (by rw [e92]; decide) (by rw [e92]; decide) (by decide +kernel) ?_
            refine pw_aload_n (k4 := 0) rfl (by decide +kernel) ?_
            refine pq_getP (c := 11) (k := 41) (ks_m hA) (by decide) (by decide) (kp_m_knot hA) lf_Mo_75 (by decide +kernel) ?_
            refine pw_iload_n (k4 := 1) rfl (by decide +kernel) ?_
            refine pq_iald k rfl (by omega) (by decide) (ks_m_knot hA) (by decide +kernel) ?_
            refine pw_lload_n (k4 := 2) rfl (by decide +kernel) ?_
            refine pw_lload (i := 4) rfl (by decide +kernel) ?_
            refine pq_callS (ν := m_Mo_compares) (d' := 0) (av := [_, _, _]) (by decide +kernel) lm_Mo_377 ok_Mo_compares (show _ = some 3 by decide +kernel) (by omega) (Nat.le_of_ble_eq_true rfl) (ct_Mo_compares _ _ _) ?_
            rintro _ _ ⟨rfl, rfl⟩
            refine pn_ifB_eq (off := 7) (tgt := 278) (by decide +kernel) (by decide +kernel) (fun z271 => ?_) (fun z271 => ?_)
            · refine pw_lconst (n := 0) (v := 0) (by decide) (by decide +kernel) ?_
              exact pq_lret rfl (by decide +kernel) (rEr_cg (show yValF (I 155) (I 156) (I 157) (L 160) (L 161) k = _ from by unfold yValF; rw [if_neg z6, if_neg z24, if_neg z58, hpa, hob, ixn_nI (by omega), ixn_nI (by omega)]; exact (yBin_c _ _ (by rw [e92]; decide) (by rw [e92]; decide) (by rw [e92]; decide) (by rw [e92]; decide) (by rw [e92]; decide) (by rw [e92]; decide)).trans (congrArg some (bL_f z271))) (rEr_no he))
            · refine pw_lconst (n := 1) (v := 1) (by decide) (by decide +kernel) ?_
              refine pw_goto (off := 4) (tgt := 279) (by decide +kernel) (by decide +kernel) ?_
              exact pq_lret rfl (by decide +kernel) (rEr_cg (show yValF (I 155) (I 156) (I 157) (L 160) (L 161) k = _ from by unfold yValF; rw [if_neg z6, if_neg z24, if_neg z58, hpa, hob, ixn_nI (by omega), ixn_nI (by omega)]; exact (yBin_c _ _ (by rw [e92]; decide) (by rw [e92]; decide) (by rw [e92]; decide) (by rw [e92]; decide) (by rw [e92]; decide) (by rw [e92]; decide)).trans (congrArg some (bL_t z271))) (rEr_no he))
          · refine pw_tableIn (off := 102) (tgt := 194) hsw92 (by rw [e92]; decide) (by rw [e92]; decide) (by rw [e92]; decide) (by decide +kernel) ?_
            refine pw_aload_n (k4 := 0) rfl (by decide +kernel) ?_
            refine pw_lload_n (k4 := 2) rfl (by decide +kernel) ?_
            refine pw_lload (i := 4) rfl (by decide +kernel) ?_
            refine pw_ladd (by decide +kernel) ?_
            refine pq_callV (ν := m_Mo_bounded) (d' := 0) (av := [_]) (c := 11) (by decide +kernel) lm_Mo_369 ok_Mo_bounded (show _ = some 1 by decide +kernel) (ks_m hA) rfl (by decide) (by omega) (Nat.le_of_ble_eq_true rfl) (ct_Mo_bounded hA _) ?_
            rintro _ _ ⟨v, e', rfl, rfl, h1, h2, h3⟩
            exact pq_lret rfl (by decide +kernel) (rEr_cg (show yValF (I 155) (I 156) (I 157) (L 160) (L 161) k = _ from by unfold yValF; rw [if_neg z6, if_neg z24, if_neg z58, hpa, hob, ixn_nI (by omega), ixn_nI (by omega), e92]; exact yBin_11 _ _) ⟨v, e', rfl, rfl, h1, h2, h3⟩)
          · refine pw_tableIn (off := 111) (tgt := 203) hsw92 (by rw [e92]; decide) (by rw [e92]; decide) (by rw [e92]; decide) (by decide +kernel) ?_
            refine pw_aload_n (k4 := 0) rfl (by decide +kernel) ?_
            refine pw_lload_n (k4 := 2) rfl (by decide +kernel) ?_
            refine pw_lload (i := 4) rfl (by decide +kernel) ?_
            refine pw_lsub (by decide +kernel) ?_
            refine pq_callV (ν := m_Mo_bounded) (d' := 0) (av := [_]) (c := 11) (by decide +kernel) lm_Mo_369 ok_Mo_bounded (show _ = some 1 by decide +kernel) (ks_m hA) rfl (by decide) (by omega) (Nat.le_of_ble_eq_true rfl) (ct_Mo_bounded hA _) ?_
            rintro _ _ ⟨v, e', rfl, rfl, h1, h2, h3⟩
            exact pq_lret rfl (by decide +kernel) (rEr_cg (show yValF (I 155) (I 156) (I 157) (L 160) (L 161) k = _ from by unfold yValF; rw [if_neg z6, if_neg z24, if_neg z58, hpa, hob, ixn_nI (by omega), ixn_nI (by omega), e92]; exact yBin_12 _ _) ⟨v, e', rfl, rfl, h1, h2, h3⟩)
          · refine pw_tableIn (off := 120) (tgt := 212) hsw92 (by rw [e92]; decide) (by rw [e92]; decide) (by rw [e92]; decide) (by decide +kernel) ?_
            refine pw_aload_n (k4 := 0) rfl (by decide +kernel) ?_
            refine pw_lload_n (k4 := 2) rfl (by decide +kernel) ?_
            refine pw_lload (i := 4) rfl (by decide +kernel) ?_
            refine pq_callV (ν := m_Mo_times) (d' := 0) (av := [_, _]) (c := 11) (by decide +kernel) lm_Mo_373 ok_Mo_times (show _ = some 2 by decide +kernel) (ks_m hA) rfl (by decide) (by omega) (Nat.le_of_ble_eq_true rfl) (ct_Mo_times hA _ _) ?_
            rintro _ _ ⟨v, e', rfl, rfl, h1, h2, h3⟩
            exact pq_lret rfl (by decide +kernel) (rEr_cg (show yValF (I 155) (I 156) (I 157) (L 160) (L 161) k = _ from by unfold yValF; rw [if_neg z6, if_neg z24, if_neg z58, hpa, hob, ixn_nI (by omega), ixn_nI (by omega), e92]; exact yBin_13 _ _) ⟨v, e', rfl, rfl, h1, h2, h3⟩)
          · refine pw_tableIn (off := 128) (tgt := 220) hsw92 (by rw [e92]; decide) (by rw [e92]; decide) (by rw [e92]; decide) (by decide +kernel) ?_
            refine pw_aload_n (k4 := 0) rfl (by decide +kernel) ?_
            refine pw_aload_n (k4 := 0) rfl (by decide +kernel) ?_
            refine pq_getI (c := 11) (k := 54) (ks_m hA) (by decide) (by decide) lf_Mo_362 (by decide +kernel) ?_
            refine pw_if_ne (off := 10) (tgt := 235) (by decide +kernel) (by decide +kernel) (fun z225 => ?_) (fun z225 => ?_)
            · refine pw_iconst (n := 1) (v := 1) (by decide) (by decide +kernel) ?_
              refine pw_goto (off := 4) (tgt := 240) (by decide +kernel) (by decide +kernel) ?_
              refine pq_putZ (c := 11) (k := 54) (ks_m hA) (by decide) (by decide) (by decide) lf_Mo_362 (Or.inl rfl) (by decide +kernel) ?_
              refine pw_aload_n (k4 := 0) rfl (by decide +kernel) ?_
              refine pq_getI (c := 11) (k := 54) (ks_m hA) (by decide) (by decide) lf_Mo_362 (by decide +kernel) ?_
              refine pw_if_eq (off := 7) (tgt := 254) (by decide +kernel) (by decide +kernel) (fun z247 => ?_) (fun z247 => ?_)
              · exact absurd z247 (by rw [sI_rs]; decide)
              · refine pw_lconst (n := 0) (v := 0) (by decide) (by decide +kernel) ?_
                refine pw_goto (off := 7) (tgt := 258) (by decide +kernel) (by decide +kernel) ?_
                exact pq_lret rfl (by decide +kernel) (rEr_er (Or.inl z225))
            · refine pw_lload (i := 4) rfl (by decide +kernel) ?_
              refine pw_lconst (n := 0) (v := 0) (by decide) (by decide +kernel) ?_
              refine pw_lcmp (by decide +kernel) ?_
              refine pw_if_ne (off := 7) (tgt := 239) (by decide +kernel) (by decide +kernel) (fun z232 => ?_) (fun z232 => ?_)
              · rw [lge] at z232
                refine pw_iconst (n := 0) (v := 0) (by decide) (by decide +kernel) ?_
                refine pq_putZ (c := 11) (k := 54) (ks_m hA) (by decide) (by decide) (by decide) lf_Mo_362 (Or.inl rfl) (by decide +kernel) ?_
                refine pw_aload_n (k4 := 0) rfl (by decide +kernel) ?_
                refine pq_getI (c := 11) (k := 54) (ks_m hA) (by decide) (by decide) lf_Mo_362 (by decide +kernel) ?_
                refine pw_if_eq (off := 7) (tgt := 254) (by decide +kernel) (by decide +kernel) (fun z247 => ?_) (fun z247 => ?_)
                · refine pw_lload_n (k4 := 2) rfl (by decide +kernel) ?_
                  refine pw_lload (i := 4) rfl (by decide +kernel) ?_
                  refine pw_ldiv z232 (by decide +kernel) ?_
                  exact pq_lret rfl (by decide +kernel) (rEr_cg (show yValF (I 155) (I 156) (I 157) (L 160) (L 161) k = _ from by unfold yValF; rw [if_neg z6, if_neg z24, if_neg z58, hpa, hob, ixn_nI (by omega), ixn_nI (by omega), e92]; exact yBin_14 _ _) (rEr_ok z225 (if_neg z232)))
                · exact absurd sI_rs z247
              · rw [lge] at z232
                refine pw_iconst (n := 1) (v := 1) (by decide) (by decide +kernel) ?_
                refine pw_goto (off := 4) (tgt := 240) (by decide +kernel) (by decide +kernel) ?_
                refine pq_putZ (c := 11) (k := 54) (ks_m hA) (by decide) (by decide) (by decide) lf_Mo_362 (Or.inl rfl) (by decide +kernel) ?_
                refine pw_aload_n (k4 := 0) rfl (by decide +kernel) ?_
                refine pq_getI (c := 11) (k := 54) (ks_m hA) (by decide) (by decide) lf_Mo_362 (by decide +kernel) ?_
                refine pw_if_eq (off := 7) (tgt := 254) (by decide +kernel) (by decide +kernel) (fun z247 => ?_) (fun z247 => ?_)
                · exact absurd z247 (by rw [sI_rs]; decide)
                · refine pw_lconst (n := 0) (v := 0) (by decide) (by decide +kernel) ?_
                  refine pw_goto (off := 7) (tgt := 258) (by decide +kernel) (by decide +kernel) ?_
                  exact pq_lret rfl (by decide +kernel) (rEr_cg (show yValF (I 155) (I 156) (I 157) (L 160) (L 161) k = _ from by unfold yValF; rw [if_neg z6, if_neg z24, if_neg z58, hpa, hob, ixn_nI (by omega), ixn_nI (by omega), e92]; exact yBin_14 _ _) (rEr_er (Or.inr (if_pos z232))))
      · refine pw_lload_n (k4 := 2) rfl (by decide +kernel) ?_
        refine pw_lconst (n := 0) (v := 0) (by decide) (by decide +kernel) ?_
        refine pw_lcmp (by decide +kernel) ?_
        refine pw_if_ne (off := 7) (tgt := 71) (by decide +kernel) (by decide +kernel) (fun z64 => ?_) (fun z64 => ?_)
        · rw [lge] at z64
          refine pw_lconst (n := 0) (v := 0) (by decide) (by decide +kernel) ?_
          exact pq_lret rfl (by decide +kernel) (rEr_cg (show yValF (I 155) (I 156) (I 157) (L 160) (L 161) k = _ from by unfold yValF; rw [if_neg z6, if_neg z24, if_pos z58, hpa, ixn_nI (by omega), bL_f z64]) (rEr_no he))
        · rw [lge] at z64
          refine pw_lconst (n := 1) (v := 1) (by decide) (by decide +kernel) ?_
          refine pw_goto (off := 4) (tgt := 72) (by decide +kernel) (by decide +kernel) ?_
          exact pq_lret rfl (by decide +kernel) (rEr_cg (show yValF (I 155) (I 156) (I 157) (L 160) (L 161) k = _ from by unfold yValF; rw [if_neg z6, if_neg z24, if_pos z58, hpa, ixn_nI (by omega), bL_t z64]) (rEr_no he))
    · obtain ⟨p, hp7, hp⟩ := hv.1 z24
      refine pw_aload_n (k4 := 0) rfl (by decide +kernel) ?_
      refine pq_getP (c := 11) (k := 52) (ks_m hA) (by decide) (by decide) (kp_m_names hA) lf_Mo_90 (by decide +kernel) ?_
      refine pw_aload_n (k4 := 0) rfl (by decide +kernel) ?_
      refine pq_getP (c := 11) (k := 42) (ks_m hA) (by decide) (by decide) (kp_m_part hA) lf_Mo_78 (by decide +kernel) ?_
      refine pw_iload_n (k4 := 1) rfl (by decide +kernel) ?_
      refine pq_iald k rfl (by omega) (by decide) (ks_m_part hA) (by decide +kernel) ?_
      refine pq_lald p hp (by omega) (by decide) (ks_m_names hA) (by decide +kernel) ?_
      exact pq_lret rfl (by decide +kernel) (rEr_cg (show yValF (I 155) (I 156) (I 157) (L 160) (L 161) k = _ from by unfold yValF; rw [if_neg z6, if_pos z24, hp]) (by rw [ixn_nI (by omega)]; exact rEr_no he))
  · refine pw_aload_n (k4 := 0) rfl (by decide +kernel) ?_
    refine pq_getP (c := 11) (k := 42) (ks_m hA) (by decide) (by decide) (kp_m_part hA) lf_Mo_78 (by decide +kernel) ?_
    refine pw_iload_n (k4 := 1) rfl (by decide +kernel) ?_
    refine pq_iald k rfl (by omega) (by decide) (ks_m_part hA) (by decide +kernel) ?_
    refine pw_i2l (by decide +kernel) ?_
    exact pq_lret rfl (by decide +kernel) (rEr_cg (show yValF (I 155) (I 156) (I 157) (L 160) (L 161) k = _ from by unfold yValF; rw [if_pos z6]) (rEr_no he))
