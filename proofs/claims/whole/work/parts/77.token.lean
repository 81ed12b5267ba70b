/-! ===== the reference: tokens ===== -/
theorem sI_cc {I : Nat → Nat → Int32} {a i j : Nat} {x y : Int32} (h : i ≠ j) : sI (sI I a i x) a j y = sI (sI I a j y) a i x := by
  funext q k
  by_cases hq : q = a
  · subst hq
    by_cases h1 : k = j
    · subst h1; rw [sI_rs, sI_rd (Ne.symm h), sI_rs]
    · rw [sI_rd h1]
      by_cases h2 : k = i
      · subst h2; rw [sI_rs, sI_rs]
      · rw [sI_rd h2, sI_rd h2, sI_rd h1]
  · rw [sI_ne hq, sI_ne hq, sI_ne hq, sI_ne hq]
/-- the token's four fields: next, kind, which, at -/
def tkQ (I : Nat → Nat → Int32) (nx kd wh pl : Int32) : Nat → Nat → Int32 := sI (sI (sI (sI I 134 7 nx) 134 8 kd) 134 9 wh) 134 10 pl
theorem tkQ_7 {I : Nat → Nat → Int32} {a b c d x : Int32} : sI (tkQ I a b c d) 134 7 x = tkQ I x b c d := by
  unfold tkQ
  rw [sI_cc (i := 10) (j := 7) (by decide), sI_cc (i := 9) (j := 7) (by decide), sI_cc (i := 8) (j := 7) (by decide), sI_sI]
theorem tkQ_8 {I : Nat → Nat → Int32} {a b c d x : Int32} : sI (tkQ I a b c d) 134 8 x = tkQ I a x c d := by
  unfold tkQ
  rw [sI_cc (i := 10) (j := 8) (by decide), sI_cc (i := 9) (j := 8) (by decide), sI_sI]
theorem tkQ_9 {I : Nat → Nat → Int32} {a b c d x : Int32} : sI (tkQ I a b c d) 134 9 x = tkQ I a b x d := by
  unfold tkQ
  rw [sI_cc (i := 10) (j := 9) (by decide), sI_sI]
theorem tkQ_10 {I : Nat → Nat → Int32} {a b c d x : Int32} : sI (tkQ I a b c d) 134 10 x = tkQ I a b c x := sI_sI _ _ _ _ _
theorem tkQ_s (I : Nat → Nat → Int32) : tkQ I (I 134 7) (I 134 8) (I 134 9) (I 134 10) = I := by
  unfold tkQ
  rw [sI_same, sI_same, sI_same, sI_same]
/-- a sign at a: where it ends, its kind, which one -/
def sgN (b : Nat → Nat) (n a : Nat) : Nat := if a + 1 < n then b (a + 1) else 0
abbrev sgC (b : Nat → Nat) (a : Nat) : Prop := b a = 60 ∨ b a = 62 ∨ b a = 61
abbrev sgQ (b : Nat → Nat) (n a : Nat) : Prop := ¬ b a = 61 ∧ sgN b n a = 61
abbrev sgU (b : Nat → Nat) (n a : Nat) : Prop := b a = 60 ∧ sgN b n a = 62
def sgE (b : Nat → Nat) (n a : Nat) : Nat := if sgC b a ∧ (sgQ b n a ∨ sgU b n a) then a + 2 else a + 1
def sgK (b : Nat → Nat) (a : Nat) : Nat := if sgC b a then 5 else if b a = 59 ∨ b a = 40 ∨ b a = 41 ∨ b a = 43 ∨ b a = 45 ∨ b a = 42 ∨ b a = 47 ∨ b a = 37 then 4 else 6
def sgH (b : Nat → Nat) (n a : Nat) : Nat := if sgC b a then (if b a = 61 then 2 else if b a = 60 then (if sgQ b n a then 1 else if sgU b n a then 3 else 0) else if sgQ b n a then 4 else 5) else b a
def tkE (b : Nat → Nat) (n a : Nat) : Nat := if a = n then a else if smP b n a then tkW b n a else if dgP b n a then tkD b n a else sgE b n a
def tkK (b : Nat → Nat) (n a : Nat) : Nat := if a = n then 0 else if smP b n a then (if wRes b a (tkW b n a) < 0 then (if tkW b n a - a ≤ 6 then 2 else 6) else 1) else if dgP b n a then 3 else sgK b a
def tkH (b : Nat → Nat) (n a : Nat) (w : Int32) : Int32 := if a = n then w else if smP b n a then (if wRes b a (tkW b n a) < 0 ∧ tkW b n a - a ≤ 6 then nI (pkF b a (tkW b n a)) else wRes b a (tkW b n a)) else if dgP b n a then nI (numV b (tkD b n a - a) a 0) else nI (sgH b n a)
/-- the memory with the next token -/
def yTok (I : Nat → Nat → Int32) : Nat → Nat → Int32 := tkQ I (nI (tkE (bT I) (ixn (I 134 6)) (tkA (bT I) (ixn (I 134 6)) (ixn (I 134 7))))) (nI (tkK (bT I) (ixn (I 134 6)) (tkA (bT I) (ixn (I 134 6)) (ixn (I 134 7))))) (tkH (bT I) (ixn (I 134 6)) (tkA (bT I) (ixn (I 134 6)) (ixn (I 134 7))) (I 134 9)) (nI (tkA (bT I) (ixn (I 134 6)) (ixn (I 134 7))))
theorem numV_s {b : Nat → Nat} {c k v : Nat} : numV b (c + 1) k v = numV b c (k + 1) (if 99999 < v then v else 10 * v + b k - 48) := rfl

set_option maxHeartbeats 4000000 in
theorem ct_Mo_signToken {sh : List pSh} {I : Nat → Nat → Int32} {L : Nat → Nat → Int64} {P : Nat → Nat → Option Nat} (hA : kA sh P) (htp : tpM I) {n : Nat} (hst : I 134 6 = nI n) (hn7 : n ≤ 700) {a : Nat} (ha : a < n) (kd wh : Int32) : pCn m_Mo_signToken 0 [.ref 134] sh (tkQ I (nI a) kd wh (nI a), L, P) (rV (tkQ I (nI (sgE (bT I) n a)) (nI (sgK (bT I) a)) (nI (sgH (bT I) n a)) (nI a), L, P)) := by
  refine pCn_of (by decide +kernel) (Nat.le_of_ble_eq_true rfl) ?_
  have hb0 := (tpM_b htp (show a < 700 by omega)).1
  refine pw_aload_n (k4 := 0) rfl (by decide +kernel) ?_
  refine pw_aload_n (k4 := 0) rfl (by decide +kernel) ?_
  refine pq_getP (c := 11) (k := 0) (ks_m hA) (by decide) (by decide) (kp_m_tape hA) lf_Mo_7 (by decide +kernel) ?_
  refine pw_aload_n (k4 := 0) rfl (by decide +kernel) ?_
  refine pq_getI (c := 11) (k := 7) (ks_m hA) (by decide) (by decide) lf_Mo_190 (by decide +kernel) ?_
  refine pn_val (nI (a)) rfl ?_
  refine pq_iald a rfl (by omega) (by decide) (ks_m_tape hA) (by decide +kernel) ?_
  refine pn_val (nI (bT I a)) (by exact (tpM_b htp (by omega)).2) ?_
  refine pq_putI (c := 11) (k := 9) (ks_m hA) (by decide) (by decide) lf_Mo_204 (Or.inl rfl) (by decide +kernel) ?_
  rw [tkQ_9]
  refine pw_aload_n (k4 := 0) rfl (by decide +kernel) ?_
  refine pw_dup rfl (by decide +kernel) ?_
  refine pq_getI (c := 11) (k := 7) (ks_m hA) (by decide) (by decide) lf_Mo_190 (by decide +kernel) ?_
  refine pn_val (nI (a)) rfl ?_
  refine pw_iconst (n := 1) (v := 1) (by decide) (by decide +kernel) ?_
  refine pn_iadd a 1 rfl rfl (by decide +kernel) ?_
  refine pq_putI (c := 11) (k := 7) (ks_m hA) (by decide) (by decide) lf_Mo_190 (Or.inl rfl) (by decide +kernel) ?_
  rw [tkQ_7]
  refine pw_aload_n (k4 := 0) rfl (by decide +kernel) ?_
  refine pq_getI (c := 11) (k := 9) (ks_m hA) (by decide) (by decide) lf_Mo_204 (by decide +kernel) ?_
  refine pn_val (nI (bT I a)) rfl ?_
  refine pw_bipush (n := 60) (v := 60) (by decide) (by decide +kernel) ?_
  refine pn_icmp_eq (off := 21) (tgt := 50) (bT I a) 60 rfl rfl (by omega) (by omega) (by decide +kernel) (by decide +kernel) (fun z29 => ?_) (fun z29 => ?_)
  · refine pw_aload_n (k4 := 0) rfl (by decide +kernel) ?_
    refine pq_getI (c := 11) (k := 7) (ks_m hA) (by decide) (by decide) lf_Mo_190 (by decide +kernel) ?_
    refine pn_val (nI (a + 1)) rfl ?_
    refine pw_aload_n (k4 := 0) rfl (by decide +kernel) ?_
    refine pq_getI (c := 11) (k := 6) (ks_m hA) (by decide) (by decide) lf_Mo_187 (by decide +kernel) ?_
    refine pn_val (nI (n)) (by exact hst) ?_
    refine pn_icmp_ge (off := 15) (tgt := 73) (a + 1) n rfl rfl (by omega) (by omega) (by decide +kernel) (by decide +kernel) (fun z58 => ?_) (fun z58 => ?_)
    · have hsn : sgN (bT I) n a = 0 := if_neg (by omega)
      refine pw_iconst (n := 0) (v := 0) (by decide) (by decide +kernel) ?_
      refine pq_istore_n (k4 := 1) (Nat.le_of_ble_eq_true rfl) rfl (by decide +kernel) ?_
      refine pw_aload_n (k4 := 0) rfl (by decide +kernel) ?_
      refine pq_getI (c := 11) (k := 9) (ks_m hA) (by decide) (by decide) lf_Mo_204 (by decide +kernel) ?_
      refine pn_val (nI (60)) (congrArg nI z29) ?_
      refine pw_bipush (n := 61) (v := 61) (by decide) (by decide +kernel) ?_
      refine pn_icmp_eq (off := 13) (tgt := 94) 60 61 rfl rfl (by omega) (by omega) (by decide +kernel) (by decide +kernel) (fun z81 => ?_) (fun z81 => ?_)
      · exact absurd z81 (by decide)
      · refine pw_iload_n (k4 := 1) rfl (by decide +kernel) ?_
        refine pw_bipush (n := 61) (v := 61) (by decide) (by decide +kernel) ?_
        refine pn_icmp_ne (off := 7) (tgt := 94) 0 61 rfl rfl (by omega) (by omega) (by decide +kernel) (by decide +kernel) (fun z87 => ?_) (fun z87 => ?_)
        · refine pw_iconst (n := 0) (v := 0) (by decide) (by decide +kernel) ?_
          refine pq_istore_n (k4 := 2) (Nat.le_of_ble_eq_true rfl) rfl (by decide +kernel) ?_
          refine pw_aload_n (k4 := 0) rfl (by decide +kernel) ?_
          refine pq_getI (c := 11) (k := 9) (ks_m hA) (by decide) (by decide) lf_Mo_204 (by decide +kernel) ?_
          refine pn_val (nI (60)) (congrArg nI z29) ?_
          refine pw_bipush (n := 60) (v := 60) (by decide) (by decide +kernel) ?_
          refine pn_icmp_ne (off := 13) (tgt := 115) 60 60 rfl rfl (by omega) (by omega) (by decide +kernel) (by decide +kernel) (fun z102 => ?_) (fun z102 => ?_)
          · exact absurd z102 (by decide)
          · refine pw_iload_n (k4 := 1) rfl (by decide +kernel) ?_
            refine pw_bipush (n := 62) (v := 62) (by decide) (by decide +kernel) ?_
            refine pn_icmp_ne (off := 7) (tgt := 115) 0 62 rfl rfl (by omega) (by omega) (by decide +kernel) (by decide +kernel) (fun z108 => ?_) (fun z108 => ?_)
            · refine pw_iconst (n := 0) (v := 0) (by decide) (by decide +kernel) ?_
              refine pq_istore_n (k4 := 3) (Nat.le_of_ble_eq_true rfl) rfl (by decide +kernel) ?_
              refine pw_iload_n (k4 := 2) rfl (by decide +kernel) ?_
              refine pn_if_ne (off := 7) (tgt := 125) 0 rfl (by omega) (by decide +kernel) (by decide +kernel) (fun z118 => ?_) (fun z118 => ?_)
              · exact absurd z118 (by decide)
              · refine pw_iload_n (k4 := 3) rfl (by decide +kernel) ?_
                refine pn_if_eq (off := 13) (tgt := 135) 0 rfl (by omega) (by decide +kernel) (by decide +kernel) (fun z122 => ?_) (fun z122 => ?_)
                · refine pw_aload_n (k4 := 0) rfl (by decide +kernel) ?_
                  refine pw_iconst (n := 5) (v := 5) (by decide) (by decide +kernel) ?_
                  refine pq_putI (c := 11) (k := 8) (ks_m hA) (by decide) (by decide) lf_Mo_193 (Or.inl rfl) (by decide +kernel) ?_
                  rw [tkQ_8]
                  refine pw_aload_n (k4 := 0) rfl (by decide +kernel) ?_
                  refine pw_aload_n (k4 := 0) rfl (by decide +kernel) ?_
                  refine pq_getI (c := 11) (k := 9) (ks_m hA) (by decide) (by decide) lf_Mo_204 (by decide +kernel) ?_
                  refine pn_val (nI (60)) (congrArg nI z29) ?_
                  refine pw_bipush (n := 61) (v := 61) (by decide) (by decide +kernel) ?_
                  refine pn_icmp_ne (off := 7) (tgt := 154) 60 61 rfl rfl (by omega) (by omega) (by decide +kernel) (by decide +kernel) (fun z147 => ?_) (fun z147 => ?_)
                  · refine pw_aload_n (k4 := 0) rfl (by decide +kernel) ?_
                    refine pq_getI (c := 11) (k := 9) (ks_m hA) (by decide) (by decide) lf_Mo_204 (by decide +kernel) ?_
                    refine pn_val (nI (60)) (congrArg nI z29) ?_
                    refine pw_bipush (n := 60) (v := 60) (by decide) (by decide +kernel) ?_
                    refine pn_icmp_ne (off := 23) (tgt := 183) 60 60 rfl rfl (by omega) (by omega) (by decide +kernel) (by decide +kernel) (fun z160 => ?_) (fun z160 => ?_)
                    · exact absurd z160 (by decide)
                    · refine pw_iload_n (k4 := 2) rfl (by decide +kernel) ?_
                      refine pn_if_eq (off := 7) (tgt := 171) 0 rfl (by omega) (by decide +kernel) (by decide +kernel) (fun z164 => ?_) (fun z164 => ?_)
                      · refine pw_iload_n (k4 := 3) rfl (by decide +kernel) ?_
                        refine pn_if_eq (off := 7) (tgt := 179) 0 rfl (by omega) (by decide +kernel) (by decide +kernel) (fun z172 => ?_) (fun z172 => ?_)
                        · refine pw_iconst (n := 0) (v := 0) (by decide) (by decide +kernel) ?_
                          refine pw_goto (off := 12) (tgt := 192) (by decide +kernel) (by decide +kernel) ?_
                          refine pq_putI (c := 11) (k := 9) (ks_m hA) (by decide) (by decide) lf_Mo_204 (Or.inl rfl) (by decide +kernel) ?_
                          rw [tkQ_9]
                          refine pw_goto (off := 95) (tgt := 290) (by decide +kernel) (by decide +kernel) ?_
                          exact pq_vret rfl (by decide +kernel) ⟨rfl, by simp [sgE, sgK, sgH, sgC, sgQ, sgU, z29, z87, z108, hsn] <;> rfl⟩
                        · exact absurd (by decide) z172
                      · exact absurd (by decide) z164
                  · exact absurd (by decide) z147
                · exact absurd (by decide) z122
            · exact absurd (by decide) z108
        · exact absurd (by decide) z87
    · have hsn : sgN (bT I) n a = bT I (a + 1) := if_pos (by omega)
      have hb1 := (tpM_b htp (show a + 1 < 700 by omega)).1
      refine pw_aload_n (k4 := 0) rfl (by decide +kernel) ?_
      refine pq_getP (c := 11) (k := 0) (ks_m hA) (by decide) (by decide) (kp_m_tape hA) lf_Mo_7 (by decide +kernel) ?_
      refine pw_aload_n (k4 := 0) rfl (by decide +kernel) ?_
      refine pq_getI (c := 11) (k := 7) (ks_m hA) (by decide) (by decide) lf_Mo_190 (by decide +kernel) ?_
      refine pn_val (nI (a + 1)) rfl ?_
      refine pq_iald (a + 1) rfl (by omega) (by decide) (ks_m_tape hA) (by decide +kernel) ?_
      refine pn_val (nI (bT I (a + 1))) (by exact (tpM_b htp (by omega)).2) ?_
      refine pw_goto (off := 4) (tgt := 74) (by decide +kernel) (by decide +kernel) ?_
      refine pq_istore_n (k4 := 1) (Nat.le_of_ble_eq_true rfl) rfl (by decide +kernel) ?_
      refine pw_aload_n (k4 := 0) rfl (by decide +kernel) ?_
      refine pq_getI (c := 11) (k := 9) (ks_m hA) (by decide) (by decide) lf_Mo_204 (by decide +kernel) ?_
      refine pn_val (nI (60)) (congrArg nI z29) ?_
      refine pw_bipush (n := 61) (v := 61) (by decide) (by decide +kernel) ?_
      refine pn_icmp_eq (off := 13) (tgt := 94) 60 61 rfl rfl (by omega) (by omega) (by decide +kernel) (by decide +kernel) (fun z81 => ?_) (fun z81 => ?_)
      · exact absurd z81 (by decide)
      · refine pw_iload_n (k4 := 1) rfl (by decide +kernel) ?_
        refine pw_bipush (n := 61) (v := 61) (by decide) (by decide +kernel) ?_
        refine pn_icmp_ne (off := 7) (tgt := 94) (bT I (a + 1)) 61 rfl rfl (by omega) (by omega) (by decide +kernel) (by decide +kernel) (fun z87 => ?_) (fun z87 => ?_)
        · refine pw_iconst (n := 0) (v := 0) (by decide) (by decide +kernel) ?_
          refine pq_istore_n (k4 := 2) (Nat.le_of_ble_eq_true rfl) rfl (by decide +kernel) ?_
          refine pw_aload_n (k4 := 0) rfl (by decide +kernel) ?_
          refine pq_getI (c := 11) (k := 9) (ks_m hA) (by decide) (by decide) lf_Mo_204 (by decide +kernel) ?_
          refine pn_val (nI (60)) (congrArg nI z29) ?_
          refine pw_bipush (n := 60) (v := 60) (by decide) (by decide +kernel) ?_
          refine pn_icmp_ne (off := 13) (tgt := 115) 60 60 rfl rfl (by omega) (by omega) (by decide +kernel) (by decide +kernel) (fun z102 => ?_) (fun z102 => ?_)
          · exact absurd z102 (by decide)
          · refine pw_iload_n (k4 := 1) rfl (by decide +kernel) ?_
            refine pw_bipush (n := 62) (v := 62) (by decide) (by decide +kernel) ?_
            refine pn_icmp_ne (off := 7) (tgt := 115) (bT I (a + 1)) 62 rfl rfl (by omega) (by omega) (by decide +kernel) (by decide +kernel) (fun z108 => ?_) (fun z108 => ?_)
            · refine pw_iconst (n := 0) (v := 0) (by decide) (by decide +kernel) ?_
              refine pq_istore_n (k4 := 3) (Nat.le_of_ble_eq_true rfl) rfl (by decide +kernel) ?_
              refine pw_iload_n (k4 := 2) rfl (by decide +kernel) ?_
              refine pn_if_ne (off := 7) (tgt := 125) 0 rfl (by omega) (by decide +kernel) (by decide +kernel) (fun z118 => ?_) (fun z118 => ?_)
              · exact absurd z118 (by decide)
              · refine pw_iload_n (k4 := 3) rfl (by decide +kernel) ?_
                refine pn_if_eq (off := 13) (tgt := 135) 0 rfl (by omega) (by decide +kernel) (by decide +kernel) (fun z122 => ?_) (fun z122 => ?_)
                · refine pw_aload_n (k4 := 0) rfl (by decide +kernel) ?_
                  refine pw_iconst (n := 5) (v := 5) (by decide) (by decide +kernel) ?_
                  refine pq_putI (c := 11) (k := 8) (ks_m hA) (by decide) (by decide) lf_Mo_193 (Or.inl rfl) (by decide +kernel) ?_
                  rw [tkQ_8]
                  refine pw_aload_n (k4 := 0) rfl (by decide +kernel) ?_
                  refine pw_aload_n (k4 := 0) rfl (by decide +kernel) ?_
                  refine pq_getI (c := 11) (k := 9) (ks_m hA) (by decide) (by decide) lf_Mo_204 (by decide +kernel) ?_
                  refine pn_val (nI (60)) (congrArg nI z29) ?_
                  refine pw_bipush (n := 61) (v := 61) (by decide) (by decide +kernel) ?_
                  refine pn_icmp_ne (off := 7) (tgt := 154) 60 61 rfl rfl (by omega) (by omega) (by decide +kernel) (by decide +kernel) (fun z147 => ?_) (fun z147 => ?_)
                  · refine pw_aload_n (k4 := 0) rfl (by decide +kernel) ?_
                    refine pq_getI (c := 11) (k := 9) (ks_m hA) (by decide) (by decide) lf_Mo_204 (by decide +kernel) ?_
                    refine pn_val (nI (60)) (congrArg nI z29) ?_
                    refine pw_bipush (n := 60) (v := 60) (by decide) (by decide +kernel) ?_
                    refine pn_icmp_ne (off := 23) (tgt := 183) 60 60 rfl rfl (by omega) (by omega) (by decide +kernel) (by decide +kernel) (fun z160 => ?_) (fun z160 => ?_)
                    · exact absurd z160 (by decide)
                    · refine pw_iload_n (k4 := 2) rfl (by decide +kernel) ?_
                      refine pn_if_eq (off := 7) (tgt := 171) 0 rfl (by omega) (by decide +kernel) (by decide +kernel) (fun z164 => ?_) (fun z164 => ?_)
                      · refine pw_iload_n (k4 := 3) rfl (by decide +kernel) ?_
                        refine pn_if_eq (off := 7) (tgt := 179) 0 rfl (by omega) (by decide +kernel) (by decide +kernel) (fun z172 => ?_) (fun z172 => ?_)
                        · refine pw_iconst (n := 0) (v := 0) (by decide) (by decide +kernel) ?_
                          refine pw_goto (off := 12) (tgt := 192) (by decide +kernel) (by decide +kernel) ?_
                          refine pq_putI (c := 11) (k := 9) (ks_m hA) (by decide) (by decide) lf_Mo_204 (Or.inl rfl) (by decide +kernel) ?_
                          rw [tkQ_9]
                          refine pw_goto (off := 95) (tgt := 290) (by decide +kernel) (by decide +kernel) ?_
                          exact pq_vret rfl (by decide +kernel) ⟨rfl, by simp [sgE, sgK, sgH, sgC, sgQ, sgU, z29, z87, z108, hsn] <;> rfl⟩
                        · exact absurd (by decide) z172
                      · exact absurd (by decide) z164
                  · exact absurd (by decide) z147
                · exact absurd (by decide) z122
            · refine pw_iconst (n := 1) (v := 1) (by decide) (by decide +kernel) ?_
              refine pw_goto (off := 4) (tgt := 116) (by decide +kernel) (by decide +kernel) ?_
              refine pq_istore_n (k4 := 3) (Nat.le_of_ble_eq_true rfl) rfl (by decide +kernel) ?_
              refine pw_iload_n (k4 := 2) rfl (by decide +kernel) ?_
              refine pn_if_ne (off := 7) (tgt := 125) 0 rfl (by omega) (by decide +kernel) (by decide +kernel) (fun z118 => ?_) (fun z118 => ?_)
              · exact absurd z118 (by decide)
              · refine pw_iload_n (k4 := 3) rfl (by decide +kernel) ?_
                refine pn_if_eq (off := 13) (tgt := 135) 1 rfl (by omega) (by decide +kernel) (by decide +kernel) (fun z122 => ?_) (fun z122 => ?_)
                · exact absurd z122 (by decide)
                · refine pw_aload_n (k4 := 0) rfl (by decide +kernel) ?_
                  refine pw_dup rfl (by decide +kernel) ?_
                  refine pq_getI (c := 11) (k := 7) (ks_m hA) (by decide) (by decide) lf_Mo_190 (by decide +kernel) ?_
                  refine pn_val (nI (a + 1)) rfl ?_
                  refine pw_iconst (n := 1) (v := 1) (by decide) (by decide +kernel) ?_
                  refine pn_iadd (a + 1) 1 rfl rfl (by decide +kernel) ?_
                  refine pq_putI (c := 11) (k := 7) (ks_m hA) (by decide) (by decide) lf_Mo_190 (Or.inl rfl) (by decide +kernel) ?_
                  rw [tkQ_7]
                  refine pw_aload_n (k4 := 0) rfl (by decide +kernel) ?_
                  refine pw_iconst (n := 5) (v := 5) (by decide) (by decide +kernel) ?_
                  refine pq_putI (c := 11) (k := 8) (ks_m hA) (by decide) (by decide) lf_Mo_193 (Or.inl rfl) (by decide +kernel) ?_
                  rw [tkQ_8]
                  refine pw_aload_n (k4 := 0) rfl (by decide +kernel) ?_
                  refine pw_aload_n (k4 := 0) rfl (by decide +kernel) ?_
                  refine pq_getI (c := 11) (k := 9) (ks_m hA) (by decide) (by decide) lf_Mo_204 (by decide +kernel) ?_
                  refine pn_val (nI (60)) (congrArg nI z29) ?_
                  refine pw_bipush (n := 61) (v := 61) (by decide) (by decide +kernel) ?_
                  refine pn_icmp_ne (off := 7) (tgt := 154) 60 61 rfl rfl (by omega) (by omega) (by decide +kernel) (by decide +kernel) (fun z147 => ?_) (fun z147 => ?_)
                  · refine pw_aload_n (k4 := 0) rfl (by decide +kernel) ?_
                    refine pq_getI (c := 11) (k := 9) (ks_m hA) (by decide) (by decide) lf_Mo_204 (by decide +kernel) ?_
                    refine pn_val (nI (60)) (congrArg nI z29) ?_
                    refine pw_bipush (n := 60) (v := 60) (by decide) (by decide +kernel) ?_
                    refine pn_icmp_ne (off := 23) (tgt := 183) 60 60 rfl rfl (by omega) (by omega) (by decide +kernel) (by decide +kernel) (fun z160 => ?_) (fun z160 => ?_)
                    · exact absurd z160 (by decide)
                    · refine pw_iload_n (k4 := 2) rfl (by decide +kernel) ?_
                      refine pn_if_eq (off := 7) (tgt := 171) 0 rfl (by omega) (by decide +kernel) (by decide +kernel) (fun z164 => ?_) (fun z164 => ?_)
                      · refine pw_iload_n (k4 := 3) rfl (by decide +kernel) ?_
                        refine pn_if_eq (off := 7) (tgt := 179) 1 rfl (by omega) (by decide +kernel) (by decide +kernel) (fun z172 => ?_) (fun z172 => ?_)
                        · exact absurd z172 (by decide)
                        · refine pw_iconst (n := 3) (v := 3) (by decide) (by decide +kernel) ?_
                          refine pw_goto (off := 16) (tgt := 192) (by decide +kernel) (by decide +kernel) ?_
                          refine pq_putI (c := 11) (k := 9) (ks_m hA) (by decide) (by decide) lf_Mo_204 (Or.inl rfl) (by decide +kernel) ?_
                          rw [tkQ_9]
                          refine pw_goto (off := 95) (tgt := 290) (by decide +kernel) (by decide +kernel) ?_
                          exact pq_vret rfl (by decide +kernel) ⟨rfl, by simp [sgE, sgK, sgH, sgC, sgQ, sgU, z29, z87, Decidable.not_not.mp z108, hsn] <;> rfl⟩
                      · exact absurd (by decide) z164
                  · exact absurd (by decide) z147
        · refine pw_iconst (n := 1) (v := 1) (by decide) (by decide +kernel) ?_
          refine pw_goto (off := 4) (tgt := 95) (by decide +kernel) (by decide +kernel) ?_
          refine pq_istore_n (k4 := 2) (Nat.le_of_ble_eq_true rfl) rfl (by decide +kernel) ?_
          refine pw_aload_n (k4 := 0) rfl (by decide +kernel) ?_
          refine pq_getI (c := 11) (k := 9) (ks_m hA) (by decide) (by decide) lf_Mo_204 (by decide +kernel) ?_
          refine pn_val (nI (60)) (congrArg nI z29) ?_
          refine pw_bipush (n := 60) (v := 60) (by decide) (by decide +kernel) ?_
          refine pn_icmp_ne (off := 13) (tgt := 115) 60 60 rfl rfl (by omega) (by omega) (by decide +kernel) (by decide +kernel) (fun z102 => ?_) (fun z102 => ?_)
          · exact absurd z102 (by decide)
          · refine pw_iload_n (k4 := 1) rfl (by decide +kernel) ?_
            refine pw_bipush (n := 62) (v := 62) (by decide) (by decide +kernel) ?_
            refine pn_icmp_ne (off := 7) (tgt := 115) (bT I (a + 1)) 62 rfl rfl (by omega) (by omega) (by decide +kernel) (by decide +kernel) (fun z108 => ?_) (fun z108 => ?_)
            · refine pw_iconst (n := 0) (v := 0) (by decide) (by decide +kernel) ?_
              refine pq_istore_n (k4 := 3) (Nat.le_of_ble_eq_true rfl) rfl (by decide +kernel) ?_
              refine pw_iload_n (k4 := 2) rfl (by decide +kernel) ?_
              refine pn_if_ne (off := 7) (tgt := 125) 1 rfl (by omega) (by decide +kernel) (by decide +kernel) (fun z118 => ?_) (fun z118 => ?_)
              · refine pw_aload_n (k4 := 0) rfl (by decide +kernel) ?_
                refine pw_dup rfl (by decide +kernel) ?_
                refine pq_getI (c := 11) (k := 7) (ks_m hA) (by decide) (by decide) lf_Mo_190 (by decide +kernel) ?_
                refine pn_val (nI (a + 1)) rfl ?_
                refine pw_iconst (n := 1) (v := 1) (by decide) (by decide +kernel) ?_
                refine pn_iadd (a + 1) 1 rfl rfl (by decide +kernel) ?_
                refine pq_putI (c := 11) (k := 7) (ks_m hA) (by decide) (by decide) lf_Mo_190 (Or.inl rfl) (by decide +kernel) ?_
                rw [tkQ_7]
                refine pw_aload_n (k4 := 0) rfl (by decide +kernel) ?_
                refine pw_iconst (n := 5) (v := 5) (by decide) (by decide +kernel) ?_
                refine pq_putI (c := 11) (k := 8) (ks_m hA) (by decide) (by decide) lf_Mo_193 (Or.inl rfl) (by decide +kernel) ?_
                rw [tkQ_8]
                refine pw_aload_n (k4 := 0) rfl (by decide +kernel) ?_
                refine pw_aload_n (k4 := 0) rfl (by decide +kernel) ?_
                refine pq_getI (c := 11) (k := 9) (ks_m hA) (by decide) (by decide) lf_Mo_204 (by decide +kernel) ?_
                refine pn_val (nI (60)) (congrArg nI z29) ?_
                refine pw_bipush (n := 61) (v := 61) (by decide) (by decide +kernel) ?_
                refine pn_icmp_ne (off := 7) (tgt := 154) 60 61 rfl rfl (by omega) (by omega) (by decide +kernel) (by decide +kernel) (fun z147 => ?_) (fun z147 => ?_)
                · refine pw_aload_n (k4 := 0) rfl (by decide +kernel) ?_
                  refine pq_getI (c := 11) (k := 9) (ks_m hA) (by decide) (by decide) lf_Mo_204 (by decide +kernel) ?_
                  refine pn_val (nI (60)) (congrArg nI z29) ?_
                  refine pw_bipush (n := 60) (v := 60) (by decide) (by decide +kernel) ?_
                  refine pn_icmp_ne (off := 23) (tgt := 183) 60 60 rfl rfl (by omega) (by omega) (by decide +kernel) (by decide +kernel) (fun z160 => ?_) (fun z160 => ?_)
                  · exact absurd z160 (by decide)
                  · refine pw_iload_n (k4 := 2) rfl (by decide +kernel) ?_
                    refine pn_if_eq (off := 7) (tgt := 171) 1 rfl (by omega) (by decide +kernel) (by decide +kernel) (fun z164 => ?_) (fun z164 => ?_)
                    · exact absurd z164 (by decide)
                    · refine pw_iconst (n := 1) (v := 1) (by decide) (by decide +kernel) ?_
                      refine pw_goto (off := 24) (tgt := 192) (by decide +kernel) (by decide +kernel) ?_
                      refine pq_putI (c := 11) (k := 9) (ks_m hA) (by decide) (by decide) lf_Mo_204 (Or.inl rfl) (by decide +kernel) ?_
                      rw [tkQ_9]
                      refine pw_goto (off := 95) (tgt := 290) (by decide +kernel) (by decide +kernel) ?_
                      exact pq_vret rfl (by decide +kernel) ⟨rfl, by simp [sgE, sgK, sgH, sgC, sgQ, sgU, z29, Decidable.not_not.mp z87, z108, hsn] <;> rfl⟩
                · exact absurd (by decide) z147
              · exact absurd (by decide) z118
            · refine pw_iconst (n := 1) (v := 1) (by decide) (by decide +kernel) ?_
              refine pw_goto (off := 4) (tgt := 116) (by decide +kernel) (by decide +kernel) ?_
              refine pq_istore_n (k4 := 3) (Nat.le_of_ble_eq_true rfl) rfl (by decide +kernel) ?_
              refine pw_iload_n (k4 := 2) rfl (by decide +kernel) ?_
              refine pn_if_ne (off := 7) (tgt := 125) 1 rfl (by omega) (by decide +kernel) (by decide +kernel) (fun z118 => ?_) (fun z118 => ?_)
              · refine pw_aload_n (k4 := 0) rfl (by decide +kernel) ?_
                refine pw_dup rfl (by decide +kernel) ?_
                refine pq_getI (c := 11) (k := 7) (ks_m hA) (by decide) (by decide) lf_Mo_190 (by decide +kernel) ?_
                refine pn_val (nI (a + 1)) rfl ?_
                refine pw_iconst (n := 1) (v := 1) (by decide) (by decide +kernel) ?_
                refine pn_iadd (a + 1) 1 rfl rfl (by decide +kernel) ?_
                refine pq_putI (c := 11) (k := 7) (ks_m hA) (by decide) (by decide) lf_Mo_190 (Or.inl rfl) (by decide +kernel) ?_
                rw [tkQ_7]
                refine pw_aload_n (k4 := 0) rfl (by decide +kernel) ?_
                refine pw_iconst (n := 5) (v := 5) (by decide) (by decide +kernel) ?_
                refine pq_putI (c := 11) (k := 8) (ks_m hA) (by decide) (by decide) lf_Mo_193 (Or.inl rfl) (by decide +kernel) ?_
                rw [tkQ_8]
                refine pw_aload_n (k4 := 0) rfl (by decide +kernel) ?_
                refine pw_aload_n (k4 := 0) rfl (by decide +kernel) ?_
                refine pq_getI (c := 11) (k := 9) (ks_m hA) (by decide) (by decide) lf_Mo_204 (by decide +kernel) ?_
                refine pn_val (nI (60)) (congrArg nI z29) ?_
                refine pw_bipush (n := 61) (v := 61) (by decide) (by decide +kernel) ?_
                refine pn_icmp_ne (off := 7) (tgt := 154) 60 61 rfl rfl (by omega) (by omega) (by decide +kernel) (by decide +kernel) (fun z147 => ?_) (fun z147 => ?_)
                · refine pw_aload_n (k4 := 0) rfl (by decide +kernel) ?_
                  refine pq_getI (c := 11) (k := 9) (ks_m hA) (by decide) (by decide) lf_Mo_204 (by decide +kernel) ?_
                  refine pn_val (nI (60)) (congrArg nI z29) ?_
                  refine pw_bipush (n := 60) (v := 60) (by decide) (by decide +kernel) ?_
                  refine pn_icmp_ne (off := 23) (tgt := 183) 60 60 rfl rfl (by omega) (by omega) (by decide +kernel) (by decide +kernel) (fun z160 => ?_) (fun z160 => ?_)
                  · exact absurd z160 (by decide)
                  · refine pw_iload_n (k4 := 2) rfl (by decide +kernel) ?_
                    refine pn_if_eq (off := 7) (tgt := 171) 1 rfl (by omega) (by decide +kernel) (by decide +kernel) (fun z164 => ?_) (fun z164 => ?_)
                    · exact absurd z164 (by decide)
                    · refine pw_iconst (n := 1) (v := 1) (by decide) (by decide +kernel) ?_
                      refine pw_goto (off := 24) (tgt := 192) (by decide +kernel) (by decide +kernel) ?_
                      refine pq_putI (c := 11) (k := 9) (ks_m hA) (by decide) (by decide) lf_Mo_204 (Or.inl rfl) (by decide +kernel) ?_
                      rw [tkQ_9]
                      refine pw_goto (off := 95) (tgt := 290) (by decide +kernel) (by decide +kernel) ?_
                      exact pq_vret rfl (by decide +kernel) ⟨rfl, by simp [sgE, sgK, sgH, sgC, sgQ, sgU, z29, Decidable.not_not.mp z87, Decidable.not_not.mp z108, hsn] <;> rfl⟩
                · exact absurd (by decide) z147
              · exact absurd (by decide) z118
  · refine pw_aload_n (k4 := 0) rfl (by decide +kernel) ?_
    refine pq_getI (c := 11) (k := 9) (ks_m hA) (by decide) (by decide) lf_Mo_204 (by decide +kernel) ?_
    refine pn_val (nI (bT I a)) rfl ?_
    refine pw_bipush (n := 62) (v := 62) (by decide) (by decide +kernel) ?_
    refine pn_icmp_eq (off := 12) (tgt := 50) (bT I a) 62 rfl rfl (by omega) (by omega) (by decide +kernel) (by decide +kernel) (fun z38 => ?_) (fun z38 => ?_)
    · refine pw_aload_n (k4 := 0) rfl (by decide +kernel) ?_
      refine pq_getI (c := 11) (k := 7) (ks_m hA) (by decide) (by decide) lf_Mo_190 (by decide +kernel) ?_
      refine pn_val (nI (a + 1)) rfl ?_
      refine pw_aload_n (k4 := 0) rfl (by decide +kernel) ?_
      refine pq_getI (c := 11) (k := 6) (ks_m hA) (by decide) (by decide) lf_Mo_187 (by decide +kernel) ?_
      refine pn_val (nI (n)) (by exact hst) ?_
      refine pn_icmp_ge (off := 15) (tgt := 73) (a + 1) n rfl rfl (by omega) (by omega) (by decide +kernel) (by decide +kernel) (fun z58 => ?_) (fun z58 => ?_)
      · have hsn : sgN (bT I) n a = 0 := if_neg (by omega)
        refine pw_iconst (n := 0) (v := 0) (by decide) (by decide +kernel) ?_
        refine pq_istore_n (k4 := 1) (Nat.le_of_ble_eq_true rfl) rfl (by decide +kernel) ?_
        refine pw_aload_n (k4 := 0) rfl (by decide +kernel) ?_
        refine pq_getI (c := 11) (k := 9) (ks_m hA) (by decide) (by decide) lf_Mo_204 (by decide +kernel) ?_
        refine pn_val (nI (62)) (congrArg nI z38) ?_
        refine pw_bipush (n := 61) (v := 61) (by decide) (by decide +kernel) ?_
        refine pn_icmp_eq (off := 13) (tgt := 94) 62 61 rfl rfl (by omega) (by omega) (by decide +kernel) (by decide +kernel) (fun z81 => ?_) (fun z81 => ?_)
        · exact absurd z81 (by decide)
        · refine pw_iload_n (k4 := 1) rfl (by decide +kernel) ?_
          refine pw_bipush (n := 61) (v := 61) (by decide) (by decide +kernel) ?_
          refine pn_icmp_ne (off := 7) (tgt := 94) 0 61 rfl rfl (by omega) (by omega) (by decide +kernel) (by decide +kernel) (fun z87 => ?_) (fun z87 => ?_)
          · refine pw_iconst (n := 0) (v := 0) (by decide) (by decide +kernel) ?_
            refine pq_istore_n (k4 := 2) (Nat.le_of_ble_eq_true rfl) rfl (by decide +kernel) ?_
            refine pw_aload_n (k4 := 0) rfl (by decide +kernel) ?_
            refine pq_getI (c := 11) (k := 9) (ks_m hA) (by decide) (by decide) lf_Mo_204 (by decide +kernel) ?_
            refine pn_val (nI (62)) (congrArg nI z38) ?_
            refine pw_bipush (n := 60) (v := 60) (by decide) (by decide +kernel) ?_
            refine pn_icmp_ne (off := 13) (tgt := 115) 62 60 rfl rfl (by omega) (by omega) (by decide +kernel) (by decide +kernel) (fun z102 => ?_) (fun z102 => ?_)
            · refine pw_iconst (n := 0) (v := 0) (by decide) (by decide +kernel) ?_
              refine pq_istore_n (k4 := 3) (Nat.le_of_ble_eq_true rfl) rfl (by decide +kernel) ?_
              refine pw_iload_n (k4 := 2) rfl (by decide +kernel) ?_
              refine pn_if_ne (off := 7) (tgt := 125) 0 rfl (by omega) (by decide +kernel) (by decide +kernel) (fun z118 => ?_) (fun z118 => ?_)
              · exact absurd z118 (by decide)
              · refine pw_iload_n (k4 := 3) rfl (by decide +kernel) ?_
                refine pn_if_eq (off := 13) (tgt := 135) 0 rfl (by omega) (by decide +kernel) (by decide +kernel) (fun z122 => ?_) (fun z122 => ?_)
                · refine pw_aload_n (k4 := 0) rfl (by decide +kernel) ?_
                  refine pw_iconst (n := 5) (v := 5) (by decide) (by decide +kernel) ?_
                  refine pq_putI (c := 11) (k := 8) (ks_m hA) (by decide) (by decide) lf_Mo_193 (Or.inl rfl) (by decide +kernel) ?_
                  rw [tkQ_8]
                  refine pw_aload_n (k4 := 0) rfl (by decide +kernel) ?_
                  refine pw_aload_n (k4 := 0) rfl (by decide +kernel) ?_
                  refine pq_getI (c := 11) (k := 9) (ks_m hA) (by decide) (by decide) lf_Mo_204 (by decide +kernel) ?_
                  refine pn_val (nI (62)) (congrArg nI z38) ?_
                  refine pw_bipush (n := 61) (v := 61) (by decide) (by decide +kernel) ?_
                  refine pn_icmp_ne (off := 7) (tgt := 154) 62 61 rfl rfl (by omega) (by omega) (by decide +kernel) (by decide +kernel) (fun z147 => ?_) (fun z147 => ?_)
                  · refine pw_aload_n (k4 := 0) rfl (by decide +kernel) ?_
                    refine pq_getI (c := 11) (k := 9) (ks_m hA) (by decide) (by decide) lf_Mo_204 (by decide +kernel) ?_
                    refine pn_val (nI (62)) (congrArg nI z38) ?_
                    refine pw_bipush (n := 60) (v := 60) (by decide) (by decide +kernel) ?_
                    refine pn_icmp_ne (off := 23) (tgt := 183) 62 60 rfl rfl (by omega) (by omega) (by decide +kernel) (by decide +kernel) (fun z160 => ?_) (fun z160 => ?_)
                    · refine pw_iload_n (k4 := 2) rfl (by decide +kernel) ?_
                      refine pn_if_eq (off := 7) (tgt := 191) 0 rfl (by omega) (by decide +kernel) (by decide +kernel) (fun z184 => ?_) (fun z184 => ?_)
                      · refine pw_iconst (n := 5) (v := 5) (by decide) (by decide +kernel) ?_
                        refine pq_putI (c := 11) (k := 9) (ks_m hA) (by decide) (by decide) lf_Mo_204 (Or.inl rfl) (by decide +kernel) ?_
                        rw [tkQ_9]
                        refine pw_goto (off := 95) (tgt := 290) (by decide +kernel) (by decide +kernel) ?_
                        exact pq_vret rfl (by decide +kernel) ⟨rfl, by simp [sgE, sgK, sgH, sgC, sgQ, sgU, z29, z38, z87, hsn] <;> rfl⟩
                      · exact absurd (by decide) z184
                    · exact absurd (by decide) z160
                  · exact absurd (by decide) z147
                · exact absurd (by decide) z122
            · exact absurd (by decide) z102
          · exact absurd (by decide) z87
      · have hsn : sgN (bT I) n a = bT I (a + 1) := if_pos (by omega)
        have hb1 := (tpM_b htp (show a + 1 < 700 by omega)).1
        refine pw_aload_n (k4 := 0) rfl (by decide +kernel) ?_
        refine pq_getP (c := 11) (k := 0) (ks_m hA) (by decide) (by decide) (kp_m_tape hA) lf_Mo_7 (by decide +kernel) ?_
        refine pw_aload_n (k4 := 0) rfl (by decide +kernel) ?_
        refine pq_getI (c := 11) (k := 7) (ks_m hA) (by decide) (by decide) lf_Mo_190 (by decide +kernel) ?_
        refine pn_val (nI (a + 1)) rfl ?_
        refine pq_iald (a + 1) rfl (by omega) (by decide) (ks_m_tape hA) (by decide +kernel) ?_
        refine pn_val (nI (bT I (a + 1))) (by exact (tpM_b htp (by omega)).2) ?_
        refine pw_goto (off := 4) (tgt := 74) (by decide +kernel) (by decide +kernel) ?_
        refine pq_istore_n (k4 := 1) (Nat.le_of_ble_eq_true rfl) rfl (by decide +kernel) ?_
        refine pw_aload_n (k4 := 0) rfl (by decide +kernel) ?_
        refine pq_getI (c := 11) (k := 9) (ks_m hA) (by decide) (by decide) lf_Mo_204 (by decide +kernel) ?_
        refine pn_val (nI (62)) (congrArg nI z38) ?_
        refine pw_bipush (n := 61) (v := 61) (by decide) (by decide +kernel) ?_
        refine pn_icmp_eq (off := 13) (tgt := 94) 62 61 rfl rfl (by omega) (by omega) (by decide +kernel) (by decide +kernel) (fun z81 => ?_) (fun z81 => ?_)
        · exact absurd z81 (by decide)
        · refine pw_iload_n (k4 := 1) rfl (by decide +kernel) ?_
          refine pw_bipush (n := 61) (v := 61) (by decide) (by decide +kernel) ?_
          refine pn_icmp_ne (off := 7) (tgt := 94) (bT I (a + 1)) 61 rfl rfl (by omega) (by omega) (by decide +kernel) (by decide +kernel) (fun z87 => ?_) (fun z87 => ?_)
          · refine pw_iconst (n := 0) (v := 0) (by decide) (by decide +kernel) ?_
            refine pq_istore_n (k4 := 2) (Nat.le_of_ble_eq_true rfl) rfl (by decide +kernel) ?_
            refine pw_aload_n (k4 := 0) rfl (by decide +kernel) ?_
            refine pq_getI (c := 11) (k := 9) (ks_m hA) (by decide) (by decide) lf_Mo_204 (by decide +kernel) ?_
            refine pn_val (nI (62)) (congrArg nI z38) ?_
            refine pw_bipush (n := 60) (v := 60) (by decide) (by decide +kernel) ?_
            refine pn_icmp_ne (off := 13) (tgt := 115) 62 60 rfl rfl (by omega) (by omega) (by decide +kernel) (by decide +kernel) (fun z102 => ?_) (fun z102 => ?_)
            · refine pw_iconst (n := 0) (v := 0) (by decide) (by decide +kernel) ?_
              refine pq_istore_n (k4 := 3) (Nat.le_of_ble_eq_true rfl) rfl (by decide +kernel) ?_
              refine pw_iload_n (k4 := 2) rfl (by decide +kernel) ?_
              refine pn_if_ne (off := 7) (tgt := 125) 0 rfl (by omega) (by decide +kernel) (by decide +kernel) (fun z118 => ?_) (fun z118 => ?_)
              · exact absurd z118 (by decide)
              · refine pw_iload_n (k4 := 3) rfl (by decide +kernel) ?_
                refine pn_if_eq (off := 13) (tgt := 135) 0 rfl (by omega) (by decide +kernel) (by decide +kernel) (fun z122 => ?_) (fun z122 => ?_)
                · refine pw_aload_n (k4 := 0) rfl (by decide +kernel) ?_
                  refine pw_iconst (n := 5) (v := 5) (by decide) (by decide +kernel) ?_
                  refine pq_putI (c := 11) (k := 8) (ks_m hA) (by decide) (by decide) lf_Mo_193 (Or.inl rfl) (by decide +kernel) ?_
                  rw [tkQ_8]
                  refine pw_aload_n (k4 := 0) rfl (by decide +kernel) ?_
                  refine pw_aload_n (k4 := 0) rfl (by decide +kernel) ?_
                  refine pq_getI (c := 11) (k := 9) (ks_m hA) (by decide) (by decide) lf_Mo_204 (by decide +kernel) ?_
                  refine pn_val (nI (62)) (congrArg nI z38) ?_
                  refine pw_bipush (n := 61) (v := 61) (by decide) (by decide +kernel) ?_
                  refine pn_icmp_ne (off := 7) (tgt := 154) 62 61 rfl rfl (by omega) (by omega) (by decide +kernel) (by decide +kernel) (fun z147 => ?_) (fun z147 => ?_)
                  · refine pw_aload_n (k4 := 0) rfl (by decide +kernel) ?_
                    refine pq_getI (c := 11) (k := 9) (ks_m hA) (by decide) (by decide) lf_Mo_204 (by decide +kernel) ?_
                    refine pn_val (nI (62)) (congrArg nI z38) ?_
                    refine pw_bipush (n := 60) (v := 60) (by decide) (by decide +kernel) ?_
                    refine pn_icmp_ne (off := 23) (tgt := 183) 62 60 rfl rfl (by omega) (by omega) (by decide +kernel) (by decide +kernel) (fun z160 => ?_) (fun z160 => ?_)
                    · refine pw_iload_n (k4 := 2) rfl (by decide +kernel) ?_
                      refine pn_if_eq (off := 7) (tgt := 191) 0 rfl (by omega) (by decide +kernel) (by decide +kernel) (fun z184 => ?_) (fun z184 => ?_)
                      · refine pw_iconst (n := 5) (v := 5) (by decide) (by decide +kernel) ?_
                        refine pq_putI (c := 11) (k := 9) (ks_m hA) (by decide) (by decide) lf_Mo_204 (Or.inl rfl) (by decide +kernel) ?_
                        rw [tkQ_9]
                        refine pw_goto (off := 95) (tgt := 290) (by decide +kernel) (by decide +kernel) ?_
                        exact pq_vret rfl (by decide +kernel) ⟨rfl, by simp [sgE, sgK, sgH, sgC, sgQ, sgU, z29, z38, z87, hsn] <;> rfl⟩
                      · exact absurd (by decide) z184
                    · exact absurd (by decide) z160
                  · exact absurd (by decide) z147
                · exact absurd (by decide) z122
            · exact absurd (by decide) z102
          · refine pw_iconst (n := 1) (v := 1) (by decide) (by decide +kernel) ?_
            refine pw_goto (off := 4) (tgt := 95) (by decide +kernel) (by decide +kernel) ?_
            refine pq_istore_n (k4 := 2) (Nat.le_of_ble_eq_true rfl) rfl (by decide +kernel) ?_
            refine pw_aload_n (k4 := 0) rfl (by decide +kernel) ?_
            refine pq_getI (c := 11) (k := 9) (ks_m hA) (by decide) (by decide) lf_Mo_204 (by decide +kernel) ?_
            refine pn_val (nI (62)) (congrArg nI z38) ?_
            refine pw_bipush (n := 60) (v := 60) (by decide) (by decide +kernel) ?_
            refine pn_icmp_ne (off := 13) (tgt := 115) 62 60 rfl rfl (by omega) (by omega) (by decide +kernel) (by decide +kernel) (fun z102 => ?_) (fun z102 => ?_)
            · refine pw_iconst (n := 0) (v := 0) (by decide) (by decide +kernel) ?_
              refine pq_istore_n (k4 := 3) (Nat.le_of_ble_eq_true rfl) rfl (by decide +kernel) ?_
              refine pw_iload_n (k4 := 2) rfl (by decide +kernel) ?_
              refine pn_if_ne (off := 7) (tgt := 125) 1 rfl (by omega) (by decide +kernel) (by decide +kernel) (fun z118 => ?_) (fun z118 => ?_)
              · refine pw_aload_n (k4 := 0) rfl (by decide +kernel) ?_
                refine pw_dup rfl (by decide +kernel) ?_
                refine pq_getI (c := 11) (k := 7) (ks_m hA) (by decide) (by decide) lf_Mo_190 (by decide +kernel) ?_
                refine pn_val (nI (a + 1)) rfl ?_
                refine pw_iconst (n := 1) (v := 1) (by decide) (by decide +kernel) ?_
                refine pn_iadd (a + 1) 1 rfl rfl (by decide +kernel) ?_
                refine pq_putI (c := 11) (k := 7) (ks_m hA) (by decide) (by decide) lf_Mo_190 (Or.inl rfl) (by decide +kernel) ?_
                rw [tkQ_7]
                refine pw_aload_n (k4 := 0) rfl (by decide +kernel) ?_
                refine pw_iconst (n := 5) (v := 5) (by decide) (by decide +kernel) ?_
                refine pq_putI (c := 11) (k := 8) (ks_m hA) (by decide) (by decide) lf_Mo_193 (Or.inl rfl) (by decide +kernel) ?_
                rw [tkQ_8]
                refine pw_aload_n (k4 := 0) rfl (by decide +kernel) ?_
                refine pw_aload_n (k4 := 0) rfl (by decide +kernel) ?_
                refine pq_getI (c := 11) (k := 9) (ks_m hA) (by decide) (by decide) lf_Mo_204 (by decide +kernel) ?_
                refine pn_val (nI (62)) (congrArg nI z38) ?_
                refine pw_bipush (n := 61) (v := 61) (by decide) (by decide +kernel) ?_
                refine pn_icmp_ne (off := 7) (tgt := 154) 62 61 rfl rfl (by omega) (by omega) (by decide +kernel) (by decide +kernel) (fun z147 => ?_) (fun z147 => ?_)
                · refine pw_aload_n (k4 := 0) rfl (by decide +kernel) ?_
                  refine pq_getI (c := 11) (k := 9) (ks_m hA) (by decide) (by decide) lf_Mo_204 (by decide +kernel) ?_
                  refine pn_val (nI (62)) (congrArg nI z38) ?_
                  refine pw_bipush (n := 60) (v := 60) (by decide) (by decide +kernel) ?_
                  refine pn_icmp_ne (off := 23) (tgt := 183) 62 60 rfl rfl (by omega) (by omega) (by decide +kernel) (by decide +kernel) (fun z160 => ?_) (fun z160 => ?_)
                  · refine pw_iload_n (k4 := 2) rfl (by decide +kernel) ?_
                    refine pn_if_eq (off := 7) (tgt := 191) 1 rfl (by omega) (by decide +kernel) (by decide +kernel) (fun z184 => ?_) (fun z184 => ?_)
                    · exact absurd z184 (by decide)
                    · refine pw_iconst (n := 4) (v := 4) (by decide) (by decide +kernel) ?_
                      refine pw_goto (off := 4) (tgt := 192) (by decide +kernel) (by decide +kernel) ?_
                      refine pq_putI (c := 11) (k := 9) (ks_m hA) (by decide) (by decide) lf_Mo_204 (Or.inl rfl) (by decide +kernel) ?_
                      rw [tkQ_9]
                      refine pw_goto (off := 95) (tgt := 290) (by decide +kernel) (by decide +kernel) ?_
                      exact pq_vret rfl (by decide +kernel) ⟨rfl, by simp [sgE, sgK, sgH, sgC, sgQ, sgU, z29, z38, Decidable.not_not.mp z87, hsn] <;> rfl⟩
                  · exact absurd (by decide) z160
                · exact absurd (by decide) z147
              · exact absurd (by decide) z118
            · exact absurd (by decide) z102
    · refine pw_aload_n (k4 := 0) rfl (by decide +kernel) ?_
      refine pq_getI (c := 11) (k := 9) (ks_m hA) (by decide) (by decide) lf_Mo_204 (by decide +kernel) ?_
      refine pn_val (nI (bT I a)) rfl ?_
      refine pw_bipush (n := 61) (v := 61) (by decide) (by decide +kernel) ?_
      refine pn_icmp_ne (off := 151) (tgt := 198) (bT I a) 61 rfl rfl (by omega) (by omega) (by decide +kernel) (by decide +kernel) (fun z47 => ?_) (fun z47 => ?_)
      · refine pw_aload_n (k4 := 0) rfl (by decide +kernel) ?_
        refine pq_getI (c := 11) (k := 9) (ks_m hA) (by decide) (by decide) lf_Mo_204 (by decide +kernel) ?_
        refine pn_val (nI (bT I a)) rfl ?_
        refine pw_bipush (n := 59) (v := 59) (by decide) (by decide +kernel) ?_
        refine pn_icmp_eq (off := 66) (tgt := 270) (bT I a) 59 rfl rfl (by omega) (by omega) (by decide +kernel) (by decide +kernel) (fun z204 => ?_) (fun z204 => ?_)
        · refine pw_iconst (n := 1) (v := 1) (by decide) (by decide +kernel) ?_
          refine pw_goto (off := 4) (tgt := 275) (by decide +kernel) (by decide +kernel) ?_
          refine pq_istore_n (k4 := 1) (Nat.le_of_ble_eq_true rfl) rfl (by decide +kernel) ?_
          refine pw_aload_n (k4 := 0) rfl (by decide +kernel) ?_
          refine pw_iload_n (k4 := 1) rfl (by decide +kernel) ?_
          refine pn_if_eq (off := 7) (tgt := 285) 1 rfl (by omega) (by decide +kernel) (by decide +kernel) (fun z278 => ?_) (fun z278 => ?_)
          · exact absurd z278 (by decide)
          · refine pw_iconst (n := 4) (v := 4) (by decide) (by decide +kernel) ?_
            refine pw_goto (off := 5) (tgt := 287) (by decide +kernel) (by decide +kernel) ?_
            refine pq_putI (c := 11) (k := 8) (ks_m hA) (by decide) (by decide) lf_Mo_193 (Or.inl rfl) (by decide +kernel) ?_
            rw [tkQ_8]
            exact pq_vret rfl (by decide +kernel) ⟨rfl, by simp [sgE, sgK, sgH, sgC, sgQ, sgU, z29, z38, z47, z204] <;> rfl⟩
        · refine pw_aload_n (k4 := 0) rfl (by decide +kernel) ?_
          refine pq_getI (c := 11) (k := 9) (ks_m hA) (by decide) (by decide) lf_Mo_204 (by decide +kernel) ?_
          refine pn_val (nI (bT I a)) rfl ?_
          refine pw_bipush (n := 40) (v := 40) (by decide) (by decide +kernel) ?_
          refine pn_icmp_eq (off := 57) (tgt := 270) (bT I a) 40 rfl rfl (by omega) (by omega) (by decide +kernel) (by decide +kernel) (fun z213 => ?_) (fun z213 => ?_)
          · refine pw_iconst (n := 1) (v := 1) (by decide) (by decide +kernel) ?_
            refine pw_goto (off := 4) (tgt := 275) (by decide +kernel) (by decide +kernel) ?_
            refine pq_istore_n (k4 := 1) (Nat.le_of_ble_eq_true rfl) rfl (by decide +kernel) ?_
            refine pw_aload_n (k4 := 0) rfl (by decide +kernel) ?_
            refine pw_iload_n (k4 := 1) rfl (by decide +kernel) ?_
            refine pn_if_eq (off := 7) (tgt := 285) 1 rfl (by omega) (by decide +kernel) (by decide +kernel) (fun z278 => ?_) (fun z278 => ?_)
            · exact absurd z278 (by decide)
            · refine pw_iconst (n := 4) (v := 4) (by decide) (by decide +kernel) ?_
              refine pw_goto (off := 5) (tgt := 287) (by decide +kernel) (by decide +kernel) ?_
              refine pq_putI (c := 11) (k := 8) (ks_m hA) (by decide) (by decide) lf_Mo_193 (Or.inl rfl) (by decide +kernel) ?_
              rw [tkQ_8]
              exact pq_vret rfl (by decide +kernel) ⟨rfl, by simp [sgE, sgK, sgH, sgC, sgQ, sgU, z29, z38, z47, z204, z213] <;> rfl⟩
          · refine pw_aload_n (k4 := 0) rfl (by decide +kernel) ?_
            refine pq_getI (c := 11) (k := 9) (ks_m hA) (by decide) (by decide) lf_Mo_204 (by decide +kernel) ?_
            refine pn_val (nI (bT I a)) rfl ?_
            refine pw_bipush (n := 41) (v := 41) (by decide) (by decide +kernel) ?_
            refine pn_icmp_eq (off := 48) (tgt := 270) (bT I a) 41 rfl rfl (by omega) (by omega) (by decide +kernel) (by decide +kernel) (fun z222 => ?_) (fun z222 => ?_)
            · refine pw_iconst (n := 1) (v := 1) (by decide) (by decide +kernel) ?_
              refine pw_goto (off := 4) (tgt := 275) (by decide +kernel) (by decide +kernel) ?_
              refine pq_istore_n (k4 := 1) (Nat.le_of_ble_eq_true rfl) rfl (by decide +kernel) ?_
              refine pw_aload_n (k4 := 0) rfl (by decide +kernel) ?_
              refine pw_iload_n (k4 := 1) rfl (by decide +kernel) ?_
              refine pn_if_eq (off := 7) (tgt := 285) 1 rfl (by omega) (by decide +kernel) (by decide +kernel) (fun z278 => ?_) (fun z278 => ?_)
              · exact absurd z278 (by decide)
              · refine pw_iconst (n := 4) (v := 4) (by decide) (by decide +kernel) ?_
                refine pw_goto (off := 5) (tgt := 287) (by decide +kernel) (by decide +kernel) ?_
                refine pq_putI (c := 11) (k := 8) (ks_m hA) (by decide) (by decide) lf_Mo_193 (Or.inl rfl) (by decide +kernel) ?_
                rw [tkQ_8]
                exact pq_vret rfl (by decide +kernel) ⟨rfl, by simp [sgE, sgK, sgH, sgC, sgQ, sgU, z29, z38, z47, z204, z213, z222] <;> rfl⟩
            · refine pw_aload_n (k4 := 0) rfl (by decide +kernel) ?_
              refine pq_getI (c := 11) (k := 9) (ks_m hA) (by decide) (by decide) lf_Mo_204 (by decide +kernel) ?_
              refine pn_val (nI (bT I a)) rfl ?_
              refine pw_bipush (n := 43) (v := 43) (by decide) (by decide +kernel) ?_
              refine pn_icmp_eq (off := 39) (tgt := 270) (bT I a) 43 rfl rfl (by omega) (by omega) (by decide +kernel) (by decide +kernel) (fun z231 => ?_) (fun z231 => ?_)
              · refine pw_iconst (n := 1) (v := 1) (by decide) (by decide +kernel) ?_
                refine pw_goto (off := 4) (tgt := 275) (by decide +kernel) (by decide +kernel) ?_
                refine pq_istore_n (k4 := 1) (Nat.le_of_ble_eq_true rfl) rfl (by decide +kernel) ?_
                refine pw_aload_n (k4 := 0) rfl (by decide +kernel) ?_
                refine pw_iload_n (k4 := 1) rfl (by decide +kernel) ?_
                refine pn_if_eq (off := 7) (tgt := 285) 1 rfl (by omega) (by decide +kernel) (by decide +kernel) (fun z278 => ?_) (fun z278 => ?_)
                · exact absurd z278 (by decide)
                · refine pw_iconst (n := 4) (v := 4) (by decide) (by decide +kernel) ?_
                  refine pw_goto (off := 5) (tgt := 287) (by decide +kernel) (by decide +kernel) ?_
                  refine pq_putI (c := 11) (k := 8) (ks_m hA) (by decide) (by decide) lf_Mo_193 (Or.inl rfl) (by decide +kernel) ?_
                  rw [tkQ_8]
                  exact pq_vret rfl (by decide +kernel) ⟨rfl, by simp [sgE, sgK, sgH, sgC, sgQ, sgU, z29, z38, z47, z204, z213, z222, z231] <;> rfl⟩
              · refine pw_aload_n (k4 := 0) rfl (by decide +kernel) ?_
                refine pq_getI (c := 11) (k := 9) (ks_m hA) (by decide) (by decide) lf_Mo_204 (by decide +kernel) ?_
                refine pn_val (nI (bT I a)) rfl ?_
                refine pw_bipush (n := 45) (v := 45) (by decide) (by decide +kernel) ?_
                refine pn_icmp_eq (off := 30) (tgt := 270) (bT I a) 45 rfl rfl (by omega) (by omega) (by decide +kernel) (by decide +kernel) (fun z240 => ?_) (fun z240 => ?_)
                · refine pw_iconst (n := 1) (v := 1) (by decide) (by decide +kernel) ?_
                  refine pw_goto (off := 4) (tgt := 275) (by decide +kernel) (by decide +kernel) ?_
                  refine pq_istore_n (k4 := 1) (Nat.le_of_ble_eq_true rfl) rfl (by decide +kernel) ?_
                  refine pw_aload_n (k4 := 0) rfl (by decide +kernel) ?_
                  refine pw_iload_n (k4 := 1) rfl (by decide +kernel) ?_
                  refine pn_if_eq (off := 7) (tgt := 285) 1 rfl (by omega) (by decide +kernel) (by decide +kernel) (fun z278 => ?_) (fun z278 => ?_)
                  · exact absurd z278 (by decide)
                  · refine pw_iconst (n := 4) (v := 4) (by decide) (by decide +kernel) ?_
                    refine pw_goto (off := 5) (tgt := 287) (by decide +kernel) (by decide +kernel) ?_
                    refine pq_putI (c := 11) (k := 8) (ks_m hA) (by decide) (by decide) lf_Mo_193 (Or.inl rfl) (by decide +kernel) ?_
                    rw [tkQ_8]
                    exact pq_vret rfl (by decide +kernel) ⟨rfl, by simp [sgE, sgK, sgH, sgC, sgQ, sgU, z29, z38, z47, z204, z213, z222, z231, z240] <;> rfl⟩
                · refine pw_aload_n (k4 := 0) rfl (by decide +kernel) ?_
                  refine pq_getI (c := 11) (k := 9) (ks_m hA) (by decide) (by decide) lf_Mo_204 (by decide +kernel) ?_
                  refine pn_val (nI (bT I a)) rfl ?_
                  refine pw_bipush (n := 42) (v := 42) (by decide) (by decide +kernel) ?_
                  refine pn_icmp_eq (off := 21) (tgt := 270) (bT I a) 42 rfl rfl (by omega) (by omega) (by decide +kernel) (by decide +kernel) (fun z249 => ?_) (fun z249 => ?_)
                  · refine pw_iconst (n := 1) (v := 1) (by decide) (by decide +kernel) ?_
                    refine pw_goto (off := 4) (tgt := 275) (by decide +kernel) (by decide +kernel) ?_
                    refine pq_istore_n (k4 := 1) (Nat.le_of_ble_eq_true rfl) rfl (by decide +kernel) ?_
                    refine pw_aload_n (k4 := 0) rfl (by decide +kernel) ?_
                    refine pw_iload_n (k4 := 1) rfl (by decide +kernel) ?_
                    refine pn_if_eq (off := 7) (tgt := 285) 1 rfl (by omega) (by decide +kernel) (by decide +kernel) (fun z278 => ?_) (fun z278 => ?_)
                    · exact absurd z278 (by decide)
                    · refine pw_iconst (n := 4) (v := 4) (by decide) (by decide +kernel) ?_
                      refine pw_goto (off := 5) (tgt := 287) (by decide +kernel) (by decide +kernel) ?_
                      refine pq_putI (c := 11) (k := 8) (ks_m hA) (by decide) (by decide) lf_Mo_193 (Or.inl rfl) (by decide +kernel) ?_
                      rw [tkQ_8]
                      exact pq_vret rfl (by decide +kernel) ⟨rfl, by simp [sgE, sgK, sgH, sgC, sgQ, sgU, z29, z38, z47, z204, z213, z222, z231, z240, z249] <;> rfl⟩
                  · refine pw_aload_n (k4 := 0) rfl (by decide +kernel) ?_
                    refine pq_getI (c := 11) (k := 9) (ks_m hA) (by decide) (by decide) lf_Mo_204 (by decide +kernel) ?_
                    refine pn_val (nI (bT I a)) rfl ?_
                    refine pw_bipush (n := 47) (v := 47) (by decide) (by decide +kernel) ?_
                    refine pn_icmp_eq (off := 12) (tgt := 270) (bT I a) 47 rfl rfl (by omega) (by omega) (by decide +kernel) (by decide +kernel) (fun z258 => ?_) (fun z258 => ?_)
                    · refine pw_iconst (n := 1) (v := 1) (by decide) (by decide +kernel) ?_
                      refine pw_goto (off := 4) (tgt := 275) (by decide +kernel) (by decide +kernel) ?_
                      refine pq_istore_n (k4 := 1) (Nat.le_of_ble_eq_true rfl) rfl (by decide +kernel) ?_
                      refine pw_aload_n (k4 := 0) rfl (by decide +kernel) ?_
                      refine pw_iload_n (k4 := 1) rfl (by decide +kernel) ?_
                      refine pn_if_eq (off := 7) (tgt := 285) 1 rfl (by omega) (by decide +kernel) (by decide +kernel) (fun z278 => ?_) (fun z278 => ?_)
                      · exact absurd z278 (by decide)
                      · refine pw_iconst (n := 4) (v := 4) (by decide) (by decide +kernel) ?_
                        refine pw_goto (off := 5) (tgt := 287) (by decide +kernel) (by decide +kernel) ?_
                        refine pq_putI (c := 11) (k := 8) (ks_m hA) (by decide) (by decide) lf_Mo_193 (Or.inl rfl) (by decide +kernel) ?_
                        rw [tkQ_8]
                        exact pq_vret rfl (by decide +kernel) ⟨rfl, by simp [sgE, sgK, sgH, sgC, sgQ, sgU, z29, z38, z47, z204, z213, z222, z231, z240, z249, z258] <;> rfl⟩
                    · refine pw_aload_n (k4 := 0) rfl (by decide +kernel) ?_
                      refine pq_getI (c := 11) (k := 9) (ks_m hA) (by decide) (by decide) lf_Mo_204 (by decide +kernel) ?_
                      refine pn_val (nI (bT I a)) rfl ?_
                      refine pw_bipush (n := 37) (v := 37) (by decide) (by decide +kernel) ?_
                      refine pn_icmp_ne (off := 7) (tgt := 274) (bT I a) 37 rfl rfl (by omega) (by omega) (by decide +kernel) (by decide +kernel) (fun z267 => ?_) (fun z267 => ?_)
                      · refine pw_iconst (n := 0) (v := 0) (by decide) (by decide +kernel) ?_
                        refine pq_istore_n (k4 := 1) (Nat.le_of_ble_eq_true rfl) rfl (by decide +kernel) ?_
                        refine pw_aload_n (k4 := 0) rfl (by decide +kernel) ?_
                        refine pw_iload_n (k4 := 1) rfl (by decide +kernel) ?_
                        refine pn_if_eq (off := 7) (tgt := 285) 0 rfl (by omega) (by decide +kernel) (by decide +kernel) (fun z278 => ?_) (fun z278 => ?_)
                        · refine pw_bipush (n := 6) (v := 6) (by decide) (by decide +kernel) ?_
                          refine pq_putI (c := 11) (k := 8) (ks_m hA) (by decide) (by decide) lf_Mo_193 (Or.inl rfl) (by decide +kernel) ?_
                          rw [tkQ_8]
                          exact pq_vret rfl (by decide +kernel) ⟨rfl, by simp [sgE, sgK, sgH, sgC, sgQ, sgU, z29, z38, z47, z204, z213, z222, z231, z240, z249, z258, z267] <;> rfl⟩
                        · exact absurd (by decide) z278
                      · refine pw_iconst (n := 1) (v := 1) (by decide) (by decide +kernel) ?_
                        refine pw_goto (off := 4) (tgt := 275) (by decide +kernel) (by decide +kernel) ?_
                        refine pq_istore_n (k4 := 1) (Nat.le_of_ble_eq_true rfl) rfl (by decide +kernel) ?_
                        refine pw_aload_n (k4 := 0) rfl (by decide +kernel) ?_
                        refine pw_iload_n (k4 := 1) rfl (by decide +kernel) ?_
                        refine pn_if_eq (off := 7) (tgt := 285) 1 rfl (by omega) (by decide +kernel) (by decide +kernel) (fun z278 => ?_) (fun z278 => ?_)
                        · exact absurd z278 (by decide)
                        · refine pw_iconst (n := 4) (v := 4) (by decide) (by decide +kernel) ?_
                          refine pw_goto (off := 5) (tgt := 287) (by decide +kernel) (by decide +kernel) ?_
                          refine pq_putI (c := 11) (k := 8) (ks_m hA) (by decide) (by decide) lf_Mo_193 (Or.inl rfl) (by decide +kernel) ?_
                          rw [tkQ_8]
                          exact pq_vret rfl (by decide +kernel) ⟨rfl, by simp [sgE, sgK, sgH, sgC, sgQ, sgU, z29, z38, z47, z204, z213, z222, z231, z240, z249, z258, Decidable.not_not.mp z267] <;> rfl⟩
      · refine pw_aload_n (k4 := 0) rfl (by decide +kernel) ?_
        refine pq_getI (c := 11) (k := 7) (ks_m hA) (by decide) (by decide) lf_Mo_190 (by decide +kernel) ?_
        refine pn_val (nI (a + 1)) rfl ?_
        refine pw_aload_n (k4 := 0) rfl (by decide +kernel) ?_
        refine pq_getI (c := 11) (k := 6) (ks_m hA) (by decide) (by decide) lf_Mo_187 (by decide +kernel) ?_
        refine pn_val (nI (n)) (by exact hst) ?_
        refine pn_icmp_ge (off := 15) (tgt := 73) (a + 1) n rfl rfl (by omega) (by omega) (by decide +kernel) (by decide +kernel) (fun z58 => ?_) (fun z58 => ?_)
        · have hsn : sgN (bT I) n a = 0 := if_neg (by omega)
          refine pw_iconst (n := 0) (v := 0) (by decide) (by decide +kernel) ?_
          refine pq_istore_n (k4 := 1) (Nat.le_of_ble_eq_true rfl) rfl (by decide +kernel) ?_
          refine pw_aload_n (k4 := 0) rfl (by decide +kernel) ?_
          refine pq_getI (c := 11) (k := 9) (ks_m hA) (by decide) (by decide) lf_Mo_204 (by decide +kernel) ?_
          refine pn_val (nI (61)) (congrArg nI (Decidable.not_not.mp z47)) ?_
          refine pw_bipush (n := 61) (v := 61) (by decide) (by decide +kernel) ?_
          refine pn_icmp_eq (off := 13) (tgt := 94) 61 61 rfl rfl (by omega) (by omega) (by decide +kernel) (by decide +kernel) (fun z81 => ?_) (fun z81 => ?_)
          · refine pw_iconst (n := 0) (v := 0) (by decide) (by decide +kernel) ?_
            refine pq_istore_n (k4 := 2) (Nat.le_of_ble_eq_true rfl) rfl (by decide +kernel) ?_
            refine pw_aload_n (k4 := 0) rfl (by decide +kernel) ?_
            refine pq_getI (c := 11) (k := 9) (ks_m hA) (by decide) (by decide) lf_Mo_204 (by decide +kernel) ?_
            refine pn_val (nI (61)) (congrArg nI (Decidable.not_not.mp z47)) ?_
            refine pw_bipush (n := 60) (v := 60) (by decide) (by decide +kernel) ?_
            refine pn_icmp_ne (off := 13) (tgt := 115) 61 60 rfl rfl (by omega) (by omega) (by decide +kernel) (by decide +kernel) (fun z102 => ?_) (fun z102 => ?_)
            · refine pw_iconst (n := 0) (v := 0) (by decide) (by decide +kernel) ?_
              refine pq_istore_n (k4 := 3) (Nat.le_of_ble_eq_true rfl) rfl (by decide +kernel) ?_
              refine pw_iload_n (k4 := 2) rfl (by decide +kernel) ?_
              refine pn_if_ne (off := 7) (tgt := 125) 0 rfl (by omega) (by decide +kernel) (by decide +kernel) (fun z118 => ?_) (fun z118 => ?_)
              · exact absurd z118 (by decide)
              · refine pw_iload_n (k4 := 3) rfl (by decide +kernel) ?_
                refine pn_if_eq (off := 13) (tgt := 135) 0 rfl (by omega) (by decide +kernel) (by decide +kernel) (fun z122 => ?_) (fun z122 => ?_)
                · refine pw_aload_n (k4 := 0) rfl (by decide +kernel) ?_
                  refine pw_iconst (n := 5) (v := 5) (by decide) (by decide +kernel) ?_
                  refine pq_putI (c := 11) (k := 8) (ks_m hA) (by decide) (by decide) lf_Mo_193 (Or.inl rfl) (by decide +kernel) ?_
                  rw [tkQ_8]
                  refine pw_aload_n (k4 := 0) rfl (by decide +kernel) ?_
                  refine pw_aload_n (k4 := 0) rfl (by decide +kernel) ?_
                  refine pq_getI (c := 11) (k := 9) (ks_m hA) (by decide) (by decide) lf_Mo_204 (by decide +kernel) ?_
                  refine pn_val (nI (61)) (congrArg nI (Decidable.not_not.mp z47)) ?_
                  refine pw_bipush (n := 61) (v := 61) (by decide) (by decide +kernel) ?_
                  refine pn_icmp_ne (off := 7) (tgt := 154) 61 61 rfl rfl (by omega) (by omega) (by decide +kernel) (by decide +kernel) (fun z147 => ?_) (fun z147 => ?_)
                  · exact absurd z147 (by decide)
                  · refine pw_iconst (n := 2) (v := 2) (by decide) (by decide +kernel) ?_
                    refine pw_goto (off := 41) (tgt := 192) (by decide +kernel) (by decide +kernel) ?_
                    refine pq_putI (c := 11) (k := 9) (ks_m hA) (by decide) (by decide) lf_Mo_204 (Or.inl rfl) (by decide +kernel) ?_
                    rw [tkQ_9]
                    refine pw_goto (off := 95) (tgt := 290) (by decide +kernel) (by decide +kernel) ?_
                    exact pq_vret rfl (by decide +kernel) ⟨rfl, by simp [sgE, sgK, sgH, sgC, sgQ, sgU, z29, z38, Decidable.not_not.mp z47, hsn] <;> rfl⟩
                · exact absurd (by decide) z122
            · exact absurd (by decide) z102
          · exact absurd (by decide) z81
        · have hsn : sgN (bT I) n a = bT I (a + 1) := if_pos (by omega)
          have hb1 := (tpM_b htp (show a + 1 < 700 by omega)).1
          refine pw_aload_n (k4 := 0) rfl (by decide +kernel) ?_
          refine pq_getP (c := 11) (k := 0) (ks_m hA) (by decide) (by decide) (kp_m_tape hA) lf_Mo_7 (by decide +kernel) ?_
          refine pw_aload_n (k4 := 0) rfl (by decide +kernel) ?_
          refine pq_getI (c := 11) (k := 7) (ks_m hA) (by decide) (by decide) lf_Mo_190 (by decide +kernel) ?_
          refine pn_val (nI (a + 1)) rfl ?_
          refine pq_iald (a + 1) rfl (by omega) (by decide) (ks_m_tape hA) (by decide +kernel) ?_
          refine pn_val (nI (bT I (a + 1))) (by exact (tpM_b htp (by omega)).2) ?_
          refine pw_goto (off := 4) (tgt := 74) (by decide +kernel) (by decide +kernel) ?_
          refine pq_istore_n (k4 := 1) (Nat.le_of_ble_eq_true rfl) rfl (by decide +kernel) ?_
          refine pw_aload_n (k4 := 0) rfl (by decide +kernel) ?_
          refine pq_getI (c := 11) (k := 9) (ks_m hA) (by decide) (by decide) lf_Mo_204 (by decide +kernel) ?_
          refine pn_val (nI (61)) (congrArg nI (Decidable.not_not.mp z47)) ?_
          refine pw_bipush (n := 61) (v := 61) (by decide) (by decide +kernel) ?_
          refine pn_icmp_eq (off := 13) (tgt := 94) 61 61 rfl rfl (by omega) (by omega) (by decide +kernel) (by decide +kernel) (fun z81 => ?_) (fun z81 => ?_)
          · refine pw_iconst (n := 0) (v := 0) (by decide) (by decide +kernel) ?_
            refine pq_istore_n (k4 := 2) (Nat.le_of_ble_eq_true rfl) rfl (by decide +kernel) ?_
            refine pw_aload_n (k4 := 0) rfl (by decide +kernel) ?_
            refine pq_getI (c := 11) (k := 9) (ks_m hA) (by decide) (by decide) lf_Mo_204 (by decide +kernel) ?_
            refine pn_val (nI (61)) (congrArg nI (Decidable.not_not.mp z47)) ?_
            refine pw_bipush (n := 60) (v := 60) (by decide) (by decide +kernel) ?_
            refine pn_icmp_ne (off := 13) (tgt := 115) 61 60 rfl rfl (by omega) (by omega) (by decide +kernel) (by decide +kernel) (fun z102 => ?_) (fun z102 => ?_)
            · refine pw_iconst (n := 0) (v := 0) (by decide) (by decide +kernel) ?_
              refine pq_istore_n (k4 := 3) (Nat.le_of_ble_eq_true rfl) rfl (by decide +kernel) ?_
              refine pw_iload_n (k4 := 2) rfl (by decide +kernel) ?_
              refine pn_if_ne (off := 7) (tgt := 125) 0 rfl (by omega) (by decide +kernel) (by decide +kernel) (fun z118 => ?_) (fun z118 => ?_)
              · exact absurd z118 (by decide)
              · refine pw_iload_n (k4 := 3) rfl (by decide +kernel) ?_
                refine pn_if_eq (off := 13) (tgt := 135) 0 rfl (by omega) (by decide +kernel) (by decide +kernel) (fun z122 => ?_) (fun z122 => ?_)
                · refine pw_aload_n (k4 := 0) rfl (by decide +kernel) ?_
                  refine pw_iconst (n := 5) (v := 5) (by decide) (by decide +kernel) ?_
                  refine pq_putI (c := 11) (k := 8) (ks_m hA) (by decide) (by decide) lf_Mo_193 (Or.inl rfl) (by decide +kernel) ?_
                  rw [tkQ_8]
                  refine pw_aload_n (k4 := 0) rfl (by decide +kernel) ?_
                  refine pw_aload_n (k4 := 0) rfl (by decide +kernel) ?_
                  refine pq_getI (c := 11) (k := 9) (ks_m hA) (by decide) (by decide) lf_Mo_204 (by decide +kernel) ?_
                  refine pn_val (nI (61)) (congrArg nI (Decidable.not_not.mp z47)) ?_
                  refine pw_bipush (n := 61) (v := 61) (by decide) (by decide +kernel) ?_
                  refine pn_icmp_ne (off := 7) (tgt := 154) 61 61 rfl rfl (by omega) (by omega) (by decide +kernel) (by decide +kernel) (fun z147 => ?_) (fun z147 => ?_)
                  · exact absurd z147 (by decide)
                  · refine pw_iconst (n := 2) (v := 2) (by decide) (by decide +kernel) ?_
                    refine pw_goto (off := 41) (tgt := 192) (by decide +kernel) (by decide +kernel) ?_
                    refine pq_putI (c := 11) (k := 9) (ks_m hA) (by decide) (by decide) lf_Mo_204 (Or.inl rfl) (by decide +kernel) ?_
                    rw [tkQ_9]
                    refine pw_goto (off := 95) (tgt := 290) (by decide +kernel) (by decide +kernel) ?_
                    exact pq_vret rfl (by decide +kernel) ⟨rfl, by simp [sgE, sgK, sgH, sgC, sgQ, sgU, z29, z38, Decidable.not_not.mp z47, hsn] <;> rfl⟩
                · exact absurd (by decide) z122
            · exact absurd (by decide) z102
          · exact absurd (by decide) z81

set_option maxHeartbeats 4000000 in
theorem ct_Mo_token {sh : List pSh} {I : Nat → Nat → Int32} {L : Nat → Nat → Int64} {P : Nat → Nat → Option Nat} (hA : kA sh P) (htp : tpM I) {n : Nat} (hst : I 134 6 = nI n) (hn7 : n ≤ 700) (hwd : wdM I) {p : Nat} (hnx : I 134 7 = nI p) (hpn : p ≤ n) : pCn m_Mo_token 1 [.ref 134] sh (I, L, P) (rV (yTok I, L, P)) := by
  refine pCn_of (by decide +kernel) (Nat.le_of_ble_eq_true rfl) ?_
  obtain ⟨a, haE⟩ : ∃ a, tkA (bT I) n p = a := ⟨_, rfl⟩
  have hale := runTo_le (fun k => decide (blP (bT I) n k)) (n - p) p
  have han : a ≤ n := by rw [← haE]; show runTo _ _ _ ≤ n; omega
  have hY : yTok I = tkQ I (nI (tkE (bT I) n a)) (nI (tkK (bT I) n a)) (tkH (bT I) n a (I 134 9)) (nI a) := by
    unfold yTok
    rw [hst, hnx, ixn_nI (by omega), ixn_nI (by omega), haE]
  have h213 : ¬ smP (bT I) n a → dgP (bT I) n a → ∀ e, tkD (bT I) n a = e → ∀ c k v, k + c = n → runTo (fun k => decide (dgP (bT I) n k)) c k = e → v ≤ 999999 → numV (bT I) (e - k) k v = numV (bT I) (e - a) a 0 → pWn m_Mo_token 1 sh (rV (yTok I, L, P)) 213 [some (.ref 134)] [] (tkQ I (nI k) 3 (nI v) (nI a), L, P) := by
    intro hsa hda e he
    have hele := runTo_le (fun k => decide (dgP (bT I) n k)) (n - a) a
    have hfin : dgP (bT I) n a → yTok I = tkQ I (nI e) 3 (nI (numV (bT I) (e - a) a 0)) (nI a) := fun hd => by
      have hna : ¬ a = n := by have := hd.1; omega
      rw [hY, tkE, tkK, tkH, if_neg hna, if_neg hsa, if_pos hd, if_neg hna, if_neg hsa, if_pos hd, if_neg hna, if_neg hsa, if_pos hd, he]
      rfl
    refine pDown _ ?_
    intro c ih k v hkc hr hv9 hv
    refine pw_aload_n (k4 := 0) rfl (by decide +kernel) ?_
    refine pw_aload_n (k4 := 0) rfl (by decide +kernel) ?_
    refine pq_getI (c := 11) (k := 7) (ks_m hA) (by decide) (by decide) lf_Mo_190 (by decide +kernel) ?_
    refine pn_val (nI (k)) rfl ?_
    refine pq_callV (ν := m_Mo_isDigit) (d' := 0) (av := [_]) (c := 11) (by decide +kernel) lm_Mo_210 ok_Mo_isDigit (show _ = some 1 by decide +kernel) (ks_m hA) rfl (by decide) (by omega) (Nat.le_of_ble_eq_true rfl) (ct_Mo_isDigit hA (by exact htp) (by exact hst) hn7 (by omega)) ?_
    rintro _ _ ⟨rfl, rfl⟩
    refine pn_ifB_eq (off := 60) (tgt := 281) (by decide +kernel) (by decide +kernel) (fun z221 => ?_) (fun z221 => ?_)
    · have hke : k = e := (runTo_n (fun q => z221 (of_decide_eq_true q)) c).symm.trans hr
      rw [hke, Nat.sub_self] at hv
      exact pq_vret rfl (by decide +kernel) ⟨rfl, by rw [hke, show v = numV (bT I) (e - a) a 0 from hv, hfin hda]⟩
    · have z221b : dgP (bT I) n k := z221
      have hk1 := z221b.1
      have hk2 := z221b.2
      have hbk := (tpM_b htp (show k < 700 by omega)).1
      refine pw_aload_n (k4 := 0) rfl (by decide +kernel) ?_
      refine pw_aload_n (k4 := 0) rfl (by decide +kernel) ?_
      refine pq_getI (c := 11) (k := 9) (ks_m hA) (by decide) (by decide) lf_Mo_204 (by decide +kernel) ?_
      refine pn_val (nI (v)) rfl ?_
      refine pw_ldc lc_Mo_213 (by decide +kernel) ?_
      refine pn_val (nI (99999)) rfl ?_
      refine pn_icmp_le (off := 10) (tgt := 241) v 99999 rfl rfl (by omega) (by omega) (by decide +kernel) (by decide +kernel) (fun z231 => ?_) (fun z231 => ?_)
      · refine pw_bipush (n := 10) (v := 10) (by decide) (by decide +kernel) ?_
        refine pw_aload_n (k4 := 0) rfl (by decide +kernel) ?_
        refine pq_getI (c := 11) (k := 9) (ks_m hA) (by decide) (by decide) lf_Mo_204 (by decide +kernel) ?_
        refine pn_val (nI (v)) rfl ?_
        refine pn_imul 10 v rfl rfl (by decide +kernel) ?_
        refine pw_aload_n (k4 := 0) rfl (by decide +kernel) ?_
        refine pq_getP (c := 11) (k := 0) (ks_m hA) (by decide) (by decide) (kp_m_tape hA) lf_Mo_7 (by decide +kernel) ?_
        refine pw_aload_n (k4 := 0) rfl (by decide +kernel) ?_
        refine pq_getI (c := 11) (k := 7) (ks_m hA) (by decide) (by decide) lf_Mo_190 (by decide +kernel) ?_
        refine pn_val (nI (k)) rfl ?_
        refine pq_iald k rfl (by omega) (by decide) (ks_m_tape hA) (by decide +kernel) ?_
        refine pn_val (nI (bT I k)) (by exact (tpM_b htp (by omega)).2) ?_
        refine pn_iadd (10 * v) (bT I k) rfl rfl (by decide +kernel) ?_
        refine pw_bipush (n := 48) (v := 48) (by decide) (by decide +kernel) ?_
        refine pn_isub ((10 * v) + (bT I k)) 48 rfl rfl (by omega) (by decide +kernel) ?_
        refine pq_putI (c := 11) (k := 9) (ks_m hA) (by decide) (by decide) lf_Mo_204 (Or.inl rfl) (by decide +kernel) ?_
        rw [tkQ_9]
        refine pw_aload_n (k4 := 0) rfl (by decide +kernel) ?_
        refine pw_dup rfl (by decide +kernel) ?_
        refine pq_getI (c := 11) (k := 7) (ks_m hA) (by decide) (by decide) lf_Mo_190 (by decide +kernel) ?_
        refine pn_val (nI (k)) rfl ?_
        refine pw_iconst (n := 1) (v := 1) (by decide) (by decide +kernel) ?_
        refine pn_iadd k 1 rfl rfl (by decide +kernel) ?_
        refine pq_putI (c := 11) (k := 7) (ks_m hA) (by decide) (by decide) lf_Mo_190 (Or.inl rfl) (by decide +kernel) ?_
        rw [tkQ_7]
        refine pw_goto (off := -61) (tgt := 213) (by decide +kernel) (by decide +kernel) ?_
        obtain ⟨c, rfl⟩ : ∃ j, c = j + 1 := ⟨c - 1, by omega⟩
        have hr2 : runTo (fun k => decide (dgP (bT I) n k)) c (k + 1) = e := (if_pos (decide_eq_true z221b)).symm.trans hr
        have hle := runTo_le (fun k => decide (dgP (bT I) n k)) c (k + 1)
        refine ih c rfl (k + 1) _ (by omega) hr2 (by omega) ?_
        rw [← hv, show e - k = e - (k + 1) + 1 by omega, numV_s, if_neg (by omega)]
      · refine pw_aload_n (k4 := 0) rfl (by decide +kernel) ?_
        refine pq_getI (c := 11) (k := 9) (ks_m hA) (by decide) (by decide) lf_Mo_204 (by decide +kernel) ?_
        refine pn_val (nI (v)) rfl ?_
        refine pw_goto (off := 23) (tgt := 261) (by decide +kernel) (by decide +kernel) ?_
        refine pq_putI (c := 11) (k := 9) (ks_m hA) (by decide) (by decide) lf_Mo_204 (Or.inl rfl) (by decide +kernel) ?_
        rw [tkQ_9]
        refine pw_aload_n (k4 := 0) rfl (by decide +kernel) ?_
        refine pw_dup rfl (by decide +kernel) ?_
        refine pq_getI (c := 11) (k := 7) (ks_m hA) (by decide) (by decide) lf_Mo_190 (by decide +kernel) ?_
        refine pn_val (nI (k)) rfl ?_
        refine pw_iconst (n := 1) (v := 1) (by decide) (by decide +kernel) ?_
        refine pn_iadd k 1 rfl rfl (by decide +kernel) ?_
        refine pq_putI (c := 11) (k := 7) (ks_m hA) (by decide) (by decide) lf_Mo_190 (Or.inl rfl) (by decide +kernel) ?_
        rw [tkQ_7]
        refine pw_goto (off := -61) (tgt := 213) (by decide +kernel) (by decide +kernel) ?_
        obtain ⟨c, rfl⟩ : ∃ j, c = j + 1 := ⟨c - 1, by omega⟩
        have hr2 : runTo (fun k => decide (dgP (bT I) n k)) c (k + 1) = e := (if_pos (decide_eq_true z221b)).symm.trans hr
        have hle := runTo_le (fun k => decide (dgP (bT I) n k)) c (k + 1)
        refine ih c rfl (k + 1) _ (by omega) hr2 (by omega) ?_
        rw [← hv, show e - k = e - (k + 1) + 1 by omega, numV_s, if_pos (by omega)]
  have h90 : smP (bT I) n a → ∀ e, tkW (bT I) n a = e → ∀ c k, k + c = n → runTo (fun k => decide (smP (bT I) n k)) c k = e → pWn m_Mo_token 1 sh (rV (yTok I, L, P)) 90 [some (.ref 134)] [] (tkQ I (nI k) (I 134 8) (I 134 9) (nI a), L, P) := by
    intro hsa e he
    have hele := runTo_le (fun k => decide (smP (bT I) n k)) (n - a) a
    have he1 : a ≤ e ∧ e ≤ n := by rw [← he]; exact ⟨hele.1, by show runTo _ _ _ ≤ n; omega⟩
    have hlet : ∀ i, a ≤ i → i < e → 97 ≤ bT I i ∧ bT I i ≤ 122 := fun i h1 h2 => (of_decide_eq_true (runTo_in (fun k => decide (smP (bT I) n k)) (n - a) a i h1 (by rw [← he] at h2; exact h2))).2
    have hfin : smP (bT I) n a → ∀ (kk : Nat) (hh : Int32), (if wRes (bT I) a e < 0 then (if e - a ≤ 6 then 2 else 6) else 1) = kk → (if wRes (bT I) a e < 0 ∧ e - a ≤ 6 then nI (pkF (bT I) a e) else wRes (bT I) a e) = hh → yTok I = tkQ I (nI e) (nI kk) hh (nI a) := fun hd kk hh q1 q2 => by
      have hna : ¬ a = n := by have := hd.1; omega
      rw [hY, tkE, tkK, tkH, if_neg hna, if_pos hd, if_neg hna, if_pos hd, if_neg hna, if_pos hd, he, q1, q2]
    refine pDown _ ?_
    intro c ih k hkc hr
    refine pw_aload_n (k4 := 0) rfl (by decide +kernel) ?_
    refine pw_aload_n (k4 := 0) rfl (by decide +kernel) ?_
    refine pq_getI (c := 11) (k := 7) (ks_m hA) (by decide) (by decide) lf_Mo_190 (by decide +kernel) ?_
    refine pn_val (nI (k)) rfl ?_
    refine pq_callV (ν := m_Mo_isSmall) (d' := 0) (av := [_]) (c := 11) (by decide +kernel) lm_Mo_196 ok_Mo_isSmall (show _ = some 1 by decide +kernel) (ks_m hA) rfl (by decide) (by omega) (Nat.le_of_ble_eq_true rfl) (ct_Mo_isSmall hA (by exact htp) (by exact hst) hn7 (by omega)) ?_
    rintro _ _ ⟨rfl, rfl⟩
    refine pn_ifB_eq (off := 16) (tgt := 114) (by decide +kernel) (by decide +kernel) (fun z98 => ?_) (fun z98 => ?_)
    · have hke : k = e := (runTo_n (fun q => z98 (of_decide_eq_true q)) c).symm.trans hr
      rw [hke]
      refine pw_aload_n (k4 := 0) rfl (by decide +kernel) ?_
      refine pw_aload_n (k4 := 0) rfl (by decide +kernel) ?_
      refine pw_aload_n (k4 := 0) rfl (by decide +kernel) ?_
      refine pq_getI (c := 11) (k := 10) (ks_m hA) (by decide) (by decide) lf_Mo_184 (by decide +kernel) ?_
      refine pn_val (nI (a)) rfl ?_
      refine pw_aload_n (k4 := 0) rfl (by decide +kernel) ?_
      refine pq_getI (c := 11) (k := 7) (ks_m hA) (by decide) (by decide) lf_Mo_190 (by decide +kernel) ?_
      refine pn_val (nI (e)) rfl ?_
      refine pq_callV (ν := m_Mo_wordAt) (d' := 0) (av := [_, _]) (c := 11) (by decide +kernel) lm_Mo_200 ok_Mo_wordAt (show _ = some 2 by decide +kernel) (ks_m hA) rfl (by decide) (by omega) (Nat.le_of_ble_eq_true rfl) (ct_Mo_wordAt hA (by exact htp) (by exact hwd) (by omega) (by omega) (by exact hlet)) ?_
      rintro _ _ ⟨rfl, rfl⟩
      refine pq_putI (c := 11) (k := 9) (ks_m hA) (by decide) (by decide) lf_Mo_204 (Or.inl rfl) (by decide +kernel) ?_
      rw [tkQ_9]
      refine pw_aload_n (k4 := 0) rfl (by decide +kernel) ?_
      refine pw_aload_n (k4 := 0) rfl (by decide +kernel) ?_
      refine pq_getI (c := 11) (k := 9) (ks_m hA) (by decide) (by decide) lf_Mo_204 (by decide +kernel) ?_
      refine pw_if_lt (off := 7) (tgt := 142) (by decide +kernel) (by decide +kernel) (fun z135 => ?_) (fun z135 => ?_)
      · have z135b : wRes (bT I) a e < 0 := z135
        refine pw_aload_n (k4 := 0) rfl (by decide +kernel) ?_
        refine pq_getI (c := 11) (k := 7) (ks_m hA) (by decide) (by decide) lf_Mo_190 (by decide +kernel) ?_
        refine pn_val (nI (e)) rfl ?_
        refine pw_aload_n (k4 := 0) rfl (by decide +kernel) ?_
        refine pq_getI (c := 11) (k := 10) (ks_m hA) (by decide) (by decide) lf_Mo_184 (by decide +kernel) ?_
        refine pn_val (nI (a)) rfl ?_
        refine pn_isub e a rfl rfl (by omega) (by decide +kernel) ?_
        refine pw_bipush (n := 6) (v := 6) (by decide) (by decide +kernel) ?_
        refine pn_icmp_le (off := 8) (tgt := 161) (e - a) 6 rfl rfl (by omega) (by omega) (by decide +kernel) (by decide +kernel) (fun z153 => ?_) (fun z153 => ?_)
        · refine pw_iconst (n := 2) (v := 2) (by decide) (by decide +kernel) ?_
          refine pq_putI (c := 11) (k := 8) (ks_m hA) (by decide) (by decide) lf_Mo_193 (Or.inl rfl) (by decide +kernel) ?_
          rw [tkQ_8]
          refine pw_aload_n (k4 := 0) rfl (by decide +kernel) ?_
          refine pq_getI (c := 11) (k := 8) (ks_m hA) (by decide) (by decide) lf_Mo_193 (by decide +kernel) ?_
          refine pn_val (nI (2)) rfl ?_
          refine pw_iconst (n := 2) (v := 2) (by decide) (by decide +kernel) ?_
          refine pn_icmp_ne (off := 111) (tgt := 281) 2 2 rfl rfl (by omega) (by omega) (by decide +kernel) (by decide +kernel) (fun z170 => ?_) (fun z170 => ?_)
          · exact absurd z170 (by decide)
          · refine pw_aload_n (k4 := 0) rfl (by decide +kernel) ?_
            refine pw_aload_n (k4 := 0) rfl (by decide +kernel) ?_
            refine pw_aload_n (k4 := 0) rfl (by decide +kernel) ?_
            refine pq_getI (c := 11) (k := 10) (ks_m hA) (by decide) (by decide) lf_Mo_184 (by decide +kernel) ?_
            refine pn_val (nI (a)) rfl ?_
            refine pw_aload_n (k4 := 0) rfl (by decide +kernel) ?_
            refine pq_getI (c := 11) (k := 7) (ks_m hA) (by decide) (by decide) lf_Mo_190 (by decide +kernel) ?_
            refine pn_val (nI (e)) rfl ?_
            refine pq_callV (ν := m_Mo_packed) (d' := 0) (av := [_, _]) (c := 11) (by decide +kernel) lm_Mo_207 ok_Mo_packed (show _ = some 2 by decide +kernel) (ks_m hA) rfl (by decide) (by omega) (Nat.le_of_ble_eq_true rfl) (ct_Mo_packed hA (by exact htp) (by omega) (by omega) (by exact hlet)) ?_
            rintro _ _ ⟨rfl, rfl⟩
            refine pq_putI (c := 11) (k := 9) (ks_m hA) (by decide) (by decide) lf_Mo_204 (Or.inl rfl) (by decide +kernel) ?_
            rw [tkQ_9]
            refine pw_goto (off := 92) (tgt := 281) (by decide +kernel) (by decide +kernel) ?_
            exact pq_vret rfl (by decide +kernel) ⟨rfl, by rw [hfin hsa 2 _ (by rw [if_pos z135b, if_pos z153]) (by rw [if_pos ⟨z135b, z153⟩])]; rfl⟩
        · refine pw_bipush (n := 6) (v := 6) (by decide) (by decide +kernel) ?_
          refine pw_goto (off := 4) (tgt := 162) (by decide +kernel) (by decide +kernel) ?_
          refine pq_putI (c := 11) (k := 8) (ks_m hA) (by decide) (by decide) lf_Mo_193 (Or.inl rfl) (by decide +kernel) ?_
          rw [tkQ_8]
          refine pw_aload_n (k4 := 0) rfl (by decide +kernel) ?_
          refine pq_getI (c := 11) (k := 8) (ks_m hA) (by decide) (by decide) lf_Mo_193 (by decide +kernel) ?_
          refine pn_val (nI (6)) rfl ?_
          refine pw_iconst (n := 2) (v := 2) (by decide) (by decide +kernel) ?_
          refine pn_icmp_ne (off := 111) (tgt := 281) 6 2 rfl rfl (by omega) (by omega) (by decide +kernel) (by decide +kernel) (fun z170 => ?_) (fun z170 => ?_)
          · exact pq_vret rfl (by decide +kernel) ⟨rfl, by rw [hfin hsa 6 _ (by rw [if_pos z135b, if_neg z153]) (by rw [if_neg (fun q => z153 q.2)])]; rfl⟩
          · exact absurd (by decide) z170
      · have z135b : ¬ wRes (bT I) a e < 0 := z135
        refine pw_iconst (n := 1) (v := 1) (by decide) (by decide +kernel) ?_
        refine pw_goto (off := 23) (tgt := 162) (by decide +kernel) (by decide +kernel) ?_
        refine pq_putI (c := 11) (k := 8) (ks_m hA) (by decide) (by decide) lf_Mo_193 (Or.inl rfl) (by decide +kernel) ?_
        rw [tkQ_8]
        refine pw_aload_n (k4 := 0) rfl (by decide +kernel) ?_
        refine pq_getI (c := 11) (k := 8) (ks_m hA) (by decide) (by decide) lf_Mo_193 (by decide +kernel) ?_
        refine pn_val (nI (1)) rfl ?_
        refine pw_iconst (n := 2) (v := 2) (by decide) (by decide +kernel) ?_
        refine pn_icmp_ne (off := 111) (tgt := 281) 1 2 rfl rfl (by omega) (by omega) (by decide +kernel) (by decide +kernel) (fun z170 => ?_) (fun z170 => ?_)
        · exact pq_vret rfl (by decide +kernel) ⟨rfl, by rw [hfin hsa 1 _ (by rw [if_neg z135b]) (by rw [if_neg (fun q => z135b q.1)])]; rfl⟩
        · exact absurd (by decide) z170
    · have z98b : smP (bT I) n k := z98
      have hk1 := z98b.1
      refine pw_aload_n (k4 := 0) rfl (by decide +kernel) ?_
      refine pw_dup rfl (by decide +kernel) ?_
      refine pq_getI (c := 11) (k := 7) (ks_m hA) (by decide) (by decide) lf_Mo_190 (by decide +kernel) ?_
      refine pn_val (nI (k)) rfl ?_
      refine pw_iconst (n := 1) (v := 1) (by decide) (by decide +kernel) ?_
      refine pn_iadd k 1 rfl rfl (by decide +kernel) ?_
      refine pq_putI (c := 11) (k := 7) (ks_m hA) (by decide) (by decide) lf_Mo_190 (Or.inl rfl) (by decide +kernel) ?_
      rw [tkQ_7]
      refine pw_goto (off := -21) (tgt := 90) (by decide +kernel) (by decide +kernel) ?_
      obtain ⟨c, rfl⟩ : ∃ j, c = j + 1 := ⟨c - 1, by omega⟩
      exact ih c rfl (k + 1) (by omega) ((if_pos (decide_eq_true z98b)).symm.trans hr)
  have h52 : pWn m_Mo_token 1 sh (rV (yTok I, L, P)) 52 [some (.ref 134)] [] (tkQ I (nI a) (I 134 8) (I 134 9) (I 134 10), L, P) := by
    refine pw_aload_n (k4 := 0) rfl (by decide +kernel) ?_
    refine pw_aload_n (k4 := 0) rfl (by decide +kernel) ?_
    refine pq_getI (c := 11) (k := 7) (ks_m hA) (by decide) (by decide) lf_Mo_190 (by decide +kernel) ?_
    refine pn_val (nI (a)) rfl ?_
    refine pq_putI (c := 11) (k := 10) (ks_m hA) (by decide) (by decide) lf_Mo_184 (Or.inl rfl) (by decide +kernel) ?_
    rw [tkQ_10]
    refine pw_aload_n (k4 := 0) rfl (by decide +kernel) ?_
    refine pq_getI (c := 11) (k := 7) (ks_m hA) (by decide) (by decide) lf_Mo_190 (by decide +kernel) ?_
    refine pn_val (nI (a)) rfl ?_
    refine pw_aload_n (k4 := 0) rfl (by decide +kernel) ?_
    refine pq_getI (c := 11) (k := 6) (ks_m hA) (by decide) (by decide) lf_Mo_187 (by decide +kernel) ?_
    refine pn_val (nI (n)) (by exact hst) ?_
    refine pn_icmp_ne (off := 11) (tgt := 79) a n rfl rfl (by omega) (by omega) (by decide +kernel) (by decide +kernel) (fun z68 => ?_) (fun z68 => ?_)
    · refine pw_aload_n (k4 := 0) rfl (by decide +kernel) ?_
      refine pw_aload_n (k4 := 0) rfl (by decide +kernel) ?_
      refine pq_getI (c := 11) (k := 7) (ks_m hA) (by decide) (by decide) lf_Mo_190 (by decide +kernel) ?_
      refine pn_val (nI (a)) rfl ?_
      refine pq_callV (ν := m_Mo_isSmall) (d' := 0) (av := [_]) (c := 11) (by decide +kernel) lm_Mo_196 ok_Mo_isSmall (show _ = some 1 by decide +kernel) (ks_m hA) rfl (by decide) (by omega) (Nat.le_of_ble_eq_true rfl) (ct_Mo_isSmall hA (by exact htp) (by exact hst) hn7 (by omega)) ?_
      rintro _ _ ⟨rfl, rfl⟩
      refine pn_ifB_eq (off := 105) (tgt := 192) (by decide +kernel) (by decide +kernel) (fun z87 => ?_) (fun z87 => ?_)
      · refine pw_aload_n (k4 := 0) rfl (by decide +kernel) ?_
        refine pw_aload_n (k4 := 0) rfl (by decide +kernel) ?_
        refine pq_getI (c := 11) (k := 7) (ks_m hA) (by decide) (by decide) lf_Mo_190 (by decide +kernel) ?_
        refine pn_val (nI (a)) rfl ?_
        refine pq_callV (ν := m_Mo_isDigit) (d' := 0) (av := [_]) (c := 11) (by decide +kernel) lm_Mo_210 ok_Mo_isDigit (show _ = some 1 by decide +kernel) (ks_m hA) rfl (by decide) (by omega) (Nat.le_of_ble_eq_true rfl) (ct_Mo_isDigit hA (by exact htp) (by exact hst) hn7 (by omega)) ?_
        rintro _ _ ⟨rfl, rfl⟩
        refine pn_ifB_eq (off := 77) (tgt := 277) (by decide +kernel) (by decide +kernel) (fun z200 => ?_) (fun z200 => ?_)
        · refine pw_aload_n (k4 := 0) rfl (by decide +kernel) ?_
          refine pq_callV (ν := m_Mo_signToken) (d' := 0) (av := []) (c := 11) (by decide +kernel) lm_Mo_214 ok_Mo_signToken (show _ = some 0 by decide +kernel) (ks_m hA) rfl (by decide) (by omega) (Nat.le_of_ble_eq_true rfl) (ct_Mo_signToken hA (by exact htp) (by exact hst) hn7 (by omega) _ _) ?_
          rintro _ _ ⟨rfl, rfl⟩
          exact pq_vret rfl (by decide +kernel) ⟨rfl, by rw [hY, tkE, tkK, tkH, if_neg z68, if_neg (show ¬ smP (bT I) n a from z87), if_neg (show ¬ dgP (bT I) n a from z200), if_neg z68, if_neg (show ¬ smP (bT I) n a from z87), if_neg (show ¬ dgP (bT I) n a from z200), if_neg z68, if_neg (show ¬ smP (bT I) n a from z87), if_neg (show ¬ dgP (bT I) n a from z200)]⟩
        · refine pw_aload_n (k4 := 0) rfl (by decide +kernel) ?_
          refine pw_iconst (n := 3) (v := 3) (by decide) (by decide +kernel) ?_
          refine pq_putI (c := 11) (k := 8) (ks_m hA) (by decide) (by decide) lf_Mo_193 (Or.inl rfl) (by decide +kernel) ?_
          rw [tkQ_8]
          refine pw_aload_n (k4 := 0) rfl (by decide +kernel) ?_
          refine pw_iconst (n := 0) (v := 0) (by decide) (by decide +kernel) ?_
          refine pq_putI (c := 11) (k := 9) (ks_m hA) (by decide) (by decide) lf_Mo_204 (Or.inl rfl) (by decide +kernel) ?_
          rw [tkQ_9]
          exact h213 z87 z200 (tkD (bT I) n a) rfl (n - a) a 0 (by omega) rfl (by omega) rfl
      · exact h90 z87 (tkW (bT I) n a) rfl (n - a) a (by omega) rfl
    · have z68n : a = n := Decidable.not_not.mp z68
      refine pw_aload_n (k4 := 0) rfl (by decide +kernel) ?_
      refine pw_iconst (n := 0) (v := 0) (by decide) (by decide +kernel) ?_
      refine pq_putI (c := 11) (k := 8) (ks_m hA) (by decide) (by decide) lf_Mo_193 (Or.inl rfl) (by decide +kernel) ?_
      rw [tkQ_8]
      refine pw_goto (off := 205) (tgt := 281) (by decide +kernel) (by decide +kernel) ?_
      exact pq_vret rfl (by decide +kernel) ⟨rfl, by rw [hY, tkE, tkK, tkH, if_pos z68n, if_pos z68n, if_pos z68n]; rfl⟩
  have hL := pDown (fun c => ∀ k, k + c = n → runTo (fun k => decide (blP (bT I) n k)) c k = a → pWn m_Mo_token 1 sh (rV (yTok I, L, P)) 0 [some (.ref 134)] [] (tkQ I (nI k) (I 134 8) (I 134 9) (I 134 10), L, P)) (by
    intro c ih k hkc hr
    refine pw_aload_n (k4 := 0) rfl (by decide +kernel) ?_
    refine pq_getI (c := 11) (k := 7) (ks_m hA) (by decide) (by decide) lf_Mo_190 (by decide +kernel) ?_
    refine pn_val (nI (k)) rfl ?_
    refine pw_aload_n (k4 := 0) rfl (by decide +kernel) ?_
    refine pq_getI (c := 11) (k := 6) (ks_m hA) (by decide) (by decide) lf_Mo_187 (by decide +kernel) ?_
    refine pn_val (nI (n)) (by exact hst) ?_
    refine pn_icmp_ge (off := 44) (tgt := 52) k n rfl rfl (by omega) (by omega) (by decide +kernel) (by decide +kernel) (fun z8 => ?_) (fun z8 => ?_)
    · have hke : k = a := (runTo_n (fun q => absurd (of_decide_eq_true q).1 (by omega)) c).symm.trans hr
      rw [hke]
      exact h52
    · have hbk := (tpM_b htp (show k < 700 by omega)).1
      refine pw_aload_n (k4 := 0) rfl (by decide +kernel) ?_
      refine pq_getP (c := 11) (k := 0) (ks_m hA) (by decide) (by decide) (kp_m_tape hA) lf_Mo_7 (by decide +kernel) ?_
      refine pw_aload_n (k4 := 0) rfl (by decide +kernel) ?_
      refine pq_getI (c := 11) (k := 7) (ks_m hA) (by decide) (by decide) lf_Mo_190 (by decide +kernel) ?_
      refine pn_val (nI (k)) rfl ?_
      refine pq_iald k rfl (by omega) (by decide) (ks_m_tape hA) (by decide +kernel) ?_
      refine pn_val (nI (bT I k)) (by exact (tpM_b htp (by omega)).2) ?_
      refine pw_bipush (n := 10) (v := 10) (by decide) (by decide +kernel) ?_
      refine pn_icmp_eq (off := 17) (tgt := 39) (bT I k) 10 rfl rfl (by omega) (by omega) (by decide +kernel) (by decide +kernel) (fun z22 => ?_) (fun z22 => ?_)
      · refine pw_aload_n (k4 := 0) rfl (by decide +kernel) ?_
        refine pw_dup rfl (by decide +kernel) ?_
        refine pq_getI (c := 11) (k := 7) (ks_m hA) (by decide) (by decide) lf_Mo_190 (by decide +kernel) ?_
        refine pn_val (nI (k)) rfl ?_
        refine pw_iconst (n := 1) (v := 1) (by decide) (by decide +kernel) ?_
        refine pn_iadd k 1 rfl rfl (by decide +kernel) ?_
        refine pq_putI (c := 11) (k := 7) (ks_m hA) (by decide) (by decide) lf_Mo_190 (Or.inl rfl) (by decide +kernel) ?_
        rw [tkQ_7]
        refine pw_goto (off := -49) (tgt := 0) (by decide +kernel) (by decide +kernel) ?_
        obtain ⟨c, rfl⟩ : ∃ j, c = j + 1 := ⟨c - 1, by omega⟩
        exact ih c rfl (k + 1) (by omega) ((if_pos (decide_eq_true ⟨by omega, Or.inl z22⟩)).symm.trans hr)
      · refine pw_aload_n (k4 := 0) rfl (by decide +kernel) ?_
        refine pq_getP (c := 11) (k := 0) (ks_m hA) (by decide) (by decide) (kp_m_tape hA) lf_Mo_7 (by decide +kernel) ?_
        refine pw_aload_n (k4 := 0) rfl (by decide +kernel) ?_
        refine pq_getI (c := 11) (k := 7) (ks_m hA) (by decide) (by decide) lf_Mo_190 (by decide +kernel) ?_
        refine pn_val (nI (k)) rfl ?_
        refine pq_iald k rfl (by omega) (by decide) (ks_m_tape hA) (by decide +kernel) ?_
        refine pn_val (nI (bT I k)) (by exact (tpM_b htp (by omega)).2) ?_
        refine pw_bipush (n := 32) (v := 32) (by decide) (by decide +kernel) ?_
        refine pn_icmp_ne (off := 16) (tgt := 52) (bT I k) 32 rfl rfl (by omega) (by omega) (by decide +kernel) (by decide +kernel) (fun z36 => ?_) (fun z36 => ?_)
        · have hke : k = a := (runTo_n (fun q => (of_decide_eq_true q).2.elim z22 z36) c).symm.trans hr
          rw [hke]
          exact h52
        · refine pw_aload_n (k4 := 0) rfl (by decide +kernel) ?_
          refine pw_dup rfl (by decide +kernel) ?_
          refine pq_getI (c := 11) (k := 7) (ks_m hA) (by decide) (by decide) lf_Mo_190 (by decide +kernel) ?_
          refine pn_val (nI (k)) rfl ?_
          refine pw_iconst (n := 1) (v := 1) (by decide) (by decide +kernel) ?_
          refine pn_iadd k 1 rfl rfl (by decide +kernel) ?_
          refine pq_putI (c := 11) (k := 7) (ks_m hA) (by decide) (by decide) lf_Mo_190 (Or.inl rfl) (by decide +kernel) ?_
          rw [tkQ_7]
          refine pw_goto (off := -49) (tgt := 0) (by decide +kernel) (by decide +kernel) ?_
          obtain ⟨c, rfl⟩ : ∃ j, c = j + 1 := ⟨c - 1, by omega⟩
          exact ih c rfl (k + 1) (by omega) ((if_pos (decide_eq_true ⟨by omega, Or.inr (Decidable.not_not.mp z36)⟩)).symm.trans hr)
)
  have w := hL (n - p) p (by omega) haE
  rw [← hnx, tkQ_s] at w
  exact w
