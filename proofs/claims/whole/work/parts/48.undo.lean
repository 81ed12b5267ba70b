/-! ===== the reference: what is undone, images, giving, putting on and off ===== -/
def yPut (f wh lf rt : Nat → Int32) (i n1 n2 : Nat) : Nat → Int32 := fun x => if i ≤ x ∧ x < i + n1 then wh (x - i) else if i + 16 ≤ x ∧ x < i + 16 + n2 then lf (x - (i + 16)) else if i + 21 ≤ x ∧ x < i + 21 + n2 then rt (x - (i + 21)) else f x
theorem yPut_0 (f wh lf rt : Nat → Int32) (i : Nat) : yPut f wh lf rt i 0 0 = f := by
  funext x
  unfold yPut
  rw [if_neg (by omega), if_neg (by omega), if_neg (by omega)]
theorem yPut_1 (f wh lf rt : Nat → Int32) (i k : Nat) (hk : k < 16) : upd (yPut f wh lf rt i k 0) (i + k) (wh k) = yPut f wh lf rt i (k + 1) 0 := by
  funext x
  unfold upd yPut
  by_cases h : x = i + k
  · rw [if_pos h, if_pos (by omega), show x - i = k by omega]
  · rw [if_neg h]
    by_cases h1 : i ≤ x ∧ x < i + k
    · rw [if_pos h1, if_pos (by omega)]
    · rw [if_neg h1, if_neg (show ¬ (i ≤ x ∧ x < i + (k + 1)) by omega)]
theorem yPut_2 (f wh lf rt : Nat → Int32) (i k : Nat) (hk : k < 5) : upd (upd (yPut f wh lf rt i 16 k) (i + 16 + k) (lf k)) (i + 21 + k) (rt k) = yPut f wh lf rt i 16 (k + 1) := by
  funext x
  unfold upd yPut
  by_cases h : x = i + 21 + k
  · rw [if_pos h, if_neg (by omega), if_neg (by omega), if_pos (by omega), show x - (i + 21) = k by omega]
  · rw [if_neg h]
    by_cases h2 : x = i + 16 + k
    · rw [if_pos h2, if_neg (by omega), if_pos (by omega), show x - (i + 16) = k by omega]
    · rw [if_neg h2]
      by_cases h1 : i ≤ x ∧ x < i + 16
      · rw [if_pos h1, if_pos h1]
      · rw [if_neg h1, if_neg h1]
        by_cases h3 : i + 16 ≤ x ∧ x < i + 16 + k
        · rw [if_pos h3, if_pos (by omega)]
        · rw [if_neg h3, if_neg (show ¬ (i + 16 ≤ x ∧ x < i + 16 + (k + 1)) by omega)]
          by_cases h4 : i + 21 ≤ x ∧ x < i + 21 + k
          · rw [if_pos h4, if_pos (by omega)]
          · rw [if_neg h4, if_neg (show ¬ (i + 21 ≤ x ∧ x < i + 21 + (k + 1)) by omega)]
def yTk (I : Nat → Nat → Int32) (a i : Nat) : Nat → Nat → Int32 := aU (aU (aU I 163 (fil (fun s => I a (i + s)) (I 163) 16)) 164 (fil (fun p => I a (i + 16 + p)) (I 164) 5)) 165 (fil (fun p => I a (i + 21 + p)) (I 165) 5)
theorem aU_sI_c (I : Nat → Nat → Int32) {a b : Nat} (h : a ≠ b) (k : Nat) (x : Int32) (f : Nat → Int32) : aU (sI I b k x) a f = sI (aU I a f) b k x := by
  rw [sI_aU, sI_aU, aU_ne (Ne.symm h), aU_cm _ (Ne.symm h)]

theorem ct_Mo_put181 {sh : List pSh} {I : Nat → Nat → Int32} {L : Nat → Nat → Int64} {P : Nat → Nat → Option Nat} (hA : kA sh P) {i : Nat} (hi : i + 26 ≤ 520) : pCn m_Mo_put 0 [.ref 134, .ref 181, .int (nI i)] sh (I, L, P) (rV (aU I 181 (yPut (I 181) (I 163) (I 164) (I 165) i 16 5), L, P)) := by
  refine pCn_of (by decide +kernel) (Nat.le_of_ble_eq_true rfl) ?_
  have h2 := pUpTo 5 (fun k => pWn m_Mo_put 0 sh (rV (aU I 181 (yPut (I 181) (I 163) (I 164) (I 165) i 16 5), L, P)) 27 [some (.ref 134), some (.ref 181), some (.int (nI i)), some (.int (nI k))] [] (aU I 181 (yPut (I 181) (I 163) (I 164) (I 165) i 16 k), L, P)) (by
    intro k hk ih
    refine pw_iload_n (k4 := 3) rfl (by decide +kernel) ?_
    refine pw_iconst (n := 5) (v := 5) (by decide) (by decide +kernel) ?_
    refine pn_icmp_ge (off := 37) (tgt := 66) k 5 rfl rfl (by omega) (by omega) (by decide +kernel) (by decide +kernel) (fun z29 => ?_) (fun z29 => ?_)
    · obtain rfl : k = 5 := by omega
      exact pq_vret rfl (by decide +kernel) ⟨rfl, rfl⟩
    · refine pw_aload_n (k4 := 1) rfl (by decide +kernel) ?_
      refine pw_iload_n (k4 := 2) rfl (by decide +kernel) ?_
      refine pw_bipush (n := 16) (v := 16) (by decide) (by decide +kernel) ?_
      refine pn_iadd i 16 rfl rfl (by decide +kernel) ?_
      refine pw_iload_n (k4 := 3) rfl (by decide +kernel) ?_
      refine pn_iadd (i + 16) k rfl rfl (by decide +kernel) ?_
      refine pw_aload_n (k4 := 0) rfl (by decide +kernel) ?_
      refine pq_getP (c := 11) (k := 57) (ks_m hA) (by decide) (by decide) (kp_m_leftOn hA) lf_Mo_103 (by decide +kernel) ?_
      refine pw_iload_n (k4 := 3) rfl (by decide +kernel) ?_
      refine pq_iald k rfl (by omega) (by decide) (ks_m_leftOn hA) (by decide +kernel) ?_
      refine pq_iast ((i + 16) + k) rfl (by omega) (by decide) (ks_m_undo hA) (by decide +kernel) ?_
      refine pw_aload_n (k4 := 1) rfl (by decide +kernel) ?_
      refine pw_iload_n (k4 := 2) rfl (by decide +kernel) ?_
      refine pw_bipush (n := 21) (v := 21) (by decide) (by decide +kernel) ?_
      refine pn_iadd i 21 rfl rfl (by decide +kernel) ?_
      refine pw_iload_n (k4 := 3) rfl (by decide +kernel) ?_
      refine pn_iadd (i + 21) k rfl rfl (by decide +kernel) ?_
      refine pw_aload_n (k4 := 0) rfl (by decide +kernel) ?_
      refine pq_getP (c := 11) (k := 58) (ks_m hA) (by decide) (by decide) (kp_m_rightOn hA) lf_Mo_106 (by decide +kernel) ?_
      refine pw_iload_n (k4 := 3) rfl (by decide +kernel) ?_
      refine pq_iald k rfl (by omega) (by decide) (ks_m_rightOn hA) (by decide +kernel) ?_
      refine pq_iast ((i + 21) + k) rfl (by omega) (by decide) (ks_m_undo hA) (by decide +kernel) ?_
      refine pn_iinc (i := 3) (n := 1) 1 k rfl rfl (by decide) rfl (by decide +kernel) ?_
      refine pw_goto (off := -36) (tgt := 27) (by decide +kernel) (by decide +kernel) ?_
      have w := ih (by omega)
      rw [← yPut_2 _ _ _ _ _ k (by omega)] at w
      rw [sI_aU2, sI_aU2, aU_ne (show 164 ≠ 181 by decide), aU_ne (show 165 ≠ 181 by decide)]
      exact w
)
  have h1 := pUpTo 16 (fun k => pWn m_Mo_put 0 sh (rV (aU I 181 (yPut (I 181) (I 163) (I 164) (I 165) i 16 5), L, P)) 2 [some (.ref 134), some (.ref 181), some (.int (nI i)), some (.int (nI k))] [] (aU I 181 (yPut (I 181) (I 163) (I 164) (I 165) i k 0), L, P)) (by
    intro k hk ih
    refine pw_iload_n (k4 := 3) rfl (by decide +kernel) ?_
    refine pw_bipush (n := 16) (v := 16) (by decide) (by decide +kernel) ?_
    refine pn_icmp_ge (off := 20) (tgt := 25) k 16 rfl rfl (by omega) (by omega) (by decide +kernel) (by decide +kernel) (fun z5 => ?_) (fun z5 => ?_)
    · obtain rfl : k = 16 := by omega
      refine pw_iconst (n := 0) (v := 0) (by decide) (by decide +kernel) ?_
      refine pq_istore_n (k4 := 3) (Nat.le_of_ble_eq_true rfl) rfl (by decide +kernel) ?_
      exact h2 0 (Nat.zero_le _)
    · refine pw_aload_n (k4 := 1) rfl (by decide +kernel) ?_
      refine pw_iload_n (k4 := 2) rfl (by decide +kernel) ?_
      refine pw_iload_n (k4 := 3) rfl (by decide +kernel) ?_
      refine pn_iadd i k rfl rfl (by decide +kernel) ?_
      refine pw_aload_n (k4 := 0) rfl (by decide +kernel) ?_
      refine pq_getP (c := 11) (k := 56) (ks_m hA) (by decide) (by decide) (kp_m_whose hA) lf_Mo_100 (by decide +kernel) ?_
      refine pw_iload_n (k4 := 3) rfl (by decide +kernel) ?_
      refine pq_iald k rfl (by omega) (by decide) (ks_m_whose hA) (by decide +kernel) ?_
      refine pq_iast (i + k) rfl (by omega) (by decide) (ks_m_undo hA) (by decide +kernel) ?_
      refine pn_iinc (i := 3) (n := 1) 1 k rfl rfl (by decide) rfl (by decide +kernel) ?_
      refine pw_goto (off := -20) (tgt := 2) (by decide +kernel) (by decide +kernel) ?_
      have w := ih (by omega)
      rw [← yPut_1 _ _ _ _ _ k (by omega)] at w
      rw [sI_aU2, aU_ne (by decide)]
      exact w
)
  refine pw_iconst (n := 0) (v := 0) (by decide) (by decide +kernel) ?_
  refine pq_istore_n (k4 := 3) (Nat.le_of_ble_eq_true rfl) rfl (by decide +kernel) ?_
  have w := h1 0 (Nat.zero_le _)
  rw [yPut_0, aU_self] at w
  exact w

theorem ct_Mo_take181 {sh : List pSh} {I : Nat → Nat → Int32} {L : Nat → Nat → Int64} {P : Nat → Nat → Option Nat} (hA : kA sh P) {i : Nat} (hi : i + 26 ≤ 520) : pCn m_Mo_take 0 [.ref 134, .ref 181, .int (nI i)] sh (I, L, P) (rV (yTk I 181 i, L, P)) := by
  refine pCn_of (by decide +kernel) (Nat.le_of_ble_eq_true rfl) ?_
  have h2 := pUpTo 5 (fun k => pWn m_Mo_take 0 sh (rV (yTk I 181 i, L, P)) 27 [some (.ref 134), some (.ref 181), some (.int (nI i)), some (.int (nI k))] [] (aU (aU (aU I 163 (fil (fun s => I 181 (i + s)) (I 163) 16)) 164 (fil (fun p => I 181 (i + 16 + p)) (I 164) k)) 165 (fil (fun p => I 181 (i + 21 + p)) (I 165) k), L, P)) (by
    intro k hk ih
    refine pw_iload_n (k4 := 3) rfl (by decide +kernel) ?_
    refine pw_iconst (n := 5) (v := 5) (by decide) (by decide +kernel) ?_
    refine pn_icmp_ge (off := 37) (tgt := 66) k 5 rfl rfl (by omega) (by omega) (by decide +kernel) (by decide +kernel) (fun z29 => ?_) (fun z29 => ?_)
    · obtain rfl : k = 5 := by omega
      exact pq_vret rfl (by decide +kernel) ⟨rfl, rfl⟩
    · refine pw_aload_n (k4 := 0) rfl (by decide +kernel) ?_
      refine pq_getP (c := 11) (k := 57) (ks_m hA) (by decide) (by decide) (kp_m_leftOn hA) lf_Mo_103 (by decide +kernel) ?_
      refine pw_iload_n (k4 := 3) rfl (by decide +kernel) ?_
      refine pw_aload_n (k4 := 1) rfl (by decide +kernel) ?_
      refine pw_iload_n (k4 := 2) rfl (by decide +kernel) ?_
      refine pw_bipush (n := 16) (v := 16) (by decide) (by decide +kernel) ?_
      refine pn_iadd i 16 rfl rfl (by decide +kernel) ?_
      refine pw_iload_n (k4 := 3) rfl (by decide +kernel) ?_
      refine pn_iadd (i + 16) k rfl rfl (by decide +kernel) ?_
      refine pq_iald ((i + 16) + k) rfl (by omega) (by decide) (ks_m_undo hA) (by decide +kernel) ?_
      refine pq_iast k rfl (by omega) (by decide) (ks_m_leftOn hA) (by decide +kernel) ?_
      refine pw_aload_n (k4 := 0) rfl (by decide +kernel) ?_
      refine pq_getP (c := 11) (k := 58) (ks_m hA) (by decide) (by decide) (kp_m_rightOn hA) lf_Mo_106 (by decide +kernel) ?_
      refine pw_iload_n (k4 := 3) rfl (by decide +kernel) ?_
      refine pw_aload_n (k4 := 1) rfl (by decide +kernel) ?_
      refine pw_iload_n (k4 := 2) rfl (by decide +kernel) ?_
      refine pw_bipush (n := 21) (v := 21) (by decide) (by decide +kernel) ?_
      refine pn_iadd i 21 rfl rfl (by decide +kernel) ?_
      refine pw_iload_n (k4 := 3) rfl (by decide +kernel) ?_
      refine pn_iadd (i + 21) k rfl rfl (by decide +kernel) ?_
      refine pq_iald ((i + 21) + k) rfl (by omega) (by decide) (ks_m_undo hA) (by decide +kernel) ?_
      refine pq_iast k rfl (by omega) (by decide) (ks_m_rightOn hA) (by decide +kernel) ?_
      refine pn_iinc (i := 3) (n := 1) 1 k rfl rfl (by decide) rfl (by decide +kernel) ?_
      refine pw_goto (off := -36) (tgt := 27) (by decide +kernel) (by decide +kernel) ?_
      have w := ih (by omega)
      rw [← fil_s (fun p => I 181 (i + 16 + p)) (I 164) k, ← fil_s (fun p => I 181 (i + 21 + p)) (I 165) k] at w
      rw [lr_l, lr_r]
      exact w
)
  have h1 := pUpTo 16 (fun k => pWn m_Mo_take 0 sh (rV (yTk I 181 i, L, P)) 2 [some (.ref 134), some (.ref 181), some (.int (nI i)), some (.int (nI k))] [] (aU I 163 (fil (fun s => I 181 (i + s)) (I 163) k), L, P)) (by
    intro k hk ih
    refine pw_iload_n (k4 := 3) rfl (by decide +kernel) ?_
    refine pw_bipush (n := 16) (v := 16) (by decide) (by decide +kernel) ?_
    refine pn_icmp_ge (off := 20) (tgt := 25) k 16 rfl rfl (by omega) (by omega) (by decide +kernel) (by decide +kernel) (fun z5 => ?_) (fun z5 => ?_)
    · obtain rfl : k = 16 := by omega
      refine pw_iconst (n := 0) (v := 0) (by decide) (by decide +kernel) ?_
      refine pq_istore_n (k4 := 3) (Nat.le_of_ble_eq_true rfl) rfl (by decide +kernel) ?_
      have w := h2 0 (Nat.zero_le _)
      rw [fil_0, fil_0, show aU (aU (aU I 163 (fil (fun s => I 181 (i + s)) (I 163) 16)) 164 (I 164)) 165 (I 165) = aU I 163 (fil (fun s => I 181 (i + s)) (I 163) 16) from by rw [show aU (aU I 163 (fil (fun s => I 181 (i + s)) (I 163) 16)) 164 (I 164) = aU I 163 (fil (fun s => I 181 (i + s)) (I 163) 16) from aU_self (aU I 163 (fil (fun s => I 181 (i + s)) (I 163) 16)) 164]; exact aU_self (aU I 163 (fil (fun s => I 181 (i + s)) (I 163) 16)) 165] at w
      exact w
    · refine pw_aload_n (k4 := 0) rfl (by decide +kernel) ?_
      refine pq_getP (c := 11) (k := 56) (ks_m hA) (by decide) (by decide) (kp_m_whose hA) lf_Mo_100 (by decide +kernel) ?_
      refine pw_iload_n (k4 := 3) rfl (by decide +kernel) ?_
      refine pw_aload_n (k4 := 1) rfl (by decide +kernel) ?_
      refine pw_iload_n (k4 := 2) rfl (by decide +kernel) ?_
      refine pw_iload_n (k4 := 3) rfl (by decide +kernel) ?_
      refine pn_iadd i k rfl rfl (by decide +kernel) ?_
      refine pq_iald (i + k) rfl (by omega) (by decide) (ks_m_undo hA) (by decide +kernel) ?_
      refine pq_iast k rfl (by omega) (by decide) (ks_m_whose hA) (by decide +kernel) ?_
      refine pn_iinc (i := 3) (n := 1) 1 k rfl rfl (by decide) rfl (by decide +kernel) ?_
      refine pw_goto (off := -20) (tgt := 2) (by decide +kernel) (by decide +kernel) ?_
      have w := ih (by omega)
      rw [← fil_s (fun s => I 181 (i + s)) (I 163) k] at w
      rw [aU_ne (show 181 ≠ 163 by decide), sI_aU2]
      exact w
)
  refine pw_iconst (n := 0) (v := 0) (by decide) (by decide +kernel) ?_
  refine pq_istore_n (k4 := 3) (Nat.le_of_ble_eq_true rfl) rfl (by decide +kernel) ?_
  have w := h1 0 (Nat.zero_le _)
  rw [fil_0, aU_self] at w
  exact w

theorem ct_Mo_put182 {sh : List pSh} {I : Nat → Nat → Int32} {L : Nat → Nat → Int64} {P : Nat → Nat → Option Nat} (hA : kA sh P) {i : Nat} (hi : i + 26 ≤ 26) : pCn m_Mo_put 0 [.ref 134, .ref 182, .int (nI i)] sh (I, L, P) (rV (aU I 182 (yPut (I 182) (I 163) (I 164) (I 165) i 16 5), L, P)) := by
  refine pCn_of (by decide +kernel) (Nat.le_of_ble_eq_true rfl) ?_
  have h2 := pUpTo 5 (fun k => pWn m_Mo_put 0 sh (rV (aU I 182 (yPut (I 182) (I 163) (I 164) (I 165) i 16 5), L, P)) 27 [some (.ref 134), some (.ref 182), some (.int (nI i)), some (.int (nI k))] [] (aU I 182 (yPut (I 182) (I 163) (I 164) (I 165) i 16 k), L, P)) (by
    intro k hk ih
    refine pw_iload_n (k4 := 3) rfl (by decide +kernel) ?_
    refine pw_iconst (n := 5) (v := 5) (by decide) (by decide +kernel) ?_
    refine pn_icmp_ge (off := 37) (tgt := 66) k 5 rfl rfl (by omega) (by omega) (by decide +kernel) (by decide +kernel) (fun z29 => ?_) (fun z29 => ?_)
    · obtain rfl : k = 5 := by omega
      exact pq_vret rfl (by decide +kernel) ⟨rfl, rfl⟩
    · refine pw_aload_n (k4 := 1) rfl (by decide +kernel) ?_
      refine pw_iload_n (k4 := 2) rfl (by decide +kernel) ?_
      refine pw_bipush (n := 16) (v := 16) (by decide) (by decide +kernel) ?_
      refine pn_iadd i 16 rfl rfl (by decide +kernel) ?_
      refine pw_iload_n (k4 := 3) rfl (by decide +kernel) ?_
      refine pn_iadd (i + 16) k rfl rfl (by decide +kernel) ?_
      refine pw_aload_n (k4 := 0) rfl (by decide +kernel) ?_
      refine pq_getP (c := 11) (k := 57) (ks_m hA) (by decide) (by decide) (kp_m_leftOn hA) lf_Mo_103 (by decide +kernel) ?_
      refine pw_iload_n (k4 := 3) rfl (by decide +kernel) ?_
      refine pq_iald k rfl (by omega) (by decide) (ks_m_leftOn hA) (by decide +kernel) ?_
      refine pq_iast ((i + 16) + k) rfl (by omega) (by decide) (ks_m_image hA) (by decide +kernel) ?_
      refine pw_aload_n (k4 := 1) rfl (by decide +kernel) ?_
      refine pw_iload_n (k4 := 2) rfl (by decide +kernel) ?_
      refine pw_bipush (n := 21) (v := 21) (by decide) (by decide +kernel) ?_
      refine pn_iadd i 21 rfl rfl (by decide +kernel) ?_
      refine pw_iload_n (k4 := 3) rfl (by decide +kernel) ?_
      refine pn_iadd (i + 21) k rfl rfl (by decide +kernel) ?_
      refine pw_aload_n (k4 := 0) rfl (by decide +kernel) ?_
      refine pq_getP (c := 11) (k := 58) (ks_m hA) (by decide) (by decide) (kp_m_rightOn hA) lf_Mo_106 (by decide +kernel) ?_
      refine pw_iload_n (k4 := 3) rfl (by decide +kernel) ?_
      refine pq_iald k rfl (by omega) (by decide) (ks_m_rightOn hA) (by decide +kernel) ?_
      refine pq_iast ((i + 21) + k) rfl (by omega) (by decide) (ks_m_image hA) (by decide +kernel) ?_
      refine pn_iinc (i := 3) (n := 1) 1 k rfl rfl (by decide) rfl (by decide +kernel) ?_
      refine pw_goto (off := -36) (tgt := 27) (by decide +kernel) (by decide +kernel) ?_
      have w := ih (by omega)
      rw [← yPut_2 _ _ _ _ _ k (by omega)] at w
      rw [sI_aU2, sI_aU2, aU_ne (show 164 ≠ 182 by decide), aU_ne (show 165 ≠ 182 by decide)]
      exact w
)
  have h1 := pUpTo 16 (fun k => pWn m_Mo_put 0 sh (rV (aU I 182 (yPut (I 182) (I 163) (I 164) (I 165) i 16 5), L, P)) 2 [some (.ref 134), some (.ref 182), some (.int (nI i)), some (.int (nI k))] [] (aU I 182 (yPut (I 182) (I 163) (I 164) (I 165) i k 0), L, P)) (by
    intro k hk ih
    refine pw_iload_n (k4 := 3) rfl (by decide +kernel) ?_
    refine pw_bipush (n := 16) (v := 16) (by decide) (by decide +kernel) ?_
    refine pn_icmp_ge (off := 20) (tgt := 25) k 16 rfl rfl (by omega) (by omega) (by decide +kernel) (by decide +kernel) (fun z5 => ?_) (fun z5 => ?_)
    · obtain rfl : k = 16 := by omega
      refine pw_iconst (n := 0) (v := 0) (by decide) (by decide +kernel) ?_
      refine pq_istore_n (k4 := 3) (Nat.le_of_ble_eq_true rfl) rfl (by decide +kernel) ?_
      exact h2 0 (Nat.zero_le _)
    · refine pw_aload_n (k4 := 1) rfl (by decide +kernel) ?_
      refine pw_iload_n (k4 := 2) rfl (by decide +kernel) ?_
      refine pw_iload_n (k4 := 3) rfl (by decide +kernel) ?_
      refine pn_iadd i k rfl rfl (by decide +kernel) ?_
      refine pw_aload_n (k4 := 0) rfl (by decide +kernel) ?_
      refine pq_getP (c := 11) (k := 56) (ks_m hA) (by decide) (by decide) (kp_m_whose hA) lf_Mo_100 (by decide +kernel) ?_
      refine pw_iload_n (k4 := 3) rfl (by decide +kernel) ?_
      refine pq_iald k rfl (by omega) (by decide) (ks_m_whose hA) (by decide +kernel) ?_
      refine pq_iast (i + k) rfl (by omega) (by decide) (ks_m_image hA) (by decide +kernel) ?_
      refine pn_iinc (i := 3) (n := 1) 1 k rfl rfl (by decide) rfl (by decide +kernel) ?_
      refine pw_goto (off := -20) (tgt := 2) (by decide +kernel) (by decide +kernel) ?_
      have w := ih (by omega)
      rw [← yPut_1 _ _ _ _ _ k (by omega)] at w
      rw [sI_aU2, aU_ne (by decide)]
      exact w
)
  refine pw_iconst (n := 0) (v := 0) (by decide) (by decide +kernel) ?_
  refine pq_istore_n (k4 := 3) (Nat.le_of_ble_eq_true rfl) rfl (by decide +kernel) ?_
  have w := h1 0 (Nat.zero_le _)
  rw [yPut_0, aU_self] at w
  exact w

theorem ct_Mo_take182 {sh : List pSh} {I : Nat → Nat → Int32} {L : Nat → Nat → Int64} {P : Nat → Nat → Option Nat} (hA : kA sh P) {i : Nat} (hi : i + 26 ≤ 26) : pCn m_Mo_take 0 [.ref 134, .ref 182, .int (nI i)] sh (I, L, P) (rV (yTk I 182 i, L, P)) := by
  refine pCn_of (by decide +kernel) (Nat.le_of_ble_eq_true rfl) ?_
  have h2 := pUpTo 5 (fun k => pWn m_Mo_take 0 sh (rV (yTk I 182 i, L, P)) 27 [some (.ref 134), some (.ref 182), some (.int (nI i)), some (.int (nI k))] [] (aU (aU (aU I 163 (fil (fun s => I 182 (i + s)) (I 163) 16)) 164 (fil (fun p => I 182 (i + 16 + p)) (I 164) k)) 165 (fil (fun p => I 182 (i + 21 + p)) (I 165) k), L, P)) (by
    intro k hk ih
    refine pw_iload_n (k4 := 3) rfl (by decide +kernel) ?_
    refine pw_iconst (n := 5) (v := 5) (by decide) (by decide +kernel) ?_
    refine pn_icmp_ge (off := 37) (tgt := 66) k 5 rfl rfl (by omega) (by omega) (by decide +kernel) (by decide +kernel) (fun z29 => ?_) (fun z29 => ?_)
    · obtain rfl : k = 5 := by omega
      exact pq_vret rfl (by decide +kernel) ⟨rfl, rfl⟩
    · refine pw_aload_n (k4 := 0) rfl (by decide +kernel) ?_
      refine pq_getP (c := 11) (k := 57) (ks_m hA) (by decide) (by decide) (kp_m_leftOn hA) lf_Mo_103 (by decide +kernel) ?_
      refine pw_iload_n (k4 := 3) rfl (by decide +kernel) ?_
      refine pw_aload_n (k4 := 1) rfl (by decide +kernel) ?_
      refine pw_iload_n (k4 := 2) rfl (by decide +kernel) ?_
      refine pw_bipush (n := 16) (v := 16) (by decide) (by decide +kernel) ?_
      refine pn_iadd i 16 rfl rfl (by decide +kernel) ?_
      refine pw_iload_n (k4 := 3) rfl (by decide +kernel) ?_
      refine pn_iadd (i + 16) k rfl rfl (by decide +kernel) ?_
      refine pq_iald ((i + 16) + k) rfl (by omega) (by decide) (ks_m_image hA) (by decide +kernel) ?_
      refine pq_iast k rfl (by omega) (by decide) (ks_m_leftOn hA) (by decide +kernel) ?_
      refine pw_aload_n (k4 := 0) rfl (by decide +kernel) ?_
      refine pq_getP (c := 11) (k := 58) (ks_m hA) (by decide) (by decide) (kp_m_rightOn hA) lf_Mo_106 (by decide +kernel) ?_
      refine pw_iload_n (k4 := 3) rfl (by decide +kernel) ?_
      refine pw_aload_n (k4 := 1) rfl (by decide +kernel) ?_
      refine pw_iload_n (k4 := 2) rfl (by decide +kernel) ?_
      refine pw_bipush (n := 21) (v := 21) (by decide) (by decide +kernel) ?_
      refine pn_iadd i 21 rfl rfl (by decide +kernel) ?_
      refine pw_iload_n (k4 := 3) rfl (by decide +kernel) ?_
      refine pn_iadd (i + 21) k rfl rfl (by decide +kernel) ?_
      refine pq_iald ((i + 21) + k) rfl (by omega) (by decide) (ks_m_image hA) (by decide +kernel) ?_
      refine pq_iast k rfl (by omega) (by decide) (ks_m_rightOn hA) (by decide +kernel) ?_
      refine pn_iinc (i := 3) (n := 1) 1 k rfl rfl (by decide) rfl (by decide +kernel) ?_
      refine pw_goto (off := -36) (tgt := 27) (by decide +kernel) (by decide +kernel) ?_
      have w := ih (by omega)
      rw [← fil_s (fun p => I 182 (i + 16 + p)) (I 164) k, ← fil_s (fun p => I 182 (i + 21 + p)) (I 165) k] at w
      rw [lr_l, lr_r]
      exact w
)
  have h1 := pUpTo 16 (fun k => pWn m_Mo_take 0 sh (rV (yTk I 182 i, L, P)) 2 [some (.ref 134), some (.ref 182), some (.int (nI i)), some (.int (nI k))] [] (aU I 163 (fil (fun s => I 182 (i + s)) (I 163) k), L, P)) (by
    intro k hk ih
    refine pw_iload_n (k4 := 3) rfl (by decide +kernel) ?_
    refine pw_bipush (n := 16) (v := 16) (by decide) (by decide +kernel) ?_
    refine pn_icmp_ge (off := 20) (tgt := 25) k 16 rfl rfl (by omega) (by omega) (by decide +kernel) (by decide +kernel) (fun z5 => ?_) (fun z5 => ?_)
    · obtain rfl : k = 16 := by omega
      refine pw_iconst (n := 0) (v := 0) (by decide) (by decide +kernel) ?_
      refine pq_istore_n (k4 := 3) (Nat.le_of_ble_eq_true rfl) rfl (by decide +kernel) ?_
      have w := h2 0 (Nat.zero_le _)
      rw [fil_0, fil_0, show aU (aU (aU I 163 (fil (fun s => I 182 (i + s)) (I 163) 16)) 164 (I 164)) 165 (I 165) = aU I 163 (fil (fun s => I 182 (i + s)) (I 163) 16) from by rw [show aU (aU I 163 (fil (fun s => I 182 (i + s)) (I 163) 16)) 164 (I 164) = aU I 163 (fil (fun s => I 182 (i + s)) (I 163) 16) from aU_self (aU I 163 (fil (fun s => I 182 (i + s)) (I 163) 16)) 164]; exact aU_self (aU I 163 (fil (fun s => I 182 (i + s)) (I 163) 16)) 165] at w
      exact w
    · refine pw_aload_n (k4 := 0) rfl (by decide +kernel) ?_
      refine pq_getP (c := 11) (k := 56) (ks_m hA) (by decide) (by decide) (kp_m_whose hA) lf_Mo_100 (by decide +kernel) ?_
      refine pw_iload_n (k4 := 3) rfl (by decide +kernel) ?_
      refine pw_aload_n (k4 := 1) rfl (by decide +kernel) ?_
      refine pw_iload_n (k4 := 2) rfl (by decide +kernel) ?_
      refine pw_iload_n (k4 := 3) rfl (by decide +kernel) ?_
      refine pn_iadd i k rfl rfl (by decide +kernel) ?_
      refine pq_iald (i + k) rfl (by omega) (by decide) (ks_m_image hA) (by decide +kernel) ?_
      refine pq_iast k rfl (by omega) (by decide) (ks_m_whose hA) (by decide +kernel) ?_
      refine pn_iinc (i := 3) (n := 1) 1 k rfl rfl (by decide) rfl (by decide +kernel) ?_
      refine pw_goto (off := -20) (tgt := 2) (by decide +kernel) (by decide +kernel) ?_
      have w := ih (by omega)
      rw [← fil_s (fun s => I 182 (i + s)) (I 163) k] at w
      rw [aU_ne (show 182 ≠ 163 by decide), sI_aU2]
      exact w
)
  refine pw_iconst (n := 0) (v := 0) (by decide) (by decide +kernel) ?_
  refine pq_istore_n (k4 := 3) (Nat.le_of_ble_eq_true rfl) rfl (by decide +kernel) ?_
  have w := h1 0 (Nat.zero_le _)
  rw [fil_0, aU_self] at w
  exact w

def yUn (f : Nat → Int32) (u : Nat) : Nat → Int32 := if u = 20 then fil (fun k => f (k + 26)) f 494 else f
def yUd (u : Nat) : Nat := if u = 20 then 19 else u
theorem yUd_lt {u : Nat} (h : u ≤ 20) : yUd u < 20 := by
  unfold yUd
  split <;> omega
/-- what a call ahead of a change lays by -/
def yRem (I : Nat → Nat → Int32) (u : Nat) : Nat → Nat → Int32 := sI (aU I 181 (yPut (yUn (I 181) u) (I 163) (I 164) (I 165) (26 * yUd u) 16 5)) 134 86 (nI (yUd u + 1))
theorem fil_hi {f g : Nat → Int32} {n i : Nat} (h : n ≤ i) : fil f g n i = g i := if_neg (by omega)

theorem ct_Mo_remember {sh : List pSh} {I : Nat → Nat → Int32} {L : Nat → Nat → Int64} {P : Nat → Nat → Option Nat} (hA : kA sh P) {u : Nat} (hu : I 134 86 = nI u) (hu20 : u ≤ 20) : pCn m_Mo_remember 1 [.ref 134] sh (I, L, P) (rV (yRem I u, L, P)) := by
  refine pCn_of (by decide +kernel) (Nat.le_of_ble_eq_true rfl) ?_
  have hS : u = 20 → ∀ k, k ≤ 494 → pWn m_Mo_remember 1 sh (rV (yRem I u, L, P)) 11 [some (.ref 134), some (.int (nI k))] [] (aU I 181 (fil (fun k => I 181 (k + 26)) (I 181) k), L, P) := by
    intro h20
    subst h20
    have h49 : pWn m_Mo_remember 1 sh (rV (yRem I 20, L, P)) 49 [some (.ref 134), none] [] (sI (aU I 181 (fil (fun k => I 181 (k + 26)) (I 181) 494)) 134 86 (nI (20 - 1)), L, P) := by
      refine pw_aload_n (k4 := 0) rfl (by decide +kernel) ?_
      refine pw_aload_n (k4 := 0) rfl (by decide +kernel) ?_
      refine pq_getP (c := 11) (k := 87) (ks_m hA) (by decide) (by decide) (kp_m_undo hA) lf_Mo_157 (by decide +kernel) ?_
      refine pw_bipush (n := 26) (v := 26) (by decide) (by decide +kernel) ?_
      refine pw_aload_n (k4 := 0) rfl (by decide +kernel) ?_
      refine pq_getI (c := 11) (k := 86) (ks_m hA) (by decide) (by decide) lf_Mo_393 (by decide +kernel) ?_
      refine pn_val (nI (19)) sI_rs ?_
      refine pn_imul 26 19 rfl rfl (by decide +kernel) ?_
      refine pq_callV (ν := m_Mo_put) (d' := 0) (av := [_, _]) (c := 11) (by decide +kernel) lm_Mo_586 ok_Mo_put (show _ = some 2 by decide +kernel) (ks_m hA) rfl (by decide) (by omega) (Nat.le_of_ble_eq_true rfl) (ct_Mo_put181 hA (by omega)) ?_
      rintro _ _ ⟨rfl, rfl⟩
      refine pw_aload_n (k4 := 0) rfl (by decide +kernel) ?_
      refine pw_dup rfl (by decide +kernel) ?_
      refine pq_getI (c := 11) (k := 86) (ks_m hA) (by decide) (by decide) lf_Mo_393 (by decide +kernel) ?_
      refine pn_val (nI (19)) (by rw [aU_ne (by decide)]; exact sI_rs) ?_
      refine pw_iconst (n := 1) (v := 1) (by decide) (by decide +kernel) ?_
      refine pn_iadd 19 1 rfl rfl (by decide +kernel) ?_
      refine pq_putI (c := 11) (k := 86) (ks_m hA) (by decide) (by decide) lf_Mo_393 (Or.inl rfl) (by decide +kernel) ?_
      exact pq_vret rfl (by decide +kernel) ⟨rfl, by unfold yRem yUn yUd; rw [if_pos rfl, if_pos rfl, aU_sI_c _ (show 181 ≠ 134 by decide), sI_sI, sI_ne (show 181 ≠ 134 by decide), sI_ne (show 163 ≠ 134 by decide), sI_ne (show 164 ≠ 134 by decide), sI_ne (show 165 ≠ 134 by decide), aU_aU, aU_eq, aU_ne (show 163 ≠ 181 by decide), aU_ne (show 164 ≠ 181 by decide), aU_ne (show 165 ≠ 181 by decide)]⟩
    refine pUpTo 494 _ ?_
    intro k hk ih
    refine pw_iload_n (k4 := 1) rfl (by decide +kernel) ?_
    refine pw_sipush (n := 494) (v := 494) (by decide) (by decide +kernel) ?_
    refine pn_icmp_ge (off := 24) (tgt := 39) k 494 rfl rfl (by omega) (by omega) (by decide +kernel) (by decide +kernel) (fun z15 => ?_) (fun z15 => ?_)
    · obtain rfl : k = 494 := by omega
      refine pw_aload_n (k4 := 0) rfl (by decide +kernel) ?_
      refine pw_dup rfl (by decide +kernel) ?_
      refine pq_getI (c := 11) (k := 86) (ks_m hA) (by decide) (by decide) lf_Mo_393 (by decide +kernel) ?_
      refine pn_val (nI (20)) hu ?_
      refine pw_iconst (n := 1) (v := 1) (by decide) (by decide +kernel) ?_
      refine pn_isub 20 1 rfl rfl (by omega) (by decide +kernel) ?_
      refine pq_putI (c := 11) (k := 86) (ks_m hA) (by decide) (by decide) lf_Mo_393 (Or.inl rfl) (by decide +kernel) ?_
      exact pw_forget [1] h49
    · refine pw_aload_n (k4 := 0) rfl (by decide +kernel) ?_
      refine pq_getP (c := 11) (k := 87) (ks_m hA) (by decide) (by decide) (kp_m_undo hA) lf_Mo_157 (by decide +kernel) ?_
      refine pw_iload_n (k4 := 1) rfl (by decide +kernel) ?_
      refine pw_aload_n (k4 := 0) rfl (by decide +kernel) ?_
      refine pq_getP (c := 11) (k := 87) (ks_m hA) (by decide) (by decide) (kp_m_undo hA) lf_Mo_157 (by decide +kernel) ?_
      refine pw_iload_n (k4 := 1) rfl (by decide +kernel) ?_
      refine pw_bipush (n := 26) (v := 26) (by decide) (by decide +kernel) ?_
      refine pn_iadd k 26 rfl rfl (by decide +kernel) ?_
      refine pq_iald (k + 26) rfl (by omega) (by decide) (ks_m_undo hA) (by decide +kernel) ?_
      refine pq_iast k rfl (by omega) (by decide) (ks_m_undo hA) (by decide +kernel) ?_
      refine pn_iinc (i := 1) (n := 1) 1 k rfl rfl (by decide) rfl (by decide +kernel) ?_
      refine pw_goto (off := -25) (tgt := 11) (by decide +kernel) (by decide +kernel) ?_
      have w := ih (by omega)
      rw [← fil_s (fun k => I 181 (k + 26)) (I 181) k] at w
      rw [sI_aU2, aU_eq, fil_hi (by omega)]
      exact w

  refine pw_aload_n (k4 := 0) rfl (by decide +kernel) ?_
  refine pq_getI (c := 11) (k := 86) (ks_m hA) (by decide) (by decide) lf_Mo_393 (by decide +kernel) ?_
  refine pn_val (nI (u)) hu ?_
  refine pw_bipush (n := 20) (v := 20) (by decide) (by decide +kernel) ?_
  refine pn_icmp_ne (off := 43) (tgt := 49) u 20 rfl rfl (by omega) (by omega) (by decide +kernel) (by decide +kernel) (fun z6 => ?_) (fun z6 => ?_)
  · refine pw_aload_n (k4 := 0) rfl (by decide +kernel) ?_
    refine pw_aload_n (k4 := 0) rfl (by decide +kernel) ?_
    refine pq_getP (c := 11) (k := 87) (ks_m hA) (by decide) (by decide) (kp_m_undo hA) lf_Mo_157 (by decide +kernel) ?_
    refine pw_bipush (n := 26) (v := 26) (by decide) (by decide +kernel) ?_
    refine pw_aload_n (k4 := 0) rfl (by decide +kernel) ?_
    refine pq_getI (c := 11) (k := 86) (ks_m hA) (by decide) (by decide) lf_Mo_393 (by decide +kernel) ?_
    refine pn_val (nI (u)) hu ?_
    refine pn_imul 26 u rfl rfl (by decide +kernel) ?_
    refine pq_callV (ν := m_Mo_put) (d' := 0) (av := [_, _]) (c := 11) (by decide +kernel) lm_Mo_586 ok_Mo_put (show _ = some 2 by decide +kernel) (ks_m hA) rfl (by decide) (by omega) (Nat.le_of_ble_eq_true rfl) (ct_Mo_put181 hA (by omega)) ?_
    rintro _ _ ⟨rfl, rfl⟩
    refine pw_aload_n (k4 := 0) rfl (by decide +kernel) ?_
    refine pw_dup rfl (by decide +kernel) ?_
    refine pq_getI (c := 11) (k := 86) (ks_m hA) (by decide) (by decide) lf_Mo_393 (by decide +kernel) ?_
    refine pn_val (nI (u)) hu ?_
    refine pw_iconst (n := 1) (v := 1) (by decide) (by decide +kernel) ?_
    refine pn_iadd u 1 rfl rfl (by decide +kernel) ?_
    refine pq_putI (c := 11) (k := 86) (ks_m hA) (by decide) (by decide) lf_Mo_393 (Or.inl rfl) (by decide +kernel) ?_
    exact pq_vret rfl (by decide +kernel) ⟨rfl, by unfold yRem yUn yUd; rw [if_neg z6, if_neg z6]⟩
  · refine pw_iconst (n := 0) (v := 0) (by decide) (by decide +kernel) ?_
    refine pq_istore_n (k4 := 1) (Nat.le_of_ble_eq_true rfl) rfl (by decide +kernel) ?_
    obtain rfl : u = 20 := by omega
    have w := hS rfl 0 (Nat.zero_le _)
    rw [fil_0, aU_self] at w
    exact w
