/-! ===== the reference: undo, keep, back, give, on, off ===== -/
def rM (v : Int32) (J : Nat → Nat → Int32) (P : Nat → Nat → Option Nat) : Option Value → pM → Prop := fun r M => r = some (.int v) ∧ ∃ L', M = (J, L', P)

theorem ct_Mo_undo {sh : List pSh} {I : Nat → Nat → Int32} {L : Nat → Nat → Int64} {P : Nat → Nat → Option Nat} (hA : kA sh P) {u : Nat} (hu : I 134 86 = nI u) (hu20 : u ≤ 20) : pCn m_Mo_undo 1 [.ref 134] sh (I, L, P) (rIf (u = 0) (rA (-1) I P) (rM (nI (u - 1)) (yTk (sI (sI I 134 2 0) 134 86 (nI (u - 1))) 181 (26 * (u - 1))) P)) := by
  refine pCn_of (by decide +kernel) (Nat.le_of_ble_eq_true rfl) ?_
  refine pw_aload_n (k4 := 0) rfl (by decide +kernel) ?_
  refine pw_iconst (n := 0) (v := 0) (by decide) (by decide +kernel) ?_
  refine pq_putI (c := 11) (k := 2) (ks_m hA) (by decide) (by decide) lf_Mo_175 (Or.inl rfl) (by decide +kernel) ?_
  refine pw_aload_n (k4 := 0) rfl (by decide +kernel) ?_
  refine pq_getI (c := 11) (k := 86) (ks_m hA) (by decide) (by decide) lf_Mo_393 (by decide +kernel) ?_
  refine pn_val (nI (u)) hu ?_
  refine pn_if_ne (off := 5) (tgt := 14) u rfl (by omega) (by decide +kernel) (by decide +kernel) (fun z9 => ?_) (fun z9 => ?_)
  · refine pw_aload_n (k4 := 0) rfl (by decide +kernel) ?_
    refine pw_dup rfl (by decide +kernel) ?_
    refine pq_getI (c := 11) (k := 86) (ks_m hA) (by decide) (by decide) lf_Mo_393 (by decide +kernel) ?_
    refine pn_val (nI (u)) hu ?_
    refine pw_iconst (n := 1) (v := 1) (by decide) (by decide +kernel) ?_
    refine pn_isub u 1 rfl rfl (by omega) (by decide +kernel) ?_
    refine pq_putI (c := 11) (k := 86) (ks_m hA) (by decide) (by decide) lf_Mo_393 (Or.inl rfl) (by decide +kernel) ?_
    refine pw_aload_n (k4 := 0) rfl (by decide +kernel) ?_
    refine pw_aload_n (k4 := 0) rfl (by decide +kernel) ?_
    refine pq_getP (c := 11) (k := 87) (ks_m hA) (by decide) (by decide) (kp_m_undo hA) lf_Mo_157 (by decide +kernel) ?_
    refine pw_bipush (n := 26) (v := 26) (by decide) (by decide +kernel) ?_
    refine pw_aload_n (k4 := 0) rfl (by decide +kernel) ?_
    refine pq_getI (c := 11) (k := 86) (ks_m hA) (by decide) (by decide) lf_Mo_393 (by decide +kernel) ?_
    refine pn_val (nI (u - 1)) sI_rs ?_
    refine pn_imul 26 (u - 1) rfl rfl (by decide +kernel) ?_
    refine pq_callV (ν := m_Mo_take) (d' := 0) (av := [_, _]) (c := 11) (by decide +kernel) lm_Mo_589 ok_Mo_take (show _ = some 2 by decide +kernel) (ks_m hA) rfl (by decide) (by omega) (Nat.le_of_ble_eq_true rfl) (ct_Mo_take181 hA (by omega)) ?_
    rintro _ _ ⟨rfl, rfl⟩
    refine pw_aload_n (k4 := 0) rfl (by decide +kernel) ?_
    refine pq_getI (c := 11) (k := 86) (ks_m hA) (by decide) (by decide) lf_Mo_393 (by decide +kernel) ?_
    refine pn_val (nI (u - 1)) (show sI (sI I 134 2 0) 134 86 (nI (u - 1)) 134 86 = nI (u - 1) from sI_rs) ?_
    exact pq_iret rfl (by decide +kernel) ⟨fun h => absurd h z9, fun _ => ⟨rfl, _, rfl⟩⟩
  · refine pw_iconst (n := -1) (v := -1) (by decide) (by decide +kernel) ?_
    exact pq_iret rfl (by decide +kernel) ⟨fun _ => ⟨rfl, _, _, rfl, rep_t⟩, fun h => absurd (by omega) h⟩

def yKeep (I : Nat → Nat → Int32) : Nat → Nat → Int32 := sI (aU (aU (aU (sI (sI I 134 2 0) 134 88 1) 182 (yPut (I 182) (I 163) (I 164) (I 165) 0 16 5)) 183 (fil (I 162) (I 183) 16)) 184 (fil (I 166) (I 184) 8)) 134 92 (I 167 0)
def yBack (I : Nat → Nat → Int32) : Nat → Nat → Int32 := sI (sI (aU (aU (yTk (sI I 134 2 0) 182 0) 162 (fil (I 183) (I 162) 16)) 166 (fil (I 184) (I 166) 8)) 167 0 (I 134 92)) 134 86 0

theorem ct_Mo_keep {sh : List pSh} {I : Nat → Nat → Int32} {L : Nat → Nat → Int64} {P : Nat → Nat → Option Nat} (hA : kA sh P) : pCn m_Mo_keep 1 [.ref 134] sh (I, L, P) (rM (I 167 0) (yKeep I) P) := by
  refine pCn_of (by decide +kernel) (Nat.le_of_ble_eq_true rfl) ?_
  have h2 := pUpTo 8 (fun k => pWn m_Mo_keep 1 sh (rM (I 167 0) (yKeep I) P) 47 [some (.ref 134), some (.int (nI k))] [] (aU (aU (aU (sI (sI I 134 2 0) 134 88 1) 182 (yPut (I 182) (I 163) (I 164) (I 165) 0 16 5)) 183 (fil (I 162) (I 183) 16)) 184 (fil (I 166) (I 184) k), L, P)) (by
    intro k hk ih
    refine pw_iload_n (k4 := 1) rfl (by decide +kernel) ?_
    refine pw_bipush (n := 8) (v := 8) (by decide) (by decide +kernel) ?_
    refine pn_icmp_ge (off := 21) (tgt := 71) k 8 rfl rfl (by omega) (by omega) (by decide +kernel) (by decide +kernel) (fun z50 => ?_) (fun z50 => ?_)
    · obtain rfl : k = 8 := by omega
      refine pw_aload_n (k4 := 0) rfl (by decide +kernel) ?_
      refine pw_aload_n (k4 := 0) rfl (by decide +kernel) ?_
      refine pq_getP (c := 11) (k := 60) (ks_m hA) (by decide) (by decide) (kp_m_day hA) lf_Mo_112 (by decide +kernel) ?_
      refine pw_iconst (n := 0) (v := 0) (by decide) (by decide +kernel) ?_
      refine pq_iald 0 rfl (by omega) (by decide) (ks_m_day hA) (by decide +kernel) ?_
      refine pq_putI (c := 11) (k := 92) (ks_m hA) (by decide) (by decide) lf_Mo_592 (Or.inl rfl) (by decide +kernel) ?_
      refine pw_aload_n (k4 := 0) rfl (by decide +kernel) ?_
      refine pq_getP (c := 11) (k := 60) (ks_m hA) (by decide) (by decide) (kp_m_day hA) lf_Mo_112 (by decide +kernel) ?_
      refine pw_iconst (n := 0) (v := 0) (by decide) (by decide +kernel) ?_
      refine pq_iald 0 rfl (by omega) (by decide) (ks_m_day hA) (by decide +kernel) ?_
      exact pq_iret rfl (by decide +kernel) ⟨rfl, _, rfl⟩
    · refine pw_aload_n (k4 := 0) rfl (by decide +kernel) ?_
      refine pq_getP (c := 11) (k := 91) (ks_m hA) (by decide) (by decide) (kp_m_imageBecame hA) lf_Mo_166 (by decide +kernel) ?_
      refine pw_iload_n (k4 := 1) rfl (by decide +kernel) ?_
      refine pw_aload_n (k4 := 0) rfl (by decide +kernel) ?_
      refine pq_getP (c := 11) (k := 59) (ks_m hA) (by decide) (by decide) (kp_m_became hA) lf_Mo_109 (by decide +kernel) ?_
      refine pw_iload_n (k4 := 1) rfl (by decide +kernel) ?_
      refine pq_iald k rfl (by omega) (by decide) (ks_m_became hA) (by decide +kernel) ?_
      refine pq_iast k rfl (by omega) (by decide) (ks_m_imageBecame hA) (by decide +kernel) ?_
      refine pn_iinc (i := 1) (n := 1) 1 k rfl rfl (by decide) rfl (by decide +kernel) ?_
      refine pw_goto (off := -21) (tgt := 47) (by decide +kernel) (by decide +kernel) ?_
      have w := ih (by omega)
      rw [← fil_s (I 166) (I 184) k] at w
      rw [sI_aU2]
      exact w
)
  have h1 := pUpTo 16 (fun k => pWn m_Mo_keep 1 sh (rM (I 167 0) (yKeep I) P) 21 [some (.ref 134), some (.int (nI k))] [] (aU (aU (sI (sI I 134 2 0) 134 88 1) 182 (yPut (I 182) (I 163) (I 164) (I 165) 0 16 5)) 183 (fil (I 162) (I 183) k), L, P)) (by
    intro k hk ih
    refine pw_iload_n (k4 := 1) rfl (by decide +kernel) ?_
    refine pw_bipush (n := 16) (v := 16) (by decide) (by decide +kernel) ?_
    refine pn_icmp_ge (off := 21) (tgt := 45) k 16 rfl rfl (by omega) (by omega) (by decide +kernel) (by decide +kernel) (fun z24 => ?_) (fun z24 => ?_)
    · obtain rfl : k = 16 := by omega
      refine pw_iconst (n := 0) (v := 0) (by decide) (by decide +kernel) ?_
      refine pq_istore_n (k4 := 1) (Nat.le_of_ble_eq_true rfl) rfl (by decide +kernel) ?_
      have w := h2 0 (Nat.zero_le _)
      rw [fil_0, show aU (aU (aU (sI (sI I 134 2 0) 134 88 1) 182 (yPut (I 182) (I 163) (I 164) (I 165) 0 16 5)) 183 (fil (I 162) (I 183) 16)) 184 (I 184) = aU (aU (sI (sI I 134 2 0) 134 88 1) 182 (yPut (I 182) (I 163) (I 164) (I 165) 0 16 5)) 183 (fil (I 162) (I 183) 16) from aU_self (aU (aU (sI (sI I 134 2 0) 134 88 1) 182 (yPut (I 182) (I 163) (I 164) (I 165) 0 16 5)) 183 (fil (I 162) (I 183) 16)) 184] at w
      exact w
    · refine pw_aload_n (k4 := 0) rfl (by decide +kernel) ?_
      refine pq_getP (c := 11) (k := 90) (ks_m hA) (by decide) (by decide) (kp_m_imageUsed hA) lf_Mo_163 (by decide +kernel) ?_
      refine pw_iload_n (k4 := 1) rfl (by decide +kernel) ?_
      refine pw_aload_n (k4 := 0) rfl (by decide +kernel) ?_
      refine pq_getP (c := 11) (k := 55) (ks_m hA) (by decide) (by decide) (kp_m_used hA) lf_Mo_97 (by decide +kernel) ?_
      refine pw_iload_n (k4 := 1) rfl (by decide +kernel) ?_
      refine pq_iald k rfl (by omega) (by decide) (ks_m_used hA) (by decide +kernel) ?_
      refine pq_iast k rfl (by omega) (by decide) (ks_m_imageUsed hA) (by decide +kernel) ?_
      refine pn_iinc (i := 1) (n := 1) 1 k rfl rfl (by decide) rfl (by decide +kernel) ?_
      refine pw_goto (off := -21) (tgt := 21) (by decide +kernel) (by decide +kernel) ?_
      have w := ih (by omega)
      rw [← fil_s (I 162) (I 183) k] at w
      rw [sI_aU2]
      exact w
)
  refine pw_aload_n (k4 := 0) rfl (by decide +kernel) ?_
  refine pw_iconst (n := 0) (v := 0) (by decide) (by decide +kernel) ?_
  refine pq_putI (c := 11) (k := 2) (ks_m hA) (by decide) (by decide) lf_Mo_175 (Or.inl rfl) (by decide +kernel) ?_
  refine pw_aload_n (k4 := 0) rfl (by decide +kernel) ?_
  refine pw_iconst (n := 1) (v := 1) (by decide) (by decide +kernel) ?_
  refine pq_putZ (c := 11) (k := 88) (ks_m hA) (by decide) (by decide) (by decide) lf_Mo_396 (Or.inl rfl) (by decide +kernel) ?_
  refine pw_aload_n (k4 := 0) rfl (by decide +kernel) ?_
  refine pw_aload_n (k4 := 0) rfl (by decide +kernel) ?_
  refine pq_getP (c := 11) (k := 89) (ks_m hA) (by decide) (by decide) (kp_m_image hA) lf_Mo_160 (by decide +kernel) ?_
  refine pw_iconst (n := 0) (v := 0) (by decide) (by decide +kernel) ?_
  refine pq_callV (ν := m_Mo_put) (d' := 0) (av := [_, _]) (c := 11) (by decide +kernel) lm_Mo_586 ok_Mo_put (show _ = some 2 by decide +kernel) (ks_m hA) rfl (by decide) (by omega) (Nat.le_of_ble_eq_true rfl) (ct_Mo_put182 hA (i := 0) (by decide)) ?_
  rintro _ _ ⟨rfl, rfl⟩
  refine pw_iconst (n := 0) (v := 0) (by decide) (by decide +kernel) ?_
  refine pq_istore_n (k4 := 1) (Nat.le_of_ble_eq_true rfl) rfl (by decide +kernel) ?_
  have w := h1 0 (Nat.zero_le _)
  rw [fil_0, show aU (aU (sI (sI I 134 2 0) 134 88 1) 182 (yPut (I 182) (I 163) (I 164) (I 165) 0 16 5)) 183 (I 183) = (aU (sI (sI I 134 2 0) 134 88 1) 182 (yPut (I 182) (I 163) (I 164) (I 165) 0 16 5)) from aU_self (aU (sI (sI I 134 2 0) 134 88 1) 182 (yPut (I 182) (I 163) (I 164) (I 165) 0 16 5)) 183] at w
  exact w

theorem ct_Mo_back {sh : List pSh} {I : Nat → Nat → Int32} {L : Nat → Nat → Int64} {P : Nat → Nat → Option Nat} (hA : kA sh P) : pCn m_Mo_back 1 [.ref 134] sh (I, L, P) (rIf (I 134 88 = 0) (rA (-1) I P) (rM (I 134 92) (yBack I) P)) := by
  refine pCn_of (by decide +kernel) (Nat.le_of_ble_eq_true rfl) ?_
  have h2 : ¬ I 134 88 = 0 → ∀ k, k ≤ 8 → pWn m_Mo_back 1 sh (rIf (I 134 88 = 0) (rA (-1) I P) (rM (I 134 92) (yBack I) P)) 51 [some (.ref 134), some (.int (nI k))] [] (aU (aU (yTk (sI I 134 2 0) 182 0) 162 (fil (I 183) (I 162) 16)) 166 (fil (I 184) (I 166) k), L, P) := fun hz => pUpTo 8 _ (by
    intro k hk ih
    refine pw_iload_n (k4 := 1) rfl (by decide +kernel) ?_
    refine pw_bipush (n := 8) (v := 8) (by decide) (by decide +kernel) ?_
    refine pn_icmp_ge (off := 21) (tgt := 75) k 8 rfl rfl (by omega) (by omega) (by decide +kernel) (by decide +kernel) (fun z54 => ?_) (fun z54 => ?_)
    · obtain rfl : k = 8 := by omega
      refine pw_aload_n (k4 := 0) rfl (by decide +kernel) ?_
      refine pq_getP (c := 11) (k := 60) (ks_m hA) (by decide) (by decide) (kp_m_day hA) lf_Mo_112 (by decide +kernel) ?_
      refine pw_iconst (n := 0) (v := 0) (by decide) (by decide +kernel) ?_
      refine pw_aload_n (k4 := 0) rfl (by decide +kernel) ?_
      refine pq_getI (c := 11) (k := 92) (ks_m hA) (by decide) (by decide) lf_Mo_592 (by decide +kernel) ?_
      refine pq_iast 0 rfl (by omega) (by decide) (ks_m_day hA) (by decide +kernel) ?_
      refine pw_aload_n (k4 := 0) rfl (by decide +kernel) ?_
      refine pw_iconst (n := 0) (v := 0) (by decide) (by decide +kernel) ?_
      refine pq_putI (c := 11) (k := 86) (ks_m hA) (by decide) (by decide) lf_Mo_393 (Or.inl rfl) (by decide +kernel) ?_
      refine pw_aload_n (k4 := 0) rfl (by decide +kernel) ?_
      refine pq_getP (c := 11) (k := 60) (ks_m hA) (by decide) (by decide) (kp_m_day hA) lf_Mo_112 (by decide +kernel) ?_
      refine pw_iconst (n := 0) (v := 0) (by decide) (by decide +kernel) ?_
      refine pq_iald 0 rfl (by omega) (by decide) (ks_m_day hA) (by decide +kernel) ?_
      exact pq_iret rfl (by decide +kernel) ⟨fun h => absurd h hz, fun _ => ⟨rfl, _, rfl⟩⟩
    · refine pw_aload_n (k4 := 0) rfl (by decide +kernel) ?_
      refine pq_getP (c := 11) (k := 59) (ks_m hA) (by decide) (by decide) (kp_m_became hA) lf_Mo_109 (by decide +kernel) ?_
      refine pw_iload_n (k4 := 1) rfl (by decide +kernel) ?_
      refine pw_aload_n (k4 := 0) rfl (by decide +kernel) ?_
      refine pq_getP (c := 11) (k := 91) (ks_m hA) (by decide) (by decide) (kp_m_imageBecame hA) lf_Mo_166 (by decide +kernel) ?_
      refine pw_iload_n (k4 := 1) rfl (by decide +kernel) ?_
      refine pq_iald k rfl (by omega) (by decide) (ks_m_imageBecame hA) (by decide +kernel) ?_
      refine pq_iast k rfl (by omega) (by decide) (ks_m_became hA) (by decide +kernel) ?_
      refine pn_iinc (i := 1) (n := 1) 1 k rfl rfl (by decide) rfl (by decide +kernel) ?_
      refine pw_goto (off := -21) (tgt := 51) (by decide +kernel) (by decide +kernel) ?_
      have w := ih (by omega)
      rw [← fil_s (I 184) (I 166) k] at w
      rw [sI_aU2]
      exact w
)
  have h1 : ¬ I 134 88 = 0 → ∀ k, k ≤ 16 → pWn m_Mo_back 1 sh (rIf (I 134 88 = 0) (rA (-1) I P) (rM (I 134 92) (yBack I) P)) 25 [some (.ref 134), some (.int (nI k))] [] (aU (yTk (sI I 134 2 0) 182 0) 162 (fil (I 183) (I 162) k), L, P) := fun hz => pUpTo 16 _ (by
    intro k hk ih
    refine pw_iload_n (k4 := 1) rfl (by decide +kernel) ?_
    refine pw_bipush (n := 16) (v := 16) (by decide) (by decide +kernel) ?_
    refine pn_icmp_ge (off := 21) (tgt := 49) k 16 rfl rfl (by omega) (by omega) (by decide +kernel) (by decide +kernel) (fun z28 => ?_) (fun z28 => ?_)
    · obtain rfl : k = 16 := by omega
      refine pw_iconst (n := 0) (v := 0) (by decide) (by decide +kernel) ?_
      refine pq_istore_n (k4 := 1) (Nat.le_of_ble_eq_true rfl) rfl (by decide +kernel) ?_
      have w := h2 hz 0 (Nat.zero_le _)
      rw [fil_0, show aU (aU (yTk (sI I 134 2 0) 182 0) 162 (fil (I 183) (I 162) 16)) 166 (I 166) = aU (yTk (sI I 134 2 0) 182 0) 162 (fil (I 183) (I 162) 16) from aU_self (aU (yTk (sI I 134 2 0) 182 0) 162 (fil (I 183) (I 162) 16)) 166] at w
      exact w
    · refine pw_aload_n (k4 := 0) rfl (by decide +kernel) ?_
      refine pq_getP (c := 11) (k := 55) (ks_m hA) (by decide) (by decide) (kp_m_used hA) lf_Mo_97 (by decide +kernel) ?_
      refine pw_iload_n (k4 := 1) rfl (by decide +kernel) ?_
      refine pw_aload_n (k4 := 0) rfl (by decide +kernel) ?_
      refine pq_getP (c := 11) (k := 90) (ks_m hA) (by decide) (by decide) (kp_m_imageUsed hA) lf_Mo_163 (by decide +kernel) ?_
      refine pw_iload_n (k4 := 1) rfl (by decide +kernel) ?_
      refine pq_iald k rfl (by omega) (by decide) (ks_m_imageUsed hA) (by decide +kernel) ?_
      refine pq_iast k rfl (by omega) (by decide) (ks_m_used hA) (by decide +kernel) ?_
      refine pn_iinc (i := 1) (n := 1) 1 k rfl rfl (by decide) rfl (by decide +kernel) ?_
      refine pw_goto (off := -21) (tgt := 25) (by decide +kernel) (by decide +kernel) ?_
      have w := ih (by omega)
      rw [← fil_s (I 183) (I 162) k] at w
      rw [sI_aU2]
      exact w
)
  refine pw_aload_n (k4 := 0) rfl (by decide +kernel) ?_
  refine pw_iconst (n := 0) (v := 0) (by decide) (by decide +kernel) ?_
  refine pq_putI (c := 11) (k := 2) (ks_m hA) (by decide) (by decide) lf_Mo_175 (Or.inl rfl) (by decide +kernel) ?_
  refine pw_aload_n (k4 := 0) rfl (by decide +kernel) ?_
  refine pq_getI (c := 11) (k := 88) (ks_m hA) (by decide) (by decide) lf_Mo_396 (by decide +kernel) ?_
  refine pw_if_ne (off := 5) (tgt := 14) (by decide +kernel) (by decide +kernel) (fun z9 => ?_) (fun z9 => ?_)
  · refine pw_aload_n (k4 := 0) rfl (by decide +kernel) ?_
    refine pw_aload_n (k4 := 0) rfl (by decide +kernel) ?_
    refine pq_getP (c := 11) (k := 89) (ks_m hA) (by decide) (by decide) (kp_m_image hA) lf_Mo_160 (by decide +kernel) ?_
    refine pw_iconst (n := 0) (v := 0) (by decide) (by decide +kernel) ?_
    refine pq_callV (ν := m_Mo_take) (d' := 0) (av := [_, _]) (c := 11) (by decide +kernel) lm_Mo_589 ok_Mo_take (show _ = some 2 by decide +kernel) (ks_m hA) rfl (by decide) (by omega) (Nat.le_of_ble_eq_true rfl) (ct_Mo_take182 hA (i := 0) (by decide)) ?_
    rintro _ _ ⟨rfl, rfl⟩
    refine pw_iconst (n := 0) (v := 0) (by decide) (by decide +kernel) ?_
    refine pq_istore_n (k4 := 1) (Nat.le_of_ble_eq_true rfl) rfl (by decide +kernel) ?_
    have w := h1 z9 0 (Nat.zero_le _)
    rw [fil_0, show aU (yTk (sI I 134 2 0) 182 0) 162 (I 162) = (yTk (sI I 134 2 0) 182 0) from aU_self (yTk (sI I 134 2 0) 182 0) 162] at w
    exact w
  · refine pw_iconst (n := -1) (v := -1) (by decide) (by decide +kernel) ?_
    exact pq_iret rfl (by decide +kernel) ⟨fun _ => ⟨rfl, _, _, rfl, rep_t⟩, fun h => absurd z9 h⟩

theorem ct_Mo_give {sh : List pSh} {I : Nat → Nat → Int32} {L : Nat → Nat → Int64} {P : Nat → Nat → Option Nat} (hA : kA sh P) {np ns nd : Nat} (hm : mOK I np ns nd) {u : Nat} (hu : I 134 86 = nI u) (hu20 : u ≤ 20) (s to : Int32) : pCn m_Mo_give 2 [.ref 134, .int s, .int to] sh (I, L, P) (rIf (yThere I s ∧ (to = -1 ∨ yHasP I to) ∧ I 163 (ixn s) ≠ to) (rM 1 (yGoes (yRem (sI I 134 2 0) u) 0 (ixn s) np to) P) (rA 0 I P)) := by
  refine pCn_of (by decide +kernel) (Nat.le_of_ble_eq_true rfl) ?_
  have h5 := hm.2.1
  have h16 := hm.2.2.2.1
  have h8 := hm.2.2.2.2.2
  refine pw_aload_n (k4 := 0) rfl (by decide +kernel) ?_
  refine pw_iconst (n := 0) (v := 0) (by decide) (by decide +kernel) ?_
  refine pq_putI (c := 11) (k := 2) (ks_m hA) (by decide) (by decide) lf_Mo_175 (Or.inl rfl) (by decide +kernel) ?_
  refine pw_aload_n (k4 := 0) rfl (by decide +kernel) ?_
  refine pw_iload_n (k4 := 1) rfl (by decide +kernel) ?_
  refine pq_callV (ν := m_Mo_isThere) (d' := 1) (av := [_]) (c := 11) (by decide +kernel) lm_Mo_446 ok_Mo_isThere (show _ = some 1 by decide +kernel) (ks_m hA) rfl (by decide) (by omega) (Nat.le_of_ble_eq_true rfl) (ct_Mo_isThere hA (by exact hm) _) ?_
  rintro _ _ ⟨rfl, rfl⟩
  refine pn_ifB_eq (off := 26) (tgt := 36) (by decide +kernel) (by decide +kernel) (fun z10 => ?_) (fun z10 => ?_)
  · refine pw_iconst (n := 0) (v := 0) (by decide) (by decide +kernel) ?_
    exact pq_zret rfl (by decide) (by decide +kernel) ⟨fun h => absurd h.1 z10, fun _ => ⟨rfl, _, _, rfl, rep_t⟩⟩
  · obtain ⟨j, hj, rfl⟩ := nIn hm.2.2.1 (by omega) z10.1
    refine pw_iload_n (k4 := 2) rfl (by decide +kernel) ?_
    refine pw_iconst (n := -1) (v := -1) (by decide) (by decide +kernel) ?_
    refine pw_icmp_eq (off := 11) (tgt := 26) (by decide +kernel) (by decide +kernel) (fun z15 => ?_) (fun z15 => ?_)
    · refine pw_aload_n (k4 := 0) rfl (by decide +kernel) ?_
      refine pq_getP (c := 11) (k := 56) (ks_m hA) (by decide) (by decide) (kp_m_whose hA) lf_Mo_100 (by decide +kernel) ?_
      refine pw_iload_n (k4 := 1) rfl (by decide +kernel) ?_
      refine pq_iald j rfl (by omega) (by decide) (ks_m_whose hA) (by decide +kernel) ?_
      refine pw_iload_n (k4 := 2) rfl (by decide +kernel) ?_
      refine pw_icmp_ne (off := 5) (tgt := 38) (by decide +kernel) (by decide +kernel) (fun z33 => ?_) (fun z33 => ?_)
      · refine pw_aload_n (k4 := 0) rfl (by decide +kernel) ?_
        refine pq_callV (ν := m_Mo_remember) (d' := 1) (av := []) (c := 11) (by decide +kernel) lm_Mo_469 ok_Mo_remember (show _ = some 0 by decide +kernel) (ks_m hA) rfl (by decide) (by omega) (Nat.le_of_ble_eq_true rfl) (ct_Mo_remember hA (by exact hu) hu20) ?_
        rintro _ _ ⟨rfl, rfl⟩
        refine pw_aload_n (k4 := 0) rfl (by decide +kernel) ?_
        refine pw_iconst (n := 0) (v := 0) (by decide) (by decide +kernel) ?_
        refine pw_iload_n (k4 := 1) rfl (by decide +kernel) ?_
        refine pw_iload_n (k4 := 2) rfl (by decide +kernel) ?_
        refine pq_callV (ν := m_Mo_goes) (d' := 1) (av := [_, _, _]) (c := 11) (by decide +kernel) lm_Mo_466 ok_Mo_goes (show _ = some 3 by decide +kernel) (ks_m hA) rfl (by decide) (by omega) (Nat.le_of_ble_eq_true rfl) (ct_Mo_goes hA (by exact hm) (b := 0) (by decide) (by omega) _) ?_
        rintro _ _ ⟨rfl, rfl⟩
        refine pw_iconst (n := 1) (v := 1) (by decide) (by decide +kernel) ?_
        exact pq_zret rfl (by decide) (by decide +kernel) ⟨fun _ => ⟨rfl, _, by rw [ixn_nI (by omega)]⟩, fun h => absurd ⟨z10, Or.inl z15, by rw [ixn_nI (by omega)]; exact z33⟩ h⟩
      · refine pw_iconst (n := 0) (v := 0) (by decide) (by decide +kernel) ?_
        exact pq_zret rfl (by decide) (by decide +kernel) ⟨fun h => absurd z33 (by have w := h.2.2; rwa [ixn_nI (by omega)] at w), fun _ => ⟨rfl, _, _, rfl, rep_t⟩⟩
    · refine pw_aload_n (k4 := 0) rfl (by decide +kernel) ?_
      refine pw_iload_n (k4 := 2) rfl (by decide +kernel) ?_
      refine pq_callV (ν := m_Mo_isPerson) (d' := 0) (av := [_]) (c := 11) (by decide +kernel) lm_Mo_440 ok_Mo_isPerson (show _ = some 1 by decide +kernel) (ks_m hA) rfl (by decide) (by omega) (Nat.le_of_ble_eq_true rfl) (ct_Mo_isPerson hA _) ?_
      rintro _ _ ⟨rfl, rfl⟩
      refine pn_ifB_eq (off := 13) (tgt := 36) (by decide +kernel) (by decide +kernel) (fun z23 => ?_) (fun z23 => ?_)
      · refine pw_iconst (n := 0) (v := 0) (by decide) (by decide +kernel) ?_
        exact pq_zret rfl (by decide) (by decide +kernel) ⟨fun h => absurd h.2.1 (fun w => w.elim z15 z23), fun _ => ⟨rfl, _, _, rfl, rep_t⟩⟩
      · refine pw_aload_n (k4 := 0) rfl (by decide +kernel) ?_
        refine pq_getP (c := 11) (k := 56) (ks_m hA) (by decide) (by decide) (kp_m_whose hA) lf_Mo_100 (by decide +kernel) ?_
        refine pw_iload_n (k4 := 1) rfl (by decide +kernel) ?_
        refine pq_iald j rfl (by omega) (by decide) (ks_m_whose hA) (by decide +kernel) ?_
        refine pw_iload_n (k4 := 2) rfl (by decide +kernel) ?_
        refine pw_icmp_ne (off := 5) (tgt := 38) (by decide +kernel) (by decide +kernel) (fun z33 => ?_) (fun z33 => ?_)
        · refine pw_aload_n (k4 := 0) rfl (by decide +kernel) ?_
          refine pq_callV (ν := m_Mo_remember) (d' := 1) (av := []) (c := 11) (by decide +kernel) lm_Mo_469 ok_Mo_remember (show _ = some 0 by decide +kernel) (ks_m hA) rfl (by decide) (by omega) (Nat.le_of_ble_eq_true rfl) (ct_Mo_remember hA (by exact hu) hu20) ?_
          rintro _ _ ⟨rfl, rfl⟩
          refine pw_aload_n (k4 := 0) rfl (by decide +kernel) ?_
          refine pw_iconst (n := 0) (v := 0) (by decide) (by decide +kernel) ?_
          refine pw_iload_n (k4 := 1) rfl (by decide +kernel) ?_
          refine pw_iload_n (k4 := 2) rfl (by decide +kernel) ?_
          refine pq_callV (ν := m_Mo_goes) (d' := 1) (av := [_, _, _]) (c := 11) (by decide +kernel) lm_Mo_466 ok_Mo_goes (show _ = some 3 by decide +kernel) (ks_m hA) rfl (by decide) (by omega) (Nat.le_of_ble_eq_true rfl) (ct_Mo_goes hA (by exact hm) (b := 0) (by decide) (by omega) _) ?_
          rintro _ _ ⟨rfl, rfl⟩
          refine pw_iconst (n := 1) (v := 1) (by decide) (by decide +kernel) ?_
          exact pq_zret rfl (by decide) (by decide +kernel) ⟨fun _ => ⟨rfl, _, by rw [ixn_nI (by omega)]⟩, fun h => absurd ⟨z10, Or.inr z23, by rw [ixn_nI (by omega)]; exact z33⟩ h⟩
        · refine pw_iconst (n := 0) (v := 0) (by decide) (by decide +kernel) ?_
          exact pq_zret rfl (by decide) (by decide +kernel) ⟨fun h => absurd z33 (by have w := h.2.2; rwa [ixn_nI (by omega)] at w), fun _ => ⟨rfl, _, _, rfl, rep_t⟩⟩

theorem ct_Mo_on {sh : List pSh} {I : Nat → Nat → Int32} {L : Nat → Nat → Int64} {P : Nat → Nat → Option Nat} (hA : kA sh P) {np ns nd : Nat} (hm : mOK I np ns nd) {u : Nat} (hu : I 134 86 = nI u) (hu20 : u ≤ 20) (ho : oOK I 0 np ns) (s : Int32) : pCn m_Mo_on 2 [.ref 134, .int s] sh (I, L, P) (rIf (yThere I s ∧ ¬ I 163 (ixn s) < 0 ∧ ¬ yWornA I 0 s np) (rM 1 (sI (yRem (sI I 134 2 0) u) (if I 142 (ixn s) = 0 then 164 else 165) (ixn (I 163 (ixn s))) s) P) (rA 0 I P)) := by
  refine pCn_of (by decide +kernel) (Nat.le_of_ble_eq_true rfl) ?_
  have h5 := hm.2.1
  have h16 := hm.2.2.2.1
  have h8 := hm.2.2.2.2.2
  refine pw_aload_n (k4 := 0) rfl (by decide +kernel) ?_
  refine pw_iconst (n := 0) (v := 0) (by decide) (by decide +kernel) ?_
  refine pq_putI (c := 11) (k := 2) (ks_m hA) (by decide) (by decide) lf_Mo_175 (Or.inl rfl) (by decide +kernel) ?_
  refine pw_aload_n (k4 := 0) rfl (by decide +kernel) ?_
  refine pw_iload_n (k4 := 1) rfl (by decide +kernel) ?_
  refine pq_callV (ν := m_Mo_isThere) (d' := 1) (av := [_]) (c := 11) (by decide +kernel) lm_Mo_446 ok_Mo_isThere (show _ = some 1 by decide +kernel) (ks_m hA) rfl (by decide) (by omega) (Nat.le_of_ble_eq_true rfl) (ct_Mo_isThere hA (by exact hm) _) ?_
  rintro _ _ ⟨rfl, rfl⟩
  refine pn_ifB_eq (off := 21) (tgt := 31) (by decide +kernel) (by decide +kernel) (fun z10 => ?_) (fun z10 => ?_)
  · refine pw_iconst (n := 0) (v := 0) (by decide) (by decide +kernel) ?_
    exact pq_zret rfl (by decide) (by decide +kernel) ⟨fun h => absurd h.1 z10, fun _ => ⟨rfl, _, _, rfl, rep_t⟩⟩
  · obtain ⟨j, hj, rfl⟩ := nIn hm.2.2.1 (by omega) z10.1
    refine pw_aload_n (k4 := 0) rfl (by decide +kernel) ?_
    refine pq_getP (c := 11) (k := 56) (ks_m hA) (by decide) (by decide) (kp_m_whose hA) lf_Mo_100 (by decide +kernel) ?_
    refine pw_iload_n (k4 := 1) rfl (by decide +kernel) ?_
    refine pq_iald j rfl (by omega) (by decide) (ks_m_whose hA) (by decide +kernel) ?_
    refine pw_if_lt (off := 12) (tgt := 31) (by decide +kernel) (by decide +kernel) (fun z19 => ?_) (fun z19 => ?_)
    · refine pw_iconst (n := 0) (v := 0) (by decide) (by decide +kernel) ?_
      exact pq_zret rfl (by decide) (by decide +kernel) ⟨fun h => absurd z19 (by have w := h.2.1; rwa [ixn_nI (by omega)] at w), fun _ => ⟨rfl, _, _, rfl, rep_t⟩⟩
    · refine pw_aload_n (k4 := 0) rfl (by decide +kernel) ?_
      refine pw_iconst (n := 0) (v := 0) (by decide) (by decide +kernel) ?_
      refine pw_iload_n (k4 := 1) rfl (by decide +kernel) ?_
      refine pq_callV (ν := m_Mo_isWorn) (d' := 0) (av := [_, _]) (c := 11) (by decide +kernel) lm_Mo_437 ok_Mo_isWorn (show _ = some 2 by decide +kernel) (ks_m hA) rfl (by decide) (by omega) (Nat.le_of_ble_eq_true rfl) (ct_Mo_isWorn hA (by exact hm) (b := 0) (by decide) _) ?_
      rintro _ _ ⟨rfl, rfl⟩
      refine pn_ifB_eq (off := 5) (tgt := 33) (by decide +kernel) (by decide +kernel) (fun z28 => ?_) (fun z28 => ?_)
      · obtain ⟨p, hp, hpe⟩ := ho j hj (by rw [Nat.mul_zero, Nat.zero_add]; exact z19)
        rw [Nat.mul_zero, Nat.zero_add] at hpe
        refine pw_aload_n (k4 := 0) rfl (by decide +kernel) ?_
        refine pq_callV (ν := m_Mo_remember) (d' := 1) (av := []) (c := 11) (by decide +kernel) lm_Mo_469 ok_Mo_remember (show _ = some 0 by decide +kernel) (ks_m hA) rfl (by decide) (by omega) (Nat.le_of_ble_eq_true rfl) (ct_Mo_remember hA (by exact hu) hu20) ?_
        rintro _ _ ⟨rfl, rfl⟩
        refine pw_aload_n (k4 := 0) rfl (by decide +kernel) ?_
        refine pq_getP (c := 11) (k := 28) (ks_m hA) (by decide) (by decide) (kp_m_sideOf hA) lf_Mo_35 (by decide +kernel) ?_
        refine pw_iload_n (k4 := 1) rfl (by decide +kernel) ?_
        refine pq_iald j rfl (by omega) (by decide) (ks_m_sideOf hA) (by decide +kernel) ?_
        refine pw_if_ne (off := 18) (tgt := 61) (by decide +kernel) (by decide +kernel) (fun z43 => ?_) (fun z43 => ?_)
        · refine pw_aload_n (k4 := 0) rfl (by decide +kernel) ?_
          refine pq_getP (c := 11) (k := 58) (ks_m hA) (by decide) (by decide) (kp_m_rightOn hA) lf_Mo_106 (by decide +kernel) ?_
          refine pw_aload_n (k4 := 0) rfl (by decide +kernel) ?_
          refine pq_getP (c := 11) (k := 56) (ks_m hA) (by decide) (by decide) (kp_m_whose hA) lf_Mo_100 (by decide +kernel) ?_
          refine pw_iload_n (k4 := 1) rfl (by decide +kernel) ?_
          refine pq_iald j rfl (by omega) (by decide) (ks_m_whose hA) (by decide +kernel) ?_
          refine pw_iload_n (k4 := 1) rfl (by decide +kernel) ?_
          refine pq_iast p hpe (by omega) (by decide) (ks_m_rightOn hA) (by decide +kernel) ?_
          refine pw_iconst (n := 1) (v := 1) (by decide) (by decide +kernel) ?_
          exact pq_zret rfl (by decide) (by decide +kernel) ⟨fun _ => ⟨rfl, _, by rw [ixn_nI (by omega), if_neg (show ¬ I 142 j = 0 from z43), hpe, ixn_nI (by omega)]⟩, fun h => absurd ⟨z10, by rw [ixn_nI (by omega)]; exact z19, z28⟩ h⟩
        · refine pw_aload_n (k4 := 0) rfl (by decide +kernel) ?_
          refine pq_getP (c := 11) (k := 57) (ks_m hA) (by decide) (by decide) (kp_m_leftOn hA) lf_Mo_103 (by decide +kernel) ?_
          refine pw_aload_n (k4 := 0) rfl (by decide +kernel) ?_
          refine pq_getP (c := 11) (k := 56) (ks_m hA) (by decide) (by decide) (kp_m_whose hA) lf_Mo_100 (by decide +kernel) ?_
          refine pw_iload_n (k4 := 1) rfl (by decide +kernel) ?_
          refine pq_iald j rfl (by omega) (by decide) (ks_m_whose hA) (by decide +kernel) ?_
          refine pw_iload_n (k4 := 1) rfl (by decide +kernel) ?_
          refine pq_iast p hpe (by omega) (by decide) (ks_m_leftOn hA) (by decide +kernel) ?_
          refine pw_goto (off := 15) (tgt := 73) (by decide +kernel) (by decide +kernel) ?_
          refine pw_iconst (n := 1) (v := 1) (by decide) (by decide +kernel) ?_
          exact pq_zret rfl (by decide) (by decide +kernel) ⟨fun _ => ⟨rfl, _, by rw [ixn_nI (by omega), if_pos (show I 142 j = 0 from z43), hpe, ixn_nI (by omega)]⟩, fun h => absurd ⟨z10, by rw [ixn_nI (by omega)]; exact z19, z28⟩ h⟩
      · refine pw_iconst (n := 0) (v := 0) (by decide) (by decide +kernel) ?_
        exact pq_zret rfl (by decide) (by decide +kernel) ⟨fun h => absurd z28 h.2.2, fun _ => ⟨rfl, _, _, rfl, rep_t⟩⟩

theorem ct_Mo_off {sh : List pSh} {I : Nat → Nat → Int32} {L : Nat → Nat → Int64} {P : Nat → Nat → Option Nat} (hA : kA sh P) {np ns nd : Nat} (hm : mOK I np ns nd) {u : Nat} (hu : I 134 86 = nI u) (hu20 : u ≤ 20) (s : Int32) : pCn m_Mo_off 2 [.ref 134, .int s] sh (I, L, P) (rIf (yHasS I s ∧ yWornA I 0 s np) (rM 1 (yTake (yRem (sI I 134 2 0) u) 0 np s) P) (rA 0 I P)) := by
  refine pCn_of (by decide +kernel) (Nat.le_of_ble_eq_true rfl) ?_
  have h5 := hm.2.1
  have h16 := hm.2.2.2.1
  have h8 := hm.2.2.2.2.2
  refine pw_aload_n (k4 := 0) rfl (by decide +kernel) ?_
  refine pw_iconst (n := 0) (v := 0) (by decide) (by decide +kernel) ?_
  refine pq_putI (c := 11) (k := 2) (ks_m hA) (by decide) (by decide) lf_Mo_175 (Or.inl rfl) (by decide +kernel) ?_
  refine pw_aload_n (k4 := 0) rfl (by decide +kernel) ?_
  refine pw_iload_n (k4 := 1) rfl (by decide +kernel) ?_
  refine pq_callV (ν := m_Mo_isShoe) (d' := 0) (av := [_]) (c := 11) (by decide +kernel) lm_Mo_399 ok_Mo_isShoe (show _ = some 1 by decide +kernel) (ks_m hA) rfl (by decide) (by omega) (Nat.le_of_ble_eq_true rfl) (ct_Mo_isShoe hA _) ?_
  rintro _ _ ⟨rfl, rfl⟩
  refine pn_ifB_eq (off := 12) (tgt := 22) (by decide +kernel) (by decide +kernel) (fun z10 => ?_) (fun z10 => ?_)
  · refine pw_iconst (n := 0) (v := 0) (by decide) (by decide +kernel) ?_
    exact pq_zret rfl (by decide) (by decide +kernel) ⟨fun h => absurd h.1 z10, fun _ => ⟨rfl, _, _, rfl, rep_t⟩⟩
  · refine pw_aload_n (k4 := 0) rfl (by decide +kernel) ?_
    refine pw_iconst (n := 0) (v := 0) (by decide) (by decide +kernel) ?_
    refine pw_iload_n (k4 := 1) rfl (by decide +kernel) ?_
    refine pq_callV (ν := m_Mo_isWorn) (d' := 0) (av := [_, _]) (c := 11) (by decide +kernel) lm_Mo_437 ok_Mo_isWorn (show _ = some 2 by decide +kernel) (ks_m hA) rfl (by decide) (by omega) (Nat.le_of_ble_eq_true rfl) (ct_Mo_isWorn hA (by exact hm) (b := 0) (by decide) _) ?_
    rintro _ _ ⟨rfl, rfl⟩
    refine pn_ifB_ne (off := 5) (tgt := 24) (by decide +kernel) (by decide +kernel) (fun z19 => ?_) (fun z19 => ?_)
    · refine pw_aload_n (k4 := 0) rfl (by decide +kernel) ?_
      refine pq_callV (ν := m_Mo_remember) (d' := 1) (av := []) (c := 11) (by decide +kernel) lm_Mo_469 ok_Mo_remember (show _ = some 0 by decide +kernel) (ks_m hA) rfl (by decide) (by omega) (Nat.le_of_ble_eq_true rfl) (ct_Mo_remember hA (by exact hu) hu20) ?_
      rintro _ _ ⟨rfl, rfl⟩
      refine pw_aload_n (k4 := 0) rfl (by decide +kernel) ?_
      refine pw_iconst (n := 0) (v := 0) (by decide) (by decide +kernel) ?_
      refine pw_iload_n (k4 := 1) rfl (by decide +kernel) ?_
      refine pq_callV (ν := m_Mo_takeOff) (d' := 0) (av := [_, _]) (c := 11) (by decide +kernel) lm_Mo_428 ok_Mo_takeOff (show _ = some 2 by decide +kernel) (ks_m hA) rfl (by decide) (by omega) (Nat.le_of_ble_eq_true rfl) (ct_Mo_takeOff hA (by exact hm) (b := 0) (by decide) _) ?_
      rintro _ _ ⟨rfl, rfl⟩
      refine pw_iconst (n := 1) (v := 1) (by decide) (by decide +kernel) ?_
      exact pq_zret rfl (by decide) (by decide +kernel) ⟨fun _ => ⟨rfl, _, rfl⟩, fun h => absurd ⟨z10, z19⟩ h⟩
    · refine pw_iconst (n := 0) (v := 0) (by decide) (by decide +kernel) ?_
      exact pq_zret rfl (by decide) (by decide +kernel) ⟨fun h => absurd h.2 z19, fun _ => ⟨rfl, _, _, rfl, rep_t⟩⟩
