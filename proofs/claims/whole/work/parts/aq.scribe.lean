/-! ===== the class: the scribe, its small steps beside the reference ===== -/
def rAd (I J : Nat → Nat → Int32) (L : Nat → Nat → Int64) (P : Nat → Nat → Option Nat) (n : Nat) : Option Value → pM → Prop := fun r M => r = none ∧ ∃ I', M = (I', L, P) ∧ rdR I' (yTok J) n ∧ ∀ a, a ≠ 58 → I' a = I a
theorem gt_advance {sh : List pSh} {I J : Nat → Nat → Int32} {L : Nat → Nat → Int64} {P : Nat → Nat → Option Nat} (hA : kA sh P) (hrb : P 58 3 = some 2) {n : Nat} (h : rdR I J n) : pCn m_Re_advance 2 [.ref 58] sh (I, L, P) (rAd I J L P n) := by
  obtain ⟨q, q1, q2, q3⟩ := h.2.2.1
  refine pCn_im (ct_Re_advance hA hrb h.2.2.2.1 h.2.2.2.2.2.1 (b := bT J) (fun k hk => (h.2.2.2.2.2.2.1 k hk).1) (fun k hk => (h.2.2.2.2.2.2.1 k hk).2) h.2.2.2.2.2.2.2 q1 q2) ?_
  rintro r M ⟨rfl, rfl⟩
  exact ⟨rfl, _, rfl, rdR_tok h q3 q1, fun a ha => (reQ_at I _ _ _ _).2.2.2.2.2 a ha⟩
def scRf (I : Nat → Nat → Int32) (q : Int32) : Nat → Nat → Int32 := sI (sI I 57 1 q) 57 2 (I 58 2)
/-- behind a part of a line: as the reference's outcome q says -/
def sbR (q : Bool × (Nat → Nat → Int32)) (I I' : Nat → Nat → Int32) (n : Nat) : Prop := (q.1 = true → rdR I' q.2 n ∧ I' 57 = I 57) ∧ (q.1 = false → I' 57 1 = q.2 134 4 ∧ I' 57 2 = q.2 134 5 ∧ ¬ q.2 134 4 = 0) ∧ ∀ a, a ≠ 57 → a ≠ 58 → I' a = I a
theorem scRf_sb {I J : Nat → Nat → Int32} {n : Nat} (h : rdR I J n) {k : Int32} (hk : ¬ k = 0) : sbR (false, yWr J k) I (scRf I k) n := by
  refine ⟨fun q => (by cases q), fun _ => ⟨?_, ?_, hk⟩, fun a h1 h2 => ?_⟩
  · show sI (sI I 57 1 k) 57 2 (I 58 2) 57 1 = k
    rw [sI_rd (by decide), sI_rs]
  · show sI (sI I 57 1 k) 57 2 (I 58 2) 57 2 = J 134 10
    rw [sI_rs]
    exact h.2.1
  · unfold scRf
    rw [sI_ne h1, sI_ne h1]
def rTn (q : Bool × (Nat → Nat → Int32)) (v : Int32) (I : Nat → Nat → Int32) (L : Nat → Nat → Int64) (P : Nat → Nat → Option Nat) (n : Nat) : Option Value → pM → Prop := fun r M => ∃ I', M = (I', L, P) ∧ sbR q I I' n ∧ (q.1 = true → r = some (.int v)) ∧ (q.1 = false → r = some (.int (-1)))
theorem nm_in {v u lo hi : Nat} (h : nmR v u) (hh : hi ≤ 99999) : ((nI v < nI lo ∨ ¬ nI v ≤ nI hi) ↔ ¬ (nI lo ≤ nI u ∧ nI u ≤ nI hi)) ∨ 99999 < lo := by
  by_cases z : 99999 < lo
  · exact Or.inr z
  · refine Or.inl ?_
    unfold nmR at h
    rw [nI_ltI (by omega) (by omega), nI_leI (by omega) (by omega), nI_leI (by omega) (by omega), nI_leI (by omega) (by omega)]
    omega
theorem ct_Sc_refuse {sh : List pSh} {I : Nat → Nat → Int32} {L : Nat → Nat → Int64} {P : Nat → Nat → Option Nat} (hA : kA sh P) (q : Int32) : pCn m_Sc_refuse 0 [.ref 57, .int q] sh (I, L, P) (rI 0 (scRf I q, L, P)) := by
  refine pCn_of (by decide +kernel) (Nat.le_of_ble_eq_true rfl) ?_
  refine pw_aload_n (k4 := 0) rfl (by decide +kernel) ?_
  refine pw_iload_n (k4 := 1) rfl (by decide +kernel) ?_
  refine pq_putI (c := 4) (k := 1) (ks_sc hA) (by decide) (by decide) lf_Sc_35 (Or.inl rfl) (by decide +kernel) ?_
  refine pw_aload_n (k4 := 0) rfl (by decide +kernel) ?_
  refine pw_aload_n (k4 := 0) rfl (by decide +kernel) ?_
  refine pq_getP (c := 4) (k := 4) (ks_sc hA) (by decide) (by decide) (kp_sc_reader hA) lf_Sc_12 (by decide +kernel) ?_
  refine pq_getI (c := 3) (k := 2) (ks_re hA) (by decide) (by decide) lf_Sc_56 (by decide +kernel) ?_
  refine pq_putI (c := 4) (k := 2) (ks_sc hA) (by decide) (by decide) lf_Sc_38 (Or.inl rfl) (by decide +kernel) ?_
  refine pw_iconst (n := 0) (v := 0) (by decide) (by decide +kernel) ?_
  exact pq_zret rfl (Or.inl rfl) (by decide +kernel) ⟨rfl, rfl⟩

set_option maxHeartbeats 4000000 in
theorem ct_Sc_takeNumber {sh : List pSh} {I : Nat → Nat → Int32} {L : Nat → Nat → Int64} {P : Nat → Nat → Option Nat} (hA : kA sh P) (hrb : P 58 3 = some 2) {J : Nat → Nat → Int32} {n : Nat} (hr : rdR I J n) {lo hi : Nat} (hhi : hi ≤ 99999) (hlo : lo ≤ 99999) : pCn m_Sc_takeNumber 3 [.ref 57, .int (nI lo), .int (nI hi)] sh (I, L, P) (rTn (yNum J (nI lo) (nI hi)) (J 134 9) I L P n) := by
  refine pCn_of (by decide +kernel) (Nat.le_of_ble_eq_true rfl) ?_
  refine pw_aload_n (k4 := 0) rfl (by decide +kernel) ?_
  refine pq_getP (c := 4) (k := 4) (ks_sc hA) (by decide) (by decide) (kp_sc_reader hA) lf_Sc_12 (by decide +kernel) ?_
  refine pq_getI (c := 3) (k := 0) (ks_re hA) (by decide) (by decide) lf_Sc_45 (by decide +kernel) ?_
  refine pw_bipush (n := 26) (v := 26) (by decide) (by decide +kernel) ?_
  refine pw_icmp_eq (off := 11) (tgt := 20) (by decide +kernel) (by decide +kernel) (fun z9 => ?_) (fun z9 => ?_)
  · have hk3 : J 134 8 = 3 := (tk_26 hr.1).mp z9
    obtain ⟨v, u, hnm, hv, hu⟩ := tk_nm hr.1 hk3
    have hin := (nm_in (lo := lo) hnm hhi).resolve_right (by omega)
    rw [← hv, ← hu] at hin
    refine pw_aload_n (k4 := 0) rfl (by decide +kernel) ?_
    refine pq_getP (c := 4) (k := 4) (ks_sc hA) (by decide) (by decide) (kp_sc_reader hA) lf_Sc_12 (by decide +kernel) ?_
    refine pq_getI (c := 3) (k := 1) (ks_re hA) (by decide) (by decide) lf_Sc_86 (by decide +kernel) ?_
    refine pq_istore_n (k4 := 3) (Nat.le_of_ble_eq_true rfl) rfl (by decide +kernel) ?_
    refine pw_iload_n (k4 := 3) rfl (by decide +kernel) ?_
    refine pw_iload_n (k4 := 1) rfl (by decide +kernel) ?_
    refine pw_icmp_lt (off := 8) (tgt := 38) (by decide +kernel) (by decide +kernel) (fun z30 => ?_) (fun z30 => ?_)
    · have hq : yNum J (nI lo) (nI hi) = (false, yWr J 2) := by unfold yNum; rw [if_neg (fun q => q hk3), if_pos (hin.mp (Or.inl z30))]
      refine pw_aload_n (k4 := 0) rfl (by decide +kernel) ?_
      refine pw_iconst (n := 2) (v := 2) (by decide) (by decide +kernel) ?_
      refine pq_callV (ν := m_Sc_refuse) (d' := 0) (av := [_]) (c := 4) (by decide +kernel) lm_Sc_59 ok_Sc_refuse (show _ = some 1 by decide +kernel) (ks_sc hA) rfl (by decide) (by omega) (Nat.le_of_ble_eq_true rfl) (ct_Sc_refuse hA _) ?_
      rintro _ _ ⟨rfl, rfl⟩
      refine pw_pop rfl (by decide +kernel) ?_
      refine pw_iconst (n := -1) (v := -1) (by decide) (by decide +kernel) ?_
      exact pq_iret rfl (by decide +kernel) ⟨_, rfl, by rw [hq]; exact scRf_sb hr (by decide), fun q => (by rw [hq] at q; cases q), fun _ => rfl⟩
    · refine pw_iload_n (k4 := 3) rfl (by decide +kernel) ?_
      refine pw_iload_n (k4 := 2) rfl (by decide +kernel) ?_
      refine pw_icmp_le (off := 11) (tgt := 46) (by decide +kernel) (by decide +kernel) (fun z35 => ?_) (fun z35 => ?_)
      · have hok : nI lo ≤ J 134 9 ∧ J 134 9 ≤ nI hi := by
          by_cases q : nI lo ≤ J 134 9 ∧ J 134 9 ≤ nI hi
          · exact q
          · exact absurd (hin.mpr q) (fun w => w.elim z30 (fun w => w z35))
        have hq : yNum J (nI lo) (nI hi) = (true, yTok (sI J 134 11 (J 134 9))) := by unfold yNum; rw [if_neg (fun q => q hk3), if_neg (fun q => q hok)]
        have hval : I 58 1 = J 134 9 := by
          rw [hv, hu] at *
          have h1 := (nI_leI (a := u) (by unfold nmR at hnm; omega) (by omega)).mp hok.2
          rw [show v = u by unfold nmR at hnm; omega]
        refine pw_aload_n (k4 := 0) rfl (by decide +kernel) ?_
        refine pq_getP (c := 4) (k := 4) (ks_sc hA) (by decide) (by decide) (kp_sc_reader hA) lf_Sc_12 (by decide +kernel) ?_
        refine pq_callV (ν := m_Re_advance) (d' := 2) (av := []) (c := 3) (by decide +kernel) lm_Sc_62 ok_Re_advance (show _ = some 0 by decide +kernel) (ks_re hA) rfl (by decide) (by omega) (Nat.le_of_ble_eq_true rfl) (gt_advance hA hrb (J := sI J 134 11 (J 134 9)) (by exact hr)) ?_
        rintro _ _ ⟨rfl, I1, rfl, hr1, hf1⟩
        refine pw_iload_n (k4 := 3) rfl (by decide +kernel) ?_
        exact pq_iret rfl (by decide +kernel) ⟨_, rfl, by rw [hq]; exact ⟨fun _ => ⟨hr1, hf1 57 (by decide)⟩, fun q => (by cases q), fun a _ h2 => hf1 a h2⟩, fun _ => congrArg (fun z => some (Value.int z)) hval, fun q => (by rw [hq] at q; cases q)⟩
      · have hq : yNum J (nI lo) (nI hi) = (false, yWr J 2) := by unfold yNum; rw [if_neg (fun q => q hk3), if_pos (hin.mp (Or.inr z35))]
        refine pw_aload_n (k4 := 0) rfl (by decide +kernel) ?_
        refine pw_iconst (n := 2) (v := 2) (by decide) (by decide +kernel) ?_
        refine pq_callV (ν := m_Sc_refuse) (d' := 0) (av := [_]) (c := 4) (by decide +kernel) lm_Sc_59 ok_Sc_refuse (show _ = some 1 by decide +kernel) (ks_sc hA) rfl (by decide) (by omega) (Nat.le_of_ble_eq_true rfl) (ct_Sc_refuse hA _) ?_
        rintro _ _ ⟨rfl, rfl⟩
        refine pw_pop rfl (by decide +kernel) ?_
        refine pw_iconst (n := -1) (v := -1) (by decide) (by decide +kernel) ?_
        exact pq_iret rfl (by decide +kernel) ⟨_, rfl, by rw [hq]; exact scRf_sb hr (by decide), fun q => (by rw [hq] at q; cases q), fun _ => rfl⟩
  · have hq : yNum J (nI lo) (nI hi) = (false, yWr J 1) := by unfold yNum; rw [if_pos (fun q => z9 ((tk_26 hr.1).mpr q))]
    refine pw_aload_n (k4 := 0) rfl (by decide +kernel) ?_
    refine pw_iconst (n := 1) (v := 1) (by decide) (by decide +kernel) ?_
    refine pq_callV (ν := m_Sc_refuse) (d' := 0) (av := [_]) (c := 4) (by decide +kernel) lm_Sc_59 ok_Sc_refuse (show _ = some 1 by decide +kernel) (ks_sc hA) rfl (by decide) (by omega) (Nat.le_of_ble_eq_true rfl) (ct_Sc_refuse hA _) ?_
    rintro _ _ ⟨rfl, rfl⟩
    refine pw_pop rfl (by decide +kernel) ?_
    refine pw_iconst (n := -1) (v := -1) (by decide) (by decide +kernel) ?_
    exact pq_iret rfl (by decide +kernel) ⟨_, rfl, by rw [hq]; exact scRf_sb hr (by decide), fun q => (by rw [hq] at q; cases q), fun _ => rfl⟩

