/-! ===== the reference: walking or paying the fare ===== -/
/-- how used a shoe is behind k days, walked on those in some -/
def yUB (I : Nat → Nat → Int32) (j p : Nat) (some_ : Int32) : Nat → Int32
  | 0 => I 162 j
  | k + 1 => if yUB I j p some_ k < 50 then yUB I j p some_ k + (if xBit some_ k then yWearB I j (yUB I j p some_ k) p (I 167 0 + nI k) else 0) else yUB I j p some_ k
/-- what it is worth then -/
def yBe (I : Nat → Nat → Int32) (j p n : Nat) (some_ : Int32) : Int32 := if yUB I j p some_ n < 50 then yWorthB I j (yUB I j p some_ n) (nI p) (I 167 0 + nI n) else 0
theorem yUB_st {I : Nat → Nat → Int32} {j p : Nat} {so : Int32} {k : Nat} (h : ¬ yUB I j p so k < 50) : ∀ n, k ≤ n → yUB I j p so n = yUB I j p so k := by
  intro n hn
  induction n with
  | zero => rw [show k = 0 by omega]
  | succ n ih =>
    by_cases e : k = n + 1
    · rw [e]
    · have h2 := ih (by omega)
      show (if yUB I j p so n < 50 then yUB I j p so n + (if xBit so n then yWearB I j (yUB I j p so n) p (I 167 0 + nI n) else 0) else yUB I j p so n) = _
      rw [if_neg (by rw [h2]; exact h)]
      exact h2

theorem ct_Mo_worthBehind {sh : List pSh} {I : Nat → Nat → Int32} {L : Nat → Nat → Int64} {P : Nat → Nat → Option Nat} (hA : kA sh P) (hwf : wfL I) {j p n : Nat} (hj : j < 16) (hp : p < 5) (hn : n ≤ 8) (so : Int32) : pCn m_Mo_worthBehind 5 [.ref 134, .int (nI j), .int (nI p), .int (nI n), .int so] sh (I, L, P) (rIe (yBe I j p n so) I L P) := by
  refine pCn_of (by decide +kernel) (Nat.le_of_ble_eq_true rfl) ?_
  have hL := pUpTo n (fun k => ∀ (ev : Int32) (L0 : Nat → Nat → Int64), lfm L0 L → pWn m_Mo_worthBehind 5 sh (rIe (yBe I j p n so) I L P) 11 [some (.ref 134), some (.int (nI j)), some (.int (nI p)), some (.int (nI n)), some (.int so), some (.int (yUB I j p so k)), some (.int (nI k))] [] (sI I 134 54 ev, L0, P)) (by
    intro k hk ih ev L0 hL0
    refine pw_iload (i := 6) rfl (by decide +kernel) ?_
    refine pw_iload_n (k4 := 3) rfl (by decide +kernel) ?_
    refine pn_icmp_ge (off := 52) (tgt := 66) k n rfl rfl (by omega) (by omega) (by decide +kernel) (by decide +kernel) (fun z14 => ?_) (fun z14 => ?_)
    · refine pw_iload (i := 5) rfl (by decide +kernel) ?_
      refine pw_bipush (n := 50) (v := 50) (by decide) (by decide +kernel) ?_
      refine pw_icmp_lt (off := 7) (tgt := 77) (by decide +kernel) (by decide +kernel) (fun z70 => ?_) (fun z70 => ?_)
      · refine pw_aload_n (k4 := 0) rfl (by decide +kernel) ?_
        refine pw_iload_n (k4 := 1) rfl (by decide +kernel) ?_
        refine pw_iload (i := 5) rfl (by decide +kernel) ?_
        refine pw_iload_n (k4 := 2) rfl (by decide +kernel) ?_
        refine pw_aload_n (k4 := 0) rfl (by decide +kernel) ?_
        refine pq_getP (c := 11) (k := 60) (ks_m hA) (by decide) (by decide) (kp_m_day hA) lf_Mo_112 (by decide +kernel) ?_
        refine pw_iconst (n := 0) (v := 0) (by decide) (by decide +kernel) ?_
        refine pq_iald 0 rfl (by omega) (by decide) (ks_m_day hA) (by decide +kernel) ?_
        refine pw_iload_n (k4 := 3) rfl (by decide +kernel) ?_
        refine pw_iadd (by decide +kernel) ?_
        refine pq_callV (ν := m_Mo_worthBy) (d' := 4) (av := [_, _, _, _]) (c := 11) (by decide +kernel) lm_Mo_420 ok_Mo_worthBy (show _ = some 4 by decide +kernel) (ks_m hA) rfl (by decide) (by omega) (Nat.le_of_ble_eq_true rfl) (ct_Mo_worthBy hA (by exact hwf) (j := j) (by omega) _ _ _ (fun _ => ⟨p, by omega, rfl⟩)) ?_
        rintro _ _ ⟨rfl, ev2, L2, rfl, hL2⟩
        rw [sI_sI]
        exact pq_iret rfl (by decide +kernel) ⟨congrArg (fun z => some (Value.int z)) (by unfold yBe; rw [show yUB I j p so n = yUB I j p so k from by rw [show k = n by omega], if_pos z70]; rfl), ev2, L2, rfl, hL2.tr hL0⟩
      · refine pw_iconst (n := 0) (v := 0) (by decide) (by decide +kernel) ?_
        refine pw_goto (off := 19) (tgt := 93) (by decide +kernel) (by decide +kernel) ?_
        exact pq_iret rfl (by decide +kernel) ⟨congrArg (fun z => some (Value.int z)) (by unfold yBe; rw [show yUB I j p so n = yUB I j p so k from by rw [show k = n by omega], if_neg z70]), ev, L0, rfl, hL0⟩
    · refine pw_iload (i := 5) rfl (by decide +kernel) ?_
      refine pw_bipush (n := 50) (v := 50) (by decide) (by decide +kernel) ?_
      refine pw_icmp_ge (off := 45) (tgt := 66) (by decide +kernel) (by decide +kernel) (fun z21 => ?_) (fun z21 => ?_)
      · refine pw_iload (i := 5) rfl (by decide +kernel) ?_
        refine pw_bipush (n := 50) (v := 50) (by decide) (by decide +kernel) ?_
        refine pw_icmp_lt (off := 7) (tgt := 77) (by decide +kernel) (by decide +kernel) (fun z70 => ?_) (fun z70 => ?_)
        · refine pw_aload_n (k4 := 0) rfl (by decide +kernel) ?_
          refine pw_iload_n (k4 := 1) rfl (by decide +kernel) ?_
          refine pw_iload (i := 5) rfl (by decide +kernel) ?_
          refine pw_iload_n (k4 := 2) rfl (by decide +kernel) ?_
          refine pw_aload_n (k4 := 0) rfl (by decide +kernel) ?_
          refine pq_getP (c := 11) (k := 60) (ks_m hA) (by decide) (by decide) (kp_m_day hA) lf_Mo_112 (by decide +kernel) ?_
          refine pw_iconst (n := 0) (v := 0) (by decide) (by decide +kernel) ?_
          refine pq_iald 0 rfl (by omega) (by decide) (ks_m_day hA) (by decide +kernel) ?_
          refine pw_iload_n (k4 := 3) rfl (by decide +kernel) ?_
          refine pw_iadd (by decide +kernel) ?_
          refine pq_callV (ν := m_Mo_worthBy) (d' := 4) (av := [_, _, _, _]) (c := 11) (by decide +kernel) lm_Mo_420 ok_Mo_worthBy (show _ = some 4 by decide +kernel) (ks_m hA) rfl (by decide) (by omega) (Nat.le_of_ble_eq_true rfl) (ct_Mo_worthBy hA (by exact hwf) (j := j) (by omega) _ _ _ (fun _ => ⟨p, by omega, rfl⟩)) ?_
          rintro _ _ ⟨rfl, ev2, L2, rfl, hL2⟩
          rw [sI_sI]
          exact pq_iret rfl (by decide +kernel) ⟨congrArg (fun z => some (Value.int z)) (by unfold yBe; rw [show yUB I j p so n = yUB I j p so k from yUB_st (Int32.not_lt.mpr z21) n hk, if_pos z70]; rfl), ev2, L2, rfl, hL2.tr hL0⟩
        · refine pw_iconst (n := 0) (v := 0) (by decide) (by decide +kernel) ?_
          refine pw_goto (off := 19) (tgt := 93) (by decide +kernel) (by decide +kernel) ?_
          exact pq_iret rfl (by decide +kernel) ⟨congrArg (fun z => some (Value.int z)) (by unfold yBe; rw [show yUB I j p so n = yUB I j p so k from yUB_st (Int32.not_lt.mpr z21) n hk, if_neg z70]), ev, L0, rfl, hL0⟩
      · refine pw_iload (i := 5) rfl (by decide +kernel) ?_
        refine pw_iload (i := 4) rfl (by decide +kernel) ?_
        refine pw_iload (i := 6) rfl (by decide +kernel) ?_
        refine pq_callS (ν := m_Mo_isOf) (d' := 0) (av := [_, _]) (by decide +kernel) lm_Mo_457 ok_Mo_isOf (show _ = some 2 by decide +kernel) (by omega) (Nat.le_of_ble_eq_true rfl) (ct_Mo_isOf _ _) ?_
        rintro _ _ ⟨rfl, rfl⟩
        refine pn_ifB_eq (off := 23) (tgt := 56) (by decide +kernel) (by decide +kernel) (fun z33 => ?_) (fun z33 => ?_)
        · refine pw_iconst (n := 0) (v := 0) (by decide) (by decide +kernel) ?_
          refine pw_iadd (by decide +kernel) ?_
          refine pq_istore (i := 5) (Nat.le_of_ble_eq_true rfl) rfl (by decide +kernel) ?_
          refine pn_iinc (i := 6) (n := 1) 1 k rfl rfl (by decide) rfl (by decide +kernel) ?_
          refine pw_goto (off := -52) (tgt := 11) (by decide +kernel) (by decide +kernel) ?_
          have w := ih (by omega) ev L0 hL0
          rw [show yUB I j p so (k + 1) = _ from (if_pos (Int32.not_le.mp z21)).trans (by rw [if_neg z33])] at w
          exact w
        · refine pw_aload_n (k4 := 0) rfl (by decide +kernel) ?_
          refine pw_iload_n (k4 := 1) rfl (by decide +kernel) ?_
          refine pw_iload (i := 5) rfl (by decide +kernel) ?_
          refine pw_iload_n (k4 := 2) rfl (by decide +kernel) ?_
          refine pw_aload_n (k4 := 0) rfl (by decide +kernel) ?_
          refine pq_getP (c := 11) (k := 60) (ks_m hA) (by decide) (by decide) (kp_m_day hA) lf_Mo_112 (by decide +kernel) ?_
          refine pw_iconst (n := 0) (v := 0) (by decide) (by decide +kernel) ?_
          refine pq_iald 0 rfl (by omega) (by decide) (ks_m_day hA) (by decide +kernel) ?_
          refine pw_iload (i := 6) rfl (by decide +kernel) ?_
          refine pw_iadd (by decide +kernel) ?_
          refine pq_callV (ν := m_Mo_wearBy) (d' := 4) (av := [_, _, _, _]) (c := 11) (by decide +kernel) lm_Mo_475 ok_Mo_wearBy (show _ = some 4 by decide +kernel) (ks_m hA) rfl (by decide) (by omega) (Nat.le_of_ble_eq_true rfl) (ct_Mo_wearBy hA (by exact hwf) (j := j) (p := p) (by omega) (by omega) _ _) ?_
          rintro _ _ ⟨rfl, ev2, L2, rfl, hL2⟩
          rw [sI_sI]
          refine pw_goto (off := 4) (tgt := 57) (by decide +kernel) (by decide +kernel) ?_
          refine pw_iadd (by decide +kernel) ?_
          refine pq_istore (i := 5) (Nat.le_of_ble_eq_true rfl) rfl (by decide +kernel) ?_
          refine pn_iinc (i := 6) (n := 1) 1 k rfl rfl (by decide) rfl (by decide +kernel) ?_
          refine pw_goto (off := -52) (tgt := 11) (by decide +kernel) (by decide +kernel) ?_
          have w := ih (by omega) ev2 L2 (hL2.tr hL0)
          rw [show yUB I j p so (k + 1) = _ from (if_pos (Int32.not_le.mp z21)).trans (by rw [if_pos z33])] at w
          exact w
)
  refine pw_aload_n (k4 := 0) rfl (by decide +kernel) ?_
  refine pq_getP (c := 11) (k := 55) (ks_m hA) (by decide) (by decide) (kp_m_used hA) lf_Mo_97 (by decide +kernel) ?_
  refine pw_iload_n (k4 := 1) rfl (by decide +kernel) ?_
  refine pq_iald j rfl (by omega) (by decide) (ks_m_used hA) (by decide +kernel) ?_
  refine pq_istore (i := 5) (Nat.le_of_ble_eq_true rfl) rfl (by decide +kernel) ?_
  refine pw_iconst (n := 0) (v := 0) (by decide) (by decide +kernel) ?_
  refine pq_istore (i := 6) (Nat.le_of_ble_eq_true rfl) rfl (by decide +kernel) ?_
  have w := hL 0 (Nat.zero_le _) (I 134 54) L (lfm.rf L)
  rw [sI_same] at w
  exact w
