/-! ===== the reference: paying, days ===== -/
/-- shoes by bits go to somebody -/
def yHand (I : Nat → Nat → Int32) (b np : Nat) (v to : Int32) : Nat → Nat → Nat → Int32
  | 0 => I
  | k + 1 => if xBit v k then yGoes (yHand I b np v to k) b k np to else yHand I b np v to k
theorem yHand_y {I : Nat → Nat → Int32} {b np k : Nat} {v to : Int32} (h : xBit v k) : yHand I b np v to (k + 1) = yGoes (yHand I b np v to k) b k np to := if_pos h
theorem yHand_n {I : Nat → Nat → Int32} {b np k : Nat} {v to : Int32} (h : ¬ xBit v k) : yHand I b np v to (k + 1) = yHand I b np v to k := if_neg h
theorem yHand_fr {I : Nat → Nat → Int32} {b np : Nat} {v to : Int32} {a : Nat} (h3 : a ≠ 163) (h4 : a ≠ 164) (h5 : a ≠ 165) : ∀ n, yHand I b np v to n a = I a
  | 0 => rfl
  | n + 1 => by
    unfold yHand
    split
    · unfold yGoes yTake
      rw [sI_ne h3, aU_ne h5, aU_ne h4]
      exact yHand_fr h3 h4 h5 n
    · exact yHand_fr h3 h4 h5 n
theorem mI_hand {I : Nat → Nat → Int32} {b np ns : Nat} {v to : Int32} (h : mI I b np ns) (hns : ns ≤ 16) (hto : to = -2 ∨ to = -1 ∨ ∃ p, p < np ∧ to = nI p) : ∀ n, n ≤ ns → mI (yHand I b np v to n) b np ns
  | 0, _ => h
  | n + 1, hn => by
    unfold yHand
    split
    · exact mI_goes (mI_hand h hns hto n (by omega)) (by omega) hns hto
    · exact mI_hand h hns hto n (by omega)
/-- a payment's memory -/
def yPaid (I : Nat → Nat → Int32) (b np ns : Nat) (p to : Int32) (q : Nat) : Nat → Nat → Int32 := if selB (yWt I b ns p) q < 0 then I else yHand I b np (selB (yWt I b ns p) q) to ns
def rPy (v : Int32) (J : Nat → Nat → Int32) (L : Nat → Nat → Int64) (P : Nat → Nat → Option Nat) : Option Value → pM → Prop := fun r M => r = some (.int v) ∧ ∃ I' L', M = (I', L', P) ∧ rep I' J ∧ lfm L' L
theorem rep_cg {I : Nat → Nat → Int32} {ev : Int32} {f g k : Nat → Int32} : rep (aU (aU (aU (sI I 134 54 ev) 170 k) 168 f) 169 g) I := rep_scrA (rep_scrA (rep_scrA ((rep.rf I).scr (by decide) ev) (by decide) k) (by decide) f) (by decide) g

theorem mOK_hand {I J : Nat → Nat → Int32} {b np ns nd k : Nat} {v to : Int32} (h : rep I (yHand J b np v to k)) (hm : mOK J np ns nd) : mOK I np ns nd := mOK_rep h (by unfold mOK; rw [yHand_fr (by decide) (by decide) (by decide)]; exact hm)

set_option maxHeartbeats 2000000 in
theorem ct_Mo_pays {sh : List pSh} {I : Nat → Nat → Int32} {L : Nat → Nat → Int64} {P : Nat → Nat → Option Nat} (hA : kA sh P) {J : Nat → Nat → Int32} (hJ : rep I J) {np ns nd : Nat} (hm : mOK J np ns nd) (hwf : wfL J) (hz : zOK J np ns) {b : Nat} (hb : b < 2) (hi : mI J b np ns) (p to : Int32) {q : Nat} (hq : q < 10000) : pCn m_Mo_pays 7 [.ref 134, .int (nI b), .int p, .int to, .int (nI q)] sh (I, L, P) (rPy (selB (yWt J b ns p) q) (yPaid J b np ns p to q) L P) := by
  refine pCn_of (by decide +kernel) (Nat.le_of_ble_eq_true rfl) ?_
  have h16 := hm.2.2.2.1
  have hneg : selB (yWt J b ns p) q < 0 → ∀ (I2 : Nat → Nat → Int32) (L0 : Nat → Nat → Int64), lfm L0 L → rep I2 J → pWn m_Mo_pays 7 sh (rPy (selB (yWt J b ns p) q) (yPaid J b np ns p to q) L P) 13 [some (.ref 134), some (.int (nI b)), some (.int p), some (.int to), some (.int (nI q)), some (.int (selB (yWt J b ns p) q)), some (.int (nI 0))] [] (I2, L0, P) := by
    intro hv I2 L0 hL0 hK
    refine pw_iload (i := 6) rfl (by decide +kernel) ?_
    refine pw_aload_n (k4 := 0) rfl (by decide +kernel) ?_
    refine pq_getI (c := 11) (k := 13) (ks_m hA) (by decide) (by decide) lf_Mo_262 (by decide +kernel) ?_
    refine pn_val (nI (ns)) (mOK_rep hK hm).2.2.1 ?_
    refine pn_icmp_ge (off := 32) (tgt := 51) 0 ns rfl rfl (by omega) (by omega) (by decide +kernel) (by decide +kernel) (fun z19 => ?_) (fun z19 => ?_)
    · refine pw_iload (i := 5) rfl (by decide +kernel) ?_
      exact pq_iret rfl (by decide +kernel) ⟨rfl, I2, L0, rfl, by unfold yPaid; rw [if_pos hv]; exact hK, hL0⟩
    · refine pw_iload (i := 5) rfl (by decide +kernel) ?_
      refine pw_if_lt (off := 27) (tgt := 51) (by decide +kernel) (by decide +kernel) (fun z24 => ?_) (fun z24 => ?_)
      · refine pw_iload (i := 5) rfl (by decide +kernel) ?_
        exact pq_iret rfl (by decide +kernel) ⟨rfl, I2, L0, rfl, by unfold yPaid; rw [if_pos hv]; exact hK, hL0⟩
      · exact absurd hv z24
  have hpos : ¬ selB (yWt J b ns p) q < 0 → ∀ k, k ≤ ns → ∀ (I2 : Nat → Nat → Int32) (L0 : Nat → Nat → Int64), lfm L0 L → rep I2 (yHand J b np (selB (yWt J b ns p) q) to k) → pWn m_Mo_pays 7 sh (rPy (selB (yWt J b ns p) q) (yPaid J b np ns p to q) L P) 13 [some (.ref 134), some (.int (nI b)), some (.int p), some (.int to), some (.int (nI q)), some (.int (selB (yWt J b ns p) q)), some (.int (nI k))] [] (I2, L0, P) := fun hv => pUpTo ns _ (by
    intro k hk ih I2 L0 hL0 hK
    refine pw_iload (i := 6) rfl (by decide +kernel) ?_
    refine pw_aload_n (k4 := 0) rfl (by decide +kernel) ?_
    refine pq_getI (c := 11) (k := 13) (ks_m hA) (by decide) (by decide) lf_Mo_262 (by decide +kernel) ?_
    refine pn_val (nI (ns)) (mOK_hand hK hm).2.2.1 ?_
    refine pn_icmp_ge (off := 32) (tgt := 51) k ns rfl rfl (by omega) (by omega) (by decide +kernel) (by decide +kernel) (fun z19 => ?_) (fun z19 => ?_)
    · obtain rfl : k = ns := by omega
      refine pw_iload (i := 5) rfl (by decide +kernel) ?_
      exact pq_iret rfl (by decide +kernel) ⟨rfl, I2, L0, rfl, by unfold yPaid; rw [if_neg hv]; exact hK, hL0⟩
    · refine pw_iload (i := 5) rfl (by decide +kernel) ?_
      refine pw_if_lt (off := 27) (tgt := 51) (by decide +kernel) (by decide +kernel) (fun z24 => ?_) (fun z24 => ?_)
      · exact absurd z24 hv
      · refine pw_iload (i := 5) rfl (by decide +kernel) ?_
        refine pw_iload (i := 6) rfl (by decide +kernel) ?_
        refine pq_callS (ν := m_Mo_isOf) (d' := 0) (av := [_, _]) (by decide +kernel) lm_Mo_457 ok_Mo_isOf (show _ = some 2 by decide +kernel) (by omega) (Nat.le_of_ble_eq_true rfl) (ct_Mo_isOf _ _) ?_
        rintro _ _ ⟨rfl, rfl⟩
        refine pn_ifB_eq (off := 11) (tgt := 45) (by decide +kernel) (by decide +kernel) (fun z34 => ?_) (fun z34 => ?_)
        · refine pn_iinc (i := 6) (n := 1) 1 k rfl rfl (by decide) rfl (by decide +kernel) ?_
          refine pw_goto (off := -35) (tgt := 13) (by decide +kernel) (by decide +kernel) ?_
          have w := ih (by omega) I2 L0 hL0 (by rw [yHand_n z34]; exact hK)
          exact w
        · refine pw_aload_n (k4 := 0) rfl (by decide +kernel) ?_
          refine pw_iload_n (k4 := 1) rfl (by decide +kernel) ?_
          refine pw_iload (i := 6) rfl (by decide +kernel) ?_
          refine pw_iload_n (k4 := 3) rfl (by decide +kernel) ?_
          refine pq_callV (ν := m_Mo_goes) (d' := 1) (av := [_, _, _]) (c := 11) (by decide +kernel) lm_Mo_466 ok_Mo_goes (show _ = some 3 by decide +kernel) (ks_m hA) rfl (by decide) (by omega) (Nat.le_of_ble_eq_true rfl) (ct_Mo_goes hA (mOK_hand hK hm) hb (by omega) _) ?_
          rintro _ _ ⟨rfl, rfl⟩
          refine pn_iinc (i := 6) (n := 1) 1 k rfl rfl (by decide) rfl (by decide +kernel) ?_
          refine pw_goto (off := -35) (tgt := 13) (by decide +kernel) (by decide +kernel) ?_
          have w := ih (by omega) _ L0 hL0 (by rw [yHand_y z34]; exact hK.goes b k np to)
          exact w
)
  refine pw_aload_n (k4 := 0) rfl (by decide +kernel) ?_
  refine pw_iload_n (k4 := 1) rfl (by decide +kernel) ?_
  refine pw_iload_n (k4 := 2) rfl (by decide +kernel) ?_
  refine pw_iload (i := 4) rfl (by decide +kernel) ?_
  refine pq_callV (ν := m_Mo_changeOf) (d' := 6) (av := [_, _, _]) (c := 11) (by decide +kernel) lm_Mo_463 ok_Mo_changeOf (show _ = some 3 by decide +kernel) (ks_m hA) rfl (by decide) (by omega) (Nat.le_of_ble_eq_true rfl) (ct_Mo_changeOf hA (mOK_rep hJ hm) hb (wfL_rep hJ hwf) (oOK_rep hJ hi.oOK) p hq (fun s hs _ => by rw [yWorth_rep hJ]; exact yWorth_in hi hz hs)) ?_
  rintro _ _ ⟨rfl, ev, f, g, ck, L2, rfl, hL2⟩
  rw [yWt_rep hJ]
  have hJ2 := (rep_cg (I := I) (ev := ev) (f := f) (g := g) (k := ck)).tr hJ
  generalize aU (aU (aU (sI I 134 54 ev) 170 ck) 168 f) 169 g = I2 at hJ2 ⊢
  refine pq_istore (i := 5) (Nat.le_of_ble_eq_true rfl) rfl (by decide +kernel) ?_
  refine pw_iconst (n := 0) (v := 0) (by decide) (by decide +kernel) ?_
  refine pq_istore (i := 6) (Nat.le_of_ble_eq_true rfl) rfl (by decide +kernel) ?_
  by_cases hv : selB (yWt J b ns p) q < 0
  · exact hneg hv I2 L2 hL2 hJ2
  · exact hpos hv 0 (Nat.zero_le _) I2 L2 hL2 hJ2
