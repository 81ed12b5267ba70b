/-! ===== the reference: what is asked ===== -/
theorem yWorth_e (I : Nat → Nat → Int32) (ev : Int32) (b j : Nat) : yWorth (sI I 134 54 ev) b j = yWorth I b j := rfl
/-- an owner that is no person's is below 0 -/
def oOK (I : Nat → Nat → Int32) (b np ns : Nat) : Prop := ∀ k, k < ns → ¬ I 163 (16 * b + k) < 0 → ∃ p, p < np ∧ I 163 (16 * b + k) = nI p
theorem oOK.five {I : Nat → Nat → Int32} {b np ns : Nat} (h : oOK I b np ns) (h5 : np ≤ 5) (k : Nat) (hk : k < ns) : ¬ I 163 (16 * b + k) < 0 → ∃ p, p < 5 ∧ I 163 (16 * b + k) = nI p := fun q => by
  obtain ⟨p, hp, hpe⟩ := h k hk q
  exact ⟨p, by omega, hpe⟩
/-- an answer; what changed is scratch -/
def rA (v : Int32) (I : Nat → Nat → Int32) (P : Nat → Nat → Option Nat) : Option Value → pM → Prop := fun r M => r = some (.int v) ∧ ∃ I' L', M = (I', L', P) ∧ rep I' I
def rAJ (v : Int64) (I : Nat → Nat → Int32) (P : Nat → Nat → Option Nat) : Option Value → pM → Prop := fun r M => r = some (.long v) ∧ ∃ I' L', M = (I', L', P) ∧ rep I' I
theorem rep_t {I : Nat → Nat → Int32} {x : Int32} : rep (sI I 134 2 x) I := (rep.rf I).scr (by decide) x
theorem rep_te {I : Nat → Nat → Int32} {x y : Int32} : rep (sI (sI I 134 2 x) 134 54 y) I := (rep_t (x := x)).scr (by decide) y

theorem ct_Mo_fails {sh : List pSh} {I : Nat → Nat → Int32} {L : Nat → Nat → Int64} {P : Nat → Nat → Option Nat} (hA : kA sh P) (x : Int32) : pCn m_Mo_fails 0 [.ref 134, .int x] sh (I, L, P) (rI 0 (sI I 134 2 x, L, P)) := by
  refine pCn_of (by decide +kernel) (Nat.le_of_ble_eq_true rfl) ?_
  refine pw_aload_n (k4 := 0) rfl (by decide +kernel) ?_
  refine pw_iload_n (k4 := 1) rfl (by decide +kernel) ?_
  refine pq_putI (c := 11) (k := 2) (ks_m hA) (by decide) (by decide) lf_Mo_175 (Or.inl rfl) (by decide +kernel) ?_
  refine pw_iconst (n := 0) (v := 0) (by decide) (by decide +kernel) ?_
  exact pq_iret rfl (by decide +kernel) ⟨rfl, rfl⟩

def yOne (I : Nat → Nat → Int32) (b : Nat) (wh : Int32) (k : Nat) : Int32 := if wh = 0 then yWorth I b k else if wh = 1 then 1 else 1 <<< (nI k &&& 31)
def yOf (I : Nat → Nat → Int32) (b : Nat) (q wh : Int32) : Nat → Int32
  | 0 => 0
  | k + 1 => if I 163 (16 * b + k) = q then yOf I b q wh k + yOne I b wh k else yOf I b q wh k
theorem yOf_y {I : Nat → Nat → Int32} {b k : Nat} {q wh : Int32} (h : I 163 (16 * b + k) = q) : yOf I b q wh (k + 1) = yOf I b q wh k + yOne I b wh k := if_pos h
theorem yOf_n {I : Nat → Nat → Int32} {b k : Nat} {q wh : Int32} (h : ¬ I 163 (16 * b + k) = q) : yOf I b q wh (k + 1) = yOf I b q wh k := if_neg h
theorem yOf_2 {I : Nat → Nat → Int32} {b : Nat} {q wh x : Int32} : ∀ {n : Nat}, yOf (sI I 134 2 x) b q wh n = yOf I b q wh n
  | 0 => rfl
  | n + 1 => by
    unfold yOf
    rw [yOf_2]
    rfl
def yAll (I : Nat → Nat → Int32) (b : Nat) : Nat → Int32
  | 0 => 0
  | k + 1 => yAll I b k + yWorth I b k

theorem yAll_2 {I : Nat → Nat → Int32} {b : Nat} {x : Int32} : ∀ {n : Nat}, yAll (sI I 134 2 x) b n = yAll I b n
  | 0 => rfl
  | n + 1 => by
    unfold yAll
    rw [yAll_2]
    rfl

theorem ct_Mo_ofOne {sh : List pSh} {I : Nat → Nat → Int32} {L : Nat → Nat → Int64} {P : Nat → Nat → Option Nat} (hA : kA sh P) {np ns nd : Nat} (hm : mOK I np ns nd) {b : Nat} (hb : b < 2) (hwf : wfL I) (ho : oOK I b np ns) (q wh : Int32) : pCn m_Mo_ofOne 6 [.ref 134, .int (nI b), .int q, .int wh] sh (I, L, P) (rIe (yOf I b q wh ns) I L P) := by
  refine pCn_of (by decide +kernel) (Nat.le_of_ble_eq_true rfl) ?_
  have h5 := hm.2.1
  have h16 := hm.2.2.2.1
  have hoo := ho.five h5
  have hL := pUpTo ns (fun k => ∀ (ev : Int32) (L0 : Nat → Nat → Int64), lfm L0 L → pWn m_Mo_ofOne 6 sh (rIe (yOf I b q wh ns) I L P) 6 [some (.ref 134), some (.int (nI b)), some (.int q), some (.int wh), some (.int (yOf I b q wh k)), some (.int (nI k))] [] (sI I 134 54 ev, L0, P)) (by
    intro k hk ih ev L0 hL0
    refine pw_iload (i := 5) rfl (by decide +kernel) ?_
    refine pw_aload_n (k4 := 0) rfl (by decide +kernel) ?_
    refine pq_getI (c := 11) (k := 13) (ks_m hA) (by decide) (by decide) lf_Mo_262 (by decide +kernel) ?_
    refine pn_val (nI (ns)) hm.2.2.1 ?_
    refine pn_icmp_ge (off := 60) (tgt := 72) k ns rfl rfl (by omega) (by omega) (by decide +kernel) (by decide +kernel) (fun z12 => ?_) (fun z12 => ?_)
    · obtain rfl : k = ns := by omega
      refine pw_iload (i := 4) rfl (by decide +kernel) ?_
      exact pq_iret rfl (by decide +kernel) ⟨rfl, ev, L0, rfl, hL0⟩
    · refine pw_aload_n (k4 := 0) rfl (by decide +kernel) ?_
      refine pq_getP (c := 11) (k := 56) (ks_m hA) (by decide) (by decide) (kp_m_whose hA) lf_Mo_100 (by decide +kernel) ?_
      refine pw_bipush (n := 16) (v := 16) (by decide) (by decide +kernel) ?_
      refine pw_iload_n (k4 := 1) rfl (by decide +kernel) ?_
      refine pn_imul 16 b rfl rfl (by decide +kernel) ?_
      refine pw_iload (i := 5) rfl (by decide +kernel) ?_
      refine pn_iadd (16 * b) k rfl rfl (by decide +kernel) ?_
      refine pq_iald ((16 * b) + k) rfl (by omega) (by decide) (ks_m_whose hA) (by decide +kernel) ?_
      refine pw_iload_n (k4 := 2) rfl (by decide +kernel) ?_
      refine pw_icmp_eq (off := 6) (tgt := 34) (by decide +kernel) (by decide +kernel) (fun z28 => ?_) (fun z28 => ?_)
      · refine pw_iload (i := 4) rfl (by decide +kernel) ?_
        refine pw_iload_n (k4 := 3) rfl (by decide +kernel) ?_
        refine pw_if_ne (off := 13) (tgt := 50) (by decide +kernel) (by decide +kernel) (fun z37 => ?_) (fun z37 => ?_)
        · refine pw_iload_n (k4 := 3) rfl (by decide +kernel) ?_
          refine pw_iconst (n := 1) (v := 1) (by decide) (by decide +kernel) ?_
          refine pw_icmp_ne (off := 7) (tgt := 59) (by decide +kernel) (by decide +kernel) (fun z52 => ?_) (fun z52 => ?_)
          · refine pw_iconst (n := 1) (v := 1) (by decide) (by decide +kernel) ?_
            refine pw_iload (i := 5) rfl (by decide +kernel) ?_
            refine pw_ishl (by decide +kernel) ?_
            refine pw_iadd (by decide +kernel) ?_
            refine pq_istore (i := 4) (Nat.le_of_ble_eq_true rfl) rfl (by decide +kernel) ?_
            refine pn_iinc (i := 5) (n := 1) 1 k rfl rfl (by decide) rfl (by decide +kernel) ?_
            refine pw_goto (off := -63) (tgt := 6) (by decide +kernel) (by decide +kernel) ?_
            have w := ih (by omega) ev L0 hL0
            rw [yOf_y (I := I) z28, show yOne I b wh k = _ from (if_neg z37).trans (if_neg z52)] at w
            exact w
          · refine pw_iconst (n := 1) (v := 1) (by decide) (by decide +kernel) ?_
            refine pw_goto (off := 7) (tgt := 63) (by decide +kernel) (by decide +kernel) ?_
            refine pw_iadd (by decide +kernel) ?_
            refine pq_istore (i := 4) (Nat.le_of_ble_eq_true rfl) rfl (by decide +kernel) ?_
            refine pn_iinc (i := 5) (n := 1) 1 k rfl rfl (by decide) rfl (by decide +kernel) ?_
            refine pw_goto (off := -63) (tgt := 6) (by decide +kernel) (by decide +kernel) ?_
            have w := ih (by omega) ev L0 hL0
            rw [yOf_y (I := I) z28, show yOne I b wh k = _ from (if_neg z37).trans (if_pos z52)] at w
            exact w
        · refine pw_aload_n (k4 := 0) rfl (by decide +kernel) ?_
          refine pw_iload_n (k4 := 1) rfl (by decide +kernel) ?_
          refine pw_iload (i := 5) rfl (by decide +kernel) ?_
          refine pq_callV (ν := m_Mo_worthOf) (d' := 5) (av := [_, _]) (c := 11) (by decide +kernel) lm_Mo_434 ok_Mo_worthOf (show _ = some 2 by decide +kernel) (ks_m hA) rfl (by decide) (by omega) (Nat.le_of_ble_eq_true rfl) (ct_Mo_worthOf hA (by exact hwf) (b := b) (j := k) (by omega) (by omega) (by exact hoo _ (by omega))) ?_
          rintro _ _ ⟨rfl, ev2, L2, rfl, hL2⟩
          rw [sI_sI, yWorth_e]
          refine pw_goto (off := 16) (tgt := 63) (by decide +kernel) (by decide +kernel) ?_
          refine pw_iadd (by decide +kernel) ?_
          refine pq_istore (i := 4) (Nat.le_of_ble_eq_true rfl) rfl (by decide +kernel) ?_
          refine pn_iinc (i := 5) (n := 1) 1 k rfl rfl (by decide) rfl (by decide +kernel) ?_
          refine pw_goto (off := -63) (tgt := 6) (by decide +kernel) (by decide +kernel) ?_
          have w := ih (by omega) ev2 L2 (hL2.tr hL0)
          rw [yOf_y (I := I) z28, show yOne I b wh k = _ from if_pos z37] at w
          exact w
      · refine pw_goto (off := 35) (tgt := 66) (by decide +kernel) (by decide +kernel) ?_
        refine pn_iinc (i := 5) (n := 1) 1 k rfl rfl (by decide) rfl (by decide +kernel) ?_
        refine pw_goto (off := -63) (tgt := 6) (by decide +kernel) (by decide +kernel) ?_
        have w := ih (by omega) ev L0 hL0
        rw [yOf_n (I := I) z28] at w
        exact w
)
  refine pw_iconst (n := 0) (v := 0) (by decide) (by decide +kernel) ?_
  refine pq_istore (i := 4) (Nat.le_of_ble_eq_true rfl) rfl (by decide +kernel) ?_
  refine pw_iconst (n := 0) (v := 0) (by decide) (by decide +kernel) ?_
  refine pq_istore (i := 5) (Nat.le_of_ble_eq_true rfl) rfl (by decide +kernel) ?_
  have w := hL 0 (Nat.zero_le _) (I 134 54) L (lfm.rf L)
  rw [sI_same] at w
  exact w

theorem ct_Mo_allWorth {sh : List pSh} {I : Nat → Nat → Int32} {L : Nat → Nat → Int64} {P : Nat → Nat → Option Nat} (hA : kA sh P) {np ns nd : Nat} (hm : mOK I np ns nd) {b : Nat} (hb : b < 2) (hwf : wfL I) (ho : oOK I b np ns) : pCn m_Mo_allWorth 6 [.ref 134, .int (nI b)] sh (I, L, P) (rIe (yAll I b ns) I L P) := by
  refine pCn_of (by decide +kernel) (Nat.le_of_ble_eq_true rfl) ?_
  have h5 := hm.2.1
  have h16 := hm.2.2.2.1
  have hoo := ho.five h5
  have hL := pUpTo ns (fun k => ∀ (ev : Int32) (L0 : Nat → Nat → Int64), lfm L0 L → pWn m_Mo_allWorth 6 sh (rIe (yAll I b ns) I L P) 4 [some (.ref 134), some (.int (nI b)), some (.int (yAll I b k)), some (.int (nI k))] [] (sI I 134 54 ev, L0, P)) (by
    intro k hk ih ev L0 hL0
    refine pw_iload_n (k4 := 3) rfl (by decide +kernel) ?_
    refine pw_aload_n (k4 := 0) rfl (by decide +kernel) ?_
    refine pq_getI (c := 11) (k := 13) (ks_m hA) (by decide) (by decide) lf_Mo_262 (by decide +kernel) ?_
    refine pn_val (nI (ns)) hm.2.2.1 ?_
    refine pn_icmp_ge (off := 18) (tgt := 27) k ns rfl rfl (by omega) (by omega) (by decide +kernel) (by decide +kernel) (fun z9 => ?_) (fun z9 => ?_)
    · obtain rfl : k = ns := by omega
      refine pw_iload_n (k4 := 2) rfl (by decide +kernel) ?_
      exact pq_iret rfl (by decide +kernel) ⟨rfl, ev, L0, rfl, hL0⟩
    · refine pw_iload_n (k4 := 2) rfl (by decide +kernel) ?_
      refine pw_aload_n (k4 := 0) rfl (by decide +kernel) ?_
      refine pw_iload_n (k4 := 1) rfl (by decide +kernel) ?_
      refine pw_iload_n (k4 := 3) rfl (by decide +kernel) ?_
      refine pq_callV (ν := m_Mo_worthOf) (d' := 5) (av := [_, _]) (c := 11) (by decide +kernel) lm_Mo_434 ok_Mo_worthOf (show _ = some 2 by decide +kernel) (ks_m hA) rfl (by decide) (by omega) (Nat.le_of_ble_eq_true rfl) (ct_Mo_worthOf hA (by exact hwf) (b := b) (j := k) (by omega) (by omega) (by exact hoo _ (by omega))) ?_
      rintro _ _ ⟨rfl, ev2, L2, rfl, hL2⟩
      rw [sI_sI, yWorth_e]
      refine pw_iadd (by decide +kernel) ?_
      refine pq_istore_n (k4 := 2) (Nat.le_of_ble_eq_true rfl) rfl (by decide +kernel) ?_
      refine pn_iinc (i := 3) (n := 1) 1 k rfl rfl (by decide) rfl (by decide +kernel) ?_
      refine pw_goto (off := -20) (tgt := 4) (by decide +kernel) (by decide +kernel) ?_
      exact ih (by omega) ev2 L2 (hL2.tr hL0)
)
  refine pw_iconst (n := 0) (v := 0) (by decide) (by decide +kernel) ?_
  refine pq_istore_n (k4 := 2) (Nat.le_of_ble_eq_true rfl) rfl (by decide +kernel) ?_
  refine pw_iconst (n := 0) (v := 0) (by decide) (by decide +kernel) ?_
  refine pq_istore_n (k4 := 3) (Nat.le_of_ble_eq_true rfl) rfl (by decide +kernel) ?_
  have w := hL 0 (Nat.zero_le _) (I 134 54) L (lfm.rf L)
  rw [sI_same] at w
  exact w

abbrev yPairs (I : Nat → Nat → Int32) (l r : Int32) : Prop := yThere I l ∧ yThere I r ∧ I 142 (ixn l) = 0 ∧ I 142 (ixn r) = 1
def yPersonQ (I : Nat → Nat → Int32) (ns : Nat) (p q : Int32) : Int32 := if ¬ (yHasP I p ∧ 0 ≤ q ∧ q ≤ 4) then -1 else if q = 0 then I 164 (ixn p) else if q = 1 then I 165 (ixn p) else yOf I 0 p (q - 2) ns
def yDebtQ (I : Nat → Nat → Int32) (d q : Int32) : Int32 :=
  if ¬ (0 ≤ d ∧ d < I 134 14) then -1 else if q = 0 then I 147 (ixn d) else if q = 1 then I 148 (ixn d) else if q = 2 then I 149 (ixn d) else if q = 3 then I 150 (ixn d) else if q = 4 then I 166 (ixn d) else -1
def yPairQ (I : Nat → Nat → Int32) (l r : Int32) : Int32 := if yPairs I l r then yPairB I (ixn l) (ixn r) else -1

theorem ct_Mo_person {sh : List pSh} {I : Nat → Nat → Int32} {L : Nat → Nat → Int64} {P : Nat → Nat → Option Nat} (hA : kA sh P) {np ns nd : Nat} (hm : mOK I np ns nd) (hwf : wfL I) (ho : oOK I 0 np ns) (p q : Int32) : pCn m_Mo_person 7 [.ref 134, .int p, .int q] sh (I, L, P) (rA (yPersonQ I ns p q) I P) := by
  refine pCn_of (by decide +kernel) (Nat.le_of_ble_eq_true rfl) ?_
  have h5 := hm.2.1
  have h16 := hm.2.2.2.1
  have h8 := hm.2.2.2.2.2
  refine pw_aload_n (k4 := 0) rfl (by decide +kernel) ?_
  refine pw_iconst (n := 0) (v := 0) (by decide) (by decide +kernel) ?_
  refine pq_putI (c := 11) (k := 2) (ks_m hA) (by decide) (by decide) lf_Mo_175 (Or.inl rfl) (by decide +kernel) ?_
  refine pw_aload_n (k4 := 0) rfl (by decide +kernel) ?_
  refine pw_iload_n (k4 := 1) rfl (by decide +kernel) ?_
  refine pq_callV (ν := m_Mo_isPerson) (d' := 0) (av := [_]) (c := 11) (by decide +kernel) lm_Mo_440 ok_Mo_isPerson (show _ = some 1 by decide +kernel) (ks_m hA) rfl (by decide) (by omega) (Nat.le_of_ble_eq_true rfl) (ct_Mo_isPerson hA _) ?_
  rintro _ _ ⟨rfl, rfl⟩
  refine pn_ifB_eq (off := 12) (tgt := 22) (by decide +kernel) (by decide +kernel) (fun z10 => ?_) (fun z10 => ?_)
  · refine pw_iconst (n := -1) (v := -1) (by decide) (by decide +kernel) ?_
    exact pq_iret rfl (by decide +kernel) ⟨congrArg (fun z => some (Value.int z)) (if_pos (fun q => z10 q.1)).symm, _, _, rfl, rep_t⟩
  · refine pw_iload_n (k4 := 2) rfl (by decide +kernel) ?_
    refine pw_iconst (n := 0) (v := 0) (by decide) (by decide +kernel) ?_
    refine pw_iconst (n := 4) (v := 4) (by decide) (by decide +kernel) ?_
    refine pq_callS (ν := m_Mo_isIn) (d' := 0) (av := [_, _, _]) (by decide +kernel) lm_Mo_220 ok_Mo_isIn (show _ = some 3 by decide +kernel) (by omega) (Nat.le_of_ble_eq_true rfl) (ct_Mo_isIn _ _ _) ?_
    rintro _ _ ⟨rfl, rfl⟩
    refine pn_ifB_ne (off := 5) (tgt := 24) (by decide +kernel) (by decide +kernel) (fun z19 => ?_) (fun z19 => ?_)
    · obtain ⟨j, hj, rfl⟩ := nIn hm.1 (by omega) z10
      refine pw_iload_n (k4 := 2) rfl (by decide +kernel) ?_
      refine pw_if_ne (off := 12) (tgt := 37) (by decide +kernel) (by decide +kernel) (fun z25 => ?_) (fun z25 => ?_)
      · refine pw_iload_n (k4 := 2) rfl (by decide +kernel) ?_
        refine pw_iconst (n := 1) (v := 1) (by decide) (by decide +kernel) ?_
        refine pw_icmp_ne (off := 12) (tgt := 51) (by decide +kernel) (by decide +kernel) (fun z39 => ?_) (fun z39 => ?_)
        · refine pw_aload_n (k4 := 0) rfl (by decide +kernel) ?_
          refine pw_iconst (n := 0) (v := 0) (by decide) (by decide +kernel) ?_
          refine pw_iload_n (k4 := 1) rfl (by decide +kernel) ?_
          refine pw_iload_n (k4 := 2) rfl (by decide +kernel) ?_
          refine pw_iconst (n := 2) (v := 2) (by decide) (by decide +kernel) ?_
          refine pw_isub (by decide +kernel) ?_
          refine pq_callV (ν := m_Mo_ofOne) (d' := 6) (av := [_, _, _]) (c := 11) (by decide +kernel) lm_Mo_443 ok_Mo_ofOne (show _ = some 3 by decide +kernel) (ks_m hA) rfl (by decide) (by omega) (Nat.le_of_ble_eq_true rfl) (ct_Mo_ofOne hA (by exact hm) (b := 0) (by decide) (by exact hwf) (by exact ho) _ _) ?_
          rintro _ _ ⟨rfl, ev, L2, rfl, hL2⟩
          exact pq_iret rfl (by decide +kernel) ⟨congrArg (fun z => some (Value.int z)) (by unfold yPersonQ; rw [if_neg (fun q => q ⟨z10, z19⟩), if_neg z25, if_neg z39, yOf_2]), _, _, rfl, rep_te⟩
        · refine pw_aload_n (k4 := 0) rfl (by decide +kernel) ?_
          refine pq_getP (c := 11) (k := 58) (ks_m hA) (by decide) (by decide) (kp_m_rightOn hA) lf_Mo_106 (by decide +kernel) ?_
          refine pw_iload_n (k4 := 1) rfl (by decide +kernel) ?_
          refine pq_iald j rfl (by omega) (by decide) (ks_m_rightOn hA) (by decide +kernel) ?_
          refine pw_goto (off := 12) (tgt := 60) (by decide +kernel) (by decide +kernel) ?_
          exact pq_iret rfl (by decide +kernel) ⟨congrArg (fun z => some (Value.int z)) (by unfold yPersonQ; rw [if_neg (fun q => q ⟨z10, z19⟩), if_neg z25, if_pos z39, ixn_nI (by omega)] <;> rfl), _, _, rfl, rep_t⟩
      · refine pw_aload_n (k4 := 0) rfl (by decide +kernel) ?_
        refine pq_getP (c := 11) (k := 57) (ks_m hA) (by decide) (by decide) (kp_m_leftOn hA) lf_Mo_103 (by decide +kernel) ?_
        refine pw_iload_n (k4 := 1) rfl (by decide +kernel) ?_
        refine pq_iald j rfl (by omega) (by decide) (ks_m_leftOn hA) (by decide +kernel) ?_
        refine pw_goto (off := 26) (tgt := 60) (by decide +kernel) (by decide +kernel) ?_
        exact pq_iret rfl (by decide +kernel) ⟨congrArg (fun z => some (Value.int z)) (by unfold yPersonQ; rw [if_neg (fun q => q ⟨z10, z19⟩), if_pos z25, ixn_nI (by omega)] <;> rfl), _, _, rfl, rep_t⟩
    · refine pw_iconst (n := -1) (v := -1) (by decide) (by decide +kernel) ?_
      exact pq_iret rfl (by decide +kernel) ⟨congrArg (fun z => some (Value.int z)) (if_pos (fun q => z19 q.2)).symm, _, _, rfl, rep_t⟩

theorem ct_Mo_debt {sh : List pSh} {I : Nat → Nat → Int32} {L : Nat → Nat → Int64} {P : Nat → Nat → Option Nat} (hA : kA sh P) {np ns nd : Nat} (hm : mOK I np ns nd) (p q : Int32) : pCn m_Mo_debt 0 [.ref 134, .int p, .int q] sh (I, L, P) (rA (yDebtQ I p q) I P) := by
  refine pCn_of (by decide +kernel) (Nat.le_of_ble_eq_true rfl) ?_
  have h5 := hm.2.1
  have h16 := hm.2.2.2.1
  have h8 := hm.2.2.2.2.2
  refine pw_aload_n (k4 := 0) rfl (by decide +kernel) ?_
  refine pw_iconst (n := 0) (v := 0) (by decide) (by decide +kernel) ?_
  refine pq_putI (c := 11) (k := 2) (ks_m hA) (by decide) (by decide) lf_Mo_175 (Or.inl rfl) (by decide +kernel) ?_
  refine pw_iload_n (k4 := 1) rfl (by decide +kernel) ?_
  refine pw_if_lt (off := 11) (tgt := 17) (by decide +kernel) (by decide +kernel) (fun z6 => ?_) (fun z6 => ?_)
  · refine pw_iconst (n := -1) (v := -1) (by decide) (by decide +kernel) ?_
    exact pq_iret rfl (by decide +kernel) ⟨congrArg (fun z => some (Value.int z)) (if_pos (fun q => Int32.not_lt.mpr q.1 z6)).symm, _, _, rfl, rep_t⟩
  · refine pw_iload_n (k4 := 1) rfl (by decide +kernel) ?_
    refine pw_aload_n (k4 := 0) rfl (by decide +kernel) ?_
    refine pq_getI (c := 11) (k := 14) (ks_m hA) (by decide) (by decide) lf_Mo_265 (by decide +kernel) ?_
    refine pw_icmp_lt (off := 5) (tgt := 19) (by decide +kernel) (by decide +kernel) (fun z14 => ?_) (fun z14 => ?_)
    · obtain ⟨j, hj, rfl⟩ := nIn hm.2.2.2.2.1 (by omega) ⟨Int32.not_lt.mp z6, z14⟩
      refine pw_iload_n (k4 := 2) rfl (by decide +kernel) ?_
      have hsw20 : decode m_Mo_debt.2.1 20 = .ok (.tableswitch 71 0 4 #[36, 43, 50, 57, 64], 36) := by decide +kernel
      rcases swIn q 0 4 (by decide) (by decide) with z20 | ⟨j20, z20, y20, e20⟩
      · refine pw_tableOut (tgt := 91) hsw20 z20 (by decide +kernel) ?_
        refine pw_iconst (n := -1) (v := -1) (by decide) (by decide +kernel) ?_
        exact pq_iret rfl (by decide +kernel) ⟨congrArg (fun z => some (Value.int z)) (by unfold yDebtQ; rw [if_neg (fun q => q ⟨Int32.not_lt.mp z6, z14⟩), if_neg (show ¬ q = 0 from sw_ne (k := 0) z20 (by decide) (by decide) (by decide)), if_neg (show ¬ q = 1 from sw_ne (k := 1) z20 (by decide) (by decide) (by decide)), if_neg (show ¬ q = 2 from sw_ne (k := 2) z20 (by decide) (by decide) (by decide)), if_neg (show ¬ q = 3 from sw_ne (k := 3) z20 (by decide) (by decide) (by decide)), if_neg (show ¬ q = 4 from sw_ne (k := 4) z20 (by decide) (by decide) (by decide))]), _, _, rfl, rep_t⟩
      · rcases (show j20 = 0 ∨ j20 = 1 ∨ j20 = 2 ∨ j20 = 3 ∨ j20 = 4 by omega) with rfl | rfl | rfl | rfl | rfl
        · refine pw_tableIn (off := 36) (tgt := 56) hsw20 (by rw [e20]; decide) (by rw [e20]; decide) (by rw [e20]; decide) (by decide +kernel) ?_
          refine pw_aload_n (k4 := 0) rfl (by decide +kernel) ?_
          refine pq_getP (c := 11) (k := 33) (ks_m hA) (by decide) (by decide) (kp_m_debtBy hA) lf_Mo_50 (by decide +kernel) ?_
          refine pw_iload_n (k4 := 1) rfl (by decide +kernel) ?_
          refine pq_iald j rfl (by omega) (by decide) (ks_m_debtBy hA) (by decide +kernel) ?_
          exact pq_iret rfl (by decide +kernel) ⟨congrArg (fun z => some (Value.int z)) (by unfold yDebtQ; rw [if_neg (fun q => q ⟨Int32.not_lt.mp z6, z14⟩), if_pos (by rw [e20]; rfl), ixn_nI (by omega)] <;> rfl), _, _, rfl, rep_t⟩
        · refine pw_tableIn (off := 43) (tgt := 63) hsw20 (by rw [e20]; decide) (by rw [e20]; decide) (by rw [e20]; decide) (by decide +kernel) ?_
          refine pw_aload_n (k4 := 0) rfl (by decide +kernel) ?_
          refine pq_getP (c := 11) (k := 34) (ks_m hA) (by decide) (by decide) (kp_m_debtTo hA) lf_Mo_53 (by decide +kernel) ?_
          refine pw_iload_n (k4 := 1) rfl (by decide +kernel) ?_
          refine pq_iald j rfl (by omega) (by decide) (ks_m_debtTo hA) (by decide +kernel) ?_
          exact pq_iret rfl (by decide +kernel) ⟨congrArg (fun z => some (Value.int z)) (by unfold yDebtQ; rw [if_neg (fun q => q ⟨Int32.not_lt.mp z6, z14⟩), if_neg (by rw [e20]; decide), if_pos (by rw [e20]; rfl), ixn_nI (by omega)] <;> rfl), _, _, rfl, rep_t⟩
        · refine pw_tableIn (off := 50) (tgt := 70) hsw20 (by rw [e20]; decide) (by rw [e20]; decide) (by rw [e20]; decide) (by decide +kernel) ?_
          refine pw_aload_n (k4 := 0) rfl (by decide +kernel) ?_
          refine pq_getP (c := 11) (k := 35) (ks_m hA) (by decide) (by decide) (kp_m_debtMuch hA) lf_Mo_56 (by decide +kernel) ?_
          refine pw_iload_n (k4 := 1) rfl (by decide +kernel) ?_
          refine pq_iald j rfl (by omega) (by decide) (ks_m_debtMuch hA) (by decide +kernel) ?_
          exact pq_iret rfl (by decide +kernel) ⟨congrArg (fun z => some (Value.int z)) (by unfold yDebtQ; rw [if_neg (fun q => q ⟨Int32.not_lt.mp z6, z14⟩), if_neg (by rw [e20]; decide), if_neg (by rw [e20]; decide), if_pos (by rw [e20]; rfl), ixn_nI (by omega)] <;> rfl), _, _, rfl, rep_t⟩
        · refine pw_tableIn (off := 57) (tgt := 77) hsw20 (by rw [e20]; decide) (by rw [e20]; decide) (by rw [e20]; decide) (by decide +kernel) ?_
          refine pw_aload_n (k4 := 0) rfl (by decide +kernel) ?_
          refine pq_getP (c := 11) (k := 36) (ks_m hA) (by decide) (by decide) (kp_m_debtDay hA) lf_Mo_59 (by decide +kernel) ?_
          refine pw_iload_n (k4 := 1) rfl (by decide +kernel) ?_
          refine pq_iald j rfl (by omega) (by decide) (ks_m_debtDay hA) (by decide +kernel) ?_
          exact pq_iret rfl (by decide +kernel) ⟨congrArg (fun z => some (Value.int z)) (by unfold yDebtQ; rw [if_neg (fun q => q ⟨Int32.not_lt.mp z6, z14⟩), if_neg (by rw [e20]; decide), if_neg (by rw [e20]; decide), if_neg (by rw [e20]; decide), if_pos (by rw [e20]; rfl), ixn_nI (by omega)] <;> rfl), _, _, rfl, rep_t⟩
        · refine pw_tableIn (off := 64) (tgt := 84) hsw20 (by rw [e20]; decide) (by rw [e20]; decide) (by rw [e20]; decide) (by decide +kernel) ?_
          refine pw_aload_n (k4 := 0) rfl (by decide +kernel) ?_
          refine pq_getP (c := 11) (k := 59) (ks_m hA) (by decide) (by decide) (kp_m_became hA) lf_Mo_109 (by decide +kernel) ?_
          refine pw_iload_n (k4 := 1) rfl (by decide +kernel) ?_
          refine pq_iald j rfl (by omega) (by decide) (ks_m_became hA) (by decide +kernel) ?_
          exact pq_iret rfl (by decide +kernel) ⟨congrArg (fun z => some (Value.int z)) (by unfold yDebtQ; rw [if_neg (fun q => q ⟨Int32.not_lt.mp z6, z14⟩), if_neg (by rw [e20]; decide), if_neg (by rw [e20]; decide), if_neg (by rw [e20]; decide), if_neg (by rw [e20]; decide), if_pos (by rw [e20]; rfl), ixn_nI (by omega)] <;> rfl), _, _, rfl, rep_t⟩
    · refine pw_iconst (n := -1) (v := -1) (by decide) (by decide +kernel) ?_
      exact pq_iret rfl (by decide +kernel) ⟨congrArg (fun z => some (Value.int z)) (if_pos (fun q => z14 q.2)).symm, _, _, rfl, rep_t⟩

theorem ct_Mo_arePair {sh : List pSh} {I : Nat → Nat → Int32} {L : Nat → Nat → Int64} {P : Nat → Nat → Option Nat} (hA : kA sh P) {np ns nd : Nat} (hm : mOK I np ns nd) (l r : Int32) : pCn m_Mo_arePair 2 [.ref 134, .int l, .int r] sh (I, L, P) (rI (B (yPairs I l r)) (I, L, P)) := by
  refine pCn_of (by decide +kernel) (Nat.le_of_ble_eq_true rfl) ?_
  have h5 := hm.2.1
  have h16 := hm.2.2.2.1
  have h8 := hm.2.2.2.2.2
  refine pw_aload_n (k4 := 0) rfl (by decide +kernel) ?_
  refine pw_iload_n (k4 := 1) rfl (by decide +kernel) ?_
  refine pq_callV (ν := m_Mo_isThere) (d' := 1) (av := [_]) (c := 11) (by decide +kernel) lm_Mo_446 ok_Mo_isThere (show _ = some 1 by decide +kernel) (ks_m hA) rfl (by decide) (by omega) (Nat.le_of_ble_eq_true rfl) (ct_Mo_isThere hA (by exact hm) _) ?_
  rintro _ _ ⟨rfl, rfl⟩
  refine pn_ifB_eq (off := 34) (tgt := 39) (by decide +kernel) (by decide +kernel) (fun z5 => ?_) (fun z5 => ?_)
  · refine pw_iconst (n := 0) (v := 0) (by decide) (by decide +kernel) ?_
    exact pq_zret rfl (by decide) (by decide +kernel) ⟨congrArg (fun z => some (Value.int z)) (B_f (fun q => z5 q.1)).symm, rfl⟩
  · obtain ⟨i, hi, rfl⟩ := nIn hm.2.2.1 (by omega) z5.1
    refine pw_aload_n (k4 := 0) rfl (by decide +kernel) ?_
    refine pw_iload_n (k4 := 2) rfl (by decide +kernel) ?_
    refine pq_callV (ν := m_Mo_isThere) (d' := 1) (av := [_]) (c := 11) (by decide +kernel) lm_Mo_446 ok_Mo_isThere (show _ = some 1 by decide +kernel) (ks_m hA) rfl (by decide) (by omega) (Nat.le_of_ble_eq_true rfl) (ct_Mo_isThere hA (by exact hm) _) ?_
    rintro _ _ ⟨rfl, rfl⟩
    refine pn_ifB_eq (off := 26) (tgt := 39) (by decide +kernel) (by decide +kernel) (fun z13 => ?_) (fun z13 => ?_)
    · refine pw_iconst (n := 0) (v := 0) (by decide) (by decide +kernel) ?_
      exact pq_zret rfl (by decide) (by decide +kernel) ⟨congrArg (fun z => some (Value.int z)) (B_f (fun q => z13 q.2.1)).symm, rfl⟩
    · obtain ⟨j, hj, rfl⟩ := nIn hm.2.2.1 (by omega) z13.1
      refine pw_aload_n (k4 := 0) rfl (by decide +kernel) ?_
      refine pq_getP (c := 11) (k := 28) (ks_m hA) (by decide) (by decide) (kp_m_sideOf hA) lf_Mo_35 (by decide +kernel) ?_
      refine pw_iload_n (k4 := 1) rfl (by decide +kernel) ?_
      refine pq_iald i rfl (by omega) (by decide) (ks_m_sideOf hA) (by decide +kernel) ?_
      refine pw_if_ne (off := 17) (tgt := 39) (by decide +kernel) (by decide +kernel) (fun z22 => ?_) (fun z22 => ?_)
      · refine pw_iconst (n := 0) (v := 0) (by decide) (by decide +kernel) ?_
        exact pq_zret rfl (by decide) (by decide +kernel) ⟨congrArg (fun z => some (Value.int z)) (B_f (fun q => z22 (by have w := q.2.2.1; rwa [ixn_nI (by omega)] at w))).symm, rfl⟩
      · refine pw_aload_n (k4 := 0) rfl (by decide +kernel) ?_
        refine pq_getP (c := 11) (k := 28) (ks_m hA) (by decide) (by decide) (kp_m_sideOf hA) lf_Mo_35 (by decide +kernel) ?_
        refine pw_iload_n (k4 := 2) rfl (by decide +kernel) ?_
        refine pq_iald j rfl (by omega) (by decide) (ks_m_sideOf hA) (by decide +kernel) ?_
        refine pw_iconst (n := 1) (v := 1) (by decide) (by decide +kernel) ?_
        refine pw_icmp_ne (off := 7) (tgt := 39) (by decide +kernel) (by decide +kernel) (fun z32 => ?_) (fun z32 => ?_)
        · refine pw_iconst (n := 0) (v := 0) (by decide) (by decide +kernel) ?_
          exact pq_zret rfl (by decide) (by decide +kernel) ⟨congrArg (fun z => some (Value.int z)) (B_f (fun q => z32 (by have w := q.2.2.2; rwa [ixn_nI (by omega)] at w))).symm, rfl⟩
        · refine pw_iconst (n := 1) (v := 1) (by decide) (by decide +kernel) ?_
          refine pw_goto (off := 4) (tgt := 40) (by decide +kernel) (by decide +kernel) ?_
          exact pq_zret rfl (by decide) (by decide +kernel) ⟨congrArg (fun z => some (Value.int z)) (B_t ⟨z5, z13, by rw [ixn_nI (by omega)]; exact z22, by rw [ixn_nI (by omega)]; exact z32⟩).symm, rfl⟩

theorem ct_Mo_pair {sh : List pSh} {I : Nat → Nat → Int32} {L : Nat → Nat → Int64} {P : Nat → Nat → Option Nat} (hA : kA sh P) {np ns nd : Nat} (hm : mOK I np ns nd) (hwf : wfL I) (l r : Int32) : pCn m_Mo_pair 5 [.ref 134, .int l, .int r] sh (I, L, P) (rA (yPairQ I l r) I P) := by
  refine pCn_of (by decide +kernel) (Nat.le_of_ble_eq_true rfl) ?_
  have h5 := hm.2.1
  have h16 := hm.2.2.2.1
  have h8 := hm.2.2.2.2.2
  refine pw_aload_n (k4 := 0) rfl (by decide +kernel) ?_
  refine pw_iconst (n := 0) (v := 0) (by decide) (by decide +kernel) ?_
  refine pq_putI (c := 11) (k := 2) (ks_m hA) (by decide) (by decide) lf_Mo_175 (Or.inl rfl) (by decide +kernel) ?_
  refine pw_aload_n (k4 := 0) rfl (by decide +kernel) ?_
  refine pw_iload_n (k4 := 1) rfl (by decide +kernel) ?_
  refine pw_iload_n (k4 := 2) rfl (by decide +kernel) ?_
  refine pq_callV (ν := m_Mo_arePair) (d' := 2) (av := [_, _]) (c := 11) (by decide +kernel) lm_Mo_449 ok_Mo_arePair (show _ = some 2 by decide +kernel) (ks_m hA) rfl (by decide) (by omega) (Nat.le_of_ble_eq_true rfl) (ct_Mo_arePair hA (by exact hm) _ _) ?_
  rintro _ _ ⟨rfl, rfl⟩
  refine pn_ifB_eq (off := 12) (tgt := 23) (by decide +kernel) (by decide +kernel) (fun z11 => ?_) (fun z11 => ?_)
  · refine pw_iconst (n := -1) (v := -1) (by decide) (by decide +kernel) ?_
    exact pq_iret rfl (by decide +kernel) ⟨congrArg (fun z => some (Value.int z)) (if_neg z11).symm, _, _, rfl, rep_t⟩
  · obtain ⟨i, hi, rfl⟩ := nIn hm.2.2.1 (by omega) z11.1.1
    obtain ⟨j, hj, rfl⟩ := nIn hm.2.2.1 (by omega) z11.2.1.1
    refine pw_aload_n (k4 := 0) rfl (by decide +kernel) ?_
    refine pw_iload_n (k4 := 1) rfl (by decide +kernel) ?_
    refine pw_iload_n (k4 := 2) rfl (by decide +kernel) ?_
    refine pq_callV (ν := m_Mo_pairOf) (d' := 4) (av := [_, _]) (c := 11) (by decide +kernel) lm_Mo_452 ok_Mo_pairOf (show _ = some 2 by decide +kernel) (ks_m hA) rfl (by decide) (by omega) (Nat.le_of_ble_eq_true rfl) (ct_Mo_pairOf hA (by exact hwf) (i := i) (j := j) (by omega) (by omega)) ?_
    rintro _ _ ⟨rfl, ev, L2, rfl, hL2⟩
    refine pw_goto (off := 4) (tgt := 24) (by decide +kernel) (by decide +kernel) ?_
    exact pq_iret rfl (by decide +kernel) ⟨congrArg (fun z => some (Value.int z)) (by unfold yPairQ; rw [if_pos (show yPairs I (nI i) (nI j) from z11), ixn_nI (by omega), ixn_nI (by omega)]; rfl), _, _, rfl, rep_te⟩

def yLawV (I : Nat → Nat → Int32) (r : Nat) (nm : Nat → Int64) : Int64 := if I 152 r = 0 then ERR else (zLaw I r nm).getD ERR
def yLawQ (I : Nat → Nat → Int32) (q s u : Int32) : Int64 :=
  if q = 2 then (if yPairs I s u then yLawV I 1 (yNmP I (ixn s) (ixn u)) else ERR)
  else if yThere I s ∧ (q = 0 ∨ q = 1) then yLawV I (if q = 0 then 0 else 2) (yNmS I (ixn s) (I 162 (ixn s)) (I 163 (ixn s)) (I 167 0)) else ERR
theorem in02 {q : Int32} (h : 0 ≤ q ∧ q ≤ 2) : q = 0 ∨ q = 1 ∨ q = 2 := by
  obtain ⟨j, hj, rfl⟩ := nI_of (Int32.not_lt.mpr h.1)
  have := (nI_leI hj (show 2 < 2 ^ 31 by decide)).mp h.2
  rcases (show j = 0 ∨ j = 1 ∨ j = 2 by omega) with rfl | rfl | rfl
  · exact Or.inl rfl
  · exact Or.inr (Or.inl rfl)
  · exact Or.inr (Or.inr rfl)
theorem yLawV_e {I : Nat → Nat → Int32} {r : Nat} {nm : Nat → Int64} {ev : Int32} {v : Int64} (h0 : ¬ I 152 r = 0) (he : ¬ ev = 0) (q2 : ∀ y, zLaw I r nm = some y → ev = 0 ∧ v = y) : ERR = yLawV I r nm := by
  unfold yLawV
  rw [if_neg h0]
  cases hz : zLaw I r nm with
  | none => rfl
  | some y => exact absurd (q2 y hz).1 he
theorem yLawV_v {I : Nat → Nat → Int32} {r : Nat} {nm : Nat → Int64} {ev : Int32} {v : Int64} (h0 : ¬ I 152 r = 0) (he : ev = 0) (q1 : zLaw I r nm = none → ev = 1) (q2 : ∀ y, zLaw I r nm = some y → ev = 0 ∧ v = y) : v = yLawV I r nm := by
  unfold yLawV
  rw [if_neg h0]
  cases hz : zLaw I r nm with
  | none => exact absurd (q1 hz) (by rw [he]; decide)
  | some y => exact (q2 y hz).2

theorem ct_Mo_law {sh : List pSh} {I : Nat → Nat → Int32} {L : Nat → Nat → Int64} {P : Nat → Nat → Option Nat} (hA : kA sh P) {np ns nd : Nat} (hm : mOK I np ns nd) (hwf : wfL I) (ho : oOK I 0 np ns) (q s u : Int32) : pCn m_Mo_law 3 [.ref 134, .int q, .int s, .int u] sh (I, L, P) (rAJ (yLawQ I q s u) I P) := by
  refine pCn_of (by decide +kernel) (Nat.le_of_ble_eq_true rfl) ?_
  have h5 := hm.2.1
  have h16 := hm.2.2.2.1
  have h8 := hm.2.2.2.2.2
  refine pw_aload_n (k4 := 0) rfl (by decide +kernel) ?_
  refine pw_iconst (n := 0) (v := 0) (by decide) (by decide +kernel) ?_
  refine pq_putI (c := 11) (k := 2) (ks_m hA) (by decide) (by decide) lf_Mo_175 (Or.inl rfl) (by decide +kernel) ?_
  refine pw_iload_n (k4 := 1) rfl (by decide +kernel) ?_
  refine pw_iconst (n := 0) (v := 0) (by decide) (by decide +kernel) ?_
  refine pw_iconst (n := 2) (v := 2) (by decide) (by decide +kernel) ?_
  refine pq_callS (ν := m_Mo_isIn) (d' := 0) (av := [_, _, _]) (by decide +kernel) lm_Mo_220 ok_Mo_isIn (show _ = some 3 by decide +kernel) (by omega) (Nat.le_of_ble_eq_true rfl) (ct_Mo_isIn _ _ _) ?_
  rintro _ _ ⟨rfl, rfl⟩
  refine pn_ifB_eq (off := 25) (tgt := 36) (by decide +kernel) (by decide +kernel) (fun z11 => ?_) (fun z11 => ?_)
  · refine pw_ldc2 lc_Mo_455 (by decide +kernel) ?_
    exact pq_lret rfl (by decide +kernel) ⟨congrArg (fun z => some (Value.long z)) (by unfold yLawQ; rw [if_neg (fun q => z11 (by rw [q]; decide)), if_neg (fun q => z11 (q.2.elim (fun w => by rw [w]; decide) (fun w => by rw [w]; decide)))]; rfl), _, _, rfl, rep_t⟩
  · have hq3 := in02 z11
    refine pw_aload_n (k4 := 0) rfl (by decide +kernel) ?_
    refine pw_iload_n (k4 := 2) rfl (by decide +kernel) ?_
    refine pq_callV (ν := m_Mo_isThere) (d' := 1) (av := [_]) (c := 11) (by decide +kernel) lm_Mo_446 ok_Mo_isThere (show _ = some 1 by decide +kernel) (ks_m hA) rfl (by decide) (by omega) (Nat.le_of_ble_eq_true rfl) (ct_Mo_isThere hA (by exact hm) _) ?_
    rintro _ _ ⟨rfl, rfl⟩
    refine pn_ifB_eq (off := 17) (tgt := 36) (by decide +kernel) (by decide +kernel) (fun z19 => ?_) (fun z19 => ?_)
    · refine pw_ldc2 lc_Mo_455 (by decide +kernel) ?_
      exact pq_lret rfl (by decide +kernel) ⟨congrArg (fun z => some (Value.long z)) (by unfold yLawQ; by_cases q2 : q = 2; rw [if_pos q2, if_neg (fun w => z19 w.1)]; rfl; rw [if_neg q2, if_neg (fun w => z19 w.1)]; rfl), _, _, rfl, rep_t⟩
    · obtain ⟨i, hi, rfl⟩ := nIn hm.2.2.1 (by omega) z19.1
      refine pw_iload_n (k4 := 1) rfl (by decide +kernel) ?_
      refine pw_iconst (n := 2) (v := 2) (by decide) (by decide +kernel) ?_
      refine pw_icmp_ne (off := 16) (tgt := 40) (by decide +kernel) (by decide +kernel) (fun z24 => ?_) (fun z24 => ?_)
      · refine pw_iload_n (k4 := 1) rfl (by decide +kernel) ?_
        refine pw_if_ne (off := 7) (tgt := 48) (by decide +kernel) (by decide +kernel) (fun z41 => ?_) (fun z41 => ?_)
        · refine pw_iload_n (k4 := 1) rfl (by decide +kernel) ?_
          refine pw_iconst (n := 1) (v := 1) (by decide) (by decide +kernel) ?_
          refine pw_icmp_ne (off := 7) (tgt := 57) (by decide +kernel) (by decide +kernel) (fun z50 => ?_) (fun z50 => ?_)
          · exact (hq3.elim z41 (fun q => q.elim z50 z24)).elim
          · refine pw_iconst (n := 2) (v := 2) (by decide) (by decide +kernel) ?_
            refine pw_goto (off := 4) (tgt := 58) (by decide +kernel) (by decide +kernel) ?_
            refine pq_istore (i := 4) (Nat.le_of_ble_eq_true rfl) rfl (by decide +kernel) ?_
            refine pw_aload_n (k4 := 0) rfl (by decide +kernel) ?_
            refine pq_getP (c := 11) (k := 38) (ks_m hA) (by decide) (by decide) (kp_m_lawTold hA) lf_Mo_65 (by decide +kernel) ?_
            refine pw_iload (i := 4) rfl (by decide +kernel) ?_
            refine pq_zald 2 rfl (by omega) (by decide) (ks_m_lawTold hA) (by decide +kernel) ?_
            refine pw_if_ne (off := 7) (tgt := 74) (by decide +kernel) (by decide +kernel) (fun z67 => ?_) (fun z67 => ?_)
            · refine pw_iload_n (k4 := 1) rfl (by decide +kernel) ?_
              refine pw_iconst (n := 2) (v := 2) (by decide) (by decide +kernel) ?_
              refine pw_icmp_ne (off := 12) (tgt := 88) (by decide +kernel) (by decide +kernel) (fun z76 => ?_) (fun z76 => ?_)
              · refine pw_aload_n (k4 := 0) rfl (by decide +kernel) ?_
                refine pw_iload_n (k4 := 2) rfl (by decide +kernel) ?_
                refine pw_aload_n (k4 := 0) rfl (by decide +kernel) ?_
                refine pq_getP (c := 11) (k := 55) (ks_m hA) (by decide) (by decide) (kp_m_used hA) lf_Mo_97 (by decide +kernel) ?_
                refine pw_iload_n (k4 := 2) rfl (by decide +kernel) ?_
                refine pq_iald i rfl (by omega) (by decide) (ks_m_used hA) (by decide +kernel) ?_
                refine pw_aload_n (k4 := 0) rfl (by decide +kernel) ?_
                refine pq_getP (c := 11) (k := 56) (ks_m hA) (by decide) (by decide) (kp_m_whose hA) lf_Mo_100 (by decide +kernel) ?_
                refine pw_iload_n (k4 := 2) rfl (by decide +kernel) ?_
                refine pq_iald i rfl (by omega) (by decide) (ks_m_whose hA) (by decide +kernel) ?_
                refine pw_aload_n (k4 := 0) rfl (by decide +kernel) ?_
                refine pq_getP (c := 11) (k := 60) (ks_m hA) (by decide) (by decide) (kp_m_day hA) lf_Mo_112 (by decide +kernel) ?_
                refine pw_iconst (n := 0) (v := 0) (by decide) (by decide +kernel) ?_
                refine pq_iald 0 rfl (by omega) (by decide) (ks_m_day hA) (by decide +kernel) ?_
                refine pq_callV (ν := m_Mo_layNames) (d' := 1) (av := [_, _, _, _]) (c := 11) (by decide +kernel) lm_Mo_412 ok_Mo_layNames (show _ = some 4 by decide +kernel) (ks_m hA) rfl (by decide) (by omega) (Nat.le_of_ble_eq_true rfl) (ct_Mo_layNames hA (by omega) _ _ _ (by have w := ho.five h5 i hi; rw [Nat.mul_zero, Nat.zero_add] at w; exact w)) ?_
                rintro _ _ ⟨rfl, L2, rfl, hnm, hLo⟩
                refine pw_aload_n (k4 := 0) rfl (by decide +kernel) ?_
                refine pw_iload (i := 4) rfl (by decide +kernel) ?_
                obtain ⟨lb, le, hlb, hle, hbe, he64, hW⟩ := hwf 2 (by decide) z67
                refine pq_callV (ν := m_Mo_lawOf) (d' := 2) (av := [_]) (c := 11) (by decide +kernel) lm_Mo_409 ok_Mo_lawOf (show _ = some 1 by decide +kernel) (ks_m hA) rfl (by decide) (by omega) (Nat.le_of_ble_eq_true rfl) (ct_Mo_lawOf hA (by decide) (by exact hlb) (by exact hle) hbe he64 (by exact hW) hnm) ?_
                rintro _ _ ⟨v, ev, L3, rfl, rfl, hLl, q0, q1, q2⟩
                rw [show zEv (sI I 134 2 0 155) (sI I 134 2 0 156) _ (le - lb) lb [] = zLaw I 2 _ from by unfold zLaw; rw [hlb, hle, ixn_nI (by omega), ixn_nI (by omega)]; rfl] at q1 q2
                refine pq_lstore (i := 5) (Nat.le_of_ble_eq_true rfl) rfl (by decide +kernel) ?_
                refine pw_aload_n (k4 := 0) rfl (by decide +kernel) ?_
                refine pq_getI (c := 11) (k := 54) (ks_m hA) (by decide) (by decide) lf_Mo_362 (by decide +kernel) ?_
                refine pw_if_eq (off := 9) (tgt := 132) (by decide +kernel) (by decide +kernel) (fun z123 => ?_) (fun z123 => ?_)
                · refine pw_lload (i := 5) rfl (by decide +kernel) ?_
                  exact pq_lret rfl (by decide +kernel) ⟨congrArg (fun z => some (Value.long z)) (by unfold yLawQ; rw [if_neg z24, if_pos (show yThere I (nI i) ∧ (q = 0 ∨ q = 1) from ⟨z19, Or.inr z50⟩), if_neg z41, ixn_nI (by omega)]; exact yLawV_v z67 z123 q1 q2), _, _, rfl, rep_te⟩
                · refine pw_ldc2 lc_Mo_455 (by decide +kernel) ?_
                  refine pw_goto (off := 5) (tgt := 134) (by decide +kernel) (by decide +kernel) ?_
                  exact pq_lret rfl (by decide +kernel) ⟨congrArg (fun z => some (Value.long z)) (by unfold yLawQ; rw [if_neg z24, if_pos (show yThere I (nI i) ∧ (q = 0 ∨ q = 1) from ⟨z19, Or.inr z50⟩), if_neg z41, ixn_nI (by omega)]; exact yLawV_e z67 z123 q2), _, _, rfl, rep_te⟩
              · exact absurd z76 z24
            · refine pw_ldc2 lc_Mo_455 (by decide +kernel) ?_
              exact pq_lret rfl (by decide +kernel) ⟨congrArg (fun z => some (Value.long z)) (by unfold yLawQ; rw [if_neg z24, if_pos (show yThere I (nI i) ∧ (q = 0 ∨ q = 1) from ⟨z19, Or.inr z50⟩), if_neg z41, ixn_nI (by omega)]; exact (if_pos z67).symm), _, _, rfl, rep_t⟩
        · refine pw_iconst (n := 0) (v := 0) (by decide) (by decide +kernel) ?_
          refine pw_goto (off := 13) (tgt := 58) (by decide +kernel) (by decide +kernel) ?_
          refine pq_istore (i := 4) (Nat.le_of_ble_eq_true rfl) rfl (by decide +kernel) ?_
          refine pw_aload_n (k4 := 0) rfl (by decide +kernel) ?_
          refine pq_getP (c := 11) (k := 38) (ks_m hA) (by decide) (by decide) (kp_m_lawTold hA) lf_Mo_65 (by decide +kernel) ?_
          refine pw_iload (i := 4) rfl (by decide +kernel) ?_
          refine pq_zald 0 rfl (by omega) (by decide) (ks_m_lawTold hA) (by decide +kernel) ?_
          refine pw_if_ne (off := 7) (tgt := 74) (by decide +kernel) (by decide +kernel) (fun z67 => ?_) (fun z67 => ?_)
          · refine pw_iload_n (k4 := 1) rfl (by decide +kernel) ?_
            refine pw_iconst (n := 2) (v := 2) (by decide) (by decide +kernel) ?_
            refine pw_icmp_ne (off := 12) (tgt := 88) (by decide +kernel) (by decide +kernel) (fun z76 => ?_) (fun z76 => ?_)
            · refine pw_aload_n (k4 := 0) rfl (by decide +kernel) ?_
              refine pw_iload_n (k4 := 2) rfl (by decide +kernel) ?_
              refine pw_aload_n (k4 := 0) rfl (by decide +kernel) ?_
              refine pq_getP (c := 11) (k := 55) (ks_m hA) (by decide) (by decide) (kp_m_used hA) lf_Mo_97 (by decide +kernel) ?_
              refine pw_iload_n (k4 := 2) rfl (by decide +kernel) ?_
              refine pq_iald i rfl (by omega) (by decide) (ks_m_used hA) (by decide +kernel) ?_
              refine pw_aload_n (k4 := 0) rfl (by decide +kernel) ?_
              refine pq_getP (c := 11) (k := 56) (ks_m hA) (by decide) (by decide) (kp_m_whose hA) lf_Mo_100 (by decide +kernel) ?_
              refine pw_iload_n (k4 := 2) rfl (by decide +kernel) ?_
              refine pq_iald i rfl (by omega) (by decide) (ks_m_whose hA) (by decide +kernel) ?_
              refine pw_aload_n (k4 := 0) rfl (by decide +kernel) ?_
              refine pq_getP (c := 11) (k := 60) (ks_m hA) (by decide) (by decide) (kp_m_day hA) lf_Mo_112 (by decide +kernel) ?_
              refine pw_iconst (n := 0) (v := 0) (by decide) (by decide +kernel) ?_
              refine pq_iald 0 rfl (by omega) (by decide) (ks_m_day hA) (by decide +kernel) ?_
              refine pq_callV (ν := m_Mo_layNames) (d' := 1) (av := [_, _, _, _]) (c := 11) (by decide +kernel) lm_Mo_412 ok_Mo_layNames (show _ = some 4 by decide +kernel) (ks_m hA) rfl (by decide) (by omega) (Nat.le_of_ble_eq_true rfl) (ct_Mo_layNames hA (by omega) _ _ _ (by have w := ho.five h5 i hi; rw [Nat.mul_zero, Nat.zero_add] at w; exact w)) ?_
              rintro _ _ ⟨rfl, L2, rfl, hnm, hLo⟩
              refine pw_aload_n (k4 := 0) rfl (by decide +kernel) ?_
              refine pw_iload (i := 4) rfl (by decide +kernel) ?_
              obtain ⟨lb, le, hlb, hle, hbe, he64, hW⟩ := hwf 0 (by decide) z67
              refine pq_callV (ν := m_Mo_lawOf) (d' := 2) (av := [_]) (c := 11) (by decide +kernel) lm_Mo_409 ok_Mo_lawOf (show _ = some 1 by decide +kernel) (ks_m hA) rfl (by decide) (by omega) (Nat.le_of_ble_eq_true rfl) (ct_Mo_lawOf hA (by decide) (by exact hlb) (by exact hle) hbe he64 (by exact hW) hnm) ?_
              rintro _ _ ⟨v, ev, L3, rfl, rfl, hLl, q0, q1, q2⟩
              rw [show zEv (sI I 134 2 0 155) (sI I 134 2 0 156) _ (le - lb) lb [] = zLaw I 0 _ from by unfold zLaw; rw [hlb, hle, ixn_nI (by omega), ixn_nI (by omega)]; rfl] at q1 q2
              refine pq_lstore (i := 5) (Nat.le_of_ble_eq_true rfl) rfl (by decide +kernel) ?_
              refine pw_aload_n (k4 := 0) rfl (by decide +kernel) ?_
              refine pq_getI (c := 11) (k := 54) (ks_m hA) (by decide) (by decide) lf_Mo_362 (by decide +kernel) ?_
              refine pw_if_eq (off := 9) (tgt := 132) (by decide +kernel) (by decide +kernel) (fun z123 => ?_) (fun z123 => ?_)
              · refine pw_lload (i := 5) rfl (by decide +kernel) ?_
                exact pq_lret rfl (by decide +kernel) ⟨congrArg (fun z => some (Value.long z)) (by unfold yLawQ; rw [if_neg z24, if_pos (show yThere I (nI i) ∧ (q = 0 ∨ q = 1) from ⟨z19, Or.inl z41⟩), if_pos z41, ixn_nI (by omega)]; exact yLawV_v z67 z123 q1 q2), _, _, rfl, rep_te⟩
              · refine pw_ldc2 lc_Mo_455 (by decide +kernel) ?_
                refine pw_goto (off := 5) (tgt := 134) (by decide +kernel) (by decide +kernel) ?_
                exact pq_lret rfl (by decide +kernel) ⟨congrArg (fun z => some (Value.long z)) (by unfold yLawQ; rw [if_neg z24, if_pos (show yThere I (nI i) ∧ (q = 0 ∨ q = 1) from ⟨z19, Or.inl z41⟩), if_pos z41, ixn_nI (by omega)]; exact yLawV_e z67 z123 q2), _, _, rfl, rep_te⟩
            · exact absurd z76 z24
          · refine pw_ldc2 lc_Mo_455 (by decide +kernel) ?_
            exact pq_lret rfl (by decide +kernel) ⟨congrArg (fun z => some (Value.long z)) (by unfold yLawQ; rw [if_neg z24, if_pos (show yThere I (nI i) ∧ (q = 0 ∨ q = 1) from ⟨z19, Or.inl z41⟩), if_pos z41, ixn_nI (by omega)]; exact (if_pos z67).symm), _, _, rfl, rep_t⟩
      · refine pw_aload_n (k4 := 0) rfl (by decide +kernel) ?_
        refine pw_iload_n (k4 := 2) rfl (by decide +kernel) ?_
        refine pw_iload_n (k4 := 3) rfl (by decide +kernel) ?_
        refine pq_callV (ν := m_Mo_arePair) (d' := 2) (av := [_, _]) (c := 11) (by decide +kernel) lm_Mo_449 ok_Mo_arePair (show _ = some 2 by decide +kernel) (ks_m hA) rfl (by decide) (by omega) (Nat.le_of_ble_eq_true rfl) (ct_Mo_arePair hA (by exact hm) _ _) ?_
        rintro _ _ ⟨rfl, rfl⟩
        refine pn_ifB_ne (off := 7) (tgt := 40) (by decide +kernel) (by decide +kernel) (fun z33 => ?_) (fun z33 => ?_)
        · obtain ⟨j, hj, rfl⟩ := nIn hm.2.2.1 (by omega) z33.2.1.1
          refine pw_iload_n (k4 := 1) rfl (by decide +kernel) ?_
          refine pw_if_ne (off := 7) (tgt := 48) (by decide +kernel) (by decide +kernel) (fun z41 => ?_) (fun z41 => ?_)
          · refine pw_iload_n (k4 := 1) rfl (by decide +kernel) ?_
            refine pw_iconst (n := 1) (v := 1) (by decide) (by decide +kernel) ?_
            refine pw_icmp_ne (off := 7) (tgt := 57) (by decide +kernel) (by decide +kernel) (fun z50 => ?_) (fun z50 => ?_)
            · refine pw_iconst (n := 1) (v := 1) (by decide) (by decide +kernel) ?_
              refine pq_istore (i := 4) (Nat.le_of_ble_eq_true rfl) rfl (by decide +kernel) ?_
              refine pw_aload_n (k4 := 0) rfl (by decide +kernel) ?_
              refine pq_getP (c := 11) (k := 38) (ks_m hA) (by decide) (by decide) (kp_m_lawTold hA) lf_Mo_65 (by decide +kernel) ?_
              refine pw_iload (i := 4) rfl (by decide +kernel) ?_
              refine pq_zald 1 rfl (by omega) (by decide) (ks_m_lawTold hA) (by decide +kernel) ?_
              refine pw_if_ne (off := 7) (tgt := 74) (by decide +kernel) (by decide +kernel) (fun z67 => ?_) (fun z67 => ?_)
              · refine pw_iload_n (k4 := 1) rfl (by decide +kernel) ?_
                refine pw_iconst (n := 2) (v := 2) (by decide) (by decide +kernel) ?_
                refine pw_icmp_ne (off := 12) (tgt := 88) (by decide +kernel) (by decide +kernel) (fun z76 => ?_) (fun z76 => ?_)
                · exact absurd z24 z76
                · refine pw_aload_n (k4 := 0) rfl (by decide +kernel) ?_
                  refine pw_iload_n (k4 := 2) rfl (by decide +kernel) ?_
                  refine pw_iload_n (k4 := 3) rfl (by decide +kernel) ?_
                  refine pq_callV (ν := m_Mo_layPair) (d' := 0) (av := [_, _]) (c := 11) (by decide +kernel) lm_Mo_424 ok_Mo_layPair (show _ = some 2 by decide +kernel) (ks_m hA) rfl (by decide) (by omega) (Nat.le_of_ble_eq_true rfl) (ct_Mo_layPair hA (by omega) (by omega)) ?_
                  rintro _ _ ⟨rfl, L2, rfl, hnm, hLo⟩
                  refine pw_goto (off := 26) (tgt := 111) (by decide +kernel) (by decide +kernel) ?_
                  refine pw_aload_n (k4 := 0) rfl (by decide +kernel) ?_
                  refine pw_iload (i := 4) rfl (by decide +kernel) ?_
                  obtain ⟨lb, le, hlb, hle, hbe, he64, hW⟩ := hwf 1 (by decide) z67
                  refine pq_callV (ν := m_Mo_lawOf) (d' := 2) (av := [_]) (c := 11) (by decide +kernel) lm_Mo_409 ok_Mo_lawOf (show _ = some 1 by decide +kernel) (ks_m hA) rfl (by decide) (by omega) (Nat.le_of_ble_eq_true rfl) (ct_Mo_lawOf hA (by decide) (by exact hlb) (by exact hle) hbe he64 (by exact hW) hnm) ?_
                  rintro _ _ ⟨v, ev, L3, rfl, rfl, hLl, q0, q1, q2⟩
                  rw [show zEv (sI I 134 2 0 155) (sI I 134 2 0 156) _ (le - lb) lb [] = zLaw I 1 _ from by unfold zLaw; rw [hlb, hle, ixn_nI (by omega), ixn_nI (by omega)]; rfl] at q1 q2
                  refine pq_lstore (i := 5) (Nat.le_of_ble_eq_true rfl) rfl (by decide +kernel) ?_
                  refine pw_aload_n (k4 := 0) rfl (by decide +kernel) ?_
                  refine pq_getI (c := 11) (k := 54) (ks_m hA) (by decide) (by decide) lf_Mo_362 (by decide +kernel) ?_
                  refine pw_if_eq (off := 9) (tgt := 132) (by decide +kernel) (by decide +kernel) (fun z123 => ?_) (fun z123 => ?_)
                  · refine pw_lload (i := 5) rfl (by decide +kernel) ?_
                    exact pq_lret rfl (by decide +kernel) ⟨congrArg (fun z => some (Value.long z)) (by unfold yLawQ; rw [if_pos z24, if_pos (show yPairs I (nI i) (nI j) from z33), ixn_nI (by omega), ixn_nI (by omega)]; exact yLawV_v z67 z123 q1 q2), _, _, rfl, rep_te⟩
                  · refine pw_ldc2 lc_Mo_455 (by decide +kernel) ?_
                    refine pw_goto (off := 5) (tgt := 134) (by decide +kernel) (by decide +kernel) ?_
                    exact pq_lret rfl (by decide +kernel) ⟨congrArg (fun z => some (Value.long z)) (by unfold yLawQ; rw [if_pos z24, if_pos (show yPairs I (nI i) (nI j) from z33), ixn_nI (by omega), ixn_nI (by omega)]; exact yLawV_e z67 z123 q2), _, _, rfl, rep_te⟩
              · refine pw_ldc2 lc_Mo_455 (by decide +kernel) ?_
                exact pq_lret rfl (by decide +kernel) ⟨congrArg (fun z => some (Value.long z)) (by unfold yLawQ; rw [if_pos z24, if_pos (show yPairs I (nI i) (nI j) from z33), ixn_nI (by omega), ixn_nI (by omega)]; exact (if_pos z67).symm), _, _, rfl, rep_t⟩
            · exact absurd (show (1 : Int32) = 2 from z50 ▸ z24) (by decide)
          · exact absurd (show (0 : Int32) = 2 from z41 ▸ z24) (by decide)
        · refine pw_ldc2 lc_Mo_455 (by decide +kernel) ?_
          exact pq_lret rfl (by decide +kernel) ⟨congrArg (fun z => some (Value.long z)) (by unfold yLawQ; rw [if_pos z24, if_neg (show ¬ yPairs I (nI i) u from z33)]; rfl), _, _, rfl, rep_t⟩
