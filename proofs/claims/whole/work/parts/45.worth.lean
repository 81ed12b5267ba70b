/-! ===== the reference: worth, wear, pairs, what is worn ===== -/
/-- the laws that are told stand as they must -/
def wfL (I : Nat → Nat → Int32) : Prop := ∀ r, r < 3 → ¬ I 152 r = 0 → ∃ b e : Nat, I 153 r = nI b ∧ I 154 r = nI e ∧ b < e ∧ e ≤ 64 ∧ kW (I 155) (I 156) (I 157) (e - b) b []
def zLaw (I : Nat → Nat → Int32) (r : Nat) (nm : Nat → Int64) : Option Int64 := zEv (I 155) (I 156) nm (ixn (I 154 r) - ixn (I 153 r)) (ixn (I 153 r)) []
def yClamp (v : Int64) (mo : Int32) : Int32 := if v < 0 then 0 else if mo.toInt64 < v then mo else v.toInt32
def yOpt (x : Option Int64) (wo mo : Int32) : Int32 := match x with | none => wo | some v => yClamp v mo
/-- a law held to 0 .. mo, or what stands without it -/
def yBd (I : Nat → Nat → Int32) (r : Nat) (nm : Nat → Int64) (wo mo : Int32) : Int32 := if I 152 r = 0 then wo else yOpt (zLaw I r nm) wo mo
/-- longs that are the same but for names and values -/
def lfm (L' L : Nat → Nat → Int64) : Prop := ∀ a, a ≠ 160 → a ≠ 161 → L' a = L a
theorem lfm.rf (L : Nat → Nat → Int64) : lfm L L := fun _ _ _ => rfl
theorem lfm.tr {K L M : Nat → Nat → Int64} (h1 : lfm K L) (h2 : lfm L M) : lfm K M := fun a g1 g2 => (h1 a g1 g2).trans (h2 a g1 g2)
def rIe (v : Int32) (I : Nat → Nat → Int32) (L : Nat → Nat → Int64) (P : Nat → Nat → Option Nat) : Option Value → pM → Prop := fun r M => r = some (.int v) ∧ ∃ ev L', M = (sI I 134 54 ev, L', P) ∧ lfm L' L
theorem rIe_s {v x : Int32} {I : Nat → Nat → Int32} {L : Nat → Nat → Int64} {P : Nat → Nat → Option Nat} (h : v = x) : rIe x I L P (some (.int v)) (I, L, P) := ⟨by rw [h], I 134 54, L, by rw [sI_same], lfm.rf L⟩

theorem ct_Mo_boundLaw {sh : List pSh} {I : Nat → Nat → Int32} {L : Nat → Nat → Int64} {P : Nat → Nat → Option Nat} (hA : kA sh P) (hwf : wfL I) {nm : Nat → Int64} (hnm : ∀ k, k < 7 → L 160 k = nm k) {r : Nat} (hr : r < 3) (wo mo : Int32) : pCn m_Mo_boundLaw 3 [.ref 134, .int (nI r), .int wo, .int mo] sh (I, L, P) (rIe (yBd I r nm wo mo) I L P) := by
  refine pCn_of (by decide +kernel) (Nat.le_of_ble_eq_true rfl) ?_
  refine pw_aload_n (k4 := 0) rfl (by decide +kernel) ?_
  refine pq_getP (c := 11) (k := 38) (ks_m hA) (by decide) (by decide) (kp_m_lawTold hA) lf_Mo_65 (by decide +kernel) ?_
  refine pw_iload_n (k4 := 1) rfl (by decide +kernel) ?_
  refine pq_zald r rfl (by omega) (by decide) (ks_m_lawTold hA) (by decide +kernel) ?_
  refine pw_if_ne (off := 5) (tgt := 11) (by decide +kernel) (by decide +kernel) (fun z6 => ?_) (fun z6 => ?_)
  · refine pw_aload_n (k4 := 0) rfl (by decide +kernel) ?_
    refine pw_iload_n (k4 := 1) rfl (by decide +kernel) ?_
    obtain ⟨lb, le, hlb, hle, hbe, he64, hW⟩ := hwf r hr z6
    refine pq_callV (ν := m_Mo_lawOf) (d' := 2) (av := [_]) (c := 11) (by decide +kernel) lm_Mo_409 ok_Mo_lawOf (show _ = some 1 by decide +kernel) (ks_m hA) rfl (by decide) (by omega) (Nat.le_of_ble_eq_true rfl) (ct_Mo_lawOf hA hr hlb hle hbe he64 hW hnm) ?_
    rintro _ _ ⟨v, ev, L', rfl, rfl, hLl, q0, q1, q2⟩
    rw [show zEv (I 155) (I 156) nm (le - lb) lb [] = zLaw I r nm from by unfold zLaw; rw [hlb, hle, ixn_nI (by omega), ixn_nI (by omega)]] at q1 q2
    refine pq_lstore (i := 4) (Nat.le_of_ble_eq_true rfl) rfl (by decide +kernel) ?_
    refine pw_aload_n (k4 := 0) rfl (by decide +kernel) ?_
    refine pq_getI (c := 11) (k := 54) (ks_m hA) (by decide) (by decide) lf_Mo_362 (by decide +kernel) ?_
    refine pw_if_eq (off := 5) (tgt := 27) (by decide +kernel) (by decide +kernel) (fun z22 => ?_) (fun z22 => ?_)
    · refine pw_lload (i := 4) rfl (by decide +kernel) ?_
      refine pw_lconst (n := 0) (v := 0) (by decide) (by decide +kernel) ?_
      refine pw_lcmp (by decide +kernel) ?_
      refine pw_if_ge (off := 7) (tgt := 38) (by decide +kernel) (by decide +kernel) (fun z31 => ?_) (fun z31 => ?_)
      · rw [lge0] at z31
        refine pw_lload (i := 4) rfl (by decide +kernel) ?_
        refine pw_iload_n (k4 := 3) rfl (by decide +kernel) ?_
        refine pw_i2l (by decide +kernel) ?_
        refine pw_lcmp (by decide +kernel) ?_
        refine pw_if_le (off := 7) (tgt := 50) (by decide +kernel) (by decide +kernel) (fun z43 => ?_) (fun z43 => ?_)
        · rw [lle0] at z43
          refine pw_lload (i := 4) rfl (by decide +kernel) ?_
          refine pw_l2i (by decide +kernel) ?_
          exact pq_iret rfl (by decide +kernel) ⟨congrArg (fun z => some (Value.int z)) (by cases hz : zLaw I r nm with | none => exact absurd (q1 hz) (by rw [show ev = 0 from z22]; decide) | some y => obtain ⟨_, rfl⟩ := q2 y hz; unfold yBd; rw [if_neg z6, hz]; show _ = yClamp v mo; unfold yClamp; rw [if_neg (Int64.not_lt.mpr z31), if_neg (Int64.not_lt.mpr z43)]), ev, L', rfl, fun a _ g => hLl a g⟩
        · rw [lle0] at z43
          refine pw_iload_n (k4 := 3) rfl (by decide +kernel) ?_
          refine pw_goto (off := 6) (tgt := 53) (by decide +kernel) (by decide +kernel) ?_
          exact pq_iret rfl (by decide +kernel) ⟨congrArg (fun z => some (Value.int z)) (by cases hz : zLaw I r nm with | none => exact absurd (q1 hz) (by rw [show ev = 0 from z22]; decide) | some y => obtain ⟨_, rfl⟩ := q2 y hz; unfold yBd; rw [if_neg z6, hz]; show _ = yClamp v mo; unfold yClamp; rw [if_neg (Int64.not_lt.mpr z31), if_pos (Int64.not_le.mp z43)]), ev, L', rfl, fun a _ g => hLl a g⟩
      · rw [lge0] at z31
        refine pw_iconst (n := 0) (v := 0) (by decide) (by decide +kernel) ?_
        refine pw_goto (off := 18) (tgt := 53) (by decide +kernel) (by decide +kernel) ?_
        exact pq_iret rfl (by decide +kernel) ⟨congrArg (fun z => some (Value.int z)) (by cases hz : zLaw I r nm with | none => exact absurd (q1 hz) (by rw [show ev = 0 from z22]; decide) | some y => obtain ⟨_, rfl⟩ := q2 y hz; unfold yBd; rw [if_neg z6, hz]; show _ = yClamp v mo; unfold yClamp; rw [if_pos (Int64.not_le.mp z31)]), ev, L', rfl, fun a _ g => hLl a g⟩
    · refine pw_iload_n (k4 := 2) rfl (by decide +kernel) ?_
      exact pq_iret rfl (by decide +kernel) ⟨congrArg (fun z => some (Value.int z)) (by unfold yBd yOpt; rw [if_neg z6, show zLaw I r nm = none from by cases hz : zLaw I r nm with | none => rfl | some y => exact absurd ((q2 y hz).1) z22]), ev, L', rfl, fun a _ g => hLl a g⟩
  · refine pw_iload_n (k4 := 2) rfl (by decide +kernel) ?_
    exact pq_iret rfl (by decide +kernel) (rIe_s (if_pos z6).symm)

/-- what shoe j is worth, used u, somebody's (q), on day d -/
def yWo0 (I : Nat → Nat → Int32) (j : Nat) (u : Int32) : Int32 := (if ySide I j = 0 then 2 else 1) * I 143 j - u / 5
def yWorthB (I : Nat → Nat → Int32) (j : Nat) (u q d : Int32) : Int32 := if q = -2 then 0 else yBd I 0 (yNmS I j u q d) (if yWo0 I j u < 0 then 0 else yWo0 I j u) 999
def yWorth (I : Nat → Nat → Int32) (b j : Nat) : Int32 := yWorthB I j (I 162 (16 * b + j)) (I 163 (16 * b + j)) (I 167 b)
def yWearB (I : Nat → Nat → Int32) (j : Nat) (u : Int32) (p : Nat) (d : Int32) : Int32 := yBd I 2 (yNmS I j u (nI p) d) (I 139 p / 10) 50
def yDif (I : Nat → Nat → Int32) (i j : Nat) : Int32 := if 0 ≤ I 143 i - I 143 j then I 143 i - I 143 j else -(I 143 i - I 143 j)
def yNmP (I : Nat → Nat → Int32) (i j : Nat) : Nat → Int64 := yNm (I 143 i).toInt64 (I 162 i + I 162 j).toInt64 (yDif I i j).toInt64 (I 145 i).toInt64 0 (I 167 0).toInt64 0
def yPairB (I : Nat → Nat → Int32) (i j : Nat) : Int32 := yBd I 1 (yNmP I i j) (if I 143 i = I 143 j ∧ I 145 i = I 145 j then 10 else 0) 999

theorem ct_Mo_worthBy {sh : List pSh} {I : Nat → Nat → Int32} {L : Nat → Nat → Int64} {P : Nat → Nat → Option Nat} (hA : kA sh P) (hwf : wfL I) {j : Nat} (hj : j < 16) (u q d : Int32) (hq : ¬ q < 0 → ∃ p, p < 5 ∧ q = nI p) : pCn m_Mo_worthBy 4 [.ref 134, .int (nI j), .int u, .int q, .int d] sh (I, L, P) (rIe (yWorthB I j u q d) I L P) := by
  refine pCn_of (by decide +kernel) (Nat.le_of_ble_eq_true rfl) ?_
  refine pw_iload_n (k4 := 3) rfl (by decide +kernel) ?_
  refine pw_bipush (n := -2) (v := -2) (by decide) (by decide +kernel) ?_
  refine pw_icmp_ne (off := 5) (tgt := 8) (by decide +kernel) (by decide +kernel) (fun z3 => ?_) (fun z3 => ?_)
  · refine pw_aload_n (k4 := 0) rfl (by decide +kernel) ?_
    refine pw_iload_n (k4 := 1) rfl (by decide +kernel) ?_
    refine pq_callV (ν := m_Mo_sideNow) (d' := 0) (av := [_]) (c := 11) (by decide +kernel) lm_Mo_402 ok_Mo_sideNow (show _ = some 1 by decide +kernel) (ks_m hA) rfl (by decide) (by omega) (Nat.le_of_ble_eq_true rfl) (ct_Mo_sideNow hA (by omega)) ?_
    rintro _ _ ⟨rfl, rfl⟩
    refine pw_if_ne (off := 7) (tgt := 20) (by decide +kernel) (by decide +kernel) (fun z13 => ?_) (fun z13 => ?_)
    · refine pw_iconst (n := 1) (v := 1) (by decide) (by decide +kernel) ?_
      refine pw_aload_n (k4 := 0) rfl (by decide +kernel) ?_
      refine pq_getP (c := 11) (k := 29) (ks_m hA) (by decide) (by decide) (kp_m_sizeOf hA) lf_Mo_38 (by decide +kernel) ?_
      refine pw_iload_n (k4 := 1) rfl (by decide +kernel) ?_
      refine pq_iald j rfl (by omega) (by decide) (ks_m_sizeOf hA) (by decide +kernel) ?_
      refine pw_imul (by decide +kernel) ?_
      refine pw_iload_n (k4 := 2) rfl (by decide +kernel) ?_
      refine pw_iconst (n := 5) (v := 5) (by decide) (by decide +kernel) ?_
      refine pw_idiv (by decide) (by decide +kernel) ?_
      refine pw_isub (by decide +kernel) ?_
      refine pn_val (yWo0 I j u) (by unfold yWo0; rw [if_neg z13]) ?_
      refine pq_istore (i := 5) (Nat.le_of_ble_eq_true rfl) rfl (by decide +kernel) ?_
      refine pw_aload_n (k4 := 0) rfl (by decide +kernel) ?_
      refine pw_iload_n (k4 := 1) rfl (by decide +kernel) ?_
      refine pw_iload_n (k4 := 2) rfl (by decide +kernel) ?_
      refine pw_iload_n (k4 := 3) rfl (by decide +kernel) ?_
      refine pw_iload (i := 4) rfl (by decide +kernel) ?_
      refine pq_callV (ν := m_Mo_layNames) (d' := 1) (av := [_, _, _, _]) (c := 11) (by decide +kernel) lm_Mo_412 ok_Mo_layNames (show _ = some 4 by decide +kernel) (ks_m hA) rfl (by decide) (by omega) (Nat.le_of_ble_eq_true rfl) (ct_Mo_layNames hA (by omega) _ _ _ hq) ?_
      rintro _ _ ⟨rfl, L', rfl, hnm, hLo⟩
      refine pw_aload_n (k4 := 0) rfl (by decide +kernel) ?_
      refine pw_iconst (n := 0) (v := 0) (by decide) (by decide +kernel) ?_
      refine pw_iload (i := 5) rfl (by decide +kernel) ?_
      refine pw_if_ge (off := 7) (tgt := 54) (by decide +kernel) (by decide +kernel) (fun z47 => ?_) (fun z47 => ?_)
      · refine pw_iload (i := 5) rfl (by decide +kernel) ?_
        refine pw_sipush (n := 999) (v := 999) (by decide) (by decide +kernel) ?_
        refine pq_callV (ν := m_Mo_boundLaw) (d' := 3) (av := [_, _, _]) (c := 11) (by decide +kernel) lm_Mo_416 ok_Mo_boundLaw (show _ = some 3 by decide +kernel) (ks_m hA) rfl (by decide) (by omega) (Nat.le_of_ble_eq_true rfl) (ct_Mo_boundLaw hA hwf hnm (r := 0) (by decide) _ _) ?_
        rintro _ _ ⟨rfl, ev, L2, rfl, hL2⟩
        exact pq_iret rfl (by decide +kernel) ⟨congrArg (fun z => some (Value.int z)) (by unfold yWorthB; rw [if_neg z3, if_neg (Int32.not_lt.mpr z47)]), ev, L2, rfl, fun a g1 g2 => (hL2 a g1 g2).trans (hLo a g1)⟩
      · refine pw_iconst (n := 0) (v := 0) (by decide) (by decide +kernel) ?_
        refine pw_goto (off := 5) (tgt := 56) (by decide +kernel) (by decide +kernel) ?_
        refine pw_sipush (n := 999) (v := 999) (by decide) (by decide +kernel) ?_
        refine pq_callV (ν := m_Mo_boundLaw) (d' := 3) (av := [_, _, _]) (c := 11) (by decide +kernel) lm_Mo_416 ok_Mo_boundLaw (show _ = some 3 by decide +kernel) (ks_m hA) rfl (by decide) (by omega) (Nat.le_of_ble_eq_true rfl) (ct_Mo_boundLaw hA hwf hnm (r := 0) (by decide) _ _) ?_
        rintro _ _ ⟨rfl, ev, L2, rfl, hL2⟩
        exact pq_iret rfl (by decide +kernel) ⟨congrArg (fun z => some (Value.int z)) (by unfold yWorthB; rw [if_neg z3, if_pos (Int32.not_le.mp z47)]), ev, L2, rfl, fun a g1 g2 => (hL2 a g1 g2).trans (hLo a g1)⟩
    · refine pw_iconst (n := 2) (v := 2) (by decide) (by decide +kernel) ?_
      refine pw_goto (off := 4) (tgt := 21) (by decide +kernel) (by decide +kernel) ?_
      refine pw_aload_n (k4 := 0) rfl (by decide +kernel) ?_
      refine pq_getP (c := 11) (k := 29) (ks_m hA) (by decide) (by decide) (kp_m_sizeOf hA) lf_Mo_38 (by decide +kernel) ?_
      refine pw_iload_n (k4 := 1) rfl (by decide +kernel) ?_
      refine pq_iald j rfl (by omega) (by decide) (ks_m_sizeOf hA) (by decide +kernel) ?_
      refine pw_imul (by decide +kernel) ?_
      refine pw_iload_n (k4 := 2) rfl (by decide +kernel) ?_
      refine pw_iconst (n := 5) (v := 5) (by decide) (by decide +kernel) ?_
      refine pw_idiv (by decide) (by decide +kernel) ?_
      refine pw_isub (by decide +kernel) ?_
      refine pn_val (yWo0 I j u) (by unfold yWo0; rw [if_pos z13]) ?_
      refine pq_istore (i := 5) (Nat.le_of_ble_eq_true rfl) rfl (by decide +kernel) ?_
      refine pw_aload_n (k4 := 0) rfl (by decide +kernel) ?_
      refine pw_iload_n (k4 := 1) rfl (by decide +kernel) ?_
      refine pw_iload_n (k4 := 2) rfl (by decide +kernel) ?_
      refine pw_iload_n (k4 := 3) rfl (by decide +kernel) ?_
      refine pw_iload (i := 4) rfl (by decide +kernel) ?_
      refine pq_callV (ν := m_Mo_layNames) (d' := 1) (av := [_, _, _, _]) (c := 11) (by decide +kernel) lm_Mo_412 ok_Mo_layNames (show _ = some 4 by decide +kernel) (ks_m hA) rfl (by decide) (by omega) (Nat.le_of_ble_eq_true rfl) (ct_Mo_layNames hA (by omega) _ _ _ hq) ?_
      rintro _ _ ⟨rfl, L', rfl, hnm, hLo⟩
      refine pw_aload_n (k4 := 0) rfl (by decide +kernel) ?_
      refine pw_iconst (n := 0) (v := 0) (by decide) (by decide +kernel) ?_
      refine pw_iload (i := 5) rfl (by decide +kernel) ?_
      refine pw_if_ge (off := 7) (tgt := 54) (by decide +kernel) (by decide +kernel) (fun z47 => ?_) (fun z47 => ?_)
      · refine pw_iload (i := 5) rfl (by decide +kernel) ?_
        refine pw_sipush (n := 999) (v := 999) (by decide) (by decide +kernel) ?_
        refine pq_callV (ν := m_Mo_boundLaw) (d' := 3) (av := [_, _, _]) (c := 11) (by decide +kernel) lm_Mo_416 ok_Mo_boundLaw (show _ = some 3 by decide +kernel) (ks_m hA) rfl (by decide) (by omega) (Nat.le_of_ble_eq_true rfl) (ct_Mo_boundLaw hA hwf hnm (r := 0) (by decide) _ _) ?_
        rintro _ _ ⟨rfl, ev, L2, rfl, hL2⟩
        exact pq_iret rfl (by decide +kernel) ⟨congrArg (fun z => some (Value.int z)) (by unfold yWorthB; rw [if_neg z3, if_neg (Int32.not_lt.mpr z47)]), ev, L2, rfl, fun a g1 g2 => (hL2 a g1 g2).trans (hLo a g1)⟩
      · refine pw_iconst (n := 0) (v := 0) (by decide) (by decide +kernel) ?_
        refine pw_goto (off := 5) (tgt := 56) (by decide +kernel) (by decide +kernel) ?_
        refine pw_sipush (n := 999) (v := 999) (by decide) (by decide +kernel) ?_
        refine pq_callV (ν := m_Mo_boundLaw) (d' := 3) (av := [_, _, _]) (c := 11) (by decide +kernel) lm_Mo_416 ok_Mo_boundLaw (show _ = some 3 by decide +kernel) (ks_m hA) rfl (by decide) (by omega) (Nat.le_of_ble_eq_true rfl) (ct_Mo_boundLaw hA hwf hnm (r := 0) (by decide) _ _) ?_
        rintro _ _ ⟨rfl, ev, L2, rfl, hL2⟩
        exact pq_iret rfl (by decide +kernel) ⟨congrArg (fun z => some (Value.int z)) (by unfold yWorthB; rw [if_neg z3, if_pos (Int32.not_le.mp z47)]), ev, L2, rfl, fun a g1 g2 => (hL2 a g1 g2).trans (hLo a g1)⟩
  · refine pw_iconst (n := 0) (v := 0) (by decide) (by decide +kernel) ?_
    exact pq_iret rfl (by decide +kernel) (rIe_s (if_pos z3).symm)

theorem ct_Mo_worthOf {sh : List pSh} {I : Nat → Nat → Int32} {L : Nat → Nat → Int64} {P : Nat → Nat → Option Nat} (hA : kA sh P) (hwf : wfL I) {b j : Nat} (hb : b < 2) (hj : j < 16) (hq : ¬ I 163 (16 * b + j) < 0 → ∃ p, p < 5 ∧ I 163 (16 * b + j) = nI p) : pCn m_Mo_worthOf 5 [.ref 134, .int (nI b), .int (nI j)] sh (I, L, P) (rIe (yWorth I b j) I L P) := by
  refine pCn_of (by decide +kernel) (Nat.le_of_ble_eq_true rfl) ?_
  refine pw_aload_n (k4 := 0) rfl (by decide +kernel) ?_
  refine pw_iload_n (k4 := 2) rfl (by decide +kernel) ?_
  refine pw_aload_n (k4 := 0) rfl (by decide +kernel) ?_
  refine pq_getP (c := 11) (k := 55) (ks_m hA) (by decide) (by decide) (kp_m_used hA) lf_Mo_97 (by decide +kernel) ?_
  refine pw_bipush (n := 16) (v := 16) (by decide) (by decide +kernel) ?_
  refine pw_iload_n (k4 := 1) rfl (by decide +kernel) ?_
  refine pn_imul 16 b rfl rfl (by decide +kernel) ?_
  refine pw_iload_n (k4 := 2) rfl (by decide +kernel) ?_
  refine pn_iadd (16 * b) j rfl rfl (by decide +kernel) ?_
  refine pq_iald ((16 * b) + j) rfl (by omega) (by decide) (ks_m_used hA) (by decide +kernel) ?_
  refine pw_aload_n (k4 := 0) rfl (by decide +kernel) ?_
  refine pq_getP (c := 11) (k := 56) (ks_m hA) (by decide) (by decide) (kp_m_whose hA) lf_Mo_100 (by decide +kernel) ?_
  refine pw_bipush (n := 16) (v := 16) (by decide) (by decide +kernel) ?_
  refine pw_iload_n (k4 := 1) rfl (by decide +kernel) ?_
  refine pn_imul 16 b rfl rfl (by decide +kernel) ?_
  refine pw_iload_n (k4 := 2) rfl (by decide +kernel) ?_
  refine pn_iadd (16 * b) j rfl rfl (by decide +kernel) ?_
  refine pq_iald ((16 * b) + j) rfl (by omega) (by decide) (ks_m_whose hA) (by decide +kernel) ?_
  refine pw_aload_n (k4 := 0) rfl (by decide +kernel) ?_
  refine pq_getP (c := 11) (k := 60) (ks_m hA) (by decide) (by decide) (kp_m_day hA) lf_Mo_112 (by decide +kernel) ?_
  refine pw_iload_n (k4 := 1) rfl (by decide +kernel) ?_
  refine pq_iald b rfl (by omega) (by decide) (ks_m_day hA) (by decide +kernel) ?_
  refine pq_callV (ν := m_Mo_worthBy) (d' := 4) (av := [_, _, _, _]) (c := 11) (by decide +kernel) lm_Mo_420 ok_Mo_worthBy (show _ = some 4 by decide +kernel) (ks_m hA) rfl (by decide) (by omega) (Nat.le_of_ble_eq_true rfl) (ct_Mo_worthBy hA hwf (by omega) _ _ _ hq) ?_
  rintro _ _ ⟨rfl, ev, L2, rfl, hL2⟩
  exact pq_iret rfl (by decide +kernel) ⟨rfl, ev, L2, rfl, hL2⟩

theorem ct_Mo_wearBy {sh : List pSh} {I : Nat → Nat → Int32} {L : Nat → Nat → Int64} {P : Nat → Nat → Option Nat} (hA : kA sh P) (hwf : wfL I) {j p : Nat} (hj : j < 16) (hp : p < 5) (u d : Int32) : pCn m_Mo_wearBy 4 [.ref 134, .int (nI j), .int u, .int (nI p), .int d] sh (I, L, P) (rIe (yWearB I j u p d) I L P) := by
  refine pCn_of (by decide +kernel) (Nat.le_of_ble_eq_true rfl) ?_
  refine pw_aload_n (k4 := 0) rfl (by decide +kernel) ?_
  refine pw_iload_n (k4 := 1) rfl (by decide +kernel) ?_
  refine pw_iload_n (k4 := 2) rfl (by decide +kernel) ?_
  refine pw_iload_n (k4 := 3) rfl (by decide +kernel) ?_
  refine pw_iload (i := 4) rfl (by decide +kernel) ?_
  refine pq_callV (ν := m_Mo_layNames) (d' := 1) (av := [_, _, _, _]) (c := 11) (by decide +kernel) lm_Mo_412 ok_Mo_layNames (show _ = some 4 by decide +kernel) (ks_m hA) rfl (by decide) (by omega) (Nat.le_of_ble_eq_true rfl) (ct_Mo_layNames hA (by omega) _ _ _ (fun _ => ⟨p, hp, rfl⟩)) ?_
  rintro _ _ ⟨rfl, L', rfl, hnm, hLo⟩
  refine pw_aload_n (k4 := 0) rfl (by decide +kernel) ?_
  refine pw_iconst (n := 2) (v := 2) (by decide) (by decide +kernel) ?_
  refine pw_aload_n (k4 := 0) rfl (by decide +kernel) ?_
  refine pq_getP (c := 11) (k := 25) (ks_m hA) (by decide) (by decide) (kp_m_stepsOf hA) lf_Mo_26 (by decide +kernel) ?_
  refine pw_iload_n (k4 := 3) rfl (by decide +kernel) ?_
  refine pq_iald p rfl (by omega) (by decide) (ks_m_stepsOf hA) (by decide +kernel) ?_
  refine pw_bipush (n := 10) (v := 10) (by decide) (by decide +kernel) ?_
  refine pw_idiv (by decide) (by decide +kernel) ?_
  refine pw_bipush (n := 50) (v := 50) (by decide) (by decide +kernel) ?_
  refine pq_callV (ν := m_Mo_boundLaw) (d' := 3) (av := [_, _, _]) (c := 11) (by decide +kernel) lm_Mo_416 ok_Mo_boundLaw (show _ = some 3 by decide +kernel) (ks_m hA) rfl (by decide) (by omega) (Nat.le_of_ble_eq_true rfl) (ct_Mo_boundLaw hA hwf hnm (r := 2) (by decide) _ _) ?_
  rintro _ _ ⟨rfl, ev, L2, rfl, hL2⟩
  exact pq_iret rfl (by decide +kernel) ⟨rfl, ev, L2, rfl, fun a g1 g2 => (hL2 a g1 g2).trans (hLo a g1)⟩

theorem ct_Mo_layPair {sh : List pSh} {I : Nat → Nat → Int32} {L : Nat → Nat → Int64} {P : Nat → Nat → Option Nat} (hA : kA sh P) {i j : Nat} (hi : i < 16) (hj : j < 16) : pCn m_Mo_layPair 0 [.ref 134, .int (nI i), .int (nI j)] sh (I, L, P) (rNm I L P (yNmP I i j)) := by
  refine pCn_of (by decide +kernel) (Nat.le_of_ble_eq_true rfl) ?_
  refine pw_aload_n (k4 := 0) rfl (by decide +kernel) ?_
  refine pq_getP (c := 11) (k := 29) (ks_m hA) (by decide) (by decide) (kp_m_sizeOf hA) lf_Mo_38 (by decide +kernel) ?_
  refine pw_iload_n (k4 := 1) rfl (by decide +kernel) ?_
  refine pq_iald i rfl (by omega) (by decide) (ks_m_sizeOf hA) (by decide +kernel) ?_
  refine pw_aload_n (k4 := 0) rfl (by decide +kernel) ?_
  refine pq_getP (c := 11) (k := 29) (ks_m hA) (by decide) (by decide) (kp_m_sizeOf hA) lf_Mo_38 (by decide +kernel) ?_
  refine pw_iload_n (k4 := 2) rfl (by decide +kernel) ?_
  refine pq_iald j rfl (by omega) (by decide) (ks_m_sizeOf hA) (by decide +kernel) ?_
  refine pw_isub (by decide +kernel) ?_
  refine pq_istore_n (k4 := 3) (Nat.le_of_ble_eq_true rfl) rfl (by decide +kernel) ?_
  refine pw_aload_n (k4 := 0) rfl (by decide +kernel) ?_
  refine pq_getP (c := 11) (k := 52) (ks_m hA) (by decide) (by decide) (kp_m_names hA) lf_Mo_90 (by decide +kernel) ?_
  refine pw_iconst (n := 0) (v := 0) (by decide) (by decide +kernel) ?_
  refine pw_aload_n (k4 := 0) rfl (by decide +kernel) ?_
  refine pq_getP (c := 11) (k := 29) (ks_m hA) (by decide) (by decide) (kp_m_sizeOf hA) lf_Mo_38 (by decide +kernel) ?_
  refine pw_iload_n (k4 := 1) rfl (by decide +kernel) ?_
  refine pq_iald i rfl (by omega) (by decide) (ks_m_sizeOf hA) (by decide +kernel) ?_
  refine pw_i2l (by decide +kernel) ?_
  refine pq_last 0 rfl (by omega) (by decide) (ks_m_names hA) (by decide +kernel) ?_
  refine pw_aload_n (k4 := 0) rfl (by decide +kernel) ?_
  refine pq_getP (c := 11) (k := 52) (ks_m hA) (by decide) (by decide) (kp_m_names hA) lf_Mo_90 (by decide +kernel) ?_
  refine pw_iconst (n := 1) (v := 1) (by decide) (by decide +kernel) ?_
  refine pw_aload_n (k4 := 0) rfl (by decide +kernel) ?_
  refine pq_getP (c := 11) (k := 55) (ks_m hA) (by decide) (by decide) (kp_m_used hA) lf_Mo_97 (by decide +kernel) ?_
  refine pw_iload_n (k4 := 1) rfl (by decide +kernel) ?_
  refine pq_iald i rfl (by omega) (by decide) (ks_m_used hA) (by decide +kernel) ?_
  refine pw_aload_n (k4 := 0) rfl (by decide +kernel) ?_
  refine pq_getP (c := 11) (k := 55) (ks_m hA) (by decide) (by decide) (kp_m_used hA) lf_Mo_97 (by decide +kernel) ?_
  refine pw_iload_n (k4 := 2) rfl (by decide +kernel) ?_
  refine pq_iald j rfl (by omega) (by decide) (ks_m_used hA) (by decide +kernel) ?_
  refine pw_iadd (by decide +kernel) ?_
  refine pw_i2l (by decide +kernel) ?_
  refine pq_last 1 rfl (by omega) (by decide) (ks_m_names hA) (by decide +kernel) ?_
  refine pw_aload_n (k4 := 0) rfl (by decide +kernel) ?_
  refine pq_getP (c := 11) (k := 52) (ks_m hA) (by decide) (by decide) (kp_m_names hA) lf_Mo_90 (by decide +kernel) ?_
  refine pw_iconst (n := 2) (v := 2) (by decide) (by decide +kernel) ?_
  refine pw_iload_n (k4 := 3) rfl (by decide +kernel) ?_
  refine pw_if_ge (off := 9) (tgt := 62) (by decide +kernel) (by decide +kernel) (fun z53 => ?_) (fun z53 => ?_)
  · refine pw_iload_n (k4 := 3) rfl (by decide +kernel) ?_
    refine pw_i2l (by decide +kernel) ?_
    refine pq_last 2 rfl (by omega) (by decide) (ks_m_names hA) (by decide +kernel) ?_
    refine pw_aload_n (k4 := 0) rfl (by decide +kernel) ?_
    refine pq_getP (c := 11) (k := 52) (ks_m hA) (by decide) (by decide) (kp_m_names hA) lf_Mo_90 (by decide +kernel) ?_
    refine pw_iconst (n := 3) (v := 3) (by decide) (by decide +kernel) ?_
    refine pw_aload_n (k4 := 0) rfl (by decide +kernel) ?_
    refine pq_getP (c := 11) (k := 31) (ks_m hA) (by decide) (by decide) (kp_m_kindOf hA) lf_Mo_44 (by decide +kernel) ?_
    refine pw_iload_n (k4 := 1) rfl (by decide +kernel) ?_
    refine pq_iald i rfl (by omega) (by decide) (ks_m_kindOf hA) (by decide +kernel) ?_
    refine pw_i2l (by decide +kernel) ?_
    refine pq_last 3 rfl (by omega) (by decide) (ks_m_names hA) (by decide +kernel) ?_
    refine pw_aload_n (k4 := 0) rfl (by decide +kernel) ?_
    refine pq_getP (c := 11) (k := 52) (ks_m hA) (by decide) (by decide) (kp_m_names hA) lf_Mo_90 (by decide +kernel) ?_
    refine pw_iconst (n := 4) (v := 4) (by decide) (by decide +kernel) ?_
    refine pw_lconst (n := 0) (v := 0) (by decide) (by decide +kernel) ?_
    refine pq_last 4 rfl (by omega) (by decide) (ks_m_names hA) (by decide +kernel) ?_
    refine pw_aload_n (k4 := 0) rfl (by decide +kernel) ?_
    refine pq_getP (c := 11) (k := 52) (ks_m hA) (by decide) (by decide) (kp_m_names hA) lf_Mo_90 (by decide +kernel) ?_
    refine pw_iconst (n := 5) (v := 5) (by decide) (by decide +kernel) ?_
    refine pw_aload_n (k4 := 0) rfl (by decide +kernel) ?_
    refine pq_getP (c := 11) (k := 60) (ks_m hA) (by decide) (by decide) (kp_m_day hA) lf_Mo_112 (by decide +kernel) ?_
    refine pw_iconst (n := 0) (v := 0) (by decide) (by decide +kernel) ?_
    refine pq_iald 0 rfl (by omega) (by decide) (ks_m_day hA) (by decide +kernel) ?_
    refine pw_i2l (by decide +kernel) ?_
    refine pq_last 5 rfl (by omega) (by decide) (ks_m_names hA) (by decide +kernel) ?_
    refine pw_aload_n (k4 := 0) rfl (by decide +kernel) ?_
    refine pq_getP (c := 11) (k := 52) (ks_m hA) (by decide) (by decide) (kp_m_names hA) lf_Mo_90 (by decide +kernel) ?_
    refine pw_bipush (n := 6) (v := 6) (by decide) (by decide +kernel) ?_
    refine pw_lconst (n := 0) (v := 0) (by decide) (by decide +kernel) ?_
    refine pq_last 6 rfl (by omega) (by decide) (ks_m_names hA) (by decide +kernel) ?_
    exact pq_vret rfl (by decide +kernel) ⟨rfl, _, rfl, fun k hk => (yNm_set _ _ _ _ _ _ _ _ _ k hk).trans (by unfold yNmP yDif; rw [if_pos z53]), fun a ha => by rw [sL_ne ha, sL_ne ha, sL_ne ha, sL_ne ha, sL_ne ha, sL_ne ha, sL_ne ha]⟩
  · refine pw_iload_n (k4 := 3) rfl (by decide +kernel) ?_
    refine pw_ineg (by decide +kernel) ?_
    refine pw_i2l (by decide +kernel) ?_
    refine pw_goto (off := 5) (tgt := 64) (by decide +kernel) (by decide +kernel) ?_
    refine pq_last 2 rfl (by omega) (by decide) (ks_m_names hA) (by decide +kernel) ?_
    refine pw_aload_n (k4 := 0) rfl (by decide +kernel) ?_
    refine pq_getP (c := 11) (k := 52) (ks_m hA) (by decide) (by decide) (kp_m_names hA) lf_Mo_90 (by decide +kernel) ?_
    refine pw_iconst (n := 3) (v := 3) (by decide) (by decide +kernel) ?_
    refine pw_aload_n (k4 := 0) rfl (by decide +kernel) ?_
    refine pq_getP (c := 11) (k := 31) (ks_m hA) (by decide) (by decide) (kp_m_kindOf hA) lf_Mo_44 (by decide +kernel) ?_
    refine pw_iload_n (k4 := 1) rfl (by decide +kernel) ?_
    refine pq_iald i rfl (by omega) (by decide) (ks_m_kindOf hA) (by decide +kernel) ?_
    refine pw_i2l (by decide +kernel) ?_
    refine pq_last 3 rfl (by omega) (by decide) (ks_m_names hA) (by decide +kernel) ?_
    refine pw_aload_n (k4 := 0) rfl (by decide +kernel) ?_
    refine pq_getP (c := 11) (k := 52) (ks_m hA) (by decide) (by decide) (kp_m_names hA) lf_Mo_90 (by decide +kernel) ?_
    refine pw_iconst (n := 4) (v := 4) (by decide) (by decide +kernel) ?_
    refine pw_lconst (n := 0) (v := 0) (by decide) (by decide +kernel) ?_
    refine pq_last 4 rfl (by omega) (by decide) (ks_m_names hA) (by decide +kernel) ?_
    refine pw_aload_n (k4 := 0) rfl (by decide +kernel) ?_
    refine pq_getP (c := 11) (k := 52) (ks_m hA) (by decide) (by decide) (kp_m_names hA) lf_Mo_90 (by decide +kernel) ?_
    refine pw_iconst (n := 5) (v := 5) (by decide) (by decide +kernel) ?_
    refine pw_aload_n (k4 := 0) rfl (by decide +kernel) ?_
    refine pq_getP (c := 11) (k := 60) (ks_m hA) (by decide) (by decide) (kp_m_day hA) lf_Mo_112 (by decide +kernel) ?_
    refine pw_iconst (n := 0) (v := 0) (by decide) (by decide +kernel) ?_
    refine pq_iald 0 rfl (by omega) (by decide) (ks_m_day hA) (by decide +kernel) ?_
    refine pw_i2l (by decide +kernel) ?_
    refine pq_last 5 rfl (by omega) (by decide) (ks_m_names hA) (by decide +kernel) ?_
    refine pw_aload_n (k4 := 0) rfl (by decide +kernel) ?_
    refine pq_getP (c := 11) (k := 52) (ks_m hA) (by decide) (by decide) (kp_m_names hA) lf_Mo_90 (by decide +kernel) ?_
    refine pw_bipush (n := 6) (v := 6) (by decide) (by decide +kernel) ?_
    refine pw_lconst (n := 0) (v := 0) (by decide) (by decide +kernel) ?_
    refine pq_last 6 rfl (by omega) (by decide) (ks_m_names hA) (by decide +kernel) ?_
    exact pq_vret rfl (by decide +kernel) ⟨rfl, _, rfl, fun k hk => (yNm_set _ _ _ _ _ _ _ _ _ k hk).trans (by unfold yNmP yDif; rw [if_neg z53]), fun a ha => by rw [sL_ne ha, sL_ne ha, sL_ne ha, sL_ne ha, sL_ne ha, sL_ne ha, sL_ne ha]⟩

theorem ct_Mo_pairOf {sh : List pSh} {I : Nat → Nat → Int32} {L : Nat → Nat → Int64} {P : Nat → Nat → Option Nat} (hA : kA sh P) (hwf : wfL I) {i j : Nat} (hi : i < 16) (hj : j < 16) : pCn m_Mo_pairOf 4 [.ref 134, .int (nI i), .int (nI j)] sh (I, L, P) (rIe (yPairB I i j) I L P) := by
  refine pCn_of (by decide +kernel) (Nat.le_of_ble_eq_true rfl) ?_
  refine pw_aload_n (k4 := 0) rfl (by decide +kernel) ?_
  refine pw_iload_n (k4 := 1) rfl (by decide +kernel) ?_
  refine pw_iload_n (k4 := 2) rfl (by decide +kernel) ?_
  refine pq_callV (ν := m_Mo_layPair) (d' := 0) (av := [_, _]) (c := 11) (by decide +kernel) lm_Mo_424 ok_Mo_layPair (show _ = some 2 by decide +kernel) (ks_m hA) rfl (by decide) (by omega) (Nat.le_of_ble_eq_true rfl) (ct_Mo_layPair hA hi hj) ?_
  rintro _ _ ⟨rfl, L', rfl, hnm, hLo⟩
  refine pw_aload_n (k4 := 0) rfl (by decide +kernel) ?_
  refine pw_iconst (n := 1) (v := 1) (by decide) (by decide +kernel) ?_
  refine pw_aload_n (k4 := 0) rfl (by decide +kernel) ?_
  refine pq_getP (c := 11) (k := 29) (ks_m hA) (by decide) (by decide) (kp_m_sizeOf hA) lf_Mo_38 (by decide +kernel) ?_
  refine pw_iload_n (k4 := 1) rfl (by decide +kernel) ?_
  refine pq_iald i rfl (by omega) (by decide) (ks_m_sizeOf hA) (by decide +kernel) ?_
  refine pw_aload_n (k4 := 0) rfl (by decide +kernel) ?_
  refine pq_getP (c := 11) (k := 29) (ks_m hA) (by decide) (by decide) (kp_m_sizeOf hA) lf_Mo_38 (by decide +kernel) ?_
  refine pw_iload_n (k4 := 2) rfl (by decide +kernel) ?_
  refine pq_iald j rfl (by omega) (by decide) (ks_m_sizeOf hA) (by decide +kernel) ?_
  refine pw_icmp_ne (off := 23) (tgt := 43) (by decide +kernel) (by decide +kernel) (fun z20 => ?_) (fun z20 => ?_)
  · refine pw_iconst (n := 0) (v := 0) (by decide) (by decide +kernel) ?_
    refine pw_sipush (n := 999) (v := 999) (by decide) (by decide +kernel) ?_
    refine pq_callV (ν := m_Mo_boundLaw) (d' := 3) (av := [_, _, _]) (c := 11) (by decide +kernel) lm_Mo_416 ok_Mo_boundLaw (show _ = some 3 by decide +kernel) (ks_m hA) rfl (by decide) (by omega) (Nat.le_of_ble_eq_true rfl) (ct_Mo_boundLaw hA hwf hnm (r := 1) (by decide) _ _) ?_
    rintro _ _ ⟨rfl, ev, L2, rfl, hL2⟩
    exact pq_iret rfl (by decide +kernel) ⟨congrArg (fun z => some (Value.int z)) (by unfold yPairB; rw [if_neg (fun q => z20 q.1)]), ev, L2, rfl, fun a g1 g2 => (hL2 a g1 g2).trans (hLo a g1)⟩
  · refine pw_aload_n (k4 := 0) rfl (by decide +kernel) ?_
    refine pq_getP (c := 11) (k := 31) (ks_m hA) (by decide) (by decide) (kp_m_kindOf hA) lf_Mo_44 (by decide +kernel) ?_
    refine pw_iload_n (k4 := 1) rfl (by decide +kernel) ?_
    refine pq_iald i rfl (by omega) (by decide) (ks_m_kindOf hA) (by decide +kernel) ?_
    refine pw_aload_n (k4 := 0) rfl (by decide +kernel) ?_
    refine pq_getP (c := 11) (k := 31) (ks_m hA) (by decide) (by decide) (kp_m_kindOf hA) lf_Mo_44 (by decide +kernel) ?_
    refine pw_iload_n (k4 := 2) rfl (by decide +kernel) ?_
    refine pq_iald j rfl (by omega) (by decide) (ks_m_kindOf hA) (by decide +kernel) ?_
    refine pw_icmp_ne (off := 8) (tgt := 43) (by decide +kernel) (by decide +kernel) (fun z35 => ?_) (fun z35 => ?_)
    · refine pw_iconst (n := 0) (v := 0) (by decide) (by decide +kernel) ?_
      refine pw_sipush (n := 999) (v := 999) (by decide) (by decide +kernel) ?_
      refine pq_callV (ν := m_Mo_boundLaw) (d' := 3) (av := [_, _, _]) (c := 11) (by decide +kernel) lm_Mo_416 ok_Mo_boundLaw (show _ = some 3 by decide +kernel) (ks_m hA) rfl (by decide) (by omega) (Nat.le_of_ble_eq_true rfl) (ct_Mo_boundLaw hA hwf hnm (r := 1) (by decide) _ _) ?_
      rintro _ _ ⟨rfl, ev, L2, rfl, hL2⟩
      exact pq_iret rfl (by decide +kernel) ⟨congrArg (fun z => some (Value.int z)) (by unfold yPairB; rw [if_neg (fun q => z35 q.2)]), ev, L2, rfl, fun a g1 g2 => (hL2 a g1 g2).trans (hLo a g1)⟩
    · refine pw_bipush (n := 10) (v := 10) (by decide) (by decide +kernel) ?_
      refine pw_goto (off := 4) (tgt := 44) (by decide +kernel) (by decide +kernel) ?_
      refine pw_sipush (n := 999) (v := 999) (by decide) (by decide +kernel) ?_
      refine pq_callV (ν := m_Mo_boundLaw) (d' := 3) (av := [_, _, _]) (c := 11) (by decide +kernel) lm_Mo_416 ok_Mo_boundLaw (show _ = some 3 by decide +kernel) (ks_m hA) rfl (by decide) (by omega) (Nat.le_of_ble_eq_true rfl) (ct_Mo_boundLaw hA hwf hnm (r := 1) (by decide) _ _) ?_
      rintro _ _ ⟨rfl, ev, L2, rfl, hL2⟩
      exact pq_iret rfl (by decide +kernel) ⟨congrArg (fun z => some (Value.int z)) (by unfold yPairB; rw [if_pos ⟨z20, z35⟩]), ev, L2, rfl, fun a g1 g2 => (hL2 a g1 g2).trans (hLo a g1)⟩

def yWo (f g : Nat → Int32) (x : Int32) : Nat → Bool
  | 0 => false
  | p + 1 => yWo f g x p || (decide (f p = x) || decide (g p = x))
theorem yWo_iff {f g : Nat → Int32} {x : Int32} : ∀ {n : Nat}, yWo f g x n = true ↔ ∃ p, p < n ∧ (f p = x ∨ g p = x)
  | 0 => ⟨fun h => (by cases h), fun ⟨p, h, _⟩ => absurd h (Nat.not_lt_zero _)⟩
  | n + 1 => by
    unfold yWo
    rw [Bool.or_eq_true, Bool.or_eq_true, decide_eq_true_eq, decide_eq_true_eq, yWo_iff]
    constructor
    · rintro (⟨p, h, q⟩ | h)
      · exact ⟨p, by omega, q⟩
      · exact ⟨n, by omega, h⟩
    · rintro ⟨p, h, q⟩
      by_cases e : p = n
      · subst e; exact Or.inr q
      · exact Or.inl ⟨p, by omega, q⟩
abbrev yWornA (I : Nat → Nat → Int32) (b : Nat) (x : Int32) (np : Nat) : Prop := yWo (fun p => I 164 (5 * b + p)) (fun p => I 165 (5 * b + p)) x np = true
def yOff (f : Nat → Int32) (b n : Nat) (x : Int32) : Nat → Int32 := fun i => if 5 * b ≤ i ∧ i < 5 * b + n ∧ f i = x then -1 else f i
theorem yOff_0 (f : Nat → Int32) (b : Nat) (x : Int32) : yOff f b 0 x = f := by
  funext i
  unfold yOff
  rw [if_neg (by omega)]
theorem yOff_y {f : Nat → Int32} {b k : Nat} {x : Int32} (h : f (5 * b + k) = x) : upd (yOff f b k x) (5 * b + k) (-1) = yOff f b (k + 1) x := by
  funext i
  simp only [yOff, upd]
  by_cases ei : i = 5 * b + k
  · subst ei; rw [if_pos rfl, if_pos ⟨by omega, by omega, h⟩]
  · rw [if_neg ei]
    by_cases q : 5 * b ≤ i ∧ i < 5 * b + k ∧ f i = x
    · rw [if_pos q, if_pos ⟨q.1, by omega, q.2.2⟩]
    · rw [if_neg q, if_neg (fun z => q ⟨z.1, by omega, z.2.2⟩)]
theorem yOff_n {f : Nat → Int32} {b k : Nat} {x : Int32} (h : ¬ f (5 * b + k) = x) : yOff f b (k + 1) x = yOff f b k x := by
  funext i
  unfold yOff
  by_cases q : 5 * b ≤ i ∧ i < 5 * b + k ∧ f i = x
  · rw [if_pos q, if_pos ⟨q.1, by omega, q.2.2⟩]
  · rw [if_neg q]
    by_cases ei : i = 5 * b + k
    · subst ei; rw [if_neg (fun z => h z.2.2)]
    · rw [if_neg (fun z => q ⟨z.1, by omega, z.2.2⟩)]
theorem yOff_at (f : Nat → Int32) (b k : Nat) (x : Int32) : yOff f b k x (5 * b + k) = f (5 * b + k) := by
  unfold yOff
  rw [if_neg (by omega)]
theorem lr_l (I : Nat → Nat → Int32) (f g : Nat → Int32) (i : Nat) (x : Int32) : sI (aU (aU I 164 f) 165 g) 164 i x = aU (aU I 164 (upd f i x)) 165 g := by
  rw [sI_aU, aU_ne (by decide), aU_eq, aU_cm _ (show 164 ≠ 165 by decide), aU_aU, aU_cm _ (show 165 ≠ 164 by decide)]
theorem lr_r (I : Nat → Nat → Int32) (f g : Nat → Int32) (i : Nat) (x : Int32) : sI (aU (aU I 164 f) 165 g) 165 i x = aU (aU I 164 f) 165 (upd g i x) := by
  rw [sI_aU2]
def yTake (I : Nat → Nat → Int32) (b np : Nat) (x : Int32) : Nat → Nat → Int32 := aU (aU I 164 (yOff (I 164) b np x)) 165 (yOff (I 165) b np x)
def yGoes (I : Nat → Nat → Int32) (b j np : Nat) (to : Int32) : Nat → Nat → Int32 := sI (yTake I b np (nI j)) 163 (16 * b + j) to
def yWears (I : Nat → Nat → Int32) (b np : Nat) (s m : Int32) : Nat → Nat → Int32 := if s < 0 then I else if I 162 (16 * b + ixn s) + m < 50 then sI I 162 (16 * b + ixn s) (I 162 (16 * b + ixn s) + m) else yGoes (sI I 162 (16 * b + ixn s) (I 162 (16 * b + ixn s) + m)) b (ixn s) np (-2)

theorem ct_Mo_isWorn {sh : List pSh} {I : Nat → Nat → Int32} {L : Nat → Nat → Int64} {P : Nat → Nat → Option Nat} (hA : kA sh P) {np ns nd : Nat} (hm : mOK I np ns nd) {b : Nat} (hb : b < 2) (x : Int32) : pCn m_Mo_isWorn 0 [.ref 134, .int (nI b), .int x] sh (I, L, P) (rI (B (yWornA I b x np)) (I, L, P)) := by
  refine pCn_of (by decide +kernel) (Nat.le_of_ble_eq_true rfl) ?_
  have h5 := hm.2.1
  have hL := pUpTo np (fun k => (∀ p, p < k → ¬ I 164 (5 * b + p) = x ∧ ¬ I 165 (5 * b + p) = x) → pWn m_Mo_isWorn 0 sh (rI (B (yWornA I b x np)) (I, L, P)) 2 [some (.ref 134), some (.int (nI b)), some (.int x), some (.int (nI k))] [] (I, L, P)) (by
    intro k hk ih hP
    refine pw_iload_n (k4 := 3) rfl (by decide +kernel) ?_
    refine pw_aload_n (k4 := 0) rfl (by decide +kernel) ?_
    refine pq_getI (c := 11) (k := 12) (ks_m hA) (by decide) (by decide) lf_Mo_259 (by decide +kernel) ?_
    refine pn_val (nI (np)) hm.1 ?_
    refine pn_icmp_ge (off := 39) (tgt := 46) k np rfl rfl (by omega) (by omega) (by decide +kernel) (by decide +kernel) (fun z7 => ?_) (fun z7 => ?_)
    · obtain rfl : k = np := by omega
      refine pw_iconst (n := 0) (v := 0) (by decide) (by decide +kernel) ?_
      exact pq_zret rfl (by decide) (by decide +kernel) ⟨congrArg (fun z => some (Value.int z)) (B_f (fun q => by obtain ⟨p, hp, w⟩ := yWo_iff.mp q; exact w.elim (hP p hp).1 (hP p hp).2)).symm, rfl⟩
    · refine pw_aload_n (k4 := 0) rfl (by decide +kernel) ?_
      refine pq_getP (c := 11) (k := 57) (ks_m hA) (by decide) (by decide) (kp_m_leftOn hA) lf_Mo_103 (by decide +kernel) ?_
      refine pw_iconst (n := 5) (v := 5) (by decide) (by decide +kernel) ?_
      refine pw_iload_n (k4 := 1) rfl (by decide +kernel) ?_
      refine pn_imul 5 b rfl rfl (by decide +kernel) ?_
      refine pw_iload_n (k4 := 3) rfl (by decide +kernel) ?_
      refine pn_iadd (5 * b) k rfl rfl (by decide +kernel) ?_
      refine pq_iald ((5 * b) + k) rfl (by omega) (by decide) (ks_m_leftOn hA) (by decide +kernel) ?_
      refine pw_iload_n (k4 := 2) rfl (by decide +kernel) ?_
      refine pw_icmp_eq (off := 17) (tgt := 38) (by decide +kernel) (by decide +kernel) (fun z21 => ?_) (fun z21 => ?_)
      · refine pw_iconst (n := 1) (v := 1) (by decide) (by decide +kernel) ?_
        exact pq_zret rfl (by decide) (by decide +kernel) ⟨congrArg (fun z => some (Value.int z)) (B_t (yWo_iff.mpr ⟨k, by omega, Or.inl z21⟩)).symm, rfl⟩
      · refine pw_aload_n (k4 := 0) rfl (by decide +kernel) ?_
        refine pq_getP (c := 11) (k := 58) (ks_m hA) (by decide) (by decide) (kp_m_rightOn hA) lf_Mo_106 (by decide +kernel) ?_
        refine pw_iconst (n := 5) (v := 5) (by decide) (by decide +kernel) ?_
        refine pw_iload_n (k4 := 1) rfl (by decide +kernel) ?_
        refine pn_imul 5 b rfl rfl (by decide +kernel) ?_
        refine pw_iload_n (k4 := 3) rfl (by decide +kernel) ?_
        refine pn_iadd (5 * b) k rfl rfl (by decide +kernel) ?_
        refine pq_iald ((5 * b) + k) rfl (by omega) (by decide) (ks_m_rightOn hA) (by decide +kernel) ?_
        refine pw_iload_n (k4 := 2) rfl (by decide +kernel) ?_
        refine pw_icmp_ne (off := 5) (tgt := 40) (by decide +kernel) (by decide +kernel) (fun z35 => ?_) (fun z35 => ?_)
        · refine pn_iinc (i := 3) (n := 1) 1 k rfl rfl (by decide) rfl (by decide +kernel) ?_
          refine pw_goto (off := -41) (tgt := 2) (by decide +kernel) (by decide +kernel) ?_
          exact ih (by omega) (fun p hp => (Nat.lt_succ_iff_lt_or_eq.mp hp).elim (hP p) (fun q => by subst q; exact ⟨z21, z35⟩))
        · refine pw_iconst (n := 1) (v := 1) (by decide) (by decide +kernel) ?_
          exact pq_zret rfl (by decide) (by decide +kernel) ⟨congrArg (fun z => some (Value.int z)) (B_t (yWo_iff.mpr ⟨k, by omega, Or.inr z35⟩)).symm, rfl⟩
)
  refine pw_iconst (n := 0) (v := 0) (by decide) (by decide +kernel) ?_
  refine pq_istore_n (k4 := 3) (Nat.le_of_ble_eq_true rfl) rfl (by decide +kernel) ?_
  exact hL 0 (Nat.zero_le _) (fun p hp => absurd hp (Nat.not_lt_zero _))

theorem ct_Mo_takeOff {sh : List pSh} {I : Nat → Nat → Int32} {L : Nat → Nat → Int64} {P : Nat → Nat → Option Nat} (hA : kA sh P) {np ns nd : Nat} (hm : mOK I np ns nd) {b : Nat} (hb : b < 2) (x : Int32) : pCn m_Mo_takeOff 0 [.ref 134, .int (nI b), .int x] sh (I, L, P) (rV (yTake I b np x, L, P)) := by
  refine pCn_of (by decide +kernel) (Nat.le_of_ble_eq_true rfl) ?_
  have h5 := hm.2.1
  have hL := pUpTo np (fun k => pWn m_Mo_takeOff 0 sh (rV (yTake I b np x, L, P)) 2 [some (.ref 134), some (.int (nI b)), some (.int x), some (.int (nI k))] [] (aU (aU I 164 (yOff (I 164) b k x)) 165 (yOff (I 165) b k x), L, P)) (by
    intro k hk ih
    refine pw_iload_n (k4 := 3) rfl (by decide +kernel) ?_
    refine pw_aload_n (k4 := 0) rfl (by decide +kernel) ?_
    refine pq_getI (c := 11) (k := 12) (ks_m hA) (by decide) (by decide) lf_Mo_259 (by decide +kernel) ?_
    refine pn_val (nI (np)) hm.1 ?_
    refine pn_icmp_ge (off := 59) (tgt := 66) k np rfl rfl (by omega) (by omega) (by decide +kernel) (by decide +kernel) (fun z7 => ?_) (fun z7 => ?_)
    · obtain rfl : k = np := by omega
      exact pq_vret rfl (by decide +kernel) ⟨rfl, rfl⟩
    · refine pw_aload_n (k4 := 0) rfl (by decide +kernel) ?_
      refine pq_getP (c := 11) (k := 57) (ks_m hA) (by decide) (by decide) (kp_m_leftOn hA) lf_Mo_103 (by decide +kernel) ?_
      refine pw_iconst (n := 5) (v := 5) (by decide) (by decide +kernel) ?_
      refine pw_iload_n (k4 := 1) rfl (by decide +kernel) ?_
      refine pn_imul 5 b rfl rfl (by decide +kernel) ?_
      refine pw_iload_n (k4 := 3) rfl (by decide +kernel) ?_
      refine pn_iadd (5 * b) k rfl rfl (by decide +kernel) ?_
      refine pq_iald ((5 * b) + k) rfl (by omega) (by decide) (ks_m_leftOn hA) (by decide +kernel) ?_
      refine pw_iload_n (k4 := 2) rfl (by decide +kernel) ?_
      refine pw_icmp_ne (off := 14) (tgt := 35) (by decide +kernel) (by decide +kernel) (fun z21 => ?_) (fun z21 => ?_)
      · rw [aU_ne (by decide), aU_eq, yOff_at] at z21
        refine pw_aload_n (k4 := 0) rfl (by decide +kernel) ?_
        refine pq_getP (c := 11) (k := 58) (ks_m hA) (by decide) (by decide) (kp_m_rightOn hA) lf_Mo_106 (by decide +kernel) ?_
        refine pw_iconst (n := 5) (v := 5) (by decide) (by decide +kernel) ?_
        refine pw_iload_n (k4 := 1) rfl (by decide +kernel) ?_
        refine pn_imul 5 b rfl rfl (by decide +kernel) ?_
        refine pw_iload_n (k4 := 3) rfl (by decide +kernel) ?_
        refine pn_iadd (5 * b) k rfl rfl (by decide +kernel) ?_
        refine pq_iald ((5 * b) + k) rfl (by omega) (by decide) (ks_m_rightOn hA) (by decide +kernel) ?_
        refine pw_iload_n (k4 := 2) rfl (by decide +kernel) ?_
        refine pw_icmp_ne (off := 14) (tgt := 60) (by decide +kernel) (by decide +kernel) (fun z46 => ?_) (fun z46 => ?_)
        · rw [aU_eq, yOff_at] at z46
          refine pn_iinc (i := 3) (n := 1) 1 k rfl rfl (by decide) rfl (by decide +kernel) ?_
          refine pw_goto (off := -61) (tgt := 2) (by decide +kernel) (by decide +kernel) ?_
          have w := ih (by omega)
          rw [yOff_n z21, yOff_n z46] at w
          exact w
        · rw [aU_eq, yOff_at] at z46
          refine pw_aload_n (k4 := 0) rfl (by decide +kernel) ?_
          refine pq_getP (c := 11) (k := 58) (ks_m hA) (by decide) (by decide) (kp_m_rightOn hA) lf_Mo_106 (by decide +kernel) ?_
          refine pw_iconst (n := 5) (v := 5) (by decide) (by decide +kernel) ?_
          refine pw_iload_n (k4 := 1) rfl (by decide +kernel) ?_
          refine pn_imul 5 b rfl rfl (by decide +kernel) ?_
          refine pw_iload_n (k4 := 3) rfl (by decide +kernel) ?_
          refine pn_iadd (5 * b) k rfl rfl (by decide +kernel) ?_
          refine pw_iconst (n := -1) (v := -1) (by decide) (by decide +kernel) ?_
          refine pq_iast ((5 * b) + k) rfl (by omega) (by decide) (ks_m_rightOn hA) (by decide +kernel) ?_
          refine pn_iinc (i := 3) (n := 1) 1 k rfl rfl (by decide) rfl (by decide +kernel) ?_
          refine pw_goto (off := -61) (tgt := 2) (by decide +kernel) (by decide +kernel) ?_
          rw [lr_r, yOff_y z46]
          have w := ih (by omega)
          rw [yOff_n z21] at w
          exact w
      · rw [aU_ne (by decide), aU_eq, yOff_at] at z21
        refine pw_aload_n (k4 := 0) rfl (by decide +kernel) ?_
        refine pq_getP (c := 11) (k := 57) (ks_m hA) (by decide) (by decide) (kp_m_leftOn hA) lf_Mo_103 (by decide +kernel) ?_
        refine pw_iconst (n := 5) (v := 5) (by decide) (by decide +kernel) ?_
        refine pw_iload_n (k4 := 1) rfl (by decide +kernel) ?_
        refine pn_imul 5 b rfl rfl (by decide +kernel) ?_
        refine pw_iload_n (k4 := 3) rfl (by decide +kernel) ?_
        refine pn_iadd (5 * b) k rfl rfl (by decide +kernel) ?_
        refine pw_iconst (n := -1) (v := -1) (by decide) (by decide +kernel) ?_
        refine pq_iast ((5 * b) + k) rfl (by omega) (by decide) (ks_m_leftOn hA) (by decide +kernel) ?_
        refine pw_aload_n (k4 := 0) rfl (by decide +kernel) ?_
        refine pq_getP (c := 11) (k := 58) (ks_m hA) (by decide) (by decide) (kp_m_rightOn hA) lf_Mo_106 (by decide +kernel) ?_
        refine pw_iconst (n := 5) (v := 5) (by decide) (by decide +kernel) ?_
        refine pw_iload_n (k4 := 1) rfl (by decide +kernel) ?_
        refine pn_imul 5 b rfl rfl (by decide +kernel) ?_
        refine pw_iload_n (k4 := 3) rfl (by decide +kernel) ?_
        refine pn_iadd (5 * b) k rfl rfl (by decide +kernel) ?_
        refine pq_iald ((5 * b) + k) rfl (by omega) (by decide) (ks_m_rightOn hA) (by decide +kernel) ?_
        refine pw_iload_n (k4 := 2) rfl (by decide +kernel) ?_
        refine pw_icmp_ne (off := 14) (tgt := 60) (by decide +kernel) (by decide +kernel) (fun z46 => ?_) (fun z46 => ?_)
        · rw [lr_l, aU_eq, yOff_at] at z46
          refine pn_iinc (i := 3) (n := 1) 1 k rfl rfl (by decide) rfl (by decide +kernel) ?_
          refine pw_goto (off := -61) (tgt := 2) (by decide +kernel) (by decide +kernel) ?_
          rw [lr_l, yOff_y z21]
          have w := ih (by omega)
          rw [yOff_n z46] at w
          exact w
        · rw [lr_l, aU_eq, yOff_at] at z46
          refine pw_aload_n (k4 := 0) rfl (by decide +kernel) ?_
          refine pq_getP (c := 11) (k := 58) (ks_m hA) (by decide) (by decide) (kp_m_rightOn hA) lf_Mo_106 (by decide +kernel) ?_
          refine pw_iconst (n := 5) (v := 5) (by decide) (by decide +kernel) ?_
          refine pw_iload_n (k4 := 1) rfl (by decide +kernel) ?_
          refine pn_imul 5 b rfl rfl (by decide +kernel) ?_
          refine pw_iload_n (k4 := 3) rfl (by decide +kernel) ?_
          refine pn_iadd (5 * b) k rfl rfl (by decide +kernel) ?_
          refine pw_iconst (n := -1) (v := -1) (by decide) (by decide +kernel) ?_
          refine pq_iast ((5 * b) + k) rfl (by omega) (by decide) (ks_m_rightOn hA) (by decide +kernel) ?_
          refine pn_iinc (i := 3) (n := 1) 1 k rfl rfl (by decide) rfl (by decide +kernel) ?_
          refine pw_goto (off := -61) (tgt := 2) (by decide +kernel) (by decide +kernel) ?_
          rw [lr_l, yOff_y z21]
          rw [lr_r, yOff_y z46]
          have w := ih (by omega)
          exact w
)
  refine pw_iconst (n := 0) (v := 0) (by decide) (by decide +kernel) ?_
  refine pq_istore_n (k4 := 3) (Nat.le_of_ble_eq_true rfl) rfl (by decide +kernel) ?_
  have w := hL 0 (Nat.zero_le _)
  rw [yOff_0, yOff_0, aU_self, aU_self] at w
  exact w

theorem ct_Mo_goes {sh : List pSh} {I : Nat → Nat → Int32} {L : Nat → Nat → Int64} {P : Nat → Nat → Option Nat} (hA : kA sh P) {np ns nd : Nat} (hm : mOK I np ns nd) {b j : Nat} (hb : b < 2) (hj : j < 16) (to : Int32) : pCn m_Mo_goes 1 [.ref 134, .int (nI b), .int (nI j), .int to] sh (I, L, P) (rV (yGoes I b j np to, L, P)) := by
  refine pCn_of (by decide +kernel) (Nat.le_of_ble_eq_true rfl) ?_
  refine pw_aload_n (k4 := 0) rfl (by decide +kernel) ?_
  refine pw_iload_n (k4 := 1) rfl (by decide +kernel) ?_
  refine pw_iload_n (k4 := 2) rfl (by decide +kernel) ?_
  refine pq_callV (ν := m_Mo_takeOff) (d' := 0) (av := [_, _]) (c := 11) (by decide +kernel) lm_Mo_428 ok_Mo_takeOff (show _ = some 2 by decide +kernel) (ks_m hA) rfl (by decide) (by omega) (Nat.le_of_ble_eq_true rfl) (ct_Mo_takeOff hA hm hb _) ?_
  rintro _ _ ⟨rfl, rfl⟩
  refine pw_aload_n (k4 := 0) rfl (by decide +kernel) ?_
  refine pq_getP (c := 11) (k := 56) (ks_m hA) (by decide) (by decide) (kp_m_whose hA) lf_Mo_100 (by decide +kernel) ?_
  refine pw_bipush (n := 16) (v := 16) (by decide) (by decide +kernel) ?_
  refine pw_iload_n (k4 := 1) rfl (by decide +kernel) ?_
  refine pn_imul 16 b rfl rfl (by decide +kernel) ?_
  refine pw_iload_n (k4 := 2) rfl (by decide +kernel) ?_
  refine pn_iadd (16 * b) j rfl rfl (by decide +kernel) ?_
  refine pw_iload_n (k4 := 3) rfl (by decide +kernel) ?_
  refine pq_iast ((16 * b) + j) rfl (by omega) (by decide) (ks_m_whose hA) (by decide +kernel) ?_
  exact pq_vret rfl (by decide +kernel) ⟨rfl, rfl⟩

theorem ct_Mo_wears {sh : List pSh} {I : Nat → Nat → Int32} {L : Nat → Nat → Int64} {P : Nat → Nat → Option Nat} (hA : kA sh P) {np ns nd : Nat} (hm : mOK I np ns nd) {b : Nat} (hb : b < 2) (x mo : Int32) (hs : ¬ x < 0 → ∃ j, j < 16 ∧ x = nI j) : pCn m_Mo_wears 2 [.ref 134, .int (nI b), .int x, .int mo] sh (I, L, P) (rV (yWears I b np x mo, L, P)) := by
  refine pCn_of (by decide +kernel) (Nat.le_of_ble_eq_true rfl) ?_
  refine pw_iload_n (k4 := 2) rfl (by decide +kernel) ?_
  refine pw_if_ge (off := 4) (tgt := 5) (by decide +kernel) (by decide +kernel) (fun z1 => ?_) (fun z1 => ?_)
  · obtain ⟨j, hj, rfl⟩ := hs (Int32.not_lt.mpr z1)
    refine pw_aload_n (k4 := 0) rfl (by decide +kernel) ?_
    refine pq_getP (c := 11) (k := 55) (ks_m hA) (by decide) (by decide) (kp_m_used hA) lf_Mo_97 (by decide +kernel) ?_
    refine pw_bipush (n := 16) (v := 16) (by decide) (by decide +kernel) ?_
    refine pw_iload_n (k4 := 1) rfl (by decide +kernel) ?_
    refine pn_imul 16 b rfl rfl (by decide +kernel) ?_
    refine pw_iload_n (k4 := 2) rfl (by decide +kernel) ?_
    refine pn_iadd (16 * b) j rfl rfl (by decide +kernel) ?_
    refine pw_dup2 rfl rfl (by decide +kernel) ?_
    refine pq_iald ((16 * b) + j) rfl (by omega) (by decide) (ks_m_used hA) (by decide +kernel) ?_
    refine pw_iload_n (k4 := 3) rfl (by decide +kernel) ?_
    refine pw_iadd (by decide +kernel) ?_
    refine pq_iast ((16 * b) + j) rfl (by omega) (by decide) (ks_m_used hA) (by decide +kernel) ?_
    refine pw_aload_n (k4 := 0) rfl (by decide +kernel) ?_
    refine pq_getP (c := 11) (k := 55) (ks_m hA) (by decide) (by decide) (kp_m_used hA) lf_Mo_97 (by decide +kernel) ?_
    refine pw_bipush (n := 16) (v := 16) (by decide) (by decide +kernel) ?_
    refine pw_iload_n (k4 := 1) rfl (by decide +kernel) ?_
    refine pn_imul 16 b rfl rfl (by decide +kernel) ?_
    refine pw_iload_n (k4 := 2) rfl (by decide +kernel) ?_
    refine pn_iadd (16 * b) j rfl rfl (by decide +kernel) ?_
    refine pq_iald ((16 * b) + j) rfl (by omega) (by decide) (ks_m_used hA) (by decide +kernel) ?_
    refine pw_bipush (n := 50) (v := 50) (by decide) (by decide +kernel) ?_
    refine pw_icmp_lt (off := 11) (tgt := 44) (by decide +kernel) (by decide +kernel) (fun z33 => ?_) (fun z33 => ?_)
    · rw [sI_rs] at z33
      exact pq_vret rfl (by decide +kernel) ⟨rfl, by unfold yWears; rw [if_neg (Int32.not_lt.mpr z1), ixn_nI (by omega), if_pos z33]⟩
    · rw [sI_rs] at z33
      refine pw_aload_n (k4 := 0) rfl (by decide +kernel) ?_
      refine pw_iload_n (k4 := 1) rfl (by decide +kernel) ?_
      refine pw_iload_n (k4 := 2) rfl (by decide +kernel) ?_
      refine pw_bipush (n := -2) (v := -2) (by decide) (by decide +kernel) ?_
      refine pq_callV (ν := m_Mo_goes) (d' := 1) (av := [_, _, _]) (c := 11) (by decide +kernel) lm_Mo_466 ok_Mo_goes (show _ = some 3 by decide +kernel) (ks_m hA) rfl (by decide) (by omega) (Nat.le_of_ble_eq_true rfl) (ct_Mo_goes hA (show mOK (sI _ 162 _ _) np ns nd from hm) hb hj _) ?_
      rintro _ _ ⟨rfl, rfl⟩
      exact pq_vret rfl (by decide +kernel) ⟨rfl, by unfold yWears; rw [if_neg (Int32.not_lt.mpr z1), ixn_nI (by omega), if_neg z33]⟩
  · exact pq_vret rfl (by decide +kernel) ⟨rfl, by unfold yWears; rw [if_pos (Int32.not_le.mp z1)]⟩
