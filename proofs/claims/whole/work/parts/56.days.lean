/-! ===== the reference: days, pay, change; what is tried is laid ===== -/
def yDays (I : Nat → Nat → Int32) (b np ns nd : Nat) : Nat → Nat → Nat → Int32
  | 0 => I
  | k + 1 => yDay (yDays I b np ns nd k) b np ns nd
theorem yDays_fr {I : Nat → Nat → Int32} {b np ns nd a : Nat} (h : a < 162 ∨ 167 < a) : ∀ n, yDays I b np ns nd n a = I a
  | 0 => rfl
  | n + 1 => by
    unfold yDays
    rw [yDay_fr h]
    exact yDays_fr h n
theorem mI_days {I : Nat → Nat → Int32} {b np ns nd : Nat} (h : mI I b np ns) (hz : zOK I np ns) (hdb : dbM I np nd) (hnp : np ≤ 5) (hns : ns ≤ 16) : ∀ n, mI (yDays I b np ns nd n) b np ns
  | 0 => h
  | n + 1 => by
    have s : sameT (yDays I b np ns nd n) I := fun a ha => yDays_fr (Or.inl ha) n
    unfold yDays
    exact mI_day (mI_days h hz hdb hnp hns n) (s.zOK hz) (s.dbM hdb) hnp hns
def rDsM (I : Nat → Nat → Int32) (P : Nat → Nat → Option Nat) (np ns nd n : Nat) : Option Value → pM → Prop := fun r M => r = some (.int (yDays I 0 np ns nd n 167 0)) ∧ ∃ I' L', M = (I', L', P) ∧ rep I' (if n = 0 then I else sI (yDays I 0 np ns nd n) 134 86 0)

theorem ct_Mo_days {sh : List pSh} {I : Nat → Nat → Int32} {L : Nat → Nat → Int64} {P : Nat → Nat → Option Nat} (hA : kA sh P) {np ns nd : Nat} (hm : mOK I np ns nd) (hwf : wfL I) (hz : zOK I np ns) (hdb : dbM I np nd) (hi : mI I 0 np ns) (q : Int32) : pCn m_Mo_days 9 [.ref 134, .int q] sh (I, L, P) (rIf (0 ≤ q ∧ q ≤ 50 ∧ I 167 0 + q ≤ 999) (rDsM I P np ns nd (ixn q)) (rA (-1) I P)) := by
  refine pCn_of (by decide +kernel) (Nat.le_of_ble_eq_true rfl) ?_
  have h5 := hm.2.1
  have h16 := hm.2.2.2.1
  have hL : ∀ n, (0 ≤ nI n ∧ nI n ≤ 50 ∧ I 167 0 + nI n ≤ 999) → n ≤ 50 → ∀ k, k ≤ n → ∀ (J : Nat → Nat → Int32) (L0 : Nat → Nat → Int64), rep J (yDays I 0 np ns nd k) → pWn m_Mo_days 9 sh (rIf (0 ≤ nI n ∧ nI n ≤ 50 ∧ I 167 0 + nI n ≤ 999) (rDsM I P np ns nd (ixn (nI n))) (rA (-1) I P)) 33 [some (.ref 134), some (.int (nI n)), some (.int (nI k))] [] (J, L0, P) := fun n hc hn5 => pUpTo n _ (by
    intro k hk ih J L0 hR
    refine pw_iload_n (k4 := 2) rfl (by decide +kernel) ?_
    refine pw_iload_n (k4 := 1) rfl (by decide +kernel) ?_
    refine pn_icmp_ge (off := 14) (tgt := 49) k n rfl rfl (by omega) (by omega) (by decide +kernel) (by decide +kernel) (fun z35 => ?_) (fun z35 => ?_)
    · obtain rfl : k = n := by omega
      refine pw_aload_n (k4 := 0) rfl (by decide +kernel) ?_
      refine pw_iload_n (k4 := 1) rfl (by decide +kernel) ?_
      refine pn_if_le (off := 7) (tgt := 58) k rfl (by omega) (by decide +kernel) (by decide +kernel) (fun z51 => ?_) (fun z51 => ?_)
      · refine pw_aload_n (k4 := 0) rfl (by decide +kernel) ?_
        refine pq_getI (c := 11) (k := 86) (ks_m hA) (by decide) (by decide) lf_Mo_393 (by decide +kernel) ?_
        refine pq_putI (c := 11) (k := 86) (ks_m hA) (by decide) (by decide) lf_Mo_393 (Or.inl rfl) (by decide +kernel) ?_
        refine pw_aload_n (k4 := 0) rfl (by decide +kernel) ?_
        refine pq_getP (c := 11) (k := 60) (ks_m hA) (by decide) (by decide) (kp_m_day hA) lf_Mo_112 (by decide +kernel) ?_
        refine pw_iconst (n := 0) (v := 0) (by decide) (by decide +kernel) ?_
        refine pq_iald 0 rfl (by omega) (by decide) (ks_m_day hA) (by decide +kernel) ?_
        exact pq_iret rfl (by decide +kernel) ⟨fun _ => ⟨congrArg (fun z => some (Value.int z)) (by rw [ixn_nI (by omega), ← hR.a167]; rfl), _, _, rfl, by rw [ixn_nI (by omega), if_pos (by omega), sI_same]; obtain rfl : k = 0 := (by omega); exact hR⟩, fun h => absurd hc h⟩
      · refine pw_iconst (n := 0) (v := 0) (by decide) (by decide +kernel) ?_
        refine pw_goto (off := 7) (tgt := 62) (by decide +kernel) (by decide +kernel) ?_
        refine pq_putI (c := 11) (k := 86) (ks_m hA) (by decide) (by decide) lf_Mo_393 (Or.inl rfl) (by decide +kernel) ?_
        refine pw_aload_n (k4 := 0) rfl (by decide +kernel) ?_
        refine pq_getP (c := 11) (k := 60) (ks_m hA) (by decide) (by decide) (kp_m_day hA) lf_Mo_112 (by decide +kernel) ?_
        refine pw_iconst (n := 0) (v := 0) (by decide) (by decide +kernel) ?_
        refine pq_iald 0 rfl (by omega) (by decide) (ks_m_day hA) (by decide +kernel) ?_
        exact pq_iret rfl (by decide +kernel) ⟨fun _ => ⟨congrArg (fun z => some (Value.int z)) (by rw [ixn_nI (by omega), ← hR.a167]; rfl), _, _, rfl, by rw [ixn_nI (by omega), if_neg (by omega)]; exact hR.set _ _ _⟩, fun h => absurd hc h⟩
    · refine pw_aload_n (k4 := 0) rfl (by decide +kernel) ?_
      refine pw_iconst (n := 0) (v := 0) (by decide) (by decide +kernel) ?_
      refine pq_callV (ν := m_Mo_aDay) (d' := 8) (av := [_]) (c := 11) (by decide +kernel) lm_Mo_481 ok_Mo_aDay (show _ = some 1 by decide +kernel) (ks_m hA) rfl (by decide) (by omega) (Nat.le_of_ble_eq_true rfl) (ct_Mo_aDay hA hR (((show sameT (yDays I 0 np ns nd k) I from fun a ha => yDays_fr (Or.inl ha) k)).mOK hm) (((show sameT (yDays I 0 np ns nd k) I from fun a ha => yDays_fr (Or.inl ha) k)).wfL hwf) (((show sameT (yDays I 0 np ns nd k) I from fun a ha => yDays_fr (Or.inl ha) k)).zOK hz) (((show sameT (yDays I 0 np ns nd k) I from fun a ha => yDays_fr (Or.inl ha) k)).dbM hdb) (b := 0) (by decide) (mI_days hi hz hdb h5 h16 k) (lfm.rf _)) ?_
      rintro _ _ ⟨rfl, I2, L2, rfl, hR2, hL2⟩
      refine pn_iinc (i := 2) (n := 1) 1 k rfl rfl (by decide) rfl (by decide +kernel) ?_
      refine pw_goto (off := -13) (tgt := 33) (by decide +kernel) (by decide +kernel) ?_
      exact ih (by omega) I2 L2 hR2
)
  refine pw_aload_n (k4 := 0) rfl (by decide +kernel) ?_
  refine pw_iconst (n := 0) (v := 0) (by decide) (by decide +kernel) ?_
  refine pq_putI (c := 11) (k := 2) (ks_m hA) (by decide) (by decide) lf_Mo_175 (Or.inl rfl) (by decide +kernel) ?_
  refine pw_iload_n (k4 := 1) rfl (by decide +kernel) ?_
  refine pw_iconst (n := 0) (v := 0) (by decide) (by decide +kernel) ?_
  refine pw_bipush (n := 50) (v := 50) (by decide) (by decide +kernel) ?_
  refine pq_callS (ν := m_Mo_isIn) (d' := 0) (av := [_, _, _]) (by decide +kernel) lm_Mo_220 ok_Mo_isIn (show _ = some 3 by decide +kernel) (by omega) (Nat.le_of_ble_eq_true rfl) (ct_Mo_isIn _ _ _) ?_
  rintro _ _ ⟨rfl, rfl⟩
  refine pn_ifB_eq (off := 17) (tgt := 29) (by decide +kernel) (by decide +kernel) (fun z12 => ?_) (fun z12 => ?_)
  · refine pw_iconst (n := -1) (v := -1) (by decide) (by decide +kernel) ?_
    exact pq_iret rfl (by decide +kernel) ⟨fun h => absurd (show 0 ≤ q ∧ q ≤ 50 from ⟨h.1, h.2.1⟩) z12, fun _ => ⟨rfl, _, _, rfl, rep_t⟩⟩
  · refine pw_aload_n (k4 := 0) rfl (by decide +kernel) ?_
    refine pq_getP (c := 11) (k := 60) (ks_m hA) (by decide) (by decide) (kp_m_day hA) lf_Mo_112 (by decide +kernel) ?_
    refine pw_iconst (n := 0) (v := 0) (by decide) (by decide +kernel) ?_
    refine pq_iald 0 rfl (by omega) (by decide) (ks_m_day hA) (by decide +kernel) ?_
    refine pw_iload_n (k4 := 1) rfl (by decide +kernel) ?_
    refine pw_iadd (by decide +kernel) ?_
    refine pw_sipush (n := 999) (v := 999) (by decide) (by decide +kernel) ?_
    refine pw_icmp_le (off := 5) (tgt := 31) (by decide +kernel) (by decide +kernel) (fun z26 => ?_) (fun z26 => ?_)
    · obtain ⟨n, hn0, rfl⟩ := nI_of (Int32.not_lt.mpr z12.1)
      have hc : 0 ≤ nI n ∧ nI n ≤ 50 ∧ I 167 0 + nI n ≤ 999 := ⟨z12.1, z12.2, z26⟩
      have hn5 : n ≤ 50 := (nI_leI hn0 (by decide)).mp z12.2
      refine pw_iconst (n := 0) (v := 0) (by decide) (by decide +kernel) ?_
      refine pq_istore_n (k4 := 2) (Nat.le_of_ble_eq_true rfl) rfl (by decide +kernel) ?_
      exact hL n hc hn5 0 (Nat.zero_le _) _ L rep_t
    · refine pw_iconst (n := -1) (v := -1) (by decide) (by decide +kernel) ?_
      exact pq_iret rfl (by decide +kernel) ⟨fun h => absurd h.2.2 z26, fun _ => ⟨rfl, _, _, rfl, rep_t⟩⟩

def yChangeQ (I : Nat → Nat → Int32) (ns : Nat) (p q : Int32) : Int32 := if yHasP I p ∧ 1 ≤ q ∧ q ≤ 9999 then (if selB (yWt I 0 ns p) (ixn q) < 0 then -2 else selB (yWt I 0 ns p) (ixn q)) else -1
theorem rep_tcg {I : Nat → Nat → Int32} {x ev : Int32} {f g k : Nat → Int32} : rep (aU (aU (aU (sI (sI I 134 2 x) 134 54 ev) 170 k) 168 f) 169 g) I := rep_cg.tr rep_t
theorem yWt_t (I : Nat → Nat → Int32) (x : Int32) (b ns : Nat) (p : Int32) : yWt (sI I 134 2 x) b ns p = yWt I b ns p := rfl
theorem pr_n {q : Int32} (h : 1 ≤ q ∧ q ≤ 9999) : ∃ n : Nat, 1 ≤ n ∧ n < 10000 ∧ q = nI n := xPrice_n h

theorem ct_Mo_change {sh : List pSh} {I : Nat → Nat → Int32} {L : Nat → Nat → Int64} {P : Nat → Nat → Option Nat} (hA : kA sh P) {np ns nd : Nat} (hm : mOK I np ns nd) (hwf : wfL I) (hz : zOK I np ns) (hdb : dbM I np nd) (hi : mI I 0 np ns) (p q : Int32) : pCn m_Mo_change 7 [.ref 134, .int p, .int q] sh (I, L, P) (rA (yChangeQ I ns p q) I P) := by
  refine pCn_of (by decide +kernel) (Nat.le_of_ble_eq_true rfl) ?_
  have h5 := hm.2.1
  have h16 := hm.2.2.2.1
  have h8 := hm.2.2.2.2.2
  refine pw_aload_n (k4 := 0) rfl (by decide +kernel) ?_
  refine pw_iconst (n := 0) (v := 0) (by decide) (by decide +kernel) ?_
  refine pq_putI (c := 11) (k := 2) (ks_m hA) (by decide) (by decide) lf_Mo_175 (Or.inl rfl) (by decide +kernel) ?_
  refine pw_aload_n (k4 := 0) rfl (by decide +kernel) ?_
  refine pw_iload_n (k4 := 1) rfl (by decide +kernel) ?_
  refine pq_callV (ν := m_Mo_isPerson) (d' := 0) (av := [_]) (c := 11) (by decide +kernel) lm_Mo_440 ok_Mo_isPerson (show _ = some 1 by decide +kernel) (ks_m hA) rfl (by decide) (by omega) (Nat.le_of_ble_eq_true rfl) (ct_Mo_isPerson hA _) ?_
  rintro _ _ ⟨rfl, rfl⟩
  refine pn_ifB_eq (off := 14) (tgt := 24) (by decide +kernel) (by decide +kernel) (fun z10 => ?_) (fun z10 => ?_)
  · refine pw_iconst (n := -1) (v := -1) (by decide) (by decide +kernel) ?_
    exact pq_iret rfl (by decide +kernel) ⟨congrArg (fun z => some (Value.int z)) (if_neg (fun h => z10 h.1)).symm, _, _, rfl, rep_t⟩
  · refine pw_iload_n (k4 := 2) rfl (by decide +kernel) ?_
    refine pw_iconst (n := 1) (v := 1) (by decide) (by decide +kernel) ?_
    refine pw_sipush (n := 9999) (v := 9999) (by decide) (by decide +kernel) ?_
    refine pq_callS (ν := m_Mo_isIn) (d' := 0) (av := [_, _, _]) (by decide +kernel) lm_Mo_220 ok_Mo_isIn (show _ = some 3 by decide +kernel) (by omega) (Nat.le_of_ble_eq_true rfl) (ct_Mo_isIn _ _ _) ?_
    rintro _ _ ⟨rfl, rfl⟩
    refine pn_ifB_ne (off := 5) (tgt := 26) (by decide +kernel) (by decide +kernel) (fun z21 => ?_) (fun z21 => ?_)
    · obtain ⟨n, hn1, hn2, rfl⟩ := pr_n z21
      refine pw_aload_n (k4 := 0) rfl (by decide +kernel) ?_
      refine pw_iconst (n := 0) (v := 0) (by decide) (by decide +kernel) ?_
      refine pw_iload_n (k4 := 1) rfl (by decide +kernel) ?_
      refine pw_iload_n (k4 := 2) rfl (by decide +kernel) ?_
      refine pq_callV (ν := m_Mo_changeOf) (d' := 6) (av := [_, _, _]) (c := 11) (by decide +kernel) lm_Mo_463 ok_Mo_changeOf (show _ = some 3 by decide +kernel) (ks_m hA) rfl (by decide) (by omega) (Nat.le_of_ble_eq_true rfl) (ct_Mo_changeOf hA (by exact hm) (b := 0) (by decide) (by exact hwf) (by exact hi.oOK) _ (q := n) (by omega) (by exact fun s hs _ => yWorth_in hi hz hs)) ?_
      rintro _ _ ⟨rfl, ev, f, g, ck, L2, rfl, hL2⟩
      refine pq_istore_n (k4 := 3) (Nat.le_of_ble_eq_true rfl) rfl (by decide +kernel) ?_
      refine pw_iload_n (k4 := 3) rfl (by decide +kernel) ?_
      refine pw_if_ge (off := 8) (tgt := 43) (by decide +kernel) (by decide +kernel) (fun z35 => ?_) (fun z35 => ?_)
      · rw [yWt_t] at z35
        refine pw_iload_n (k4 := 3) rfl (by decide +kernel) ?_
        exact pq_iret rfl (by decide +kernel) ⟨congrArg (fun z => some (Value.int z)) (by unfold yChangeQ; rw [if_pos (show yHasP I p ∧ 1 ≤ nI n ∧ nI n ≤ 9999 from ⟨z10, z21⟩), ixn_nI (by omega), if_neg (Int32.not_lt.mpr z35)] <;> rfl), _, _, rfl, rep_tcg⟩
      · rw [yWt_t] at z35
        refine pw_bipush (n := -2) (v := -2) (by decide) (by decide +kernel) ?_
        refine pw_goto (off := 4) (tgt := 44) (by decide +kernel) (by decide +kernel) ?_
        exact pq_iret rfl (by decide +kernel) ⟨congrArg (fun z => some (Value.int z)) (by unfold yChangeQ; rw [if_pos (show yHasP I p ∧ 1 ≤ nI n ∧ nI n ≤ 9999 from ⟨z10, z21⟩), ixn_nI (by omega), if_pos (Int32.not_le.mp z35)] <;> rfl), _, _, rfl, rep_tcg⟩
    · refine pw_iconst (n := -1) (v := -1) (by decide) (by decide +kernel) ?_
      exact pq_iret rfl (by decide +kernel) ⟨congrArg (fun z => some (Value.int z)) (if_neg (fun h => z21 h.2)).symm, _, _, rfl, rep_t⟩

/-- paying by call -/
def rPyM (I : Nat → Nat → Int32) (P : Nat → Nat → Option Nat) (np ns u : Nat) (p to : Int32) (q : Nat) : Option Value → pM → Prop := fun r M => (selB (yWt I 0 ns p) q < 0 → r = some (.int (-2)) ∧ ∃ I' L', M = (I', L', P) ∧ rep I' I) ∧ (¬ selB (yWt I 0 ns p) q < 0 → r = some (.int (selB (yWt I 0 ns p) q)) ∧ ∃ I' L', M = (I', L', P) ∧ rep I' (yHand (yRem I u) 0 np (selB (yWt I 0 ns p) q) to ns))
theorem rep.rem {I J : Nat → Nat → Int32} (h : rep I J) (u : Nat) : rep (yRem I u) (yRem J u) := by
  unfold yRem
  rw [h.a181, h.a163, h.a164, h.a165]
  exact (h.au _ _).set _ _ _
theorem yWt_rem (I : Nat → Nat → Int32) (u b ns : Nat) (p : Int32) : yWt (yRem I u) b ns p = yWt I b ns p := rfl
theorem rem_T (I : Nat → Nat → Int32) (u : Nat) {np ns nd : Nat} (hm : mOK I np ns nd) : mOK (yRem I u) np ns nd := hm

theorem ct_Mo_pay {sh : List pSh} {I : Nat → Nat → Int32} {L : Nat → Nat → Int64} {P : Nat → Nat → Option Nat} (hA : kA sh P) {np ns nd : Nat} (hm : mOK I np ns nd) (hwf : wfL I) (hz : zOK I np ns) (hdb : dbM I np nd) (hi : mI I 0 np ns) {u : Nat} (hu : I 134 86 = nI u) (hu20 : u ≤ 20) (p to q : Int32) : pCn m_Mo_pay 8 [.ref 134, .int p, .int to, .int q] sh (I, L, P) (rIf (yHasP I p ∧ yHasP I to ∧ p ≠ to ∧ 1 ≤ q ∧ q ≤ 9999) (rPyM I P np ns u p to (ixn q)) (rA (-1) I P)) := by
  refine pCn_of (by decide +kernel) (Nat.le_of_ble_eq_true rfl) ?_
  have h5 := hm.2.1
  have h16 := hm.2.2.2.1
  have h8 := hm.2.2.2.2.2
  refine pw_aload_n (k4 := 0) rfl (by decide +kernel) ?_
  refine pw_iconst (n := 0) (v := 0) (by decide) (by decide +kernel) ?_
  refine pq_putI (c := 11) (k := 2) (ks_m hA) (by decide) (by decide) lf_Mo_175 (Or.inl rfl) (by decide +kernel) ?_
  refine pw_aload_n (k4 := 0) rfl (by decide +kernel) ?_
  refine pw_iload_n (k4 := 1) rfl (by decide +kernel) ?_
  refine pq_callV (ν := m_Mo_isPerson) (d' := 0) (av := [_]) (c := 11) (by decide +kernel) lm_Mo_440 ok_Mo_isPerson (show _ = some 1 by decide +kernel) (ks_m hA) rfl (by decide) (by omega) (Nat.le_of_ble_eq_true rfl) (ct_Mo_isPerson hA _) ?_
  rintro _ _ ⟨rfl, rfl⟩
  refine pn_ifB_eq (off := 27) (tgt := 37) (by decide +kernel) (by decide +kernel) (fun z10 => ?_) (fun z10 => ?_)
  · refine pw_iconst (n := -1) (v := -1) (by decide) (by decide +kernel) ?_
    exact pq_iret rfl (by decide +kernel) ⟨fun h => absurd h.1 z10, fun _ => ⟨rfl, _, _, rfl, rep_t⟩⟩
  · refine pw_aload_n (k4 := 0) rfl (by decide +kernel) ?_
    refine pw_iload_n (k4 := 2) rfl (by decide +kernel) ?_
    refine pq_callV (ν := m_Mo_isPerson) (d' := 0) (av := [_]) (c := 11) (by decide +kernel) lm_Mo_440 ok_Mo_isPerson (show _ = some 1 by decide +kernel) (ks_m hA) rfl (by decide) (by omega) (Nat.le_of_ble_eq_true rfl) (ct_Mo_isPerson hA _) ?_
    rintro _ _ ⟨rfl, rfl⟩
    refine pn_ifB_eq (off := 19) (tgt := 37) (by decide +kernel) (by decide +kernel) (fun z18 => ?_) (fun z18 => ?_)
    · refine pw_iconst (n := -1) (v := -1) (by decide) (by decide +kernel) ?_
      exact pq_iret rfl (by decide +kernel) ⟨fun h => absurd h.2.1 z18, fun _ => ⟨rfl, _, _, rfl, rep_t⟩⟩
    · refine pw_iload_n (k4 := 1) rfl (by decide +kernel) ?_
      refine pw_iload_n (k4 := 2) rfl (by decide +kernel) ?_
      refine pw_icmp_eq (off := 14) (tgt := 37) (by decide +kernel) (by decide +kernel) (fun z23 => ?_) (fun z23 => ?_)
      · refine pw_iconst (n := -1) (v := -1) (by decide) (by decide +kernel) ?_
        exact pq_iret rfl (by decide +kernel) ⟨fun h => absurd z23 h.2.2.1, fun _ => ⟨rfl, _, _, rfl, rep_t⟩⟩
      · refine pw_iload_n (k4 := 3) rfl (by decide +kernel) ?_
        refine pw_iconst (n := 1) (v := 1) (by decide) (by decide +kernel) ?_
        refine pw_sipush (n := 9999) (v := 9999) (by decide) (by decide +kernel) ?_
        refine pq_callS (ν := m_Mo_isIn) (d' := 0) (av := [_, _, _]) (by decide +kernel) lm_Mo_220 ok_Mo_isIn (show _ = some 3 by decide +kernel) (by omega) (Nat.le_of_ble_eq_true rfl) (ct_Mo_isIn _ _ _) ?_
        rintro _ _ ⟨rfl, rfl⟩
        refine pn_ifB_ne (off := 5) (tgt := 39) (by decide +kernel) (by decide +kernel) (fun z34 => ?_) (fun z34 => ?_)
        · obtain ⟨n, hn1, hn2, rfl⟩ := pr_n z34
          refine pw_aload_n (k4 := 0) rfl (by decide +kernel) ?_
          refine pw_iconst (n := 0) (v := 0) (by decide) (by decide +kernel) ?_
          refine pw_iload_n (k4 := 1) rfl (by decide +kernel) ?_
          refine pw_iload_n (k4 := 3) rfl (by decide +kernel) ?_
          refine pq_callV (ν := m_Mo_changeOf) (d' := 6) (av := [_, _, _]) (c := 11) (by decide +kernel) lm_Mo_463 ok_Mo_changeOf (show _ = some 3 by decide +kernel) (ks_m hA) rfl (by decide) (by omega) (Nat.le_of_ble_eq_true rfl) (ct_Mo_changeOf hA (by exact hm) (b := 0) (by decide) (by exact hwf) (by exact hi.oOK) _ (q := n) (by omega) (by exact fun s hs _ => yWorth_in hi hz hs)) ?_
          rintro _ _ ⟨rfl, ev, f, g, ck, L2, rfl, hL2⟩
          refine pw_if_ge (off := 6) (tgt := 52) (by decide +kernel) (by decide +kernel) (fun z46 => ?_) (fun z46 => ?_)
          · rw [yWt_t] at z46
            refine pw_aload_n (k4 := 0) rfl (by decide +kernel) ?_
            refine pq_callV (ν := m_Mo_remember) (d' := 1) (av := []) (c := 11) (by decide +kernel) lm_Mo_469 ok_Mo_remember (show _ = some 0 by decide +kernel) (ks_m hA) rfl (by decide) (by omega) (Nat.le_of_ble_eq_true rfl) (ct_Mo_remember hA (by exact hu) hu20) ?_
            rintro _ _ ⟨rfl, rfl⟩
            have hR := (rep_tcg (I := I) (x := 0) (ev := ev) (f := f) (g := g) (k := ck)).rem u
            generalize yRem (aU (aU (aU (sI (sI I 134 2 0) 134 54 ev) 170 ck) 168 f) 169 g) u = I2 at hR ⊢
            refine pw_aload_n (k4 := 0) rfl (by decide +kernel) ?_
            refine pw_iconst (n := 0) (v := 0) (by decide) (by decide +kernel) ?_
            refine pw_iload_n (k4 := 1) rfl (by decide +kernel) ?_
            refine pw_iload_n (k4 := 2) rfl (by decide +kernel) ?_
            refine pw_iload_n (k4 := 3) rfl (by decide +kernel) ?_
            refine pq_callV (ν := m_Mo_pays) (d' := 7) (av := [_, _, _, _]) (c := 11) (by decide +kernel) lm_Mo_472 ok_Mo_pays (show _ = some 4 by decide +kernel) (ks_m hA) rfl (by decide) (by omega) (Nat.le_of_ble_eq_true rfl) (ct_Mo_pays hA hR (rem_T I u hm) (by exact hwf) (by exact hz) (b := 0) (by decide) (by exact hi) _ _ (q := n) (by omega)) ?_
            rintro _ _ ⟨rfl, I3, L3, rfl, hR3, hL3⟩
            exact pq_iret rfl (by decide +kernel) ⟨fun _ => by rw [ixn_nI (by omega)]; exact ⟨fun w => absurd z46 (Int32.not_le.mpr w), fun w => ⟨by rw [yWt_rem], I3, L3, rfl, by unfold yPaid at hR3; rw [yWt_rem, if_neg w] at hR3; exact hR3⟩⟩, fun h => absurd (show yHasP I p ∧ yHasP I to ∧ p ≠ to ∧ 1 ≤ nI n ∧ nI n ≤ 9999 from ⟨z10, z18, z23, z34⟩) h⟩
          · rw [yWt_t] at z46
            refine pw_bipush (n := -2) (v := -2) (by decide) (by decide +kernel) ?_
            exact pq_iret rfl (by decide +kernel) ⟨fun _ => by rw [ixn_nI (by omega)]; exact ⟨fun _ => ⟨rfl, _, _, rfl, rep_tcg⟩, fun w => absurd (Int32.not_le.mp z46) w⟩, fun h => absurd (show yHasP I p ∧ yHasP I to ∧ p ≠ to ∧ 1 ≤ nI n ∧ nI n ≤ 9999 from ⟨z10, z18, z23, z34⟩) h⟩
        · refine pw_iconst (n := -1) (v := -1) (by decide) (by decide +kernel) ?_
          exact pq_iret rfl (by decide +kernel) ⟨fun h => absurd (show 1 ≤ q ∧ q ≤ 9999 from h.2.2.2) z34, fun _ => ⟨rfl, _, _, rfl, rep_t⟩⟩

def layK (n : Nat) (f : Nat → Int32) (k : Nat) : Nat → Int32 := fun i => if n ≤ i ∧ i < n + k then f (i - n) else f i
theorem layK_0 (n : Nat) (f : Nat → Int32) : layK n f 0 = f := by
  funext i
  unfold layK
  rw [if_neg (by omega)]
theorem layK_s (n : Nat) (f : Nat → Int32) (k : Nat) : upd (layK n f k) (n + k) (f k) = layK n f (k + 1) := by
  funext i
  unfold upd layK
  by_cases h : i = n + k
  · rw [if_pos h, if_pos (by omega), show i - n = k by omega]
  · rw [if_neg h]
    by_cases h2 : n ≤ i ∧ i < n + k
    · rw [if_pos h2, if_pos (by omega)]
    · rw [if_neg h2, if_neg (by omega)]
theorem layK_lo {n : Nat} {f : Nat → Int32} {k i : Nat} (h : i < n) : layK n f k i = f i := if_neg (by omega)
def yLay (I : Nat → Nat → Int32) : Nat → Nat → Int32 := sI (aU (aU (aU (aU (aU I 162 (layK 16 (I 162) 16)) 163 (layK 16 (I 163) 16)) 164 (layK 5 (I 164) 5)) 165 (layK 5 (I 165) 5)) 166 (layK 8 (I 166) 8)) 167 1 (I 167 0)

theorem ct_Mo_layTried {sh : List pSh} {I : Nat → Nat → Int32} {L : Nat → Nat → Int64} {P : Nat → Nat → Option Nat} (hA : kA sh P) : pCn m_Mo_layTried 0 [.ref 134] sh (I, L, P) (rV (yLay I, L, P)) := by
  refine pCn_of (by decide +kernel) (Nat.le_of_ble_eq_true rfl) ?_
  have h3 := pUpTo 8 (fun k => pWn m_Mo_layTried 0 sh (rV (yLay I, L, P)) 87 [some (.ref 134), some (.int (nI k))] [] ((aU (aU (aU (aU (aU I 162 (layK 16 (I 162) 16)) 163 (layK 16 (I 163) 16)) 164 (layK 5 (I 164) 5)) 165 (layK 5 (I 165) 5)) 166 (layK 8 (I 166) k)), L, P)) (by
    intro k hk ih
    refine pw_iload_n (k4 := 1) rfl (by decide +kernel) ?_
    refine pw_bipush (n := 8) (v := 8) (by decide) (by decide +kernel) ?_
    refine pn_icmp_ge (off := 24) (tgt := 114) k 8 rfl rfl (by omega) (by omega) (by decide +kernel) (by decide +kernel) (fun z90 => ?_) (fun z90 => ?_)
    · obtain rfl : k = 8 := by omega
      refine pw_aload_n (k4 := 0) rfl (by decide +kernel) ?_
      refine pq_getP (c := 11) (k := 60) (ks_m hA) (by decide) (by decide) (kp_m_day hA) lf_Mo_112 (by decide +kernel) ?_
      refine pw_iconst (n := 1) (v := 1) (by decide) (by decide +kernel) ?_
      refine pw_aload_n (k4 := 0) rfl (by decide +kernel) ?_
      refine pq_getP (c := 11) (k := 60) (ks_m hA) (by decide) (by decide) (kp_m_day hA) lf_Mo_112 (by decide +kernel) ?_
      refine pw_iconst (n := 0) (v := 0) (by decide) (by decide +kernel) ?_
      refine pq_iald 0 rfl (by omega) (by decide) (ks_m_day hA) (by decide +kernel) ?_
      refine pq_iast 1 rfl (by omega) (by decide) (ks_m_day hA) (by decide +kernel) ?_
      exact pq_vret rfl (by decide +kernel) ⟨rfl, rfl⟩
    · refine pw_aload_n (k4 := 0) rfl (by decide +kernel) ?_
      refine pq_getP (c := 11) (k := 59) (ks_m hA) (by decide) (by decide) (kp_m_became hA) lf_Mo_109 (by decide +kernel) ?_
      refine pw_bipush (n := 8) (v := 8) (by decide) (by decide +kernel) ?_
      refine pw_iload_n (k4 := 1) rfl (by decide +kernel) ?_
      refine pn_iadd 8 k rfl rfl (by decide +kernel) ?_
      refine pw_aload_n (k4 := 0) rfl (by decide +kernel) ?_
      refine pq_getP (c := 11) (k := 59) (ks_m hA) (by decide) (by decide) (kp_m_became hA) lf_Mo_109 (by decide +kernel) ?_
      refine pw_iload_n (k4 := 1) rfl (by decide +kernel) ?_
      refine pq_iald k rfl (by omega) (by decide) (ks_m_became hA) (by decide +kernel) ?_
      refine pq_iast (8 + k) rfl (by omega) (by decide) (ks_m_became hA) (by decide +kernel) ?_
      refine pn_iinc (i := 1) (n := 1) 1 k rfl rfl (by decide) rfl (by decide +kernel) ?_
      refine pw_goto (off := -24) (tgt := 87) (by decide +kernel) (by decide +kernel) ?_
      have w := ih (by omega)
      rw [← layK_s 8 (I 166) k] at w
      rw [aU_eq, layK_lo (by omega), sI_aU2]
      exact w
)
  have h2 := pUpTo 5 (fun k => pWn m_Mo_layTried 0 sh (rV (yLay I, L, P)) 46 [some (.ref 134), some (.int (nI k))] [] ((aU (aU (aU (aU I 162 (layK 16 (I 162) 16)) 163 (layK 16 (I 163) 16)) 164 (layK 5 (I 164) k)) 165 (layK 5 (I 165) k)), L, P)) (by
    intro k hk ih
    refine pw_iload_n (k4 := 1) rfl (by decide +kernel) ?_
    refine pw_iconst (n := 5) (v := 5) (by decide) (by decide +kernel) ?_
    refine pn_icmp_ge (off := 37) (tgt := 85) k 5 rfl rfl (by omega) (by omega) (by decide +kernel) (by decide +kernel) (fun z48 => ?_) (fun z48 => ?_)
    · obtain rfl : k = 5 := by omega
      refine pw_iconst (n := 0) (v := 0) (by decide) (by decide +kernel) ?_
      refine pq_istore_n (k4 := 1) (Nat.le_of_ble_eq_true rfl) rfl (by decide +kernel) ?_
      have w := h3 0 (Nat.zero_le _)
      rw [layK_0, show aU (aU (aU (aU (aU I 162 (layK 16 (I 162) 16)) 163 (layK 16 (I 163) 16)) 164 (layK 5 (I 164) 5)) 165 (layK 5 (I 165) 5)) 166 (I 166) = (aU (aU (aU (aU I 162 (layK 16 (I 162) 16)) 163 (layK 16 (I 163) 16)) 164 (layK 5 (I 164) 5)) 165 (layK 5 (I 165) 5)) from aU_self (aU (aU (aU (aU I 162 (layK 16 (I 162) 16)) 163 (layK 16 (I 163) 16)) 164 (layK 5 (I 164) 5)) 165 (layK 5 (I 165) 5)) 166] at w
      exact w
    · refine pw_aload_n (k4 := 0) rfl (by decide +kernel) ?_
      refine pq_getP (c := 11) (k := 57) (ks_m hA) (by decide) (by decide) (kp_m_leftOn hA) lf_Mo_103 (by decide +kernel) ?_
      refine pw_iconst (n := 5) (v := 5) (by decide) (by decide +kernel) ?_
      refine pw_iload_n (k4 := 1) rfl (by decide +kernel) ?_
      refine pn_iadd 5 k rfl rfl (by decide +kernel) ?_
      refine pw_aload_n (k4 := 0) rfl (by decide +kernel) ?_
      refine pq_getP (c := 11) (k := 57) (ks_m hA) (by decide) (by decide) (kp_m_leftOn hA) lf_Mo_103 (by decide +kernel) ?_
      refine pw_iload_n (k4 := 1) rfl (by decide +kernel) ?_
      refine pq_iald k rfl (by omega) (by decide) (ks_m_leftOn hA) (by decide +kernel) ?_
      refine pq_iast (5 + k) rfl (by omega) (by decide) (ks_m_leftOn hA) (by decide +kernel) ?_
      refine pw_aload_n (k4 := 0) rfl (by decide +kernel) ?_
      refine pq_getP (c := 11) (k := 58) (ks_m hA) (by decide) (by decide) (kp_m_rightOn hA) lf_Mo_106 (by decide +kernel) ?_
      refine pw_iconst (n := 5) (v := 5) (by decide) (by decide +kernel) ?_
      refine pw_iload_n (k4 := 1) rfl (by decide +kernel) ?_
      refine pn_iadd 5 k rfl rfl (by decide +kernel) ?_
      refine pw_aload_n (k4 := 0) rfl (by decide +kernel) ?_
      refine pq_getP (c := 11) (k := 58) (ks_m hA) (by decide) (by decide) (kp_m_rightOn hA) lf_Mo_106 (by decide +kernel) ?_
      refine pw_iload_n (k4 := 1) rfl (by decide +kernel) ?_
      refine pq_iald k rfl (by omega) (by decide) (ks_m_rightOn hA) (by decide +kernel) ?_
      refine pq_iast (5 + k) rfl (by omega) (by decide) (ks_m_rightOn hA) (by decide +kernel) ?_
      refine pn_iinc (i := 1) (n := 1) 1 k rfl rfl (by decide) rfl (by decide +kernel) ?_
      refine pw_goto (off := -36) (tgt := 46) (by decide +kernel) (by decide +kernel) ?_
      have w := ih (by omega)
      rw [← layK_s 5 (I 164) k, ← layK_s 5 (I 165) k] at w
      rw [show (aU (aU (aU (aU I 162 (layK 16 (I 162) 16)) 163 (layK 16 (I 163) 16)) 164 (layK 5 (I 164) k)) 165 (layK 5 (I 165) k)) 164 k = I 164 k from layK_lo (by omega), lr_l, aU_eq, layK_lo (by omega), lr_r]
      exact w
)
  have h1 := pUpTo 16 (fun k => pWn m_Mo_layTried 0 sh (rV (yLay I, L, P)) 2 [some (.ref 134), some (.int (nI k))] [] ((aU (aU I 162 (layK 16 (I 162) k)) 163 (layK 16 (I 163) k)), L, P)) (by
    intro k hk ih
    refine pw_iload_n (k4 := 1) rfl (by decide +kernel) ?_
    refine pw_bipush (n := 16) (v := 16) (by decide) (by decide +kernel) ?_
    refine pn_icmp_ge (off := 39) (tgt := 44) k 16 rfl rfl (by omega) (by omega) (by decide +kernel) (by decide +kernel) (fun z5 => ?_) (fun z5 => ?_)
    · obtain rfl : k = 16 := by omega
      refine pw_iconst (n := 0) (v := 0) (by decide) (by decide +kernel) ?_
      refine pq_istore_n (k4 := 1) (Nat.le_of_ble_eq_true rfl) rfl (by decide +kernel) ?_
      have w := h2 0 (Nat.zero_le _)
      rw [layK_0, layK_0, show aU (aU (aU (aU I 162 (layK 16 (I 162) 16)) 163 (layK 16 (I 163) 16)) 164 (I 164)) 165 (I 165) = (aU (aU I 162 (layK 16 (I 162) 16)) 163 (layK 16 (I 163) 16)) from by rw [show aU (aU (aU I 162 (layK 16 (I 162) 16)) 163 (layK 16 (I 163) 16)) 164 (I 164) = (aU (aU I 162 (layK 16 (I 162) 16)) 163 (layK 16 (I 163) 16)) from aU_self (aU (aU I 162 (layK 16 (I 162) 16)) 163 (layK 16 (I 163) 16)) 164]; exact aU_self (aU (aU I 162 (layK 16 (I 162) 16)) 163 (layK 16 (I 163) 16)) 165] at w
      exact w
    · refine pw_aload_n (k4 := 0) rfl (by decide +kernel) ?_
      refine pq_getP (c := 11) (k := 55) (ks_m hA) (by decide) (by decide) (kp_m_used hA) lf_Mo_97 (by decide +kernel) ?_
      refine pw_bipush (n := 16) (v := 16) (by decide) (by decide +kernel) ?_
      refine pw_iload_n (k4 := 1) rfl (by decide +kernel) ?_
      refine pn_iadd 16 k rfl rfl (by decide +kernel) ?_
      refine pw_aload_n (k4 := 0) rfl (by decide +kernel) ?_
      refine pq_getP (c := 11) (k := 55) (ks_m hA) (by decide) (by decide) (kp_m_used hA) lf_Mo_97 (by decide +kernel) ?_
      refine pw_iload_n (k4 := 1) rfl (by decide +kernel) ?_
      refine pq_iald k rfl (by omega) (by decide) (ks_m_used hA) (by decide +kernel) ?_
      refine pq_iast (16 + k) rfl (by omega) (by decide) (ks_m_used hA) (by decide +kernel) ?_
      refine pw_aload_n (k4 := 0) rfl (by decide +kernel) ?_
      refine pq_getP (c := 11) (k := 56) (ks_m hA) (by decide) (by decide) (kp_m_whose hA) lf_Mo_100 (by decide +kernel) ?_
      refine pw_bipush (n := 16) (v := 16) (by decide) (by decide +kernel) ?_
      refine pw_iload_n (k4 := 1) rfl (by decide +kernel) ?_
      refine pn_iadd 16 k rfl rfl (by decide +kernel) ?_
      refine pw_aload_n (k4 := 0) rfl (by decide +kernel) ?_
      refine pq_getP (c := 11) (k := 56) (ks_m hA) (by decide) (by decide) (kp_m_whose hA) lf_Mo_100 (by decide +kernel) ?_
      refine pw_iload_n (k4 := 1) rfl (by decide +kernel) ?_
      refine pq_iald k rfl (by omega) (by decide) (ks_m_whose hA) (by decide +kernel) ?_
      refine pq_iast (16 + k) rfl (by omega) (by decide) (ks_m_whose hA) (by decide +kernel) ?_
      refine pn_iinc (i := 1) (n := 1) 1 k rfl rfl (by decide) rfl (by decide +kernel) ?_
      refine pw_goto (off := -39) (tgt := 2) (by decide +kernel) (by decide +kernel) ?_
      have w := ih (by omega)
      rw [← layK_s 16 (I 162) k, ← layK_s 16 (I 163) k] at w
      rw [show (aU (aU I 162 (layK 16 (I 162) k)) 163 (layK 16 (I 163) k)) 162 k = I 162 k from layK_lo (by omega), lr_a _ (by decide), aU_eq, layK_lo (by omega), sI_aU2]
      exact w
)
  refine pw_iconst (n := 0) (v := 0) (by decide) (by decide +kernel) ?_
  refine pq_istore_n (k4 := 1) (Nat.le_of_ble_eq_true rfl) rfl (by decide +kernel) ?_
  have w := h1 0 (Nat.zero_le _)
  rw [layK_0, layK_0, aU_self, aU_self] at w
  exact w

theorem num_n (x : Int32) : ∃ q, q < 2 ^ 31 ∧ xNext x = nI q ∧ (x.toInt64 * 1103515245 + 12345) &&& 2147483647 = lN q ∧ (xNext x).toInt64 = lN q := by
  obtain ⟨q, hq, e⟩ := wb_of (x.toInt64 * 1103515245 + 12345)
  have h1 : (x.toInt64 * 1103515245 + 12345) &&& 2147483647 = lN (q % 2 ^ 31) := by
    rw [e, show (2147483647 : Int64) = lN (2 ^ 31 - 1) from rfl, wb_mask hq (by decide)]
  have h2 : xNext x = nI (q % 2 ^ 31) := by
    unfold xNext
    rw [h1]
    exact lN_i _
  exact ⟨q % 2 ^ 31, Nat.mod_lt _ (by decide), h2, h1, by rw [h2]; exact nI_l (Nat.mod_lt _ (by decide))⟩
theorem num_r {x : Int32} {k : Nat} (hk : 0 < k) (hk2 : k < 2 ^ 31) (d : Int64) (hd : d = (xNext x).toInt64) : (d / 65536 - d / 65536 / (nI k).toInt64 * (nI k).toInt64).toInt32 = iRem (xNext x / 65536) (nI k) := by
  obtain ⟨q, hq, h1, _, h3⟩ := num_n x
  have hq2 : q / 65536 < 2 ^ 31 := Nat.lt_of_le_of_lt (Nat.div_le_self _ _) hq
  unfold iRem
  rw [hd, h3, h1, nI_l hk2, show (65536 : Int64) = lN 65536 from rfl, show (65536 : Int32) = nI 65536 from rfl, pk_div hq (by decide) (by decide), pk_rem hq2 hk hk2, pk_lDiv (by omega) (by decide) (by decide), pk_lRem (by omega) hk (by omega)]
  exact lN_i _
