/-! ===== walking or paying the fare: the class ===== -/
def xUN (I : Nat → Nat → Int32) (t w : Nat) (s : Int32) : Int32 := if xThere I t w s then I (w + 2) (ixn s) else 50
def xWT (I : Nat → Nat → Int32) (t w : Nat) (n s u : Int32) : Int32 := if u < 50 then xWorth I t w (ixn s) u (I w 1 + n) else 0
def xUA (I : Nat → Nat → Int32) (t w : Nat) (s u d : Int32) : Int32 := if u < 50 then u + xWear I t w (ixn s) u d else u

theorem ct_St_usedNow {sh : List pSh} {I : Nat → Nat → Int32} {L : Nat → Nat → Int64} {P : Nat → Nat → Option Nat} (hA : kA sh P) {w t : Nat} (hw : w = 62 ∨ w = 68 ∨ w = 74) (ht : t = 3 ∨ t = 30) (hwt : P w 0 = some t) (hsw : P 132 2 = some w) {np ns nd : Nat} (hn : tOK I t np ns nd) (s : Int32) : pCn m_St_usedNow 2 [.ref 132, .int s] sh (I, L, P) (rI (xUN I t w s) (I, L, P)) := by
  refine pCn_of (by decide +kernel) (Nat.le_of_ble_eq_true rfl) ?_
  refine pw_aload_n (k4 := 0) rfl (by decide +kernel) ?_
  refine pq_getP (c := 5) (k := 2) (ks_st hA) (by decide) (by decide) hsw lf_St_9 (by decide +kernel) ?_
  refine pw_iload_n (k4 := 1) rfl (by decide +kernel) ?_
  refine pq_callV (ν := m_Wo_isThere) (d' := 1) (av := [_]) (c := 9) (by decide +kernel) lm_St_65 ok_Wo_isThere (show _ = some 1 by decide +kernel) (ks_w hA hw) rfl (by decide) (by omega) (Nat.le_of_ble_eq_true rfl) (ct_Wo_isThere hA hw ht hwt hn _) ?_
  rintro _ _ ⟨rfl, rfl⟩
  refine pw_if_eq (off := 15) (tgt := 23) (by decide +kernel) (by decide +kernel) (fun z8 => ?_) (fun z8 => ?_)
  · refine pw_bipush (n := 50) (v := 50) (by decide) (by decide +kernel) ?_
    exact pq_iret rfl (by decide +kernel) ⟨congrArg (fun z => some (Value.int z)) (if_neg (B_0.mp z8)).symm, rfl⟩
  · have hz := B_ne.mp z8
    obtain ⟨j, hj, rfl⟩ := nIn hn.2.2.1 (by have := hn.2.2.2.1; omega) hz.1
    have h16 := hn.2.2.2.1
    refine pw_aload_n (k4 := 0) rfl (by decide +kernel) ?_
    refine pq_getP (c := 5) (k := 2) (ks_st hA) (by decide) (by decide) hsw lf_St_9 (by decide +kernel) ?_
    refine pq_getP (c := 9) (k := 5) (ks_w hA hw) (by decide) (by decide) (kp_w_used hA hw) lf_St_68 (by decide +kernel) ?_
    refine pw_iload_n (k4 := 1) rfl (by decide +kernel) ?_
    refine pq_iald j rfl (by omega) (by decide) (ks_w_used hA hw) (by decide +kernel) ?_
    refine pw_goto (off := 5) (tgt := 25) (by decide +kernel) (by decide +kernel) ?_
    exact pq_iret rfl (by decide +kernel) ⟨congrArg (fun z => some (Value.int z)) (by unfold xUN; rw [if_pos hz, ixn_nI (by omega)]), rfl⟩

theorem ct_St_worthThen {sh : List pSh} {I : Nat → Nat → Int32} {L : Nat → Nat → Int64} {P : Nat → Nat → Option Nat} (hA : kA sh P) {w t : Nat} (hw : w = 62 ∨ w = 68 ∨ w = 74) (ht : t = 3 ∨ t = 30) (hwt : P w 0 = some t) (hsw : P 132 2 = some w) {np ns nd : Nat} (hn : tOK I t np ns nd) (hl : lOK I t) (s u : Int32) (hs : u < 50 → ∃ j, j < ns ∧ s = nI j) : pCn m_St_worthThen 4 [.ref 132, .int s, .int u] sh (I, L, P) (rIx (xWT I t w (I 132 3) s u) I P) := by
  refine pCn_of (by decide +kernel) (Nat.le_of_ble_eq_true rfl) ?_
  refine pw_iload_n (k4 := 2) rfl (by decide +kernel) ?_
  refine pw_bipush (n := 50) (v := 50) (by decide) (by decide +kernel) ?_
  refine pw_icmp_lt (off := 7) (tgt := 10) (by decide +kernel) (by decide +kernel) (fun z3 => ?_) (fun z3 => ?_)
  · obtain ⟨j, hj, rfl⟩ := hs z3
    have h16 := hn.2.2.2.1
    refine pw_aload_n (k4 := 0) rfl (by decide +kernel) ?_
    refine pq_getP (c := 5) (k := 2) (ks_st hA) (by decide) (by decide) hsw lf_St_9 (by decide +kernel) ?_
    refine pw_iload_n (k4 := 1) rfl (by decide +kernel) ?_
    refine pw_iload_n (k4 := 2) rfl (by decide +kernel) ?_
    refine pw_aload_n (k4 := 0) rfl (by decide +kernel) ?_
    refine pq_getP (c := 5) (k := 2) (ks_st hA) (by decide) (by decide) hsw lf_St_9 (by decide +kernel) ?_
    refine pq_getI (c := 9) (k := 1) (ks_w hA hw) (by decide) (by decide) lf_St_71 (by decide +kernel) ?_
    refine pw_aload_n (k4 := 0) rfl (by decide +kernel) ?_
    refine pq_getI (c := 5) (k := 3) (ks_st hA) (by decide) (by decide) lf_St_27 (by decide +kernel) ?_
    refine pw_iadd (by decide +kernel) ?_
    refine pq_callV (ν := m_Wo_worthWhen) (d' := 3) (av := [_, _, _]) (c := 9) (by decide +kernel) lm_St_74 ok_Wo_worthWhen (show _ = some 3 by decide +kernel) (ks_w hA hw) rfl (by decide) (by omega) (Nat.le_of_ble_eq_true rfl) (ct_Wo_worthWhen hA hw ht hwt hn hl j hj _ _) ?_
    rintro _ _ ⟨rfl, L', rfl⟩
    exact pq_iret rfl (by decide +kernel) ⟨congrArg (fun z => some (Value.int z)) (by unfold xWT; rw [if_pos z3, ixn_nI (by omega)]), _, rfl⟩
  · refine pw_iconst (n := 0) (v := 0) (by decide) (by decide +kernel) ?_
    refine pw_goto (off := 24) (tgt := 31) (by decide +kernel) (by decide +kernel) ?_
    exact pq_iret rfl (by decide +kernel) ⟨congrArg (fun z => some (Value.int z)) (if_neg z3).symm, _, rfl⟩

theorem ct_St_usedAfter {sh : List pSh} {I : Nat → Nat → Int32} {L : Nat → Nat → Int64} {P : Nat → Nat → Option Nat} (hA : kA sh P) {w t : Nat} (hw : w = 62 ∨ w = 68 ∨ w = 74) (ht : t = 3 ∨ t = 30) (hwt : P w 0 = some t) (hsw : P 132 2 = some w) {np ns nd : Nat} (hn : tOK I t np ns nd) (hl : lOK I t) (s u : Int32) (hs : u < 50 → ∃ j, j < ns ∧ s = nI j) (d : Int32) : pCn m_St_usedAfter 4 [.ref 132, .int s, .int u, .int d] sh (I, L, P) (rIx (xUA I t w s u d) I P) := by
  refine pCn_of (by decide +kernel) (Nat.le_of_ble_eq_true rfl) ?_
  refine pw_iload_n (k4 := 2) rfl (by decide +kernel) ?_
  refine pw_bipush (n := 50) (v := 50) (by decide) (by decide +kernel) ?_
  refine pw_icmp_lt (off := 7) (tgt := 10) (by decide +kernel) (by decide +kernel) (fun z3 => ?_) (fun z3 => ?_)
  · obtain ⟨j, hj, rfl⟩ := hs z3
    have h16 := hn.2.2.2.1
    refine pw_iload_n (k4 := 2) rfl (by decide +kernel) ?_
    refine pw_aload_n (k4 := 0) rfl (by decide +kernel) ?_
    refine pq_getP (c := 5) (k := 2) (ks_st hA) (by decide) (by decide) hsw lf_St_9 (by decide +kernel) ?_
    refine pw_iload_n (k4 := 1) rfl (by decide +kernel) ?_
    refine pw_iload_n (k4 := 2) rfl (by decide +kernel) ?_
    refine pw_iload_n (k4 := 3) rfl (by decide +kernel) ?_
    refine pq_callV (ν := m_Wo_wearWhen) (d' := 3) (av := [_, _, _]) (c := 9) (by decide +kernel) lm_St_78 ok_Wo_wearWhen (show _ = some 3 by decide +kernel) (ks_w hA hw) rfl (by decide) (by omega) (Nat.le_of_ble_eq_true rfl) (ct_Wo_wearWhen hA hw ht hwt hn hl j hj _ _) ?_
    rintro _ _ ⟨rfl, L', rfl⟩
    refine pw_iadd (by decide +kernel) ?_
    exact pq_iret rfl (by decide +kernel) ⟨congrArg (fun z => some (Value.int z)) (by unfold xUA; rw [if_pos z3, ixn_nI (by omega)]), _, rfl⟩
  · refine pw_iload_n (k4 := 2) rfl (by decide +kernel) ?_
    refine pw_goto (off := 15) (tgt := 22) (by decide +kernel) (by decide +kernel) ?_
    exact pq_iret rfl (by decide +kernel) ⟨congrArg (fun z => some (Value.int z)) (if_neg z3).symm, _, rfl⟩

/-- the fields of Stroll behind r more days, passed days gone: g 0 the least sum, g 1 its days, g 8 whether any was found -/
def xGo (I : Nat → Nat → Int32) (t w : Nat) : Nat → Nat → Int32 → Int32 → Int32 → Int32 → (Nat → Int32) → Nat → Int32
  | 0, _, lu, ru, fares, bits, g => if ¬ g 8 = 0 ∧ g 0 ≤ fares + g 7 - xWT I t w (g 3) (g 5) lu - xWT I t w (g 3) (g 6) ru then g
      else upd (upd (upd g 8 1) 0 (fares + g 7 - xWT I t w (g 3) (g 5) lu - xWT I t w (g 3) (g 6) ru)) 1 bits
  | r + 1, k, lu, ru, fares, bits, g => xGo I t w r (k + 1) lu ru (fares + g 4) bits (xGo I t w r (k + 1) (xUA I t w (g 5) lu (I w 1 + nI k)) (xUA I t w (g 6) ru (I w 1 + nI k)) fares (bits ||| (1 <<< (nI k &&& 31))) g)
theorem xGo_keep {I : Nat → Nat → Int32} {t w : Nat} : ∀ r k lu ru fares bits g i, i ≠ 0 → i ≠ 1 → i ≠ 8 → xGo I t w r k lu ru fares bits g i = g i
  | 0, k, lu, ru, fares, bits, g, i, h0, h1, h8 => by
    unfold xGo
    split
    · rfl
    · simp only [upd, h0, h1, h8, if_false]
  | r + 1, k, lu, ru, fares, bits, g, i, h0, h1, h8 => by
    unfold xGo
    rw [xGo_keep r _ _ _ _ _ _ i h0 h1 h8, xGo_keep r _ _ _ _ _ _ i h0 h1 h8]
theorem xWT_cg {I J : Nat → Nat → Int32} {t w : Nat} (h : ∀ a, (t ≤ a ∧ a < t + 27) ∨ (w ≤ a ∧ a < w + 6) → J a = I a) (n s u : Int32) : xWT J t w n s u = xWT I t w n s u := by
  unfold xWT
  rw [xWorth_cg h, h w (by omega)]
theorem xUA_cg {I J : Nat → Nat → Int32} {t w : Nat} (h : ∀ a, (t ≤ a ∧ a < t + 27) ∨ (w ≤ a ∧ a < w + 6) → J a = I a) (s u d : Int32) : xUA J t w s u d = xUA I t w s u d := by
  unfold xUA
  rw [xWear_cg h]
theorem xUA_lt {I : Nat → Nat → Int32} {t w : Nat} {s u d : Int32} (h : xUA I t w s u d < 50) : u < 50 := by
  unfold xUA at h
  by_cases e : u < 50
  · exact e
  · rw [if_neg e] at h; exact h
def rS (g : Nat → Int32) (I : Nat → Nat → Int32) (P : Nat → Nat → Option Nat) : Option Value → pM → Prop := fun r M => r = none ∧ ∃ L', M = (aU I 132 g, L', P)

set_option maxHeartbeats 2000000 in
theorem ct_St_goOn {sh : List pSh} {I : Nat → Nat → Int32} {P : Nat → Nat → Option Nat} (hA : kA sh P) {w t : Nat} (hw : w = 62 ∨ w = 68 ∨ w = 74) (ht : t = 3 ∨ t = 30) (hwt : P w 0 = some t) (hsw : P 132 2 = some w) {np ns nd : Nat} (hn : tOK I t np ns nd) (hl : lOK I t) {n : Nat} (hn8 : n ≤ 8) : ∀ (r k : Nat) (lu ru fares bits : Int32) (g : Nat → Int32) {L : Nat → Nat → Int64}, k + r = n → g 3 = nI n → (lu < 50 → ∃ j, j < ns ∧ g 5 = nI j) → (ru < 50 → ∃ j, j < ns ∧ g 6 = nI j) →
    pCn m_St_goOn (r + 5) [.ref 132, .int (nI k), .int lu, .int ru, .int fares, .int bits] sh (aU I 132 g, L, P) (rS (xGo I t w r k lu ru fares bits g) I P) := by
  intro r
  induction r with
  | zero =>
    intro k lu ru fares bits g L hk hg3 hlu hru
    refine pCn_of (by decide +kernel) (Nat.le_of_ble_eq_true rfl) ?_
    have hn' : tOK (aU I 132 g) t np ns nd := tOK_cg (aU_ne (by omega)) hn
    have hl' : lOK (aU I 132 g) t := lOK_cg (aU_ne (by omega)) (aU_ne (by omega)) hl
    refine pw_iload_n (k4 := 1) rfl (by decide +kernel) ?_
    refine pw_aload_n (k4 := 0) rfl (by decide +kernel) ?_
    refine pq_getI (c := 5) (k := 3) (ks_st hA) (by decide) (by decide) lf_St_27 (by decide +kernel) ?_
    refine pw_icmp_ge (off := 9) (tgt := 14) (by decide +kernel) (by decide +kernel) (fun z5 => ?_) (fun z5 => ?_)
    · rw [aU_eq, hg3, cLe rfl rfl (by omega) (by omega)] at z5
      refine pw_iload (i := 4) rfl (by decide +kernel) ?_
      refine pw_aload_n (k4 := 0) rfl (by decide +kernel) ?_
      refine pq_getI (c := 5) (k := 7) (ks_st hA) (by decide) (by decide) lf_St_54 (by decide +kernel) ?_
      refine pw_iadd (by decide +kernel) ?_
      refine pw_aload_n (k4 := 0) rfl (by decide +kernel) ?_
      refine pw_aload_n (k4 := 0) rfl (by decide +kernel) ?_
      refine pq_getI (c := 5) (k := 5) (ks_st hA) (by decide) (by decide) lf_St_40 (by decide +kernel) ?_
      refine pw_iload_n (k4 := 2) rfl (by decide +kernel) ?_
      refine pq_callV (ν := m_St_worthThen) (d' := 4) (av := [_, _]) (c := 5) (by decide +kernel) lm_St_50 ok_St_worthThen (show _ = some 2 by decide +kernel) (ks_st hA) rfl (by decide) (by omega) (Nat.le_of_ble_eq_true rfl) (ct_St_worthThen hA hw ht hwt hsw hn' hl' _ _ (by rw [aU_eq]; exact hlu)) ?_
      rintro _ _ ⟨rfl, L', rfl⟩
      refine pw_isub (by decide +kernel) ?_
      refine pw_aload_n (k4 := 0) rfl (by decide +kernel) ?_
      refine pw_aload_n (k4 := 0) rfl (by decide +kernel) ?_
      refine pq_getI (c := 5) (k := 6) (ks_st hA) (by decide) (by decide) lf_St_43 (by decide +kernel) ?_
      refine pw_iload_n (k4 := 3) rfl (by decide +kernel) ?_
      refine pq_callV (ν := m_St_worthThen) (d' := 4) (av := [_, _]) (c := 5) (by decide +kernel) lm_St_50 ok_St_worthThen (show _ = some 2 by decide +kernel) (ks_st hA) rfl (by decide) (by omega) (Nat.le_of_ble_eq_true rfl) (ct_St_worthThen hA hw ht hwt hsw hn' hl' _ _ (by rw [aU_eq]; exact hru)) ?_
      rintro _ _ ⟨rfl, L', rfl⟩
      refine pw_isub (by decide +kernel) ?_
      refine pq_istore (i := 6) (Nat.le_of_ble_eq_true rfl) rfl (by decide +kernel) ?_
      refine pw_aload_n (k4 := 0) rfl (by decide +kernel) ?_
      refine pq_getI (c := 5) (k := 8) (ks_st hA) (by decide) (by decide) lf_St_57 (by decide +kernel) ?_
      refine pw_if_eq (off := 12) (tgt := 59) (by decide +kernel) (by decide +kernel) (fun z47 => ?_) (fun z47 => ?_)
      · rw [aU_eq] at z47
        refine pw_aload_n (k4 := 0) rfl (by decide +kernel) ?_
        refine pw_iconst (n := 1) (v := 1) (by decide) (by decide +kernel) ?_
        refine pq_putZ (c := 5) (k := 8) (ks_st hA) (by decide) (by decide) (by decide) lf_St_57 (Or.inl rfl) (by decide +kernel) ?_
        refine pw_aload_n (k4 := 0) rfl (by decide +kernel) ?_
        refine pw_iload (i := 6) rfl (by decide +kernel) ?_
        refine pq_putI (c := 5) (k := 0) (ks_st hA) (by decide) (by decide) lf_St_81 (Or.inl rfl) (by decide +kernel) ?_
        refine pw_aload_n (k4 := 0) rfl (by decide +kernel) ?_
        refine pw_iload (i := 5) rfl (by decide +kernel) ?_
        refine pq_putI (c := 5) (k := 1) (ks_st hA) (by decide) (by decide) lf_St_84 (Or.inl rfl) (by decide +kernel) ?_
        exact pq_vret rfl (by decide +kernel) ⟨rfl, _, by unfold xGo; rw [if_neg (fun q => q.1 z47), sI_aU2, sI_aU2, sI_aU2, xWT_cg (I := I) (fun a ha => aU_ne (by omega)), xWT_cg (I := I) (fun a ha => aU_ne (by omega)), aU_eq]⟩
      · rw [aU_eq] at z47
        refine pw_iload (i := 6) rfl (by decide +kernel) ?_
        refine pw_aload_n (k4 := 0) rfl (by decide +kernel) ?_
        refine pq_getI (c := 5) (k := 0) (ks_st hA) (by decide) (by decide) lf_St_81 (by decide +kernel) ?_
        refine pw_icmp_ge (off := 20) (tgt := 76) (by decide +kernel) (by decide +kernel) (fun z56 => ?_) (fun z56 => ?_)
        · rw [aU_eq, xWT_cg (I := I) (fun a ha => aU_ne (by omega)), xWT_cg (I := I) (fun a ha => aU_ne (by omega))] at z56
          exact pq_vret rfl (by decide +kernel) ⟨rfl, _, by unfold xGo; rw [if_pos ⟨z47, z56⟩]⟩
        · rw [aU_eq, xWT_cg (I := I) (fun a ha => aU_ne (by omega)), xWT_cg (I := I) (fun a ha => aU_ne (by omega))] at z56
          refine pw_aload_n (k4 := 0) rfl (by decide +kernel) ?_
          refine pw_iconst (n := 1) (v := 1) (by decide) (by decide +kernel) ?_
          refine pq_putZ (c := 5) (k := 8) (ks_st hA) (by decide) (by decide) (by decide) lf_St_57 (Or.inl rfl) (by decide +kernel) ?_
          refine pw_aload_n (k4 := 0) rfl (by decide +kernel) ?_
          refine pw_iload (i := 6) rfl (by decide +kernel) ?_
          refine pq_putI (c := 5) (k := 0) (ks_st hA) (by decide) (by decide) lf_St_81 (Or.inl rfl) (by decide +kernel) ?_
          refine pw_aload_n (k4 := 0) rfl (by decide +kernel) ?_
          refine pw_iload (i := 5) rfl (by decide +kernel) ?_
          refine pq_putI (c := 5) (k := 1) (ks_st hA) (by decide) (by decide) lf_St_84 (Or.inl rfl) (by decide +kernel) ?_
          exact pq_vret rfl (by decide +kernel) ⟨rfl, _, by unfold xGo; rw [if_neg (fun q => z56 q.2), sI_aU2, sI_aU2, sI_aU2, xWT_cg (I := I) (fun a ha => aU_ne (by omega)), xWT_cg (I := I) (fun a ha => aU_ne (by omega)), aU_eq]⟩
    · rw [aU_eq, hg3, cLe rfl rfl (by omega) (by omega)] at z5
      omega
  | succ r ih' =>
    intro k lu ru fares bits g L hk hg3 hlu hru
    refine pCn_of (by decide +kernel) (Nat.le_of_ble_eq_true rfl) ?_
    have hn' : tOK (aU I 132 g) t np ns nd := tOK_cg (aU_ne (by omega)) hn
    have hl' : lOK (aU I 132 g) t := lOK_cg (aU_ne (by omega)) (aU_ne (by omega)) hl
    refine pw_iload_n (k4 := 1) rfl (by decide +kernel) ?_
    refine pw_aload_n (k4 := 0) rfl (by decide +kernel) ?_
    refine pq_getI (c := 5) (k := 3) (ks_st hA) (by decide) (by decide) lf_St_27 (by decide +kernel) ?_
    refine pw_icmp_ge (off := 9) (tgt := 14) (by decide +kernel) (by decide +kernel) (fun z5 => ?_) (fun z5 => ?_)
    · rw [aU_eq, hg3, cLe rfl rfl (by omega) (by omega)] at z5
      omega
    · rw [aU_eq, hg3, cLe rfl rfl (by omega) (by omega)] at z5
      refine pw_iload_n (k4 := 1) rfl (by decide +kernel) ?_
      refine pw_bipush (n := 8) (v := 8) (by decide) (by decide +kernel) ?_
      refine pw_icmp_lt (off := 66) (tgt := 77) (by decide +kernel) (by decide +kernel) (fun z11 => ?_) (fun z11 => ?_)
      · refine pw_aload_n (k4 := 0) rfl (by decide +kernel) ?_
        refine pq_getP (c := 5) (k := 2) (ks_st hA) (by decide) (by decide) hsw lf_St_9 (by decide +kernel) ?_
        refine pq_getI (c := 9) (k := 1) (ks_w hA hw) (by decide) (by decide) lf_St_71 (by decide +kernel) ?_
        refine pw_iload_n (k4 := 1) rfl (by decide +kernel) ?_
        refine pw_iadd (by decide +kernel) ?_
        refine pq_istore (i := 6) (Nat.le_of_ble_eq_true rfl) rfl (by decide +kernel) ?_
        refine pw_aload_n (k4 := 0) rfl (by decide +kernel) ?_
        refine pw_iload_n (k4 := 1) rfl (by decide +kernel) ?_
        refine pw_iconst (n := 1) (v := 1) (by decide) (by decide +kernel) ?_
        refine pw_iadd (by decide +kernel) ?_
        refine pw_aload_n (k4 := 0) rfl (by decide +kernel) ?_
        refine pw_aload_n (k4 := 0) rfl (by decide +kernel) ?_
        refine pq_getI (c := 5) (k := 5) (ks_st hA) (by decide) (by decide) lf_St_40 (by decide +kernel) ?_
        refine pw_iload_n (k4 := 2) rfl (by decide +kernel) ?_
        refine pw_iload (i := 6) rfl (by decide +kernel) ?_
        refine pq_callV (ν := m_St_usedAfter) (d' := 4) (av := [_, _, _]) (c := 5) (by decide +kernel) lm_St_87 ok_St_usedAfter (show _ = some 3 by decide +kernel) (ks_st hA) rfl (by decide) (by omega) (Nat.le_of_ble_eq_true rfl) (ct_St_usedAfter hA hw ht hwt hsw hn' hl' _ _ (by rw [aU_eq]; exact hlu) _) ?_
        rintro _ _ ⟨rfl, L', rfl⟩
        refine pw_aload_n (k4 := 0) rfl (by decide +kernel) ?_
        refine pw_aload_n (k4 := 0) rfl (by decide +kernel) ?_
        refine pq_getI (c := 5) (k := 6) (ks_st hA) (by decide) (by decide) lf_St_43 (by decide +kernel) ?_
        refine pw_iload_n (k4 := 3) rfl (by decide +kernel) ?_
        refine pw_iload (i := 6) rfl (by decide +kernel) ?_
        refine pq_callV (ν := m_St_usedAfter) (d' := 4) (av := [_, _, _]) (c := 5) (by decide +kernel) lm_St_87 ok_St_usedAfter (show _ = some 3 by decide +kernel) (ks_st hA) rfl (by decide) (by omega) (Nat.le_of_ble_eq_true rfl) (ct_St_usedAfter hA hw ht hwt hsw hn' hl' _ _ (by rw [aU_eq]; exact hru) _) ?_
        rintro _ _ ⟨rfl, L', rfl⟩
        refine pw_iload (i := 4) rfl (by decide +kernel) ?_
        refine pw_iload (i := 5) rfl (by decide +kernel) ?_
        refine pw_iconst (n := 1) (v := 1) (by decide) (by decide +kernel) ?_
        refine pw_iload_n (k4 := 1) rfl (by decide +kernel) ?_
        refine pw_ishl (by decide +kernel) ?_
        refine pw_ior (by decide +kernel) ?_
        rw [xUA_cg (I := I) (fun a ha => aU_ne (by omega)), xUA_cg (I := I) (fun a ha => aU_ne (by omega)), aU_eq, aU_ne (show w ≠ 132 by omega), nI_1]
        refine pq_callV (ν := m_St_goOn) (d' := (r + 5)) (av := [_, _, _, _, _]) (c := 5) (by decide +kernel) lm_St_61 ok_St_goOn (show _ = some 5 by decide +kernel) (ks_st hA) rfl (by decide) (by omega) (Nat.le_of_ble_eq_true rfl) (ih' (k + 1) _ _ _ _ g (by omega) hg3 (fun z => hlu (xUA_lt z)) (fun z => hru (xUA_lt z))) ?_
        rintro _ _ ⟨rfl, L', rfl⟩
        refine pw_aload_n (k4 := 0) rfl (by decide +kernel) ?_
        refine pw_iload_n (k4 := 1) rfl (by decide +kernel) ?_
        refine pw_iconst (n := 1) (v := 1) (by decide) (by decide +kernel) ?_
        refine pw_iadd (by decide +kernel) ?_
        refine pw_iload_n (k4 := 2) rfl (by decide +kernel) ?_
        refine pw_iload_n (k4 := 3) rfl (by decide +kernel) ?_
        refine pw_iload (i := 4) rfl (by decide +kernel) ?_
        refine pw_aload_n (k4 := 0) rfl (by decide +kernel) ?_
        refine pq_getI (c := 5) (k := 4) (ks_st hA) (by decide) (by decide) lf_St_35 (by decide +kernel) ?_
        refine pw_iadd (by decide +kernel) ?_
        refine pw_iload (i := 5) rfl (by decide +kernel) ?_
        rw [nI_1, aU_eq, xGo_keep r _ _ _ _ _ g 4 (by decide) (by decide) (by decide)]
        refine pq_callV (ν := m_St_goOn) (d' := (r + 5)) (av := [_, _, _, _, _]) (c := 5) (by decide +kernel) lm_St_61 ok_St_goOn (show _ = some 5 by decide +kernel) (ks_st hA) rfl (by decide) (by omega) (Nat.le_of_ble_eq_true rfl) (ih' (k + 1) _ _ _ _ _ (by omega) (by rw [xGo_keep r _ _ _ _ _ g 3 (by decide) (by decide) (by decide)]; exact hg3) (by rw [xGo_keep r _ _ _ _ _ g 5 (by decide) (by decide) (by decide)]; exact hlu) (by rw [xGo_keep r _ _ _ _ _ g 6 (by decide) (by decide) (by decide)]; exact hru)) ?_
        rintro _ _ ⟨rfl, L'', rfl⟩
        exact pq_vret rfl (by decide +kernel) ⟨rfl, _, rfl⟩
      · exact absurd ((cLt rfl (show (8 : Int32) = nI 8 from rfl) (by omega) (by decide)).mpr (by omega)) z11
