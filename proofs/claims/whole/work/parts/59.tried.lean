/-! ===== the reference: tried ===== -/
/-- the flags of what is tried -/
def yFl (J : Nat → Nat → Int32) (a : Int32) : Nat → Nat → Int32 := sI (sI (sI J 134 62 (B (a = 0))) 134 63 (B (a = 1))) 134 64 (B (a = 4))
def yTry (J : Nat → Nat → Int32) (np : Nat) (a i : Int32) : Nat → Nat → Int32 :=
  if a = 2 then sI (sI (yFl (yLay J) a) 164 (5 + ixn i) (-1)) 165 (5 + ixn i) (-1) else if a = 3 then yGoes (yFl (yLay J) a) 1 (ixn i) np (-2) else yFl (yLay J) a
def yTrd (J : Nat → Nat → Int32) : Nat → Nat → Int32 := sI (sI (sI J 134 62 0) 134 63 0) 134 64 0
theorem mI_fl {J : Nat → Nat → Int32} {b np ns : Nat} {a : Int32} (h : mI J b np ns) : mI (yFl J a) b np ns := h
theorem mI_und {J : Nat → Nat → Int32} {np ns i : Nat} (h : mI J 1 np ns) : mI (sI (sI J 164 (5 + i) (-1)) 165 (5 + i) (-1)) 1 np ns := by
  have e4 : sI (sI J 164 (5 + i) (-1)) 165 (5 + i) (-1) 164 = upd (J 164) (5 + i) (-1) := show sI J 164 (5 + i) (-1) 164 = _ from sI_eq
  have e5 : sI (sI J 164 (5 + i) (-1)) 165 (5 + i) (-1) 165 = upd (J 165) (5 + i) (-1) := sI_eq
  refine ⟨h.1, fun p hp => ⟨?_, ?_⟩⟩
  · rw [e4]
    unfold upd
    split
    · exact Or.inl rfl
    · exact (h.2 p hp).1
  · rw [e5]
    unfold upd
    split
    · exact Or.inl rfl
    · exact (h.2 p hp).2
theorem mOK_fl {J : Nat → Nat → Int32} {np ns nd : Nat} {a : Int32} (h : mOK J np ns nd) : mOK (yFl J a) np ns nd := h
theorem wfL_fl {J : Nat → Nat → Int32} {a : Int32} (h : wfL J) : wfL (yFl J a) := h
/-- the same text but for the flags -/
def txt (K J : Nat → Nat → Int32) : Prop := (∀ a, a < 162 → a ≠ 134 → K a = J a) ∧ K 134 12 = J 134 12 ∧ K 134 13 = J 134 13 ∧ K 134 14 = J 134 14
theorem txt.mOK {K J : Nat → Nat → Int32} (h : txt K J) {np ns nd : Nat} (hm : mOK J np ns nd) : mOK K np ns nd := by
  unfold Jvm.Pilot.CLeftShoesLaw_law_r4723_b880a2.mOK
  rw [h.2.1, h.2.2.1, h.2.2.2]
  exact hm
theorem txt.wfL {K J : Nat → Nat → Int32} (h : txt K J) (hw : wfL J) : wfL K := by
  unfold Jvm.Pilot.CLeftShoesLaw_law_r4723_b880a2.wfL
  rw [h.1 152 (by decide) (by decide), h.1 153 (by decide) (by decide), h.1 154 (by decide) (by decide), h.1 155 (by decide) (by decide), h.1 156 (by decide) (by decide), h.1 157 (by decide) (by decide)]
  exact hw
theorem txt.zOK {K J : Nat → Nat → Int32} (h : txt K J) {np ns : Nat} (hz : zOK J np ns) : zOK K np ns := by
  unfold Jvm.Pilot.CLeftShoesLaw_law_r4723_b880a2.zOK
  rw [h.1 143 (by decide) (by decide), h.1 139 (by decide) (by decide)]
  exact hz
theorem txt.dbM {K J : Nat → Nat → Int32} (h : txt K J) {np nd : Nat} (hz : dbM J np nd) : dbM K np nd := by
  unfold Jvm.Pilot.CLeftShoesLaw_law_r4723_b880a2.dbM
  rw [h.1 147 (by decide) (by decide), h.1 148 (by decide) (by decide), h.1 149 (by decide) (by decide)]
  exact hz
theorem txt_sm {K J M : Nat → Nat → Int32} (h : sm0 K J) (h2 : txt J M) : txt K M := ⟨fun a h1 h3 => (h.1 a (Or.inl h1)).trans (h2.1 a h1 h3), by rw [h.1 134 (by decide)]; exact h2.2⟩
theorem txt_fl (J : Nat → Nat → Int32) (a : Int32) : txt (yFl J a) J := ⟨fun q h1 h2 => by unfold yFl; rw [sI_ne h2, sI_ne h2, sI_ne h2], rfl, rfl, rfl⟩
theorem txt_lay (J : Nat → Nat → Int32) (a : Int32) : txt (yFl (yLay J) a) J := by
  have h := sm0_lay J
  exact ⟨fun q h1 h2 => ((txt_fl (yLay J) a).1 q h1 h2).trans (h.1 q (Or.inl h1)), by rw [(txt_fl (yLay J) a).2.1, h.1 134 (by decide)], by rw [(txt_fl (yLay J) a).2.2.1, h.1 134 (by decide)], by rw [(txt_fl (yLay J) a).2.2.2, h.1 134 (by decide)]⟩
theorem rep.fl {I J : Nat → Nat → Int32} (h : rep I J) (a : Int32) : rep (yFl I a) (yFl J a) := ((h.set _ _ _).set _ _ _).set _ _ _
abbrev yCan (I : Nat → Nat → Int32) (a i : Int32) : Prop := if a = 2 then yHasP I i else if a = 3 then yHasS I i else i = 0
theorem sm0_try (J : Nat → Nat → Int32) (np : Nat) (a i : Int32) : sm0 (yTry J np a i) (yFl (yLay J) a) := by
  unfold yTry
  split
  · exact (sm0_165 _ _ _).tr (sm0_164 _ _ _)
  · split
    · exact sm0_goes _ _ _ _
    · exact sm0.rf _

set_option maxHeartbeats 4000000 in
theorem ct_Mo_tried {sh : List pSh} {I : Nat → Nat → Int32} {L : Nat → Nat → Int64} {P : Nat → Nat → Option Nat} (hA : kA sh P) {np ns nd : Nat} (hm : mOK I np ns nd) (hwf : wfL I) (hz : zOK I np ns) (hdb : dbM I np nd) (hi : mI I 0 np ns) (a i n : Int32) : pCn m_Mo_tried 9 [.ref 134, .int a, .int i, .int n] sh (I, L, P) (rIf ((0 ≤ a ∧ a ≤ 4) ∧ (0 ≤ n ∧ n ≤ 50) ∧ I 167 0 + n ≤ 999 ∧ yCan I a i) (rChM (yTrd (yDays (yTry I np a i) 1 np ns nd (ixn n))) (yAll (yDays (yTry I np a i) 1 np ns nd (ixn n)) 1 ns) P) (rA (-1) I P)) := by
  refine pCn_of (by decide +kernel) (Nat.le_of_ble_eq_true rfl) ?_
  have h5 := hm.2.1
  have h16 := hm.2.2.2.1
  have hL : ∀ n, ((0 ≤ a ∧ a ≤ 4) ∧ (0 ≤ nI n ∧ nI n ≤ 50) ∧ I 167 0 + nI n ≤ 999 ∧ yCan I a i) → n ≤ 50 → ∀ k, k ≤ n → ∀ (J : Nat → Nat → Int32) (L0 : Nat → Nat → Int64), rep J (yDays (yTry I np a i) 1 np ns nd k) → pWn m_Mo_tried 9 sh (rIf ((0 ≤ a ∧ a ≤ 4) ∧ (0 ≤ nI n ∧ nI n ≤ 50) ∧ I 167 0 + nI n ≤ 999 ∧ yCan I a i) (rChM (yTrd (yDays (yTry I np a i) 1 np ns nd (ixn (nI n)))) (yAll (yDays (yTry I np a i) 1 np ns nd (ixn (nI n))) 1 ns) P) (rA (-1) I P)) 162 [some (.ref 134), some (.int a), some (.int i), some (.int (nI n)), some (.int (nI k))] [] (J, L0, P) := fun n hc hn5 => pUpTo n _ (by
    intro k hk ih J L0 hR
    have hiT : mI (yTry I np a i) 1 np ns := by
      have h0 := mI_fl (a := a) (mI_lay h5 h16 hi)
      unfold yTry
      by_cases q2 : a = 2
      · rw [if_pos q2]; exact mI_und h0
      · rw [if_neg q2]
        by_cases q3 : a = 3
        · rw [if_pos q3]
          have hcc := hc.2.2.2
          unfold yCan at hcc
          rw [if_neg q2, if_pos q3] at hcc
          obtain ⟨j, hj, hje⟩ := nIn hm.2.2.1 (by omega) hcc
          rw [hje, ixn_nI (by omega)]
          exact mI_goes h0 hj h16 (Or.inl rfl)
        · rw [if_neg q3]; exact h0
    have hXT : txt (yTry I np a i) I := txt_sm (sm0_try I np a i) (txt_lay I a)
    have hX : txt (yDays (yTry I np a i) 1 np ns nd k) I := txt_sm (sm0_days _ np ns nd k) hXT
    have hiX := mI_days (nd := nd) hiT (hXT.zOK hz) (hXT.dbM hdb) h5 h16 k
    obtain ⟨K, hKe⟩ : ∃ K, K = yDays (yTry I np a i) 1 np ns nd k := ⟨_, rfl⟩
    have hih := ih
    rw [show yDays (yTry I np a i) 1 np ns nd (k + 1) = yDay K 1 np ns nd from by rw [hKe]; rfl] at ih
    rw [← hKe] at hR hX hiX
    refine pw_iload (i := 4) rfl (by decide +kernel) ?_
    refine pw_iload_n (k4 := 3) rfl (by decide +kernel) ?_
    refine pn_icmp_ge (off := 14) (tgt := 179) k n rfl rfl (by omega) (by omega) (by decide +kernel) (by decide +kernel) (fun z165 => ?_) (fun z165 => ?_)
    · have hkn : k = n := Nat.le_antisymm hk z165
      refine pw_aload_n (k4 := 0) rfl (by decide +kernel) ?_
      refine pw_iconst (n := 1) (v := 1) (by decide) (by decide +kernel) ?_
      refine pq_callV (ν := m_Mo_allWorth) (d' := 6) (av := [_]) (c := 11) (by decide +kernel) lm_Mo_583 ok_Mo_allWorth (show _ = some 1 by decide +kernel) (ks_m hA) rfl (by decide) (by omega) (Nat.le_of_ble_eq_true rfl) (ct_Mo_allWorth hA (mOK_rep hR (hX.mOK hm)) (b := 1) (by decide) (wfL_rep hR (hX.wfL hwf)) (oOK_rep hR hiX.oOK)) ?_
      rintro _ _ ⟨rfl, ev, L2, rfl, hL2⟩
      rw [yAll_rep hR]
      refine pq_istore (i := 4) (Nat.le_of_ble_eq_true rfl) rfl (by decide +kernel) ?_
      refine pw_aload_n (k4 := 0) rfl (by decide +kernel) ?_
      refine pw_iconst (n := 0) (v := 0) (by decide) (by decide +kernel) ?_
      refine pq_putZ (c := 11) (k := 62) (ks_m hA) (by decide) (by decide) (by decide) lf_Mo_381 (Or.inl rfl) (by decide +kernel) ?_
      refine pw_aload_n (k4 := 0) rfl (by decide +kernel) ?_
      refine pw_iconst (n := 0) (v := 0) (by decide) (by decide +kernel) ?_
      refine pq_putZ (c := 11) (k := 63) (ks_m hA) (by decide) (by decide) (by decide) lf_Mo_384 (Or.inl rfl) (by decide +kernel) ?_
      refine pw_aload_n (k4 := 0) rfl (by decide +kernel) ?_
      refine pw_iconst (n := 0) (v := 0) (by decide) (by decide +kernel) ?_
      refine pq_putZ (c := 11) (k := 64) (ks_m hA) (by decide) (by decide) (by decide) lf_Mo_387 (Or.inl rfl) (by decide +kernel) ?_
      refine pw_iload (i := 4) rfl (by decide +kernel) ?_
      exact pq_iret rfl (by decide +kernel) ⟨fun _ => by rw [ixn_nI (by omega), ← hkn, ← hKe]; exact ⟨rfl, _, _, rfl, (((hR.scr (a := 134) (k := 54) (by decide) ev).set _ _ _).set _ _ _).set _ _ _⟩, fun h => absurd hc h⟩
    · refine pw_aload_n (k4 := 0) rfl (by decide +kernel) ?_
      refine pw_iconst (n := 1) (v := 1) (by decide) (by decide +kernel) ?_
      refine pq_callV (ν := m_Mo_aDay) (d' := 8) (av := [_]) (c := 11) (by decide +kernel) lm_Mo_481 ok_Mo_aDay (show _ = some 1 by decide +kernel) (ks_m hA) rfl (by decide) (by omega) (Nat.le_of_ble_eq_true rfl) (ct_Mo_aDay hA hR (hX.mOK hm) (hX.wfL hwf) (hX.zOK hz) (hX.dbM hdb) (b := 1) (by decide) hiX (lfm.rf _)) ?_
      rintro _ _ ⟨rfl, I2, L2, rfl, hR2, hL2⟩
      refine pn_iinc (i := 4) (n := 1) 1 k rfl rfl (by decide) rfl (by decide +kernel) ?_
      refine pw_goto (off := -14) (tgt := 162) (by decide +kernel) (by decide +kernel) ?_
      exact ih (by omega) I2 L2 hR2
)
  refine pw_aload_n (k4 := 0) rfl (by decide +kernel) ?_
  refine pw_iconst (n := 0) (v := 0) (by decide) (by decide +kernel) ?_
  refine pq_putI (c := 11) (k := 2) (ks_m hA) (by decide) (by decide) lf_Mo_175 (Or.inl rfl) (by decide +kernel) ?_
  refine pw_iload_n (k4 := 1) rfl (by decide +kernel) ?_
  refine pw_iconst (n := 0) (v := 0) (by decide) (by decide +kernel) ?_
  refine pw_iconst (n := 4) (v := 4) (by decide) (by decide +kernel) ?_
  refine pq_callS (ν := m_Mo_isIn) (d' := 0) (av := [_, _, _]) (by decide +kernel) lm_Mo_220 ok_Mo_isIn (show _ = some 3 by decide +kernel) (by omega) (Nat.le_of_ble_eq_true rfl) (ct_Mo_isIn _ _ _) ?_
  rintro _ _ ⟨rfl, rfl⟩
  refine pn_ifB_eq (off := 27) (tgt := 38) (by decide +kernel) (by decide +kernel) (fun z11 => ?_) (fun z11 => ?_)
  · refine pw_iconst (n := -1) (v := -1) (by decide) (by decide +kernel) ?_
    exact pq_iret rfl (by decide +kernel) ⟨fun h => absurd h.1 z11, fun _ => ⟨rfl, _, _, rfl, rep_t⟩⟩
  · refine pw_iload_n (k4 := 3) rfl (by decide +kernel) ?_
    refine pw_iconst (n := 0) (v := 0) (by decide) (by decide +kernel) ?_
    refine pw_bipush (n := 50) (v := 50) (by decide) (by decide +kernel) ?_
    refine pq_callS (ν := m_Mo_isIn) (d' := 0) (av := [_, _, _]) (by decide +kernel) lm_Mo_220 ok_Mo_isIn (show _ = some 3 by decide +kernel) (by omega) (Nat.le_of_ble_eq_true rfl) (ct_Mo_isIn _ _ _) ?_
    rintro _ _ ⟨rfl, rfl⟩
    refine pn_ifB_eq (off := 17) (tgt := 38) (by decide +kernel) (by decide +kernel) (fun z21 => ?_) (fun z21 => ?_)
    · refine pw_iconst (n := -1) (v := -1) (by decide) (by decide +kernel) ?_
      exact pq_iret rfl (by decide +kernel) ⟨fun h => absurd h.2.1 z21, fun _ => ⟨rfl, _, _, rfl, rep_t⟩⟩
    · refine pw_aload_n (k4 := 0) rfl (by decide +kernel) ?_
      refine pq_getP (c := 11) (k := 60) (ks_m hA) (by decide) (by decide) (kp_m_day hA) lf_Mo_112 (by decide +kernel) ?_
      refine pw_iconst (n := 0) (v := 0) (by decide) (by decide +kernel) ?_
      refine pq_iald 0 rfl (by omega) (by decide) (ks_m_day hA) (by decide +kernel) ?_
      refine pw_iload_n (k4 := 3) rfl (by decide +kernel) ?_
      refine pw_iadd (by decide +kernel) ?_
      refine pw_sipush (n := 999) (v := 999) (by decide) (by decide +kernel) ?_
      refine pw_icmp_le (off := 5) (tgt := 40) (by decide +kernel) (by decide +kernel) (fun z35 => ?_) (fun z35 => ?_)
      · obtain ⟨n, hn0, rfl⟩ := nI_of (Int32.not_lt.mpr z21.1)
        have hn5 : n ≤ 50 := (nI_leI hn0 (by decide)).mp z21.2
        refine pw_iload_n (k4 := 1) rfl (by decide +kernel) ?_
        refine pw_iconst (n := 2) (v := 2) (by decide) (by decide +kernel) ?_
        refine pw_icmp_ne (off := 14) (tgt := 56) (by decide +kernel) (by decide +kernel) (fun z42 => ?_) (fun z42 => ?_)
        · refine pw_iload_n (k4 := 1) rfl (by decide +kernel) ?_
          refine pw_iconst (n := 3) (v := 3) (by decide) (by decide +kernel) ?_
          refine pw_icmp_ne (off := 14) (tgt := 72) (by decide +kernel) (by decide +kernel) (fun z58 => ?_) (fun z58 => ?_)
          · refine pw_iload_n (k4 := 2) rfl (by decide +kernel) ?_
            refine pw_if_eq (off := 5) (tgt := 78) (by decide +kernel) (by decide +kernel) (fun z73 => ?_) (fun z73 => ?_)
            · have hc : (0 ≤ a ∧ a ≤ 4) ∧ (0 ≤ nI n ∧ nI n ≤ 50) ∧ I 167 0 + nI n ≤ 999 ∧ yCan I a i := ⟨z11, z21, z35, (by unfold yCan; rw [if_neg z42, if_neg z58]; exact z73)⟩
              refine pw_aload_n (k4 := 0) rfl (by decide +kernel) ?_
              refine pq_callV (ν := m_Mo_layTried) (d' := 0) (av := []) (c := 11) (by decide +kernel) lm_Mo_577 ok_Mo_layTried (show _ = some 0 by decide +kernel) (ks_m hA) rfl (by decide) (by omega) (Nat.le_of_ble_eq_true rfl) (ct_Mo_layTried hA) ?_
              rintro _ _ ⟨rfl, rfl⟩
              refine pw_aload_n (k4 := 0) rfl (by decide +kernel) ?_
              refine pw_iload_n (k4 := 1) rfl (by decide +kernel) ?_
              refine pw_if_ne (off := 7) (tgt := 91) (by decide +kernel) (by decide +kernel) (fun z84 => ?_) (fun z84 => ?_)
              · refine pw_iconst (n := 0) (v := 0) (by decide) (by decide +kernel) ?_
                refine pn_val (B (a = 0)) (B_f z84).symm ?_
                refine pq_putZ (c := 11) (k := 62) (ks_m hA) (by decide) (by decide) (B_01 _) lf_Mo_381 (Or.inl rfl) (by decide +kernel) ?_
                refine pw_aload_n (k4 := 0) rfl (by decide +kernel) ?_
                refine pw_iload_n (k4 := 1) rfl (by decide +kernel) ?_
                refine pw_iconst (n := 1) (v := 1) (by decide) (by decide +kernel) ?_
                refine pw_icmp_ne (off := 7) (tgt := 105) (by decide +kernel) (by decide +kernel) (fun z98 => ?_) (fun z98 => ?_)
                · refine pw_iconst (n := 0) (v := 0) (by decide) (by decide +kernel) ?_
                  refine pn_val (B (a = 1)) (B_f z98).symm ?_
                  refine pq_putZ (c := 11) (k := 63) (ks_m hA) (by decide) (by decide) (B_01 _) lf_Mo_384 (Or.inl rfl) (by decide +kernel) ?_
                  refine pw_aload_n (k4 := 0) rfl (by decide +kernel) ?_
                  refine pw_iload_n (k4 := 1) rfl (by decide +kernel) ?_
                  refine pw_iconst (n := 4) (v := 4) (by decide) (by decide +kernel) ?_
                  refine pw_icmp_ne (off := 7) (tgt := 119) (by decide +kernel) (by decide +kernel) (fun z112 => ?_) (fun z112 => ?_)
                  · refine pw_iconst (n := 0) (v := 0) (by decide) (by decide +kernel) ?_
                    refine pn_val (B (a = 4)) (B_f z112).symm ?_
                    refine pq_putZ (c := 11) (k := 64) (ks_m hA) (by decide) (by decide) (B_01 _) lf_Mo_387 (Or.inl rfl) (by decide +kernel) ?_
                    refine pw_iload_n (k4 := 1) rfl (by decide +kernel) ?_
                    refine pw_iconst (n := 2) (v := 2) (by decide) (by decide +kernel) ?_
                    refine pw_icmp_ne (off := 21) (tgt := 146) (by decide +kernel) (by decide +kernel) (fun z125 => ?_) (fun z125 => ?_)
                    · refine pw_iload_n (k4 := 1) rfl (by decide +kernel) ?_
                      refine pw_iconst (n := 3) (v := 3) (by decide) (by decide +kernel) ?_
                      refine pw_icmp_ne (off := 11) (tgt := 159) (by decide +kernel) (by decide +kernel) (fun z148 => ?_) (fun z148 => ?_)
                      · refine pw_iconst (n := 0) (v := 0) (by decide) (by decide +kernel) ?_
                        refine pq_istore (i := 4) (Nat.le_of_ble_eq_true rfl) rfl (by decide +kernel) ?_
                        exact hL n hc hn5 0 (Nat.zero_le _) (yFl (yLay (sI I 134 2 0)) a) L (by show rep _ (yTry I np a i); rw [show yTry I np a i = _ from (if_neg z42).trans (if_neg z58)]; exact (rep_t.lay).fl a)
                      · exact absurd z148 z58
                    · exact absurd z125 z42
                  · refine pw_iconst (n := 1) (v := 1) (by decide) (by decide +kernel) ?_
                    refine pn_val (B (a = 4)) (B_t z112).symm ?_
                    refine pw_goto (off := 4) (tgt := 120) (by decide +kernel) (by decide +kernel) ?_
                    refine pq_putZ (c := 11) (k := 64) (ks_m hA) (by decide) (by decide) (B_01 _) lf_Mo_387 (Or.inl rfl) (by decide +kernel) ?_
                    refine pw_iload_n (k4 := 1) rfl (by decide +kernel) ?_
                    refine pw_iconst (n := 2) (v := 2) (by decide) (by decide +kernel) ?_
                    refine pw_icmp_ne (off := 21) (tgt := 146) (by decide +kernel) (by decide +kernel) (fun z125 => ?_) (fun z125 => ?_)
                    · refine pw_iload_n (k4 := 1) rfl (by decide +kernel) ?_
                      refine pw_iconst (n := 3) (v := 3) (by decide) (by decide +kernel) ?_
                      refine pw_icmp_ne (off := 11) (tgt := 159) (by decide +kernel) (by decide +kernel) (fun z148 => ?_) (fun z148 => ?_)
                      · refine pw_iconst (n := 0) (v := 0) (by decide) (by decide +kernel) ?_
                        refine pq_istore (i := 4) (Nat.le_of_ble_eq_true rfl) rfl (by decide +kernel) ?_
                        exact hL n hc hn5 0 (Nat.zero_le _) (yFl (yLay (sI I 134 2 0)) a) L (by show rep _ (yTry I np a i); rw [show yTry I np a i = _ from (if_neg z42).trans (if_neg z58)]; exact (rep_t.lay).fl a)
                      · exact absurd z148 z58
                    · exact absurd z125 z42
                · refine pw_iconst (n := 1) (v := 1) (by decide) (by decide +kernel) ?_
                  refine pn_val (B (a = 1)) (B_t z98).symm ?_
                  refine pw_goto (off := 4) (tgt := 106) (by decide +kernel) (by decide +kernel) ?_
                  refine pq_putZ (c := 11) (k := 63) (ks_m hA) (by decide) (by decide) (B_01 _) lf_Mo_384 (Or.inl rfl) (by decide +kernel) ?_
                  refine pw_aload_n (k4 := 0) rfl (by decide +kernel) ?_
                  refine pw_iload_n (k4 := 1) rfl (by decide +kernel) ?_
                  refine pw_iconst (n := 4) (v := 4) (by decide) (by decide +kernel) ?_
                  refine pw_icmp_ne (off := 7) (tgt := 119) (by decide +kernel) (by decide +kernel) (fun z112 => ?_) (fun z112 => ?_)
                  · refine pw_iconst (n := 0) (v := 0) (by decide) (by decide +kernel) ?_
                    refine pn_val (B (a = 4)) (B_f z112).symm ?_
                    refine pq_putZ (c := 11) (k := 64) (ks_m hA) (by decide) (by decide) (B_01 _) lf_Mo_387 (Or.inl rfl) (by decide +kernel) ?_
                    refine pw_iload_n (k4 := 1) rfl (by decide +kernel) ?_
                    refine pw_iconst (n := 2) (v := 2) (by decide) (by decide +kernel) ?_
                    refine pw_icmp_ne (off := 21) (tgt := 146) (by decide +kernel) (by decide +kernel) (fun z125 => ?_) (fun z125 => ?_)
                    · refine pw_iload_n (k4 := 1) rfl (by decide +kernel) ?_
                      refine pw_iconst (n := 3) (v := 3) (by decide) (by decide +kernel) ?_
                      refine pw_icmp_ne (off := 11) (tgt := 159) (by decide +kernel) (by decide +kernel) (fun z148 => ?_) (fun z148 => ?_)
                      · refine pw_iconst (n := 0) (v := 0) (by decide) (by decide +kernel) ?_
                        refine pq_istore (i := 4) (Nat.le_of_ble_eq_true rfl) rfl (by decide +kernel) ?_
                        exact hL n hc hn5 0 (Nat.zero_le _) (yFl (yLay (sI I 134 2 0)) a) L (by show rep _ (yTry I np a i); rw [show yTry I np a i = _ from (if_neg z42).trans (if_neg z58)]; exact (rep_t.lay).fl a)
                      · exact absurd z148 z58
                    · exact absurd z125 z42
                  · refine pw_iconst (n := 1) (v := 1) (by decide) (by decide +kernel) ?_
                    refine pn_val (B (a = 4)) (B_t z112).symm ?_
                    refine pw_goto (off := 4) (tgt := 120) (by decide +kernel) (by decide +kernel) ?_
                    refine pq_putZ (c := 11) (k := 64) (ks_m hA) (by decide) (by decide) (B_01 _) lf_Mo_387 (Or.inl rfl) (by decide +kernel) ?_
                    refine pw_iload_n (k4 := 1) rfl (by decide +kernel) ?_
                    refine pw_iconst (n := 2) (v := 2) (by decide) (by decide +kernel) ?_
                    refine pw_icmp_ne (off := 21) (tgt := 146) (by decide +kernel) (by decide +kernel) (fun z125 => ?_) (fun z125 => ?_)
                    · refine pw_iload_n (k4 := 1) rfl (by decide +kernel) ?_
                      refine pw_iconst (n := 3) (v := 3) (by decide) (by decide +kernel) ?_
                      refine pw_icmp_ne (off := 11) (tgt := 159) (by decide +kernel) (by decide +kernel) (fun z148 => ?_) (fun z148 => ?_)
                      · refine pw_iconst (n := 0) (v := 0) (by decide) (by decide +kernel) ?_
                        refine pq_istore (i := 4) (Nat.le_of_ble_eq_true rfl) rfl (by decide +kernel) ?_
                        exact hL n hc hn5 0 (Nat.zero_le _) (yFl (yLay (sI I 134 2 0)) a) L (by show rep _ (yTry I np a i); rw [show yTry I np a i = _ from (if_neg z42).trans (if_neg z58)]; exact (rep_t.lay).fl a)
                      · exact absurd z148 z58
                    · exact absurd z125 z42
              · refine pw_iconst (n := 1) (v := 1) (by decide) (by decide +kernel) ?_
                refine pn_val (B (a = 0)) (B_t z84).symm ?_
                refine pw_goto (off := 4) (tgt := 92) (by decide +kernel) (by decide +kernel) ?_
                refine pq_putZ (c := 11) (k := 62) (ks_m hA) (by decide) (by decide) (B_01 _) lf_Mo_381 (Or.inl rfl) (by decide +kernel) ?_
                refine pw_aload_n (k4 := 0) rfl (by decide +kernel) ?_
                refine pw_iload_n (k4 := 1) rfl (by decide +kernel) ?_
                refine pw_iconst (n := 1) (v := 1) (by decide) (by decide +kernel) ?_
                refine pw_icmp_ne (off := 7) (tgt := 105) (by decide +kernel) (by decide +kernel) (fun z98 => ?_) (fun z98 => ?_)
                · refine pw_iconst (n := 0) (v := 0) (by decide) (by decide +kernel) ?_
                  refine pn_val (B (a = 1)) (B_f z98).symm ?_
                  refine pq_putZ (c := 11) (k := 63) (ks_m hA) (by decide) (by decide) (B_01 _) lf_Mo_384 (Or.inl rfl) (by decide +kernel) ?_
                  refine pw_aload_n (k4 := 0) rfl (by decide +kernel) ?_
                  refine pw_iload_n (k4 := 1) rfl (by decide +kernel) ?_
                  refine pw_iconst (n := 4) (v := 4) (by decide) (by decide +kernel) ?_
                  refine pw_icmp_ne (off := 7) (tgt := 119) (by decide +kernel) (by decide +kernel) (fun z112 => ?_) (fun z112 => ?_)
                  · refine pw_iconst (n := 0) (v := 0) (by decide) (by decide +kernel) ?_
                    refine pn_val (B (a = 4)) (B_f z112).symm ?_
                    refine pq_putZ (c := 11) (k := 64) (ks_m hA) (by decide) (by decide) (B_01 _) lf_Mo_387 (Or.inl rfl) (by decide +kernel) ?_
                    refine pw_iload_n (k4 := 1) rfl (by decide +kernel) ?_
                    refine pw_iconst (n := 2) (v := 2) (by decide) (by decide +kernel) ?_
                    refine pw_icmp_ne (off := 21) (tgt := 146) (by decide +kernel) (by decide +kernel) (fun z125 => ?_) (fun z125 => ?_)
                    · refine pw_iload_n (k4 := 1) rfl (by decide +kernel) ?_
                      refine pw_iconst (n := 3) (v := 3) (by decide) (by decide +kernel) ?_
                      refine pw_icmp_ne (off := 11) (tgt := 159) (by decide +kernel) (by decide +kernel) (fun z148 => ?_) (fun z148 => ?_)
                      · refine pw_iconst (n := 0) (v := 0) (by decide) (by decide +kernel) ?_
                        refine pq_istore (i := 4) (Nat.le_of_ble_eq_true rfl) rfl (by decide +kernel) ?_
                        exact hL n hc hn5 0 (Nat.zero_le _) (yFl (yLay (sI I 134 2 0)) a) L (by show rep _ (yTry I np a i); rw [show yTry I np a i = _ from (if_neg z42).trans (if_neg z58)]; exact (rep_t.lay).fl a)
                      · exact absurd z148 z58
                    · exact absurd z125 z42
                  · refine pw_iconst (n := 1) (v := 1) (by decide) (by decide +kernel) ?_
                    refine pn_val (B (a = 4)) (B_t z112).symm ?_
                    refine pw_goto (off := 4) (tgt := 120) (by decide +kernel) (by decide +kernel) ?_
                    refine pq_putZ (c := 11) (k := 64) (ks_m hA) (by decide) (by decide) (B_01 _) lf_Mo_387 (Or.inl rfl) (by decide +kernel) ?_
                    refine pw_iload_n (k4 := 1) rfl (by decide +kernel) ?_
                    refine pw_iconst (n := 2) (v := 2) (by decide) (by decide +kernel) ?_
                    refine pw_icmp_ne (off := 21) (tgt := 146) (by decide +kernel) (by decide +kernel) (fun z125 => ?_) (fun z125 => ?_)
                    · refine pw_iload_n (k4 := 1) rfl (by decide +kernel) ?_
                      refine pw_iconst (n := 3) (v := 3) (by decide) (by decide +kernel) ?_
                      refine pw_icmp_ne (off := 11) (tgt := 159) (by decide +kernel) (by decide +kernel) (fun z148 => ?_) (fun z148 => ?_)
                      · refine pw_iconst (n := 0) (v := 0) (by decide) (by decide +kernel) ?_
                        refine pq_istore (i := 4) (Nat.le_of_ble_eq_true rfl) rfl (by decide +kernel) ?_
                        exact hL n hc hn5 0 (Nat.zero_le _) (yFl (yLay (sI I 134 2 0)) a) L (by show rep _ (yTry I np a i); rw [show yTry I np a i = _ from (if_neg z42).trans (if_neg z58)]; exact (rep_t.lay).fl a)
                      · exact absurd z148 z58
                    · exact absurd z125 z42
                · refine pw_iconst (n := 1) (v := 1) (by decide) (by decide +kernel) ?_
                  refine pn_val (B (a = 1)) (B_t z98).symm ?_
                  refine pw_goto (off := 4) (tgt := 106) (by decide +kernel) (by decide +kernel) ?_
                  refine pq_putZ (c := 11) (k := 63) (ks_m hA) (by decide) (by decide) (B_01 _) lf_Mo_384 (Or.inl rfl) (by decide +kernel) ?_
                  refine pw_aload_n (k4 := 0) rfl (by decide +kernel) ?_
                  refine pw_iload_n (k4 := 1) rfl (by decide +kernel) ?_
                  refine pw_iconst (n := 4) (v := 4) (by decide) (by decide +kernel) ?_
                  refine pw_icmp_ne (off := 7) (tgt := 119) (by decide +kernel) (by decide +kernel) (fun z112 => ?_) (fun z112 => ?_)
                  · refine pw_iconst (n := 0) (v := 0) (by decide) (by decide +kernel) ?_
                    refine pn_val (B (a = 4)) (B_f z112).symm ?_
                    refine pq_putZ (c := 11) (k := 64) (ks_m hA) (by decide) (by decide) (B_01 _) lf_Mo_387 (Or.inl rfl) (by decide +kernel) ?_
                    refine pw_iload_n (k4 := 1) rfl (by decide +kernel) ?_
                    refine pw_iconst (n := 2) (v := 2) (by decide) (by decide +kernel) ?_
                    refine pw_icmp_ne (off := 21) (tgt := 146) (by decide +kernel) (by decide +kernel) (fun z125 => ?_) (fun z125 => ?_)
                    · refine pw_iload_n (k4 := 1) rfl (by decide +kernel) ?_
                      refine pw_iconst (n := 3) (v := 3) (by decide) (by decide +kernel) ?_
                      refine pw_icmp_ne (off := 11) (tgt := 159) (by decide +kernel) (by decide +kernel) (fun z148 => ?_) (fun z148 => ?_)
                      · refine pw_iconst (n := 0) (v := 0) (by decide) (by decide +kernel) ?_
                        refine pq_istore (i := 4) (Nat.le_of_ble_eq_true rfl) rfl (by decide +kernel) ?_
                        exact hL n hc hn5 0 (Nat.zero_le _) (yFl (yLay (sI I 134 2 0)) a) L (by show rep _ (yTry I np a i); rw [show yTry I np a i = _ from (if_neg z42).trans (if_neg z58)]; exact (rep_t.lay).fl a)
                      · exact absurd z148 z58
                    · exact absurd z125 z42
                  · refine pw_iconst (n := 1) (v := 1) (by decide) (by decide +kernel) ?_
                    refine pn_val (B (a = 4)) (B_t z112).symm ?_
                    refine pw_goto (off := 4) (tgt := 120) (by decide +kernel) (by decide +kernel) ?_
                    refine pq_putZ (c := 11) (k := 64) (ks_m hA) (by decide) (by decide) (B_01 _) lf_Mo_387 (Or.inl rfl) (by decide +kernel) ?_
                    refine pw_iload_n (k4 := 1) rfl (by decide +kernel) ?_
                    refine pw_iconst (n := 2) (v := 2) (by decide) (by decide +kernel) ?_
                    refine pw_icmp_ne (off := 21) (tgt := 146) (by decide +kernel) (by decide +kernel) (fun z125 => ?_) (fun z125 => ?_)
                    · refine pw_iload_n (k4 := 1) rfl (by decide +kernel) ?_
                      refine pw_iconst (n := 3) (v := 3) (by decide) (by decide +kernel) ?_
                      refine pw_icmp_ne (off := 11) (tgt := 159) (by decide +kernel) (by decide +kernel) (fun z148 => ?_) (fun z148 => ?_)
                      · refine pw_iconst (n := 0) (v := 0) (by decide) (by decide +kernel) ?_
                        refine pq_istore (i := 4) (Nat.le_of_ble_eq_true rfl) rfl (by decide +kernel) ?_
                        exact hL n hc hn5 0 (Nat.zero_le _) (yFl (yLay (sI I 134 2 0)) a) L (by show rep _ (yTry I np a i); rw [show yTry I np a i = _ from (if_neg z42).trans (if_neg z58)]; exact (rep_t.lay).fl a)
                      · exact absurd z148 z58
                    · exact absurd z125 z42
            · refine pw_iconst (n := -1) (v := -1) (by decide) (by decide +kernel) ?_
              exact pq_iret rfl (by decide +kernel) ⟨fun h => absurd h.2.2.2 (fun w => by unfold yCan at w; rw [if_neg z42, if_neg z58] at w; exact z73 w), fun _ => ⟨rfl, _, _, rfl, rep_t⟩⟩
          · refine pw_aload_n (k4 := 0) rfl (by decide +kernel) ?_
            refine pw_iload_n (k4 := 2) rfl (by decide +kernel) ?_
            refine pq_callV (ν := m_Mo_isShoe) (d' := 0) (av := [_]) (c := 11) (by decide +kernel) lm_Mo_399 ok_Mo_isShoe (show _ = some 1 by decide +kernel) (ks_m hA) rfl (by decide) (by omega) (Nat.le_of_ble_eq_true rfl) (ct_Mo_isShoe hA _) ?_
            rintro _ _ ⟨rfl, rfl⟩
            refine pn_ifB_ne (off := 12) (tgt := 78) (by decide +kernel) (by decide +kernel) (fun z66 => ?_) (fun z66 => ?_)
            · have hc : (0 ≤ a ∧ a ≤ 4) ∧ (0 ≤ nI n ∧ nI n ≤ 50) ∧ I 167 0 + nI n ≤ 999 ∧ yCan I a i := ⟨z11, z21, z35, (by unfold yCan; rw [if_neg z42, if_pos z58]; exact z66)⟩
              obtain ⟨j, hj, rfl⟩ := nIn hm.2.2.1 (by omega) z66
              refine pw_aload_n (k4 := 0) rfl (by decide +kernel) ?_
              refine pq_callV (ν := m_Mo_layTried) (d' := 0) (av := []) (c := 11) (by decide +kernel) lm_Mo_577 ok_Mo_layTried (show _ = some 0 by decide +kernel) (ks_m hA) rfl (by decide) (by omega) (Nat.le_of_ble_eq_true rfl) (ct_Mo_layTried hA) ?_
              rintro _ _ ⟨rfl, rfl⟩
              refine pw_aload_n (k4 := 0) rfl (by decide +kernel) ?_
              refine pw_iload_n (k4 := 1) rfl (by decide +kernel) ?_
              refine pw_if_ne (off := 7) (tgt := 91) (by decide +kernel) (by decide +kernel) (fun z84 => ?_) (fun z84 => ?_)
              · refine pw_iconst (n := 0) (v := 0) (by decide) (by decide +kernel) ?_
                refine pn_val (B (a = 0)) (B_f z84).symm ?_
                refine pq_putZ (c := 11) (k := 62) (ks_m hA) (by decide) (by decide) (B_01 _) lf_Mo_381 (Or.inl rfl) (by decide +kernel) ?_
                refine pw_aload_n (k4 := 0) rfl (by decide +kernel) ?_
                refine pw_iload_n (k4 := 1) rfl (by decide +kernel) ?_
                refine pw_iconst (n := 1) (v := 1) (by decide) (by decide +kernel) ?_
                refine pw_icmp_ne (off := 7) (tgt := 105) (by decide +kernel) (by decide +kernel) (fun z98 => ?_) (fun z98 => ?_)
                · refine pw_iconst (n := 0) (v := 0) (by decide) (by decide +kernel) ?_
                  refine pn_val (B (a = 1)) (B_f z98).symm ?_
                  refine pq_putZ (c := 11) (k := 63) (ks_m hA) (by decide) (by decide) (B_01 _) lf_Mo_384 (Or.inl rfl) (by decide +kernel) ?_
                  refine pw_aload_n (k4 := 0) rfl (by decide +kernel) ?_
                  refine pw_iload_n (k4 := 1) rfl (by decide +kernel) ?_
                  refine pw_iconst (n := 4) (v := 4) (by decide) (by decide +kernel) ?_
                  refine pw_icmp_ne (off := 7) (tgt := 119) (by decide +kernel) (by decide +kernel) (fun z112 => ?_) (fun z112 => ?_)
                  · refine pw_iconst (n := 0) (v := 0) (by decide) (by decide +kernel) ?_
                    refine pn_val (B (a = 4)) (B_f z112).symm ?_
                    refine pq_putZ (c := 11) (k := 64) (ks_m hA) (by decide) (by decide) (B_01 _) lf_Mo_387 (Or.inl rfl) (by decide +kernel) ?_
                    refine pw_iload_n (k4 := 1) rfl (by decide +kernel) ?_
                    refine pw_iconst (n := 2) (v := 2) (by decide) (by decide +kernel) ?_
                    refine pw_icmp_ne (off := 21) (tgt := 146) (by decide +kernel) (by decide +kernel) (fun z125 => ?_) (fun z125 => ?_)
                    · refine pw_iload_n (k4 := 1) rfl (by decide +kernel) ?_
                      refine pw_iconst (n := 3) (v := 3) (by decide) (by decide +kernel) ?_
                      refine pw_icmp_ne (off := 11) (tgt := 159) (by decide +kernel) (by decide +kernel) (fun z148 => ?_) (fun z148 => ?_)
                      · exact absurd z58 z148
                      · refine pw_aload_n (k4 := 0) rfl (by decide +kernel) ?_
                        refine pw_iconst (n := 1) (v := 1) (by decide) (by decide +kernel) ?_
                        refine pw_iload_n (k4 := 2) rfl (by decide +kernel) ?_
                        refine pw_bipush (n := -2) (v := -2) (by decide) (by decide +kernel) ?_
                        refine pq_callV (ν := m_Mo_goes) (d' := 1) (av := [_, _, _]) (c := 11) (by decide +kernel) lm_Mo_466 ok_Mo_goes (show _ = some 3 by decide +kernel) (ks_m hA) rfl (by decide) (by omega) (Nat.le_of_ble_eq_true rfl) (ct_Mo_goes hA (show mOK (yFl (yLay (sI I 134 2 0)) a) np ns nd from hm) (b := 1) (by decide) (by omega) _) ?_
                        rintro _ _ ⟨rfl, rfl⟩
                        refine pw_iconst (n := 0) (v := 0) (by decide) (by decide +kernel) ?_
                        refine pq_istore (i := 4) (Nat.le_of_ble_eq_true rfl) rfl (by decide +kernel) ?_
                        exact hL n hc hn5 0 (Nat.zero_le _) (yGoes (yFl (yLay (sI I 134 2 0)) a) 1 j np (-2)) L (by show rep _ (yTry I np a (nI j)); rw [show yTry I np a (nI j) = _ from (if_neg z42).trans (if_pos z58)]; rw [ixn_nI (by omega)]; exact ((rep_t.lay).fl a).goes 1 j np (-2))
                    · exact absurd (z125.symm.trans z58) (by decide)
                  · exact absurd (z112.symm.trans z58) (by decide)
                · exact absurd (z98.symm.trans z58) (by decide)
              · exact absurd (z84.symm.trans z58) (by decide)
            · refine pw_goto (off := 7) (tgt := 76) (by decide +kernel) (by decide +kernel) ?_
              refine pw_iconst (n := -1) (v := -1) (by decide) (by decide +kernel) ?_
              exact pq_iret rfl (by decide +kernel) ⟨fun h => absurd h.2.2.2 (fun w => by unfold yCan at w; rw [if_neg z42, if_pos z58] at w; exact z66 w), fun _ => ⟨rfl, _, _, rfl, rep_t⟩⟩
        · refine pw_aload_n (k4 := 0) rfl (by decide +kernel) ?_
          refine pw_iload_n (k4 := 2) rfl (by decide +kernel) ?_
          refine pq_callV (ν := m_Mo_isPerson) (d' := 0) (av := [_]) (c := 11) (by decide +kernel) lm_Mo_440 ok_Mo_isPerson (show _ = some 1 by decide +kernel) (ks_m hA) rfl (by decide) (by omega) (Nat.le_of_ble_eq_true rfl) (ct_Mo_isPerson hA _) ?_
          rintro _ _ ⟨rfl, rfl⟩
          refine pn_ifB_ne (off := 28) (tgt := 78) (by decide +kernel) (by decide +kernel) (fun z50 => ?_) (fun z50 => ?_)
          · have hc : (0 ≤ a ∧ a ≤ 4) ∧ (0 ≤ nI n ∧ nI n ≤ 50) ∧ I 167 0 + nI n ≤ 999 ∧ yCan I a i := ⟨z11, z21, z35, (by unfold yCan; rw [if_pos z42]; exact z50)⟩
            obtain ⟨j, hj, rfl⟩ := nIn hm.1 (by omega) z50
            refine pw_aload_n (k4 := 0) rfl (by decide +kernel) ?_
            refine pq_callV (ν := m_Mo_layTried) (d' := 0) (av := []) (c := 11) (by decide +kernel) lm_Mo_577 ok_Mo_layTried (show _ = some 0 by decide +kernel) (ks_m hA) rfl (by decide) (by omega) (Nat.le_of_ble_eq_true rfl) (ct_Mo_layTried hA) ?_
            rintro _ _ ⟨rfl, rfl⟩
            refine pw_aload_n (k4 := 0) rfl (by decide +kernel) ?_
            refine pw_iload_n (k4 := 1) rfl (by decide +kernel) ?_
            refine pw_if_ne (off := 7) (tgt := 91) (by decide +kernel) (by decide +kernel) (fun z84 => ?_) (fun z84 => ?_)
            · refine pw_iconst (n := 0) (v := 0) (by decide) (by decide +kernel) ?_
              refine pn_val (B (a = 0)) (B_f z84).symm ?_
              refine pq_putZ (c := 11) (k := 62) (ks_m hA) (by decide) (by decide) (B_01 _) lf_Mo_381 (Or.inl rfl) (by decide +kernel) ?_
              refine pw_aload_n (k4 := 0) rfl (by decide +kernel) ?_
              refine pw_iload_n (k4 := 1) rfl (by decide +kernel) ?_
              refine pw_iconst (n := 1) (v := 1) (by decide) (by decide +kernel) ?_
              refine pw_icmp_ne (off := 7) (tgt := 105) (by decide +kernel) (by decide +kernel) (fun z98 => ?_) (fun z98 => ?_)
              · refine pw_iconst (n := 0) (v := 0) (by decide) (by decide +kernel) ?_
                refine pn_val (B (a = 1)) (B_f z98).symm ?_
                refine pq_putZ (c := 11) (k := 63) (ks_m hA) (by decide) (by decide) (B_01 _) lf_Mo_384 (Or.inl rfl) (by decide +kernel) ?_
                refine pw_aload_n (k4 := 0) rfl (by decide +kernel) ?_
                refine pw_iload_n (k4 := 1) rfl (by decide +kernel) ?_
                refine pw_iconst (n := 4) (v := 4) (by decide) (by decide +kernel) ?_
                refine pw_icmp_ne (off := 7) (tgt := 119) (by decide +kernel) (by decide +kernel) (fun z112 => ?_) (fun z112 => ?_)
                · refine pw_iconst (n := 0) (v := 0) (by decide) (by decide +kernel) ?_
                  refine pn_val (B (a = 4)) (B_f z112).symm ?_
                  refine pq_putZ (c := 11) (k := 64) (ks_m hA) (by decide) (by decide) (B_01 _) lf_Mo_387 (Or.inl rfl) (by decide +kernel) ?_
                  refine pw_iload_n (k4 := 1) rfl (by decide +kernel) ?_
                  refine pw_iconst (n := 2) (v := 2) (by decide) (by decide +kernel) ?_
                  refine pw_icmp_ne (off := 21) (tgt := 146) (by decide +kernel) (by decide +kernel) (fun z125 => ?_) (fun z125 => ?_)
                  · exact absurd z42 z125
                  · refine pw_aload_n (k4 := 0) rfl (by decide +kernel) ?_
                    refine pq_getP (c := 11) (k := 57) (ks_m hA) (by decide) (by decide) (kp_m_leftOn hA) lf_Mo_103 (by decide +kernel) ?_
                    refine pw_iconst (n := 5) (v := 5) (by decide) (by decide +kernel) ?_
                    refine pw_iload_n (k4 := 2) rfl (by decide +kernel) ?_
                    refine pn_iadd 5 j rfl rfl (by decide +kernel) ?_
                    refine pw_iconst (n := -1) (v := -1) (by decide) (by decide +kernel) ?_
                    refine pq_iast (5 + j) rfl (by omega) (by decide) (ks_m_leftOn hA) (by decide +kernel) ?_
                    refine pw_aload_n (k4 := 0) rfl (by decide +kernel) ?_
                    refine pq_getP (c := 11) (k := 58) (ks_m hA) (by decide) (by decide) (kp_m_rightOn hA) lf_Mo_106 (by decide +kernel) ?_
                    refine pw_iconst (n := 5) (v := 5) (by decide) (by decide +kernel) ?_
                    refine pw_iload_n (k4 := 2) rfl (by decide +kernel) ?_
                    refine pn_iadd 5 j rfl rfl (by decide +kernel) ?_
                    refine pw_iconst (n := -1) (v := -1) (by decide) (by decide +kernel) ?_
                    refine pq_iast (5 + j) rfl (by omega) (by decide) (ks_m_rightOn hA) (by decide +kernel) ?_
                    refine pw_iload_n (k4 := 1) rfl (by decide +kernel) ?_
                    refine pw_iconst (n := 3) (v := 3) (by decide) (by decide +kernel) ?_
                    refine pw_icmp_ne (off := 11) (tgt := 159) (by decide +kernel) (by decide +kernel) (fun z148 => ?_) (fun z148 => ?_)
                    · refine pw_iconst (n := 0) (v := 0) (by decide) (by decide +kernel) ?_
                      refine pq_istore (i := 4) (Nat.le_of_ble_eq_true rfl) rfl (by decide +kernel) ?_
                      exact hL n hc hn5 0 (Nat.zero_le _) (sI (sI (yFl (yLay (sI I 134 2 0)) a) 164 (5 + j) (-1)) 165 (5 + j) (-1)) L (by show rep _ (yTry I np a (nI j)); rw [show yTry I np a (nI j) = _ from if_pos z42]; rw [ixn_nI (by omega)]; exact (((rep_t.lay).fl a).set _ _ _).set _ _ _)
                    · exact absurd (z148.symm.trans z42) (by decide)
                · exact absurd (z112.symm.trans z42) (by decide)
              · exact absurd (z98.symm.trans z42) (by decide)
            · exact absurd (z84.symm.trans z42) (by decide)
          · refine pw_goto (off := 23) (tgt := 76) (by decide +kernel) (by decide +kernel) ?_
            refine pw_iconst (n := -1) (v := -1) (by decide) (by decide +kernel) ?_
            exact pq_iret rfl (by decide +kernel) ⟨fun h => absurd h.2.2.2 (fun w => by unfold yCan at w; rw [if_pos z42] at w; exact z50 w), fun _ => ⟨rfl, _, _, rfl, rep_t⟩⟩
      · refine pw_iconst (n := -1) (v := -1) (by decide) (by decide +kernel) ?_
        exact pq_iret rfl (by decide +kernel) ⟨fun h => absurd h.2.2.1 z35, fun _ => ⟨rfl, _, _, rfl, rep_t⟩⟩
