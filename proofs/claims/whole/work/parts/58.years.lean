/-! ===== the reference: what is tried leaves what is true; years, tries ===== -/
/-- the same but for what is tried -/
def sm0 (K J : Nat → Nat → Int32) : Prop := (∀ a, a < 162 ∨ 167 < a → K a = J a) ∧ (∀ i, i < 16 → K 162 i = J 162 i) ∧ (∀ i, i < 16 → K 163 i = J 163 i) ∧ (∀ i, i < 5 → K 164 i = J 164 i) ∧ (∀ i, i < 5 → K 165 i = J 165 i) ∧ (∀ i, i < 8 → K 166 i = J 166 i) ∧ K 167 0 = J 167 0
theorem sm0.rf (J : Nat → Nat → Int32) : sm0 J J := ⟨fun _ _ => rfl, fun _ _ => rfl, fun _ _ => rfl, fun _ _ => rfl, fun _ _ => rfl, fun _ _ => rfl, rfl⟩
theorem sm0.tr {K J M : Nat → Nat → Int32} (h1 : sm0 K J) (h2 : sm0 J M) : sm0 K M := ⟨fun a h => (h1.1 a h).trans (h2.1 a h), fun i h => (h1.2.1 i h).trans (h2.2.1 i h), fun i h => (h1.2.2.1 i h).trans (h2.2.2.1 i h), fun i h => (h1.2.2.2.1 i h).trans (h2.2.2.2.1 i h), fun i h => (h1.2.2.2.2.1 i h).trans (h2.2.2.2.2.1 i h), fun i h => (h1.2.2.2.2.2.1 i h).trans (h2.2.2.2.2.2.1 i h), h1.2.2.2.2.2.2.trans h2.2.2.2.2.2.2⟩
theorem sm0.T {K J : Nat → Nat → Int32} (h : sm0 K J) : sameT K J := fun a ha => h.1 a (Or.inl ha)
theorem sm0_lay (J : Nat → Nat → Int32) : sm0 (yLay J) J := by
  refine ⟨fun a h => ?_, fun i h => ?_, fun i h => ?_, fun i h => ?_, fun i h => ?_, fun i h => ?_, ?_⟩
  · unfold yLay
    rw [sI_ne (by omega), aU_ne (by omega), aU_ne (by omega), aU_ne (by omega), aU_ne (by omega), aU_ne (by omega)]
  · exact layK_lo h
  · exact layK_lo h
  · exact layK_lo h
  · exact layK_lo h
  · exact layK_lo h
  · exact sI_rd (by decide)
theorem sm0_goes (J : Nat → Nat → Int32) (j np : Nat) (to : Int32) : sm0 (yGoes J 1 j np to) J := by
  refine ⟨fun a h => yGoes_fr (by omega) (by omega) (by omega), fun i h => rfl, fun i h => ?_, fun i h => ?_, fun i h => ?_, fun i h => rfl, rfl⟩
  · have w : yGoes J 1 j np to 163 = upd (J 163) (16 * 1 + j) to := sI_eq
    rw [w]
    exact if_neg (by omega)
  · exact if_neg (show ¬ (5 * 1 ≤ i ∧ i < 5 * 1 + np ∧ J 164 i = nI j) by omega)
  · exact if_neg (show ¬ (5 * 1 ≤ i ∧ i < 5 * 1 + np ∧ J 165 i = nI j) by omega)
theorem sm0_use (J : Nat → Nat → Int32) (j : Nat) (x : Int32) : sm0 (sI J 162 (16 * 1 + j) x) J := ⟨fun a h => sI_ne (by omega), fun i h => sI_rd (by omega), fun _ _ => rfl, fun _ _ => rfl, fun _ _ => rfl, fun _ _ => rfl, rfl⟩
theorem sm0_166 (J : Nat → Nat → Int32) (d : Nat) (x : Int32) : sm0 (sI J 166 (8 * 1 + d) x) J := ⟨fun a h => sI_ne (by omega), fun _ _ => rfl, fun _ _ => rfl, fun _ _ => rfl, fun _ _ => rfl, fun i h => sI_rd (by omega), rfl⟩
theorem sm0_167 (J : Nat → Nat → Int32) (x : Int32) : sm0 (sI J 167 1 x) J := ⟨fun a h => sI_ne (by omega), fun _ _ => rfl, fun _ _ => rfl, fun _ _ => rfl, fun _ _ => rfl, fun _ _ => rfl, sI_rd (by decide)⟩
theorem sm0_164 (J : Nat → Nat → Int32) (i : Nat) (x : Int32) : sm0 (sI J 164 (5 + i) x) J := ⟨fun a h => sI_ne (by omega), fun _ _ => rfl, fun _ _ => rfl, fun k h => sI_rd (by omega), fun _ _ => rfl, fun _ _ => rfl, rfl⟩
theorem sm0_165 (J : Nat → Nat → Int32) (i : Nat) (x : Int32) : sm0 (sI J 165 (5 + i) x) J := ⟨fun a h => sI_ne (by omega), fun _ _ => rfl, fun _ _ => rfl, fun _ _ => rfl, fun k h => sI_rd (by omega), fun _ _ => rfl, rfl⟩
theorem sm0_wears (J : Nat → Nat → Int32) (np : Nat) (s m : Int32) : sm0 (yWears J 1 np s m) J := by
  unfold yWears
  split
  · exact sm0.rf J
  · split
    · exact sm0_use _ _ _
    · exact (sm0_goes _ _ _ _).tr (sm0_use _ _ _)
theorem sm0_ft (c : Nat) (J : Nat → Nat → Int32) (np p : Nat) : sm0 (yFt c J 1 np p) J := by
  unfold yFt
  split
  · exact sm0.rf J
  · exact sm0_wears _ _ _ _
theorem sm0_wk (J : Nat → Nat → Int32) (np : Nat) : ∀ n, sm0 (yWk J 1 np n) J
  | 0 => sm0.rf J
  | n + 1 => (sm0_ft _ _ _ _).tr ((sm0_ft _ _ _ _).tr (sm0_wk J np n))
theorem sm0_hand (J : Nat → Nat → Int32) (np : Nat) (v to : Int32) : ∀ n, sm0 (yHand J 1 np v to n) J
  | 0 => sm0.rf J
  | n + 1 => by
    unfold yHand
    split
    · exact (sm0_goes _ _ _ _).tr (sm0_hand J np v to n)
    · exact sm0_hand J np v to n
theorem sm0_paid (J : Nat → Nat → Int32) (np ns q : Nat) (p to : Int32) : sm0 (yPaid J 1 np ns p to q) J := by
  unfold yPaid
  split
  · exact sm0.rf J
  · exact sm0_hand _ _ _ _ _
theorem sm0_db (J : Nat → Nat → Int32) (np ns d : Nat) : sm0 (yDb J 1 np ns d) J := by
  unfold yDb
  split
  · exact (sm0_166 _ _ _).tr (sm0_paid _ _ _ _ _ _)
  · exact sm0.rf J
theorem sm0_dbs (J : Nat → Nat → Int32) (np ns : Nat) : ∀ n, sm0 (yDbs J 1 np ns n) J
  | 0 => sm0.rf J
  | n + 1 => (sm0_db _ _ _ _).tr (sm0_dbs J np ns n)
theorem sm0_day (J : Nat → Nat → Int32) (np ns nd : Nat) : sm0 (yDay J 1 np ns nd) J := by
  have h1 : sm0 (yWlk J 1 np) J := by
    unfold yWlk
    split
    · exact sm0_wk _ _ _
    · exact sm0.rf J
  have h2 : sm0 (yOwe (yWlk J 1 np) 1 np ns nd) (yWlk J 1 np) := by
    unfold yOwe
    split
    · exact sm0_dbs _ _ _ _
    · exact sm0.rf _
  exact (sm0_167 _ _).tr (h2.tr h1)
theorem sm0_days (J : Nat → Nat → Int32) (np ns nd : Nat) : ∀ n, sm0 (yDays J 1 np ns nd n) J
  | 0 => sm0.rf J
  | n + 1 => (sm0_day _ _ _ _).tr (sm0_days J np ns nd n)
theorem sm0_md (J : Nat → Nat → Int32) (np : Nat) : ∀ n, sm0 (yMd J np n) J
  | 0 => sm0.rf J
  | n + 1 => (sm0_wears _ _ _ _).tr ((sm0_wears _ _ _ _).tr (sm0_md J np n))
theorem sm0_lk (J : Nat → Nat → Int32) (np ns : Nat) (x : Int32) : sm0 (yLkM J np ns x) J := by
  unfold yLkM
  by_cases h0 : iRem (xNext x / 65536) 3 = 0
  · rw [if_pos h0]; exact sm0_md _ _ _
  · rw [if_neg h0]
    by_cases h1 : iRem (xNext x / 65536) 3 = 1 ∧ 0 < ns
    · rw [if_pos h1]
      by_cases h2 : J 163 (16 + ixn (iRem (xNext (xNext x) / 65536) (nI ns))) = -2
      · rw [if_pos h2]; exact sm0.rf J
      · rw [if_neg h2]; exact sm0_goes _ _ _ _
    · rw [if_neg h1]; exact sm0.rf J
theorem mI_sm0 {K J : Nat → Nat → Int32} {np ns : Nat} (h : sm0 K J) (hnp : np ≤ 5) (hns : ns ≤ 16) (hi : mI J 0 np ns) : mI K 0 np ns := by
  have hft : ∀ p x, ftOK J 0 ns p x → ftOK K 0 ns p x := fun p x hf => by
    rcases hf with hf | ⟨j, hj, hx, ho, hu⟩
    · exact Or.inl hf
    · exact Or.inr ⟨j, hj, hx, by rw [h.2.2.1 _ (by omega)]; exact ho, by rw [h.2.1 _ (by omega)]; exact hu⟩
  refine ⟨fun s hs => ?_, fun p hp => ?_⟩
  · rw [h.2.2.1 _ (by omega), h.2.1 _ (by omega)]; exact hi.1 s hs
  · rw [h.2.2.2.1 _ (by omega), h.2.2.2.2.1 _ (by omega)]; exact ⟨hft p _ (hi.2 p hp).1, hft p _ (hi.2 p hp).2⟩
theorem mI_lay {J : Nat → Nat → Int32} {np ns : Nat} (hnp : np ≤ 5) (hns : ns ≤ 16) (hi : mI J 0 np ns) : mI (yLay J) 1 np ns := by
  have l2 : ∀ s, s < 16 → yLay J 162 (16 * 1 + s) = J 162 (16 * 0 + s) := fun s hs => by
    show layK 16 (J 162) 16 (16 * 1 + s) = _
    unfold layK
    rw [if_pos (by omega)]; congr 1; omega
  have l3 : ∀ s, s < 16 → yLay J 163 (16 * 1 + s) = J 163 (16 * 0 + s) := fun s hs => by
    show layK 16 (J 163) 16 (16 * 1 + s) = _
    unfold layK
    rw [if_pos (by omega)]; congr 1; omega
  have l4 : ∀ p, p < 5 → yLay J 164 (5 * 1 + p) = J 164 (5 * 0 + p) := fun s hs => by
    show layK 5 (J 164) 5 (5 * 1 + s) = _
    unfold layK
    rw [if_pos (by omega)]; congr 1; omega
  have l5 : ∀ p, p < 5 → yLay J 165 (5 * 1 + p) = J 165 (5 * 0 + p) := fun s hs => by
    show layK 5 (J 165) 5 (5 * 1 + s) = _
    unfold layK
    rw [if_pos (by omega)]; congr 1; omega
  have hft : ∀ p x, ftOK J 0 ns p x → ftOK (yLay J) 1 ns p x := fun p x hf => by
    rcases hf with hf | ⟨j, hj, hx, ho, hu⟩
    · exact Or.inl hf
    · exact Or.inr ⟨j, hj, hx, by rw [l3 j (by omega)]; exact ho, by rw [l2 j (by omega)]; exact hu⟩
  refine ⟨fun s hs => ?_, fun p hp => ?_⟩
  · rw [l3 s (by omega), l2 s (by omega)]; exact hi.1 s hs
  · rw [l4 p (by omega), l5 p (by omega)]; exact ⟨hft p _ (hi.2 p hp).1, hft p _ (hi.2 p hp).2⟩
/-- a year of k days: numbers, memory -/
def yYrN (ns : Nat) (x : Int32) : Nat → Int32
  | 0 => x
  | k + 1 => yLkN ns (yYrN ns x k)
def yYrM (J : Nat → Nat → Int32) (np ns nd : Nat) (x : Int32) : Nat → Nat → Nat → Int32
  | 0 => J
  | k + 1 => yDay (yLkM (yYrM J np ns nd x k) np ns (yYrN ns x k)) 1 np ns nd
theorem sm0_yr (J : Nat → Nat → Int32) (np ns nd : Nat) (x : Int32) : ∀ n, sm0 (yYrM J np ns nd x n) J
  | 0 => sm0.rf J
  | n + 1 => (sm0_day _ _ _ _).tr ((sm0_lk _ _ _ _).tr (sm0_yr J np ns nd x n))
theorem mI_yr {J : Nat → Nat → Int32} {np ns nd : Nat} {x : Int32} (h : mI J 1 np ns) (hz : zOK J np ns) (hdb : dbM J np nd) (hnp : np ≤ 5) (hns : ns ≤ 16) : ∀ n, mI (yYrM J np ns nd x n) 1 np ns
  | 0 => h
  | n + 1 => by
    have s := ((sm0_lk (yYrM J np ns nd x n) np ns (yYrN ns x n)).tr (sm0_yr J np ns nd x n)).T
    exact mI_day (mI_lk (mI_yr h hz hdb hnp hns n) hnp hns) (s.zOK hz) (s.dbM hdb) hnp hns
def yChN (ns n : Nat) (x : Int32) : Nat → Int32
  | 0 => x
  | y + 1 => yYrN ns (yChN ns n x y) n
def yChM (J : Nat → Nat → Int32) (np ns nd n : Nat) (x : Int32) : Nat → Nat → Nat → Int32
  | 0 => J
  | y + 1 => yYrM (yLay (yChM J np ns nd n x y)) np ns nd (yChN ns n x y) n
def yChC (J : Nat → Nat → Int32) (np ns nd n : Nat) (x p bd : Int32) : Nat → Int32
  | 0 => 0
  | y + 1 => yChC J np ns nd n x p bd y + (if yOf (yChM J np ns nd n x (y + 1)) 1 p 0 ns < bd then 0 else 1)
theorem sm0_ch (J : Nat → Nat → Int32) (np ns nd n : Nat) (x : Int32) : ∀ y, sm0 (yChM J np ns nd n x y) J
  | 0 => sm0.rf J
  | y + 1 => (sm0_yr _ _ _ _ _ _).tr ((sm0_lay _).tr (sm0_ch J np ns nd n x y))
theorem rep.lay {I J : Nat → Nat → Int32} (h : rep I J) : rep (yLay I) (yLay J) := by
  unfold yLay
  rw [h.a162, h.a163, h.a164, h.a165, h.a166, h.a167]
  exact (((((h.au _ _).au _ _).au _ _).au _ _).au _ _).set _ _ _
theorem yOf_rep {I J : Nat → Nat → Int32} (h : rep I J) (b : Nat) (q wh : Int32) : ∀ n, yOf I b q wh n = yOf J b q wh n
  | 0 => rfl
  | n + 1 => by
    unfold yOf yOne
    rw [yOf_rep h b q wh n, yWorth_rep h, h.a163]
theorem yAll_rep {I J : Nat → Nat → Int32} (h : rep I J) (b : Nat) : ∀ n, yAll I b n = yAll J b n
  | 0 => rfl
  | n + 1 => by
    unfold yAll
    rw [yAll_rep h b n, yWorth_rep h]
def rChM (J : Nat → Nat → Int32) (v : Int32) (P : Nat → Nat → Option Nat) : Option Value → pM → Prop := fun r M => r = some (.int v) ∧ ∃ I' L', M = (I', L', P) ∧ rep I' J

set_option maxHeartbeats 4000000 in
theorem ct_Mo_chance {sh : List pSh} {I : Nat → Nat → Int32} {L : Nat → Nat → Int64} {P : Nat → Nat → Option Nat} (hA : kA sh P) {np ns nd : Nat} (hm : mOK I np ns nd) (hwf : wfL I) (hz : zOK I np ns) (hdb : dbM I np nd) (hi : mI I 0 np ns) (sd n p bd : Int32) : pCn m_Mo_chance 9 [.ref 134, .int sd, .int n, .int p, .int bd] sh (I, L, P) (rIf (0 ≤ sd ∧ (1 ≤ n ∧ n ≤ 30) ∧ yHasP I p ∧ (0 ≤ bd ∧ bd ≤ 9999) ∧ I 167 0 + n ≤ 999) (rChM (yChM I np ns nd (ixn n) sd 10) (yChC I np ns nd (ixn n) sd p bd 10) P) (rA (-1) I P)) := by
  refine pCn_of (by decide +kernel) (Nat.le_of_ble_eq_true rfl) ?_
  have h5 := hm.2.1
  have h16 := hm.2.2.2.1
  have hDy : ∀ n, (0 ≤ sd ∧ (1 ≤ nI n ∧ nI n ≤ 30) ∧ yHasP I p ∧ (0 ≤ bd ∧ bd ≤ 9999) ∧ I 167 0 + nI n ≤ 999) → n ≤ 30 → ∀ (y : Nat) (C : Nat → Nat → Int32) (x cnt : Int32), sm0 C I → mI C 1 np ns → (∀ (J : Nat → Nat → Int32) (L0 : Nat → Nat → Int64), rep J (yYrM C np ns nd x n) → L0 134 61 = (yYrN ns x n).toInt64 → pWn m_Mo_chance 9 sh (rIf (0 ≤ sd ∧ (1 ≤ nI n ∧ nI n ≤ 30) ∧ yHasP I p ∧ (0 ≤ bd ∧ bd ≤ 9999) ∧ I 167 0 + nI n ≤ 999) (rChM (yChM I np ns nd (ixn (nI n)) sd 10) (yChC I np ns nd (ixn (nI n)) sd p bd 10) P) (rA (-1) I P)) 67 [some (.ref 134), some (.int sd), some (.int (nI n)), some (.int p), some (.int bd), some (.int (cnt + (if yOf (yYrM C np ns nd x n) 1 p 0 ns < bd then 0 else 1))), some (.int (nI (y + 1))), none] [] (J, L0, P)) → ∀ k, k ≤ n → ∀ (J : Nat → Nat → Int32) (L0 : Nat → Nat → Int64), rep J (yYrM C np ns nd x k) → L0 134 61 = (yYrN ns x k).toInt64 → pWn m_Mo_chance 9 sh (rIf (0 ≤ sd ∧ (1 ≤ nI n ∧ nI n ≤ 30) ∧ yHasP I p ∧ (0 ≤ bd ∧ bd ≤ 9999) ∧ I 167 0 + nI n ≤ 999) (rChM (yChM I np ns nd (ixn (nI n)) sd 10) (yChC I np ns nd (ixn (nI n)) sd p bd 10) P) (rA (-1) I P)) 81 [some (.ref 134), some (.int sd), some (.int (nI n)), some (.int p), some (.int bd), some (.int (cnt)), some (.int (nI y)), some (.int (nI k))] [] (J, L0, P) := fun n hc hn3 y C x cnt hC hiC hnx => pUpTo n _ (by
    intro k hk ih J L0 hR hN
    have hS := (sm0_yr C np ns nd x k).tr hC
    have hiK := mI_yr (nd := nd) (x := x) hiC (hC.T.zOK hz) (hC.T.dbM hdb) h5 h16 k
    refine pw_iload (i := 7) rfl (by decide +kernel) ?_
    refine pw_iload_n (k4 := 2) rfl (by decide +kernel) ?_
    refine pn_icmp_ge (off := 18) (tgt := 102) k n rfl rfl (by omega) (by omega) (by decide +kernel) (by decide +kernel) (fun z84 => ?_) (fun z84 => ?_)
    · have hkn : k = n := Nat.le_antisymm hk z84
      have hR := hR
      rw [hkn] at hR hN hiK hS
      refine pw_iload (i := 5) rfl (by decide +kernel) ?_
      refine pw_aload_n (k4 := 0) rfl (by decide +kernel) ?_
      refine pw_iconst (n := 1) (v := 1) (by decide) (by decide +kernel) ?_
      refine pw_iload_n (k4 := 3) rfl (by decide +kernel) ?_
      refine pw_iconst (n := 0) (v := 0) (by decide) (by decide +kernel) ?_
      refine pq_callV (ν := m_Mo_ofOne) (d' := 6) (av := [_, _, _]) (c := 11) (by decide +kernel) lm_Mo_443 ok_Mo_ofOne (show _ = some 3 by decide +kernel) (ks_m hA) rfl (by decide) (by omega) (Nat.le_of_ble_eq_true rfl) (ct_Mo_ofOne hA (mOK_rep hR (hS.T.mOK hm)) (b := 1) (by decide) (wfL_rep hR (hS.T.wfL hwf)) (oOK_rep hR hiK.oOK) _ _) ?_
      rintro _ _ ⟨rfl, ev, L2, rfl, hL2⟩
      rw [yOf_rep hR]
      refine pw_iload (i := 4) rfl (by decide +kernel) ?_
      refine pw_icmp_lt (off := 7) (tgt := 120) (by decide +kernel) (by decide +kernel) (fun z113 => ?_) (fun z113 => ?_)
      · refine pw_iconst (n := 0) (v := 0) (by decide) (by decide +kernel) ?_
        refine pw_iadd (by decide +kernel) ?_
        refine pq_istore (i := 5) (Nat.le_of_ble_eq_true rfl) rfl (by decide +kernel) ?_
        refine pn_iinc (i := 6) (n := 1) 1 y rfl rfl (by decide) rfl (by decide +kernel) ?_
        refine pw_goto (off := -60) (tgt := 67) (by decide +kernel) (by decide +kernel) ?_
        have w := hnx _ L2 (hR.scr (a := 134) (k := 54) (by decide) ev) (by rw [hL2 134 (by decide) (by decide)]; exact hN)
        rw [if_pos z113] at w
        exact pw_forget [7] w
      · refine pw_iconst (n := 1) (v := 1) (by decide) (by decide +kernel) ?_
        refine pw_goto (off := 4) (tgt := 121) (by decide +kernel) (by decide +kernel) ?_
        refine pw_iadd (by decide +kernel) ?_
        refine pq_istore (i := 5) (Nat.le_of_ble_eq_true rfl) rfl (by decide +kernel) ?_
        refine pn_iinc (i := 6) (n := 1) 1 y rfl rfl (by decide) rfl (by decide +kernel) ?_
        refine pw_goto (off := -60) (tgt := 67) (by decide +kernel) (by decide +kernel) ?_
        have w := hnx _ L2 (hR.scr (a := 134) (k := 54) (by decide) ev) (by rw [hL2 134 (by decide) (by decide)]; exact hN)
        rw [if_neg z113] at w
        exact pw_forget [7] w
    · have sK := sm0_lk (yYrM C np ns nd x k) np ns (yYrN ns x k)
      refine pw_aload_n (k4 := 0) rfl (by decide +kernel) ?_
      refine pq_callV (ν := m_Mo_chances) (d' := 3) (av := []) (c := 11) (by decide +kernel) lm_Mo_580 ok_Mo_chances (show _ = some 0 by decide +kernel) (ks_m hA) rfl (by decide) (by omega) (Nat.le_of_ble_eq_true rfl) (ct_Mo_chances hA hR (hS.T.mOK hm) hiK hN) ?_
      rintro _ _ ⟨rfl, I2, L2, rfl, hR2, hN2⟩
      refine pw_aload_n (k4 := 0) rfl (by decide +kernel) ?_
      refine pw_iconst (n := 1) (v := 1) (by decide) (by decide +kernel) ?_
      refine pq_callV (ν := m_Mo_aDay) (d' := 8) (av := [_]) (c := 11) (by decide +kernel) lm_Mo_481 ok_Mo_aDay (show _ = some 1 by decide +kernel) (ks_m hA) rfl (by decide) (by omega) (Nat.le_of_ble_eq_true rfl) (ct_Mo_aDay hA hR2 ((sK.tr hS).T.mOK hm) ((sK.tr hS).T.wfL hwf) ((sK.tr hS).T.zOK hz) ((sK.tr hS).T.dbM hdb) (b := 1) (by decide) (mI_lk hiK h5 h16) (lfm.rf _)) ?_
      rintro _ _ ⟨rfl, I3, L3, rfl, hR3, hL3⟩
      refine pn_iinc (i := 7) (n := 1) 1 k rfl rfl (by decide) rfl (by decide +kernel) ?_
      refine pw_goto (off := -18) (tgt := 81) (by decide +kernel) (by decide +kernel) ?_
      exact ih (by omega) I3 L3 hR3 (by rw [hL3 134 (by decide) (by decide)]; exact hN2)
)
  have hL : ∀ n, (0 ≤ sd ∧ (1 ≤ nI n ∧ nI n ≤ 30) ∧ yHasP I p ∧ (0 ≤ bd ∧ bd ≤ 9999) ∧ I 167 0 + nI n ≤ 999) → n ≤ 30 → ∀ y, y ≤ 10 → ∀ (J : Nat → Nat → Int32) (L0 : Nat → Nat → Int64), rep J (yChM I np ns nd n sd y) → L0 134 61 = (yChN ns n sd y).toInt64 → pWn m_Mo_chance 9 sh (rIf (0 ≤ sd ∧ (1 ≤ nI n ∧ nI n ≤ 30) ∧ yHasP I p ∧ (0 ≤ bd ∧ bd ≤ 9999) ∧ I 167 0 + nI n ≤ 999) (rChM (yChM I np ns nd (ixn (nI n)) sd 10) (yChC I np ns nd (ixn (nI n)) sd p bd 10) P) (rA (-1) I P)) 67 [some (.ref 134), some (.int sd), some (.int (nI n)), some (.int p), some (.int bd), some (.int (yChC I np ns nd n sd p bd y)), some (.int (nI y)), none] [] (J, L0, P) := fun n hc hn3 => pUpTo 10 _ (by
    intro y hy ihY J L0 hR hN
    refine pw_iload (i := 6) rfl (by decide +kernel) ?_
    refine pw_bipush (n := 10) (v := 10) (by decide) (by decide +kernel) ?_
    refine pn_icmp_ge (off := 59) (tgt := 130) y 10 rfl rfl (by omega) (by omega) (by decide +kernel) (by decide +kernel) (fun z71 => ?_) (fun z71 => ?_)
    · obtain rfl : y = 10 := by omega
      refine pw_iload (i := 5) rfl (by decide +kernel) ?_
      exact pq_iret rfl (by decide +kernel) ⟨fun _ => by rw [ixn_nI (by omega)]; exact ⟨rfl, J, L0, rfl, hR⟩, fun h => absurd hc h⟩
    · refine pw_aload_n (k4 := 0) rfl (by decide +kernel) ?_
      refine pq_callV (ν := m_Mo_layTried) (d' := 0) (av := []) (c := 11) (by decide +kernel) lm_Mo_577 ok_Mo_layTried (show _ = some 0 by decide +kernel) (ks_m hA) rfl (by decide) (by omega) (Nat.le_of_ble_eq_true rfl) (ct_Mo_layTried hA) ?_
      rintro _ _ ⟨rfl, rfl⟩
      refine pw_iconst (n := 0) (v := 0) (by decide) (by decide +kernel) ?_
      refine pq_istore (i := 7) (Nat.le_of_ble_eq_true rfl) rfl (by decide +kernel) ?_
      refine hDy n hc hn3 y (yLay (yChM I np ns nd n sd y)) (yChN ns n sd y) _ ((sm0_lay _).tr (sm0_ch I np ns nd n sd y)) (mI_lay h5 h16 (mI_sm0 (sm0_ch I np ns nd n sd y) h5 h16 hi)) (fun J L0 h1 h2 => ?_) 0 (Nat.zero_le _) _ L0 hR.lay hN
      exact ihY (by omega) J L0 h1 h2
)
  refine pw_aload_n (k4 := 0) rfl (by decide +kernel) ?_
  refine pw_iconst (n := 0) (v := 0) (by decide) (by decide +kernel) ?_
  refine pq_putI (c := 11) (k := 2) (ks_m hA) (by decide) (by decide) lf_Mo_175 (Or.inl rfl) (by decide +kernel) ?_
  refine pw_iload_n (k4 := 1) rfl (by decide +kernel) ?_
  refine pw_if_lt (off := 47) (tgt := 53) (by decide +kernel) (by decide +kernel) (fun z6 => ?_) (fun z6 => ?_)
  · refine pw_iconst (n := -1) (v := -1) (by decide) (by decide +kernel) ?_
    exact pq_iret rfl (by decide +kernel) ⟨fun h => absurd h (fun h => Int32.not_lt.mpr h.1 z6), fun _ => ⟨rfl, _, _, rfl, rep_t⟩⟩
  · refine pw_iload_n (k4 := 2) rfl (by decide +kernel) ?_
    refine pw_iconst (n := 1) (v := 1) (by decide) (by decide +kernel) ?_
    refine pw_bipush (n := 30) (v := 30) (by decide) (by decide +kernel) ?_
    refine pq_callS (ν := m_Mo_isIn) (d' := 0) (av := [_, _, _]) (by decide +kernel) lm_Mo_220 ok_Mo_isIn (show _ = some 3 by decide +kernel) (by omega) (Nat.le_of_ble_eq_true rfl) (ct_Mo_isIn _ _ _) ?_
    rintro _ _ ⟨rfl, rfl⟩
    refine pn_ifB_eq (off := 37) (tgt := 53) (by decide +kernel) (by decide +kernel) (fun z16 => ?_) (fun z16 => ?_)
    · refine pw_iconst (n := -1) (v := -1) (by decide) (by decide +kernel) ?_
      exact pq_iret rfl (by decide +kernel) ⟨fun h => absurd h (fun h => z16 h.2.1), fun _ => ⟨rfl, _, _, rfl, rep_t⟩⟩
    · refine pw_aload_n (k4 := 0) rfl (by decide +kernel) ?_
      refine pw_iload_n (k4 := 3) rfl (by decide +kernel) ?_
      refine pq_callV (ν := m_Mo_isPerson) (d' := 0) (av := [_]) (c := 11) (by decide +kernel) lm_Mo_440 ok_Mo_isPerson (show _ = some 1 by decide +kernel) (ks_m hA) rfl (by decide) (by omega) (Nat.le_of_ble_eq_true rfl) (ct_Mo_isPerson hA _) ?_
      rintro _ _ ⟨rfl, rfl⟩
      refine pn_ifB_eq (off := 29) (tgt := 53) (by decide +kernel) (by decide +kernel) (fun z24 => ?_) (fun z24 => ?_)
      · refine pw_iconst (n := -1) (v := -1) (by decide) (by decide +kernel) ?_
        exact pq_iret rfl (by decide +kernel) ⟨fun h => absurd h (fun h => z24 h.2.2.1), fun _ => ⟨rfl, _, _, rfl, rep_t⟩⟩
      · refine pw_iload (i := 4) rfl (by decide +kernel) ?_
        refine pw_iconst (n := 0) (v := 0) (by decide) (by decide +kernel) ?_
        refine pw_sipush (n := 9999) (v := 9999) (by decide) (by decide +kernel) ?_
        refine pq_callS (ν := m_Mo_isIn) (d' := 0) (av := [_, _, _]) (by decide +kernel) lm_Mo_220 ok_Mo_isIn (show _ = some 3 by decide +kernel) (by omega) (Nat.le_of_ble_eq_true rfl) (ct_Mo_isIn _ _ _) ?_
        rintro _ _ ⟨rfl, rfl⟩
        refine pn_ifB_eq (off := 17) (tgt := 53) (by decide +kernel) (by decide +kernel) (fun z36 => ?_) (fun z36 => ?_)
        · refine pw_iconst (n := -1) (v := -1) (by decide) (by decide +kernel) ?_
          exact pq_iret rfl (by decide +kernel) ⟨fun h => absurd h (fun h => z36 h.2.2.2.1), fun _ => ⟨rfl, _, _, rfl, rep_t⟩⟩
        · refine pw_aload_n (k4 := 0) rfl (by decide +kernel) ?_
          refine pq_getP (c := 11) (k := 60) (ks_m hA) (by decide) (by decide) (kp_m_day hA) lf_Mo_112 (by decide +kernel) ?_
          refine pw_iconst (n := 0) (v := 0) (by decide) (by decide +kernel) ?_
          refine pq_iald 0 rfl (by omega) (by decide) (ks_m_day hA) (by decide +kernel) ?_
          refine pw_iload_n (k4 := 2) rfl (by decide +kernel) ?_
          refine pw_iadd (by decide +kernel) ?_
          refine pw_sipush (n := 999) (v := 999) (by decide) (by decide +kernel) ?_
          refine pw_icmp_le (off := 5) (tgt := 55) (by decide +kernel) (by decide +kernel) (fun z50 => ?_) (fun z50 => ?_)
          · obtain ⟨n, hn0, rfl⟩ := nI_of (show ¬ n < 0 from fun w => Int32.not_lt.mpr z16.1 (Int32.lt_trans w (by decide)))
            have hc : 0 ≤ sd ∧ (1 ≤ nI n ∧ nI n ≤ 30) ∧ yHasP I p ∧ (0 ≤ bd ∧ bd ≤ 9999) ∧ I 167 0 + nI n ≤ 999 := ⟨Int32.not_lt.mp z6, z16, z24, z36, z50⟩
            have hn3 : n ≤ 30 := (nI_leI hn0 (by decide)).mp z16.2
            refine pw_aload_n (k4 := 0) rfl (by decide +kernel) ?_
            refine pw_iload_n (k4 := 1) rfl (by decide +kernel) ?_
            refine pw_i2l (by decide +kernel) ?_
            refine pq_putL (c := 11) (k := 61) (ks_m hA) (by decide) (by decide) lf_Mo_562 (Or.inl rfl) (by decide +kernel) ?_
            refine pw_iconst (n := 0) (v := 0) (by decide) (by decide +kernel) ?_
            refine pq_istore (i := 5) (Nat.le_of_ble_eq_true rfl) rfl (by decide +kernel) ?_
            refine pw_iconst (n := 0) (v := 0) (by decide) (by decide +kernel) ?_
            refine pq_istore (i := 6) (Nat.le_of_ble_eq_true rfl) rfl (by decide +kernel) ?_
            exact hL n hc hn3 0 (Nat.zero_le _) _ _ rep_t sL_rs
          · refine pw_iconst (n := -1) (v := -1) (by decide) (by decide +kernel) ?_
            exact pq_iret rfl (by decide +kernel) ⟨fun h => absurd h (fun h => z50 h.2.2.2.2), fun _ => ⟨rfl, _, _, rfl, rep_t⟩⟩
