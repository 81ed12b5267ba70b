/-! ===== the reference: a day ===== -/
/-- one foot walks a day (c: 164 left, 165 right) -/
def yFt (c : Nat) (I : Nat → Nat → Int32) (b np p : Nat) : Nat → Nat → Int32 := if I c (5 * b + p) < 0 then I else yWears I b np (I c (5 * b + p)) (yWearB I (ixn (I c (5 * b + p))) (I 162 (16 * b + ixn (I c (5 * b + p)))) p (I 167 b))
def yWk (I : Nat → Nat → Int32) (b np : Nat) : Nat → Nat → Nat → Int32
  | 0 => I
  | p + 1 => yFt 165 (yFt 164 (yWk I b np p) b np p) b np p
def yDb (I : Nat → Nat → Int32) (b np ns d : Nat) : Nat → Nat → Int32 := if I 150 d = I 167 b then sI (yPaid I b np ns (I 147 d) (I 148 d) (ixn (I 149 d))) 166 (8 * b + d) (if selB (yWt I b ns (I 147 d)) (ixn (I 149 d)) < 0 then 2 else 1) else I
def yDbs (I : Nat → Nat → Int32) (b np ns : Nat) : Nat → Nat → Nat → Int32
  | 0 => I
  | d + 1 => yDb (yDbs I b np ns d) b np ns d
def yWlk (I : Nat → Nat → Int32) (b np : Nat) : Nat → Nat → Int32 := if I 134 62 = 0 then yWk I b np np else I
def yOwe (I : Nat → Nat → Int32) (b np ns nd : Nat) : Nat → Nat → Int32 := if I 134 63 = 0 then yDbs I b np ns nd else I
def yNext (I : Nat → Nat → Int32) (b : Nat) : Nat → Nat → Int32 := sI I 167 b (I 167 b + 1)
/-- a day of the reference -/
def yDay (I : Nat → Nat → Int32) (b np ns nd : Nat) : Nat → Nat → Int32 := yNext (yOwe (yWlk I b np) b np ns nd) b
theorem yGoes_fr {I : Nat → Nat → Int32} {b j np : Nat} {to : Int32} {a : Nat} (h3 : a ≠ 163) (h4 : a ≠ 164) (h5 : a ≠ 165) : yGoes I b j np to a = I a := by
  unfold yGoes yTake
  rw [sI_ne h3, aU_ne h5, aU_ne h4]
theorem yWears_fr {I : Nat → Nat → Int32} {b np : Nat} {s m : Int32} {a : Nat} (h : a < 162 ∨ 165 < a) : yWears I b np s m a = I a := by
  unfold yWears
  split
  · rfl
  · split
    · exact sI_ne (by omega)
    · rw [yGoes_fr (by omega) (by omega) (by omega), sI_ne (by omega)]
theorem yFt_fr {c : Nat} {I : Nat → Nat → Int32} {b np p a : Nat} (h : a < 162 ∨ 165 < a) : yFt c I b np p a = I a := by
  unfold yFt
  split
  · rfl
  · exact yWears_fr h
theorem yWk_fr {I : Nat → Nat → Int32} {b np a : Nat} (h : a < 162 ∨ 165 < a) : ∀ n, yWk I b np n a = I a
  | 0 => rfl
  | n + 1 => by
    unfold yWk
    rw [yFt_fr h, yFt_fr h]
    exact yWk_fr h n
theorem yPaid_fr {I : Nat → Nat → Int32} {b np ns q a : Nat} {p to : Int32} (h : a < 163 ∨ 165 < a) : yPaid I b np ns p to q a = I a := by
  unfold yPaid
  split
  · rfl
  · exact yHand_fr (by omega) (by omega) (by omega) ns
theorem yDb_fr {I : Nat → Nat → Int32} {b np ns d a : Nat} (h : a < 163 ∨ 166 < a) : yDb I b np ns d a = I a := by
  unfold yDb
  split
  · rw [sI_ne (by omega)]; exact yPaid_fr (by omega)
  · rfl
theorem yDbs_fr {I : Nat → Nat → Int32} {b np ns a : Nat} (h : a < 163 ∨ 166 < a) : ∀ n, yDbs I b np ns n a = I a
  | 0 => rfl
  | n + 1 => by
    unfold yDbs
    rw [yDb_fr h]
    exact yDbs_fr h n
theorem yWlk_fr {I : Nat → Nat → Int32} {b np a : Nat} (h : a < 162 ∨ 165 < a) : yWlk I b np a = I a := by
  unfold yWlk
  split
  · exact yWk_fr h np
  · rfl
theorem yOwe_fr {I : Nat → Nat → Int32} {b np ns nd a : Nat} (h : a < 163 ∨ 166 < a) : yOwe I b np ns nd a = I a := by
  unfold yOwe
  split
  · exact yDbs_fr h nd
  · rfl
/-- debts as told -/
def dbM (I : Nat → Nat → Int32) (np nd : Nat) : Prop := ∀ d, d < nd → (∃ p, p < np ∧ I 147 d = nI p) ∧ (∃ p, p < np ∧ I 148 d = nI p) ∧ ∃ q, q ≤ 999 ∧ 1 ≤ q ∧ I 149 d = nI q
/-- the text's rows are the same -/
def sameT (K J : Nat → Nat → Int32) : Prop := ∀ a, a < 162 → K a = J a
theorem sameT.mOK {K J : Nat → Nat → Int32} (h : sameT K J) {np ns nd : Nat} (hm : mOK J np ns nd) : mOK K np ns nd := by
  unfold Jvm.Pilot.CLeftShoesLaw_law_r4723_b880a2.mOK
  rw [h 134 (by decide)]
  exact hm
theorem sameT.wfL {K J : Nat → Nat → Int32} (h : sameT K J) (hw : wfL J) : wfL K := by
  unfold Jvm.Pilot.CLeftShoesLaw_law_r4723_b880a2.wfL
  rw [h 152 (by decide), h 153 (by decide), h 154 (by decide), h 155 (by decide), h 156 (by decide), h 157 (by decide)]
  exact hw
theorem sameT.zOK {K J : Nat → Nat → Int32} (h : sameT K J) {np ns : Nat} (hz : zOK J np ns) : zOK K np ns := by
  unfold Jvm.Pilot.CLeftShoesLaw_law_r4723_b880a2.zOK
  rw [h 143 (by decide), h 139 (by decide)]
  exact hz
theorem sameT.dbM {K J : Nat → Nat → Int32} (h : sameT K J) {np nd : Nat} (hz : dbM J np nd) : dbM K np nd := by
  unfold Jvm.Pilot.CLeftShoesLaw_law_r4723_b880a2.dbM
  rw [h 147 (by decide), h 148 (by decide), h 149 (by decide)]
  exact hz
theorem mI_ft {c : Nat} {I : Nat → Nat → Int32} {b np ns p : Nat} (hc : c = 164 ∨ c = 165) (h : mI I b np ns) (hz : zOK I np ns) (hnp : np ≤ 5) (hns : ns ≤ 16) (hp : p < np) : mI (yFt c I b np p) b np ns := by
  unfold yFt
  split
  · exact h
  · rename_i hx
    have hf : ftOK I b ns p (I c (5 * b + p)) := by rcases hc with rfl | rfl; exact (h.2 p hp).1; exact (h.2 p hp).2
    rcases hf with hf | ⟨j, hj, hje, _, hu⟩
    · rw [hf] at hx; exact absurd (by decide) hx
    · rw [hje, ixn_nI (by omega)]
      obtain ⟨v, hv, hve⟩ := yWearB_in hz hp j (I 162 (16 * b + j)) (I 167 b)
      rw [hve]
      exact mI_wears h hnp hns hj hu hv
theorem mI_wk {I : Nat → Nat → Int32} {b np ns : Nat} (h : mI I b np ns) (hz : zOK I np ns) (hnp : np ≤ 5) (hns : ns ≤ 16) : ∀ n, n ≤ np → mI (yWk I b np n) b np ns
  | 0, _ => h
  | n + 1, hn => by
    unfold yWk
    have h1 := mI_wk h hz hnp hns n (by omega)
    have s1 : sameT (yWk I b np n) I := fun a ha => yWk_fr (Or.inl ha) n
    have h2 := mI_ft (p := n) (Or.inl rfl) h1 (s1.zOK hz) hnp hns (by omega)
    have s2 : sameT (yFt 164 (yWk I b np n) b np n) I := fun a ha => (yFt_fr (Or.inl ha)).trans (s1 a ha)
    exact mI_ft (Or.inr rfl) h2 (s2.zOK hz) hnp hns (by omega)
theorem mI_paid {I : Nat → Nat → Int32} {b np ns q : Nat} {p to : Int32} (h : mI I b np ns) (hns : ns ≤ 16) (hto : to = -2 ∨ to = -1 ∨ ∃ p, p < np ∧ to = nI p) : mI (yPaid I b np ns p to q) b np ns := by
  unfold yPaid
  split
  · exact h
  · exact mI_hand h hns hto ns (Nat.le_refl _)
theorem mI_166 {I : Nat → Nat → Int32} {b np ns k : Nat} {x : Int32} (h : mI I b np ns) : mI (sI I 166 k x) b np ns := h
theorem mI_167 {I : Nat → Nat → Int32} {b np ns k : Nat} {x : Int32} (h : mI I b np ns) : mI (sI I 167 k x) b np ns := h
theorem mI_db {I : Nat → Nat → Int32} {b np ns nd d : Nat} (h : mI I b np ns) (hdb : dbM I np nd) (hns : ns ≤ 16) (hd : d < nd) : mI (yDb I b np ns d) b np ns := by
  unfold yDb
  split
  · exact mI_166 (mI_paid h hns (Or.inr (Or.inr (hdb d hd).2.1)))
  · exact h
theorem mI_dbs {I : Nat → Nat → Int32} {b np ns nd : Nat} (h : mI I b np ns) (hdb : dbM I np nd) (hns : ns ≤ 16) : ∀ n, n ≤ nd → mI (yDbs I b np ns n) b np ns
  | 0, _ => h
  | n + 1, hn => by
    unfold yDbs
    have s1 : sameT (yDbs I b np ns n) I := fun a ha => yDbs_fr (Or.inl (by omega)) n
    exact mI_db (mI_dbs h hdb hns n (by omega)) (s1.dbM hdb) hns (by omega)
theorem mI_day {I : Nat → Nat → Int32} {b np ns nd : Nat} (h : mI I b np ns) (hz : zOK I np ns) (hdb : dbM I np nd) (hnp : np ≤ 5) (hns : ns ≤ 16) : mI (yDay I b np ns nd) b np ns := by
  unfold yDay yNext
  refine mI_167 ?_
  have h1 : mI (yWlk I b np) b np ns := by
    unfold yWlk
    split
    · exact mI_wk h hz hnp hns np (Nat.le_refl _)
    · exact h
  unfold yOwe
  split
  · exact mI_dbs h1 (sameT.dbM (fun a ha => yWlk_fr (Or.inl ha)) hdb) hns nd (Nat.le_refl _)
  · exact h1
theorem yDay_fr {I : Nat → Nat → Int32} {b np ns nd a : Nat} (h : a < 162 ∨ 167 < a) : yDay I b np ns nd a = I a := by
  unfold yDay yNext
  rw [sI_ne (by omega), yOwe_fr (by omega), yWlk_fr (by omega)]
def rD (J : Nat → Nat → Int32) (Lz : Nat → Nat → Int64) (P : Nat → Nat → Option Nat) : Option Value → pM → Prop := fun r M => r = none ∧ ∃ I' L', M = (I', L', P) ∧ rep I' J ∧ lfm L' Lz

set_option maxHeartbeats 4000000 in
theorem ct_Mo_aDay {sh : List pSh} {I : Nat → Nat → Int32} {L : Nat → Nat → Int64} {P : Nat → Nat → Option Nat} (hA : kA sh P) {J : Nat → Nat → Int32} (hJ : rep I J) {np ns nd : Nat} (hm : mOK J np ns nd) (hwf : wfL J) (hz : zOK J np ns) (hdb : dbM J np nd) {b : Nat} (hb : b < 2) (hi : mI J b np ns) {Lz : Nat → Nat → Int64} (hLz : lfm L Lz) : pCn m_Mo_aDay 8 [.ref 134, .int (nI b)] sh (I, L, P) (rD (yDay J b np ns nd) Lz P) := by
  refine pCn_of (by decide +kernel) (Nat.le_of_ble_eq_true rfl) ?_
  have h5 := hm.2.1
  have h16 := hm.2.2.2.1
  have h8 := hm.2.2.2.2.2
  have h116 : ∀ (K I : Nat → Nat → Int32) (L : Nat → Nat → Int64), lfm L Lz → rep I K → sameT K J → K 167 = J 167 → mI K b np ns → K = yWlk J b np → pWn m_Mo_aDay 8 sh (rD (yDay J b np ns nd) Lz P) 116 [some (.ref 134), some (.int (nI b)), none, none, none] [] (I, L, P) := by
    intro K0 I L hLz hR hT0 hE0 hi0 hKw
    have hDay : yDay J b np ns nd = yNext (yOwe K0 b np ns nd) b := by rw [hKw]; rfl
    have h196 : ∀ (K I : Nat → Nat → Int32) (L : Nat → Nat → Int64), lfm L Lz → rep I K → K 167 = J 167 → K = yOwe K0 b np ns nd → pWn m_Mo_aDay 8 sh (rD (yDay J b np ns nd) Lz P) 196 [some (.ref 134), some (.int (nI b)), none, none, none] [] (I, L, P) := by
      intro K I L hLz hR hE hK2
      refine pw_aload_n (k4 := 0) rfl (by decide +kernel) ?_
      refine pq_getP (c := 11) (k := 60) (ks_m hA) (by decide) (by decide) (kp_m_day hA) lf_Mo_112 (by decide +kernel) ?_
      refine pw_iload_n (k4 := 1) rfl (by decide +kernel) ?_
      refine pw_dup2 rfl rfl (by decide +kernel) ?_
      refine pq_iald b rfl (by omega) (by decide) (ks_m_day hA) (by decide +kernel) ?_
      refine pw_iconst (n := 1) (v := 1) (by decide) (by decide +kernel) ?_
      refine pw_iadd (by decide +kernel) ?_
      refine pq_iast b rfl (by omega) (by decide) (ks_m_day hA) (by decide +kernel) ?_
      exact pq_vret rfl (by decide +kernel) ⟨rfl, _, _, rfl, by rw [hDay, ← hK2]; unfold yNext; rw [← hR.a167]; exact hR.set _ _ _, hLz⟩
    have hDl : J 134 63 = 0 → ∀ d, d ≤ nd → ∀ (K I : Nat → Nat → Int32) (L : Nat → Nat → Int64), lfm L Lz → rep I K → sameT K J → K 167 = J 167 → mI K b np ns →  K = yDbs K0 b np ns d → pWn m_Mo_aDay 8 sh (rD (yDay J b np ns nd) Lz P) 118 [some (.ref 134), some (.int (nI b)), some (.int (nI d)), none, none] [] (I, L, P) := fun h63 => pUpTo nd _ (by
      intro d hd ih K I L hLz hR hT hE hi hKe
      refine pw_iload_n (k4 := 2) rfl (by decide +kernel) ?_
      refine pw_aload_n (k4 := 0) rfl (by decide +kernel) ?_
      refine pq_getI (c := 11) (k := 14) (ks_m hA) (by decide) (by decide) lf_Mo_265 (by decide +kernel) ?_
      refine pn_val (nI (nd)) (mOK_rep hR (hT.mOK hm)).2.2.2.2.1 ?_
      refine pn_icmp_ge (off := 73) (tgt := 196) d nd rfl rfl (by omega) (by omega) (by decide +kernel) (by decide +kernel) (fun z123 => ?_) (fun z123 => ?_)
      · obtain rfl : d = nd := by omega
        refine pw_forget [2] (h196 K I L hLz hR hE ?_)
        rw [hKe]; unfold yOwe; rw [if_pos (by rw [hT0 134 (by decide)]; exact h63)]
      · obtain ⟨_, _, q, hq9, hq1, hqe⟩ := hdb d (by omega)
        refine pw_aload_n (k4 := 0) rfl (by decide +kernel) ?_
        refine pq_getI (c := 11) (k := 63) (ks_m hA) (by decide) (by decide) lf_Mo_384 (by decide +kernel) ?_
        refine pw_if_ne (off := 66) (tgt := 196) (by decide +kernel) (by decide +kernel) (fun z130 => ?_) (fun z130 => ?_)
        · exact absurd (by rw [hR.f63, hT 134 (by decide)]; exact h63) z130
        · refine pw_aload_n (k4 := 0) rfl (by decide +kernel) ?_
          refine pq_getP (c := 11) (k := 36) (ks_m hA) (by decide) (by decide) (kp_m_debtDay hA) lf_Mo_59 (by decide +kernel) ?_
          refine pw_iload_n (k4 := 2) rfl (by decide +kernel) ?_
          refine pq_iald d rfl (by omega) (by decide) (ks_m_debtDay hA) (by decide +kernel) ?_
          refine pw_aload_n (k4 := 0) rfl (by decide +kernel) ?_
          refine pq_getP (c := 11) (k := 60) (ks_m hA) (by decide) (by decide) (kp_m_day hA) lf_Mo_112 (by decide +kernel) ?_
          refine pw_iload_n (k4 := 1) rfl (by decide +kernel) ?_
          refine pq_iald b rfl (by omega) (by decide) (ks_m_day hA) (by decide +kernel) ?_
          refine pw_icmp_ne (off := 45) (tgt := 190) (by decide +kernel) (by decide +kernel) (fun z145 => ?_) (fun z145 => ?_)
          · rw [hR.a150, hR.a167] at z145
            refine pn_iinc (i := 2) (n := 1) 1 d rfl rfl (by decide) rfl (by decide +kernel) ?_
            refine pw_goto (off := -75) (tgt := 118) (by decide +kernel) (by decide +kernel) ?_
            refine ih (by omega) (yDb K b np ns d) I L hLz ?_ (fun a ha => (yDb_fr (Or.inl (by omega))).trans (hT a ha)) ((yDb_fr (Or.inr (by decide))).trans hE) (mI_db hi (hT.dbM hdb) h16 (by omega)) (by rw [hKe]; rfl)
            unfold yDb; rw [if_neg z145]
            exact hR
          · rw [hR.a150, hR.a167] at z145
            refine pw_aload_n (k4 := 0) rfl (by decide +kernel) ?_
            refine pq_getP (c := 11) (k := 59) (ks_m hA) (by decide) (by decide) (kp_m_became hA) lf_Mo_109 (by decide +kernel) ?_
            refine pw_bipush (n := 8) (v := 8) (by decide) (by decide +kernel) ?_
            refine pw_iload_n (k4 := 1) rfl (by decide +kernel) ?_
            refine pn_imul 8 b rfl rfl (by decide +kernel) ?_
            refine pw_iload_n (k4 := 2) rfl (by decide +kernel) ?_
            refine pn_iadd (8 * b) d rfl rfl (by decide +kernel) ?_
            refine pw_aload_n (k4 := 0) rfl (by decide +kernel) ?_
            refine pw_iload_n (k4 := 1) rfl (by decide +kernel) ?_
            refine pw_aload_n (k4 := 0) rfl (by decide +kernel) ?_
            refine pq_getP (c := 11) (k := 33) (ks_m hA) (by decide) (by decide) (kp_m_debtBy hA) lf_Mo_50 (by decide +kernel) ?_
            refine pw_iload_n (k4 := 2) rfl (by decide +kernel) ?_
            refine pq_iald d rfl (by omega) (by decide) (ks_m_debtBy hA) (by decide +kernel) ?_
            refine pn_val (J 147 d) (by rw [hR.a147, hT 147 (by decide)]) ?_
            refine pw_aload_n (k4 := 0) rfl (by decide +kernel) ?_
            refine pq_getP (c := 11) (k := 34) (ks_m hA) (by decide) (by decide) (kp_m_debtTo hA) lf_Mo_53 (by decide +kernel) ?_
            refine pw_iload_n (k4 := 2) rfl (by decide +kernel) ?_
            refine pq_iald d rfl (by omega) (by decide) (ks_m_debtTo hA) (by decide +kernel) ?_
            refine pn_val (J 148 d) (by rw [hR.a148, hT 148 (by decide)]) ?_
            refine pw_aload_n (k4 := 0) rfl (by decide +kernel) ?_
            refine pq_getP (c := 11) (k := 35) (ks_m hA) (by decide) (by decide) (kp_m_debtMuch hA) lf_Mo_56 (by decide +kernel) ?_
            refine pw_iload_n (k4 := 2) rfl (by decide +kernel) ?_
            refine pq_iald d rfl (by omega) (by decide) (ks_m_debtMuch hA) (by decide +kernel) ?_
            refine pn_val (nI (q)) (by rw [hR.a149, hT 149 (by decide)]; exact hqe) ?_
            refine pq_callV (ν := m_Mo_pays) (d' := 7) (av := [_, _, _, _]) (c := 11) (by decide +kernel) lm_Mo_472 ok_Mo_pays (show _ = some 4 by decide +kernel) (ks_m hA) rfl (by decide) (by omega) (Nat.le_of_ble_eq_true rfl) (ct_Mo_pays hA hR (hT.mOK hm) (hT.wfL hwf) (hT.zOK hz) hb hi _ _ (q := q) (by omega)) ?_
            rintro _ _ ⟨rfl, I2, L2, rfl, hR2, hL2⟩
            refine pw_if_ge (off := 7) (tgt := 188) (by decide +kernel) (by decide +kernel) (fun z181 => ?_) (fun z181 => ?_)
            · refine pw_iconst (n := 1) (v := 1) (by decide) (by decide +kernel) ?_
              refine pq_iast ((8 * b) + d) rfl (by omega) (by decide) (ks_m_became hA) (by decide +kernel) ?_
              refine pn_iinc (i := 2) (n := 1) 1 d rfl rfl (by decide) rfl (by decide +kernel) ?_
              refine pw_goto (off := -75) (tgt := 118) (by decide +kernel) (by decide +kernel) ?_
              refine ih (by omega) (yDb K b np ns d) _ L2 (hL2.tr hLz) ?_ (fun a ha => (yDb_fr (Or.inl (by omega))).trans (hT a ha)) ((yDb_fr (Or.inr (by decide))).trans hE) (mI_db hi (hT.dbM hdb) h16 (by omega)) (by rw [hKe]; rfl)
              unfold yDb; rw [if_pos z145, show K 147 d = J 147 d from by rw [hT 147 (by decide)], show K 148 d = J 148 d from by rw [hT 148 (by decide)], show K 149 d = nI q from by rw [hT 149 (by decide)]; exact hqe, ixn_nI (by omega), if_neg (Int32.not_lt.mpr z181)]
              exact hR2.set _ _ _
            · refine pw_iconst (n := 2) (v := 2) (by decide) (by decide +kernel) ?_
              refine pw_goto (off := 4) (tgt := 189) (by decide +kernel) (by decide +kernel) ?_
              refine pq_iast ((8 * b) + d) rfl (by omega) (by decide) (ks_m_became hA) (by decide +kernel) ?_
              refine pn_iinc (i := 2) (n := 1) 1 d rfl rfl (by decide) rfl (by decide +kernel) ?_
              refine pw_goto (off := -75) (tgt := 118) (by decide +kernel) (by decide +kernel) ?_
              refine ih (by omega) (yDb K b np ns d) _ L2 (hL2.tr hLz) ?_ (fun a ha => (yDb_fr (Or.inl (by omega))).trans (hT a ha)) ((yDb_fr (Or.inr (by decide))).trans hE) (mI_db hi (hT.dbM hdb) h16 (by omega)) (by rw [hKe]; rfl)
              unfold yDb; rw [if_pos z145, show K 147 d = J 147 d from by rw [hT 147 (by decide)], show K 148 d = J 148 d from by rw [hT 148 (by decide)], show K 149 d = nI q from by rw [hT 149 (by decide)]; exact hqe, ixn_nI (by omega), if_pos (Int32.not_le.mp z181)]
              exact hR2.set _ _ _
)
    have hDn : ¬ J 134 63 = 0 → ∀ (I : Nat → Nat → Int32) (L : Nat → Nat → Int64), lfm L Lz → rep I K0 → pWn m_Mo_aDay 8 sh (rD (yDay J b np ns nd) Lz P) 118 [some (.ref 134), some (.int (nI b)), some (.int (nI 0)), none, none] [] (I, L, P) := by
      intro h63 I L hLz hR
      refine pw_iload_n (k4 := 2) rfl (by decide +kernel) ?_
      refine pw_aload_n (k4 := 0) rfl (by decide +kernel) ?_
      refine pq_getI (c := 11) (k := 14) (ks_m hA) (by decide) (by decide) lf_Mo_265 (by decide +kernel) ?_
      refine pn_val (nI (nd)) (mOK_rep hR (hT0.mOK hm)).2.2.2.2.1 ?_
      refine pn_icmp_ge (off := 73) (tgt := 196) 0 nd rfl rfl (by omega) (by omega) (by decide +kernel) (by decide +kernel) (fun z123 => ?_) (fun z123 => ?_)
      · exact pw_forget [2] (h196 K0 I L hLz hR hE0 (by unfold yOwe; rw [if_neg (by rw [hT0 134 (by decide)]; exact h63)]))
      · refine pw_aload_n (k4 := 0) rfl (by decide +kernel) ?_
        refine pq_getI (c := 11) (k := 63) (ks_m hA) (by decide) (by decide) lf_Mo_384 (by decide +kernel) ?_
        refine pw_if_ne (off := 66) (tgt := 196) (by decide +kernel) (by decide +kernel) (fun z130 => ?_) (fun z130 => ?_)
        · exact pw_forget [2] (h196 K0 I L hLz hR hE0 (by unfold yOwe; rw [if_neg (by rw [hT0 134 (by decide)]; exact h63)]))
        · exact absurd (by have w := z130; rw [hR.f63, hT0 134 (by decide)] at w; exact w) h63
    refine pw_iconst (n := 0) (v := 0) (by decide) (by decide +kernel) ?_
    refine pq_istore_n (k4 := 2) (Nat.le_of_ble_eq_true rfl) rfl (by decide +kernel) ?_
    by_cases h63 : J 134 63 = 0
    · exact hDl h63 0 (Nat.zero_le _) K0 I L hLz hR hT0 hE0 hi0 rfl
    · exact hDn h63 I L hLz hR
  have hLf : ∀ p, p < np → ∀ (K I : Nat → Nat → Int32) (L : Nat → Nat → Int64), lfm L Lz → rep I K → sameT K J → K 167 = J 167 → mI K b np ns →  ftOK K b ns p (K 164 (5 * b + p)) → (∀ (I : Nat → Nat → Int32) (L : Nat → Nat → Int64), lfm L Lz → rep I (yFt 164 K b np p) → pWn m_Mo_aDay 8 sh (rD (yDay J b np ns nd) Lz P) 61 [some (.ref 134), some (.int (nI b)), some (.int (nI p)), none, none] [] (I, L, P)) → pWn m_Mo_aDay 8 sh (rD (yDay J b np ns nd) Lz P) 17 [some (.ref 134), some (.int (nI b)), some (.int (nI p)), none, none] [] (I, L, P) := by
    intro p hp K I L hLz hR hT hE hi hft nx
    refine pw_aload_n (k4 := 0) rfl (by decide +kernel) ?_
    refine pq_getP (c := 11) (k := 57) (ks_m hA) (by decide) (by decide) (kp_m_leftOn hA) lf_Mo_103 (by decide +kernel) ?_
    refine pw_iconst (n := 5) (v := 5) (by decide) (by decide +kernel) ?_
    refine pw_iload_n (k4 := 1) rfl (by decide +kernel) ?_
    refine pn_imul 5 b rfl rfl (by decide +kernel) ?_
    refine pw_iload_n (k4 := 2) rfl (by decide +kernel) ?_
    refine pn_iadd (5 * b) p rfl rfl (by decide +kernel) ?_
    refine pq_iald ((5 * b) + p) rfl (by omega) (by decide) (ks_m_leftOn hA) (by decide +kernel) ?_
    refine pq_istore_n (k4 := 3) (Nat.le_of_ble_eq_true rfl) rfl (by decide +kernel) ?_
    refine pw_iload_n (k4 := 3) rfl (by decide +kernel) ?_
    refine pw_if_lt (off := 32) (tgt := 61) (by decide +kernel) (by decide +kernel) (fun z29 => ?_) (fun z29 => ?_)
    · rw [hR.a164] at z29
      exact pw_forget [3] (nx I L hLz (by rw [show yFt 164 K b np p = K from if_pos z29]; exact hR))
    · rw [hR.a164] at z29
      obtain hft | ⟨j, hj, hje, _, hu⟩ := hft
      · rw [hft] at z29; exact absurd (by decide) z29
      have hjI : I 164 (5 * b + p) = nI j := by rw [hR.a164]; exact hje
      rw [hjI]
      refine pw_aload_n (k4 := 0) rfl (by decide +kernel) ?_
      refine pw_iload_n (k4 := 1) rfl (by decide +kernel) ?_
      refine pw_iload_n (k4 := 3) rfl (by decide +kernel) ?_
      refine pw_aload_n (k4 := 0) rfl (by decide +kernel) ?_
      refine pw_iload_n (k4 := 3) rfl (by decide +kernel) ?_
      refine pw_aload_n (k4 := 0) rfl (by decide +kernel) ?_
      refine pq_getP (c := 11) (k := 55) (ks_m hA) (by decide) (by decide) (kp_m_used hA) lf_Mo_97 (by decide +kernel) ?_
      refine pw_bipush (n := 16) (v := 16) (by decide) (by decide +kernel) ?_
      refine pw_iload_n (k4 := 1) rfl (by decide +kernel) ?_
      refine pn_imul 16 b rfl rfl (by decide +kernel) ?_
      refine pw_iload_n (k4 := 3) rfl (by decide +kernel) ?_
      refine pn_iadd (16 * b) j rfl rfl (by decide +kernel) ?_
      refine pq_iald ((16 * b) + j) rfl (by omega) (by decide) (ks_m_used hA) (by decide +kernel) ?_
      refine pw_iload_n (k4 := 2) rfl (by decide +kernel) ?_
      refine pw_aload_n (k4 := 0) rfl (by decide +kernel) ?_
      refine pq_getP (c := 11) (k := 60) (ks_m hA) (by decide) (by decide) (kp_m_day hA) lf_Mo_112 (by decide +kernel) ?_
      refine pw_iload_n (k4 := 1) rfl (by decide +kernel) ?_
      refine pq_iald b rfl (by omega) (by decide) (ks_m_day hA) (by decide +kernel) ?_
      refine pq_callV (ν := m_Mo_wearBy) (d' := 4) (av := [_, _, _, _]) (c := 11) (by decide +kernel) lm_Mo_475 ok_Mo_wearBy (show _ = some 4 by decide +kernel) (ks_m hA) rfl (by decide) (by omega) (Nat.le_of_ble_eq_true rfl) (ct_Mo_wearBy hA (wfL_rep hR (hT.wfL hwf)) (j := j) (p := p) (by omega) (by omega) _ _) ?_
      rintro _ _ ⟨rfl, ev, L2, rfl, hL2⟩
      refine pq_callV (ν := m_Mo_wears) (d' := 2) (av := [_, _, _]) (c := 11) (by decide +kernel) lm_Mo_478 ok_Mo_wears (show _ = some 3 by decide +kernel) (ks_m hA) rfl (by decide) (by omega) (Nat.le_of_ble_eq_true rfl) (ct_Mo_wears hA (show mOK (sI I 134 54 ev) np ns nd from mOK_rep hR (hT.mOK hm)) hb _ _ (fun _ => ⟨j, by omega, rfl⟩)) ?_
      rintro _ _ ⟨rfl, rfl⟩
      refine pw_forget [3] (nx _ L2 (hL2.tr hLz) ?_)
      rw [show yFt 164 K b np p = _ from if_neg z29, hje, ixn_nI (by omega), ← yWearB_rep hR, ← hR.a162, ← hR.a167]
      exact ((hR.scr (by decide) ev).wears b np _ _)
  have hRt : ∀ p, p < np → ∀ (K I : Nat → Nat → Int32) (L : Nat → Nat → Int64), lfm L Lz → rep I K → sameT K J → K 167 = J 167 → mI K b np ns →  ftOK K b ns p (K 165 (5 * b + p)) → (∀ (I : Nat → Nat → Int32) (L : Nat → Nat → Int64), lfm L Lz → rep I (yFt 165 K b np p) → pWn m_Mo_aDay 8 sh (rD (yDay J b np ns nd) Lz P) 2 [some (.ref 134), some (.int (nI b)), some (.int (nI (p + 1))), none, none] [] (I, L, P)) → pWn m_Mo_aDay 8 sh (rD (yDay J b np ns nd) Lz P) 61 [some (.ref 134), some (.int (nI b)), some (.int (nI p)), none, none] [] (I, L, P) := by
    intro p hp K I L hLz hR hT hE hi hft nx
    refine pw_aload_n (k4 := 0) rfl (by decide +kernel) ?_
    refine pq_getP (c := 11) (k := 58) (ks_m hA) (by decide) (by decide) (kp_m_rightOn hA) lf_Mo_106 (by decide +kernel) ?_
    refine pw_iconst (n := 5) (v := 5) (by decide) (by decide +kernel) ?_
    refine pw_iload_n (k4 := 1) rfl (by decide +kernel) ?_
    refine pn_imul 5 b rfl rfl (by decide +kernel) ?_
    refine pw_iload_n (k4 := 2) rfl (by decide +kernel) ?_
    refine pn_iadd (5 * b) p rfl rfl (by decide +kernel) ?_
    refine pq_iald ((5 * b) + p) rfl (by omega) (by decide) (ks_m_rightOn hA) (by decide +kernel) ?_
    refine pq_istore (i := 4) (Nat.le_of_ble_eq_true rfl) rfl (by decide +kernel) ?_
    refine pw_iload (i := 4) rfl (by decide +kernel) ?_
    refine pw_if_lt (off := 35) (tgt := 110) (by decide +kernel) (by decide +kernel) (fun z75 => ?_) (fun z75 => ?_)
    · rw [hR.a165] at z75
      refine pn_iinc (i := 2) (n := 1) 1 p rfl rfl (by decide) rfl (by decide +kernel) ?_
      refine pw_goto (off := -111) (tgt := 2) (by decide +kernel) (by decide +kernel) ?_
      exact pw_forget [3, 4] (nx I L hLz (by rw [show yFt 165 K b np p = K from if_pos z75]; exact hR))
    · rw [hR.a165] at z75
      obtain hft | ⟨j, hj, hje, _, hu⟩ := hft
      · rw [hft] at z75; exact absurd (by decide) z75
      have hjI : I 165 (5 * b + p) = nI j := by rw [hR.a165]; exact hje
      rw [hjI]
      refine pw_aload_n (k4 := 0) rfl (by decide +kernel) ?_
      refine pw_iload_n (k4 := 1) rfl (by decide +kernel) ?_
      refine pw_iload (i := 4) rfl (by decide +kernel) ?_
      refine pw_aload_n (k4 := 0) rfl (by decide +kernel) ?_
      refine pw_iload (i := 4) rfl (by decide +kernel) ?_
      refine pw_aload_n (k4 := 0) rfl (by decide +kernel) ?_
      refine pq_getP (c := 11) (k := 55) (ks_m hA) (by decide) (by decide) (kp_m_used hA) lf_Mo_97 (by decide +kernel) ?_
      refine pw_bipush (n := 16) (v := 16) (by decide) (by decide +kernel) ?_
      refine pw_iload_n (k4 := 1) rfl (by decide +kernel) ?_
      refine pn_imul 16 b rfl rfl (by decide +kernel) ?_
      refine pw_iload (i := 4) rfl (by decide +kernel) ?_
      refine pn_iadd (16 * b) j rfl rfl (by decide +kernel) ?_
      refine pq_iald ((16 * b) + j) rfl (by omega) (by decide) (ks_m_used hA) (by decide +kernel) ?_
      refine pw_iload_n (k4 := 2) rfl (by decide +kernel) ?_
      refine pw_aload_n (k4 := 0) rfl (by decide +kernel) ?_
      refine pq_getP (c := 11) (k := 60) (ks_m hA) (by decide) (by decide) (kp_m_day hA) lf_Mo_112 (by decide +kernel) ?_
      refine pw_iload_n (k4 := 1) rfl (by decide +kernel) ?_
      refine pq_iald b rfl (by omega) (by decide) (ks_m_day hA) (by decide +kernel) ?_
      refine pq_callV (ν := m_Mo_wearBy) (d' := 4) (av := [_, _, _, _]) (c := 11) (by decide +kernel) lm_Mo_475 ok_Mo_wearBy (show _ = some 4 by decide +kernel) (ks_m hA) rfl (by decide) (by omega) (Nat.le_of_ble_eq_true rfl) (ct_Mo_wearBy hA (wfL_rep hR (hT.wfL hwf)) (j := j) (p := p) (by omega) (by omega) _ _) ?_
      rintro _ _ ⟨rfl, ev, L2, rfl, hL2⟩
      refine pq_callV (ν := m_Mo_wears) (d' := 2) (av := [_, _, _]) (c := 11) (by decide +kernel) lm_Mo_478 ok_Mo_wears (show _ = some 3 by decide +kernel) (ks_m hA) rfl (by decide) (by omega) (Nat.le_of_ble_eq_true rfl) (ct_Mo_wears hA (show mOK (sI I 134 54 ev) np ns nd from mOK_rep hR (hT.mOK hm)) hb _ _ (fun _ => ⟨j, by omega, rfl⟩)) ?_
      rintro _ _ ⟨rfl, rfl⟩
      refine pn_iinc (i := 2) (n := 1) 1 p rfl rfl (by decide) rfl (by decide +kernel) ?_
      refine pw_goto (off := -111) (tgt := 2) (by decide +kernel) (by decide +kernel) ?_
      refine pw_forget [3, 4] (nx _ L2 (hL2.tr hLz) ?_)
      rw [show yFt 165 K b np p = _ from if_neg z75, hje, ixn_nI (by omega), ← yWearB_rep hR, ← hR.a162, ← hR.a167]
      exact ((hR.scr (by decide) ev).wears b np _ _)
  have h2 : J 134 62 = 0 → ∀ p, p ≤ np → ∀ (K I : Nat → Nat → Int32) (L : Nat → Nat → Int64), lfm L Lz → rep I K → sameT K J → K 167 = J 167 → mI K b np ns →  K = yWk J b np p → pWn m_Mo_aDay 8 sh (rD (yDay J b np ns nd) Lz P) 2 [some (.ref 134), some (.int (nI b)), some (.int (nI p)), none, none] [] (I, L, P) := fun h62 => pUpTo np _ (by
    intro p hp ih K I L hLz hR hT hE hi hKe
    refine pw_iload_n (k4 := 2) rfl (by decide +kernel) ?_
    refine pw_aload_n (k4 := 0) rfl (by decide +kernel) ?_
    refine pq_getI (c := 11) (k := 12) (ks_m hA) (by decide) (by decide) lf_Mo_259 (by decide +kernel) ?_
    refine pn_val (nI (np)) (mOK_rep hR (hT.mOK hm)).1 ?_
    refine pn_icmp_ge (off := 109) (tgt := 116) p np rfl rfl (by omega) (by omega) (by decide +kernel) (by decide +kernel) (fun z7 => ?_) (fun z7 => ?_)
    · obtain rfl : p = np := by omega
      refine pw_forget [2] (h116 K I L hLz hR hT hE hi ?_)
      rw [hKe]; unfold yWlk; rw [if_pos h62]
    · refine pw_aload_n (k4 := 0) rfl (by decide +kernel) ?_
      refine pq_getI (c := 11) (k := 62) (ks_m hA) (by decide) (by decide) lf_Mo_381 (by decide +kernel) ?_
      refine pw_if_ne (off := 102) (tgt := 116) (by decide +kernel) (by decide +kernel) (fun z14 => ?_) (fun z14 => ?_)
      · exact absurd (by rw [hR.f62, hT 134 (by decide)]; exact h62) z14
      · refine hLf p (by omega) K I L hLz hR hT hE hi (hi.2 p (by omega)).1 (fun I2 L2 hL2 hR2 => ?_)
        have hT2 : sameT (yFt 164 K b np p) J := fun a ha => (yFt_fr (Or.inl ha)).trans (hT a ha)
        have hE2 : yFt 164 K b np p 167 = J 167 := (yFt_fr (Or.inr (by decide))).trans hE
        have hi2 := mI_ft (p := p) (Or.inl rfl) hi (hT.zOK hz) h5 h16 (by omega)
        refine hRt p (by omega) _ I2 L2 hL2 hR2 hT2 hE2 hi2 (hi2.2 p (by omega)).2 (fun I3 L3 hL3 hR3 => ?_)
        refine ih (by omega) _ I3 L3 hL3 hR3 (fun a ha => (yFt_fr (Or.inl ha)).trans (hT2 a ha)) ((yFt_fr (Or.inr (by decide))).trans hE2) (mI_ft (Or.inr rfl) hi2 (hT2.zOK hz) h5 h16 (by omega)) ?_
        rw [hKe]; rfl
)
  have h2n : ¬ J 134 62 = 0 → pWn m_Mo_aDay 8 sh (rD (yDay J b np ns nd) Lz P) 2 [some (.ref 134), some (.int (nI b)), some (.int (nI 0)), none, none] [] (I, L, P) := by
    intro h62
    refine pw_iload_n (k4 := 2) rfl (by decide +kernel) ?_
    refine pw_aload_n (k4 := 0) rfl (by decide +kernel) ?_
    refine pq_getI (c := 11) (k := 12) (ks_m hA) (by decide) (by decide) lf_Mo_259 (by decide +kernel) ?_
    refine pn_val (nI (np)) (mOK_rep hJ hm).1 ?_
    refine pn_icmp_ge (off := 109) (tgt := 116) 0 np rfl rfl (by omega) (by omega) (by decide +kernel) (by decide +kernel) (fun z7 => ?_) (fun z7 => ?_)
    · exact pw_forget [2] (h116 J I L hLz hJ (fun _ _ => rfl) rfl hi (by unfold yWlk; rw [if_neg h62]))
    · refine pw_aload_n (k4 := 0) rfl (by decide +kernel) ?_
      refine pq_getI (c := 11) (k := 62) (ks_m hA) (by decide) (by decide) lf_Mo_381 (by decide +kernel) ?_
      refine pw_if_ne (off := 102) (tgt := 116) (by decide +kernel) (by decide +kernel) (fun z14 => ?_) (fun z14 => ?_)
      · exact pw_forget [2] (h116 J I L hLz hJ (fun _ _ => rfl) rfl hi (by unfold yWlk; rw [if_neg h62]))
      · exact absurd (by rw [← hJ.f62]; exact z14) h62
  refine pw_iconst (n := 0) (v := 0) (by decide) (by decide +kernel) ?_
  refine pq_istore_n (k4 := 2) (Nat.le_of_ble_eq_true rfl) rfl (by decide +kernel) ?_
  by_cases h62 : J 134 62 = 0
  · exact h2 h62 0 (Nat.zero_le _) J I L hLz hJ (fun _ _ => rfl) rfl hi rfl
  · exact h2n h62
