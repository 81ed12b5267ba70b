/-! ===== the reference: change of a person ===== -/
/-- what shoe s is worth to p -/
def yWt (I : Nat → Nat → Int32) (b ns : Nat) (p : Int32) (s : Nat) : Nat := if s < ns ∧ I 163 (16 * b + s) = p then ixn (yWorth I b s) else 0
/-- halves: sets by two bytes -/
theorem tb_lo {h l i : Nat} (hl : l < 256) (hi : i < 8) : (256 * h + l).testBit i = l.testBit i := by
  rw [show 256 * h + l = 2 ^ 8 * h + l from rfl, Nat.testBit_two_pow_mul_add _ hl, if_pos hi]
theorem tb_hi8 {h l i : Nat} (hl : l < 256) : (256 * h + l).testBit (8 + i) = h.testBit i := by
  rw [show 256 * h + l = 2 ^ 8 * h + l from rfl, Nat.testBit_two_pow_mul_add _ hl, if_neg (by omega), show 8 + i - 8 = i by omega]
theorem sum_halves {wt : Nat → Nat} {h l : Nat} (hl : l < 256) : ∀ n, sumB wt (256 * h + l) (8 + n) = sumB (w8 wt 0) l 8 + sumB (w8 wt 1) h n
  | 0 => by
    show sumB wt (256 * h + l) 8 = _ + 0
    rw [Nat.add_zero, show w8 wt 0 = wt from by funext k; unfold w8; congr 1; omega]
    exact sumB_cg (fun i hi => tb_lo hl hi)
  | n + 1 => by
    show sumB wt (256 * h + l) (8 + n) + (if (256 * h + l).testBit (8 + n) then wt (8 + n) else 0) = _ + (sumB (w8 wt 1) h n + _)
    rw [sum_halves hl n, tb_hi8 hl]
    unfold w8
    rw [show 8 * 1 + n = 8 + n by omega]
    omega
theorem cnt_halves {h l : Nat} (hl : l < 256) : ∀ n, cntB (256 * h + l) (8 + n) = cntB l 8 + cntB h n
  | 0 => cntB_cg (fun i hi => tb_lo hl hi)
  | n + 1 => by
    show cntB (256 * h + l) (8 + n) + (if (256 * h + l).testBit (8 + n) then 1 else 0) = _ + (cntB h n + _)
    rw [cnt_halves hl n, tb_hi8 hl]
    omega
theorem ok_halves {wt : Nat → Nat} {h l : Nat} (hl : l < 256) : okB wt (256 * h + l) 16 ↔ okB (w8 wt 0) l 8 ∧ okB (w8 wt 1) h 8 := by
  constructor
  · intro hk
    refine ⟨fun i hi hs => ?_, fun i hi hs => ?_⟩
    · have := hk i (by omega) (by rw [tb_lo hl hi]; exact hs)
      unfold w8
      rw [show 8 * 0 + i = i by omega]
      exact this
    · have := hk (8 + i) (by omega) (by rw [tb_hi8 hl]; exact hs)
      unfold w8
      rw [show 8 * 1 + i = 8 + i by omega]
      exact this
  · rintro ⟨h0, h1⟩ i hi hs
    rcases Nat.lt_or_ge i 8 with q | q
    · rw [tb_lo hl q] at hs
      have := h0 i q hs
      unfold w8 at this
      rwa [show 8 * 0 + i = i by omega] at this
    · obtain ⟨j, rfl⟩ : ∃ j, i = 8 + j := ⟨i - 8, by omega⟩
      rw [tb_hi8 hl] at hs
      have := h1 j (by omega) hs
      unfold w8 at this
      rwa [show 8 * 1 + j = 8 + j by omega] at this
theorem fea_halves {wt : Nat → Nat} {q h l : Nat} (hh : h < 256) (hl : l < 256) : feaB wt 16 q (256 * h + l) ↔ okB (w8 wt 0) l 8 ∧ okB (w8 wt 1) h 8 ∧ sumB (w8 wt 0) l 8 + sumB (w8 wt 1) h 8 = q := by
  unfold feaB
  rw [ok_halves hl, show (16 : Nat) = 8 + 8 from rfl, sum_halves hl 8]
  constructor
  · rintro ⟨_, h1, h2⟩; exact ⟨h1.1, h1.2, h2⟩
  · rintro ⟨h1, h2, h3⟩; exact ⟨by omega, ⟨h1, h2⟩, h3⟩
/-- the best of the sets below x -/
def bsf (wt : Nat → Nat) (q x : Nat) (best least : Int32) : Prop := (best = -1 ∧ least = 99 ∧ ∀ S, S < x → ¬ feaB wt 16 q S) ∨ ∃ S, S < x ∧ best = nI S ∧ least = nI (cntB S 16) ∧ feaB wt 16 q S ∧ ∀ T, T < x → feaB wt 16 q T → cntB S 16 < cntB T 16 ∨ (cntB S 16 = cntB T 16 ∧ S ≤ T)
theorem bsf_skip {wt : Nat → Nat} {q x y : Nat} {best least : Int32} (h : bsf wt q x best least) (hxy : x ≤ y) (hn : ∀ S, x ≤ S → S < y → ¬ feaB wt 16 q S) : bsf wt q y best least := by
  rcases h with ⟨h1, h2, h3⟩ | ⟨S, hS, h1, h2, h3, h4⟩
  · refine Or.inl ⟨h1, h2, fun S hS => ?_⟩
    rcases Nat.lt_or_ge S x with w | w
    · exact h3 S w
    · exact hn S w hS
  · refine Or.inr ⟨S, by omega, h1, h2, h3, fun T hT hf => ?_⟩
    rcases Nat.lt_or_ge T x with w | w
    · exact h4 T w hf
    · exact absurd hf (hn T w hT)
theorem bsf_least {wt : Nat → Nat} {q x : Nat} {best least : Int32} (h : bsf wt q x best least) : ∃ n, n ≤ 99 ∧ least = nI n ∧ ∀ T, T < x → feaB wt 16 q T → n ≤ cntB T 16 := by
  rcases h with ⟨_, h2, h3⟩ | ⟨S, hS, _, h2, _, h4⟩
  · exact ⟨99, by decide, h2, fun T hT hf => absurd hf (h3 T hT)⟩
  · have := cntB_le S 16
    refine ⟨cntB S 16, by omega, h2, fun T hT hf => ?_⟩
    rcases h4 T hT hf with w | w <;> omega
theorem bsf_no {wt : Nat → Nat} {q x n : Nat} {best least : Int32} (h : bsf wt q x best least) (hl : least = nI n) (hn : n ≤ 99) (hc : n ≤ cntB x 16) : bsf wt q (x + 1) best least := by
  rcases h with ⟨h1, h2, h3⟩ | ⟨S, hS, h1, h2, h3, h4⟩
  · have hc16 := cntB_le x 16
    rw [hl] at h2
    have := (nI_eq (show n < 2 ^ 31 by omega) (show 99 < 2 ^ 31 by decide)).mp h2
    omega
  · refine Or.inr ⟨S, by omega, h1, h2, h3, fun T hT hf => ?_⟩
    by_cases e : T = x
    · subst e
      have hcS := cntB_le S 16
      rw [hl] at h2
      have := (nI_eq (show n < 2 ^ 31 by omega) (show cntB S 16 < 2 ^ 31 by omega)).mp h2
      omega
    · exact h4 T (by omega) hf
theorem bsf_yes {wt : Nat → Nat} {q x n : Nat} {best least : Int32} (h : bsf wt q x best least) (hl : least = nI n) (hn : n ≤ 99) (hlow : ∀ T, T < x → feaB wt 16 q T → n ≤ cntB T 16) (hf : feaB wt 16 q x) (hc : cntB x 16 < n) : bsf wt q (x + 1) (nI x) (nI (cntB x 16)) := by
  refine Or.inr ⟨x, by omega, rfl, rfl, hf, fun T hT hfT => ?_⟩
  by_cases e : T = x
  · subst e; exact Or.inr ⟨rfl, Nat.le_refl _⟩
  · have := hlow T (by omega) hfT
    exact Or.inl (by omega)
theorem bsf_end {wt : Nat → Nat} {q : Nat} {best least : Int32} (h : bsf wt q 65536 best least) : best = selB wt q := by
  rcases h with ⟨h1, _, h3⟩ | ⟨S, hS, h1, _, h3, h4⟩
  · rw [h1, selB_no (fun S hf => h3 S hf.1 hf)]
  · rw [h1, selB_is h3 (fun T hT => h4 T hT.1 hT)]
def rCg (v : Int32) (I : Nat → Nat → Int32) (L : Nat → Nat → Int64) (P : Nat → Nat → Option Nat) : Option Value → pM → Prop := fun r M => r = some (.int v) ∧ ∃ ev f g k L', M = (aU (aU (aU (sI I 134 54 ev) 170 k) 168 f) 169 g, L', P) ∧ lfm L' L

theorem yWorth_ck (I : Nat → Nat → Int32) (ev : Int32) (ck : Nat → Int32) (b j : Nat) : yWorth (aU (sI I 134 54 ev) 170 ck) b j = yWorth I b j := rfl
theorem chg_mem (I : Nat → Nat → Int32) (ev ev2 : Int32) (ck : Nat → Int32) (i : Nat) (x : Int32) : sI (sI (aU (sI I 134 54 ev) 170 ck) 134 54 ev2) 170 i x = aU (sI I 134 54 ev2) 170 (upd ck i x) := by
  rw [← aU_sI_c _ (show 170 ≠ 134 by decide), sI_sI, sI_aU2]
theorem aU_aU4 (I : Nat → Nat → Int32) (f1 g1 f2 g2 : Nat → Int32) : aU (aU (aU (aU I 168 f1) 169 g1) 168 f2) 169 g2 = aU (aU I 168 f2) 169 g2 := by
  rw [aU_cm (aU I 168 f1) (show 169 ≠ 168 by decide), aU_aU, aU_aU]

set_option maxHeartbeats 4000000 in
theorem ct_Mo_changeOf {sh : List pSh} {I : Nat → Nat → Int32} {L : Nat → Nat → Int64} {P : Nat → Nat → Option Nat} (hA : kA sh P) {np ns nd : Nat} (hm : mOK I np ns nd) {b : Nat} (hb : b < 2) (hwf : wfL I) (ho : oOK I b np ns) (p : Int32) {q : Nat} (hq : q < 10000) (hw1 : ∀ s, s < ns → I 163 (16 * b + s) = p → ∃ v, v ≤ 999 ∧ yWorth I b s = nI v) : pCn m_Mo_changeOf 6 [.ref 134, .int (nI b), .int p, .int (nI q)] sh (I, L, P) (rCg (selB (yWt I b ns p) q) I L P) := by
  refine pCn_of (by decide +kernel) (Nat.le_of_ble_eq_true rfl) ?_
  have h5 := hm.2.1
  have h16 := hm.2.2.2.1
  have hoo := ho.five h5
  have hw9 : ∀ s, yWt I b ns p s ≤ 9999 := fun s => by
    unfold yWt
    split
    · rename_i w
      obtain ⟨v, hv, hve⟩ := hw1 s w.1 w.2
      rw [hve, ixn_nI (by omega)]
      omega
    · omega
  have hsb : ∀ h set, sumB (w8 (yWt I b ns p) h) set 8 ≤ 80000 := fun h set => Nat.le_trans (sumB_b (fun s => hw9 _) set 8) (by omega)
  have hO : ∀ (ev : Int32) (ck : Nat → Int32) (L0 : Nat → Nat → Int64), lfm L0 L → ∀ f g : Nat → Int32, (∀ s2, s2 < 256 → hOK (yWt I b ns p) 0 s2 (f (256 * 0 + s2)) (g (256 * 0 + s2))) → (∀ s2, s2 < 256 → hOK (yWt I b ns p) 1 s2 (f (256 * 1 + s2)) (g (256 * 1 + s2))) → ∀ hi, hi ≤ 256 → ∀ best least : Int32, bsf (yWt I b ns p) q (256 * hi) best least → pWn m_Mo_changeOf 6 sh (rCg (selB (yWt I b ns p) q) I L P) 76 [some (.ref 134), some (.int (nI b)), some (.int p), some (.int (nI q)), some (.int best), some (.int least), some (.int (nI hi)), none, none, none] [] (aU (aU (aU (sI I 134 54 ev) 170 ck) 168 f) 169 g, L0, P) := fun ev ck L0 hL0 f g hlo hh1 => pUpTo 256 _ (by
    intro hi hhi0 ihO best least hbs
    have hIn : ∀ hi, hi < 256 → okB (w8 (yWt I b ns p) 1) hi 8 → sumB (w8 (yWt I b ns p) 1) hi 8 ≤ q → g (256 * 1 + hi) = nI (cntB hi 8) → (hi < 256 → ∀ best least : Int32, bsf (yWt I b ns p) q (256 * (hi + 1)) best least → pWn m_Mo_changeOf 6 sh (rCg (selB (yWt I b ns p) q) I L P) 76 [some (.ref 134), some (.int (nI b)), some (.int p), some (.int (nI q)), some (.int best), some (.int least), some (.int (nI (hi + 1))), none, none, none] [] (aU (aU (aU (sI I 134 54 ev) 170 ck) 168 f) 169 g, L0, P)) → ∀ lo, lo ≤ 256 → ∀ best least : Int32, bsf (yWt I b ns p) q (256 * hi + lo) best least → pWn m_Mo_changeOf 6 sh (rCg (selB (yWt I b ns p) q) I L P) 114 [some (.ref 134), some (.int (nI b)), some (.int p), some (.int (nI q)), some (.int best), some (.int least), some (.int (nI hi)), some (.int (nI (sumB (w8 (yWt I b ns p) 1) hi 8))), some (.int (nI lo)), none] [] (aU (aU (aU (sI I 134 54 ev) 170 ck) 168 f) 169 g, L0, P) := fun hi hhi hok1 hsq hHc ihO => pUpTo 256 _ (by
      intro lo hlo0 ih best least hbs
      have hs1b := hsb 1 hi
      have hc8 := cntB_le hi 8
      refine pw_iload (i := 8) rfl (by decide +kernel) ?_
      refine pw_sipush (n := 256) (v := 256) (by decide) (by decide +kernel) ?_
      refine pn_icmp_ge (off := 79) (tgt := 198) lo 256 rfl rfl (by omega) (by omega) (by decide +kernel) (by decide +kernel) (fun z119 => ?_) (fun z119 => ?_)
      · obtain rfl : lo = 256 := by omega
        refine pn_iinc (i := 6) (n := 1) 1 hi rfl rfl (by decide) rfl (by decide +kernel) ?_
        refine pw_goto (off := -125) (tgt := 76) (by decide +kernel) (by decide +kernel) ?_
        exact pw_forget [7, 8] (ihO (by omega) best least (by rw [show 256 * (hi + 1) = 256 * hi + 256 by omega]; exact hbs))
      · have hl256 : lo < 256 := by omega
        obtain ⟨nl, hnl, hle, hlow⟩ := bsf_least hbs
        have hLo := hlo lo hl256
        rw [show 256 * 0 + lo = lo by omega] at hLo
        refine pw_aload_n (k4 := 0) rfl (by decide +kernel) ?_
        refine pq_getP (c := 11) (k := 66) (ks_m hA) (by decide) (by decide) (kp_m_halfMany hA) lf_Mo_118 (by decide +kernel) ?_
        refine pw_sipush (n := 256) (v := 256) (by decide) (by decide +kernel) ?_
        refine pw_iload (i := 6) rfl (by decide +kernel) ?_
        refine pn_iadd 256 hi rfl rfl (by decide +kernel) ?_
        refine pq_iald (256 + hi) rfl (by omega) (by decide) (ks_m_halfMany hA) (by decide +kernel) ?_
        refine pn_val (nI (cntB hi 8)) hHc ?_
        refine pw_aload_n (k4 := 0) rfl (by decide +kernel) ?_
        refine pq_getP (c := 11) (k := 66) (ks_m hA) (by decide) (by decide) (kp_m_halfMany hA) lf_Mo_118 (by decide +kernel) ?_
        refine pw_iload (i := 8) rfl (by decide +kernel) ?_
        refine pq_iald lo rfl (by omega) (by decide) (ks_m_halfMany hA) (by decide +kernel) ?_
        refine pn_val (g lo) rfl ?_
        refine pw_iadd (by decide +kernel) ?_
        refine pq_istore (i := 9) (Nat.le_of_ble_eq_true rfl) rfl (by decide +kernel) ?_
        refine pw_aload_n (k4 := 0) rfl (by decide +kernel) ?_
        refine pq_getP (c := 11) (k := 65) (ks_m hA) (by decide) (by decide) (kp_m_halfSum hA) lf_Mo_115 (by decide +kernel) ?_
        refine pw_iload (i := 8) rfl (by decide +kernel) ?_
        refine pq_iald lo rfl (by omega) (by decide) (ks_m_halfSum hA) (by decide +kernel) ?_
        refine pn_val (f lo) rfl ?_
        refine pw_if_lt (off := 42) (tgt := 192) (by decide +kernel) (by decide +kernel) (fun z150 => ?_) (fun z150 => ?_)
        · refine pn_iinc (i := 8) (n := 1) 1 lo rfl rfl (by decide) rfl (by decide +kernel) ?_
          refine pw_goto (off := -81) (tgt := 114) (by decide +kernel) (by decide +kernel) ?_
          refine pw_forget [9] (ih (by omega) best least ?_)
          exact bsf_skip hbs (by omega) (fun S h1 h2 => by obtain rfl : S = 256 * hi + lo := (by omega); rw [fea_halves hhi hl256]; rintro ⟨q1, _, _⟩; rw [(hLo.1 q1).1] at z150; exact nI_pos (by have := hsb 0 lo; omega) z150)
        · refine pw_iload (i := 7) rfl (by decide +kernel) ?_
          refine pw_aload_n (k4 := 0) rfl (by decide +kernel) ?_
          refine pq_getP (c := 11) (k := 65) (ks_m hA) (by decide) (by decide) (kp_m_halfSum hA) lf_Mo_115 (by decide +kernel) ?_
          refine pw_iload (i := 8) rfl (by decide +kernel) ?_
          refine pq_iald lo rfl (by omega) (by decide) (ks_m_halfSum hA) (by decide +kernel) ?_
          refine pn_val (f lo) rfl ?_
          refine pw_iadd (by decide +kernel) ?_
          refine pw_iload_n (k4 := 3) rfl (by decide +kernel) ?_
          refine pw_icmp_ne (off := 28) (tgt := 192) (by decide +kernel) (by decide +kernel) (fun z164 => ?_) (fun z164 => ?_)
          · refine pn_iinc (i := 8) (n := 1) 1 lo rfl rfl (by decide) rfl (by decide +kernel) ?_
            refine pw_goto (off := -81) (tgt := 114) (by decide +kernel) (by decide +kernel) ?_
            refine pw_forget [9] (ih (by omega) best least ?_)
            exact bsf_skip hbs (by omega) (fun S h1 h2 => by obtain rfl : S = 256 * hi + lo := (by omega); rw [fea_halves hhi hl256]; rintro ⟨q1, _, q3⟩; rw [(hLo.1 q1).1, nI_add, nI_eq (by have := hsb 0 lo; omega) (by omega)] at z164; omega)
          · refine pw_iload (i := 9) rfl (by decide +kernel) ?_
            refine pw_iload (i := 5) rfl (by decide +kernel) ?_
            refine pw_icmp_lt (off := 6) (tgt := 177) (by decide +kernel) (by decide +kernel) (fun z171 => ?_) (fun z171 => ?_)
            · refine pw_sipush (n := 256) (v := 256) (by decide) (by decide +kernel) ?_
              refine pw_iload (i := 6) rfl (by decide +kernel) ?_
              refine pn_imul 256 hi rfl rfl (by decide +kernel) ?_
              refine pw_iload (i := 8) rfl (by decide +kernel) ?_
              refine pn_iadd (256 * hi) lo rfl rfl (by decide +kernel) ?_
              refine pq_istore (i := 4) (Nat.le_of_ble_eq_true rfl) rfl (by decide +kernel) ?_
              refine pw_iload (i := 9) rfl (by decide +kernel) ?_
              refine pq_istore (i := 5) (Nat.le_of_ble_eq_true rfl) rfl (by decide +kernel) ?_
              refine pn_iinc (i := 8) (n := 1) 1 lo rfl rfl (by decide) rfl (by decide +kernel) ?_
              refine pw_goto (off := -81) (tgt := 114) (by decide +kernel) (by decide +kernel) ?_
              have qf : okB (w8 (yWt I b ns p) 0) lo 8 := Classical.byContradiction (fun w => z150 (by rw [hLo.2 w]; decide))
              rw [(hLo.1 qf).2, nI_add, hle, nI_ltI (by have := cntB_le lo 8; omega) (by omega)] at z171
              rw [(hLo.1 qf).1, nI_add, nI_eq (by have := hsb 0 lo; omega) (by omega)] at z164
              rw [(hLo.1 qf).2, nI_add]
              have hcn : cntB hi 8 + cntB lo 8 = cntB (256 * hi + lo) 16 := by rw [show (16 : Nat) = 8 + 8 from rfl, cnt_halves hl256 8]; omega
              rw [hcn] at z171 ⊢
              exact pw_forget [9] (ih (by omega) _ _ (by rw [show 256 * hi + (lo + 1) = 256 * hi + lo + 1 by omega]; exact bsf_yes hbs hle hnl hlow ((fea_halves hhi hl256).mpr ⟨qf, hok1, by omega⟩) z171))
            · refine pw_goto (off := 18) (tgt := 192) (by decide +kernel) (by decide +kernel) ?_
              refine pn_iinc (i := 8) (n := 1) 1 lo rfl rfl (by decide) rfl (by decide +kernel) ?_
              refine pw_goto (off := -81) (tgt := 114) (by decide +kernel) (by decide +kernel) ?_
              refine pw_forget [9] (ih (by omega) best least ?_)
              rw [show 256 * hi + (lo + 1) = 256 * hi + lo + 1 by omega]
              by_cases qf : okB (w8 (yWt I b ns p) 0) lo 8
              · refine bsf_no hbs hle hnl ?_
                rw [(hLo.1 qf).2, nI_add, hle, nI_ltI (by have := cntB_le lo 8; omega) (by omega)] at z171
                rw [show (16 : Nat) = 8 + 8 from rfl, cnt_halves hl256 8]
                omega
              · exact bsf_skip hbs (by omega) (fun S h1 h2 => by obtain rfl : S = 256 * hi + lo := (by omega); rw [fea_halves hhi hl256]; exact fun w => qf w.1))
    refine pw_iload (i := 6) rfl (by decide +kernel) ?_
    refine pw_sipush (n := 256) (v := 256) (by decide) (by decide +kernel) ?_
    refine pn_icmp_ge (off := 123) (tgt := 204) hi 256 rfl rfl (by omega) (by omega) (by decide +kernel) (by decide +kernel) (fun z81 => ?_) (fun z81 => ?_)
    · obtain rfl : hi = 256 := by omega
      refine pw_iload (i := 4) rfl (by decide +kernel) ?_
      exact pq_iret rfl (by decide +kernel) ⟨congrArg (fun z => some (Value.int z)) (bsf_end hbs), ev, f, g, ck, L0, rfl, hL0⟩
    · have hhi : hi < 256 := by omega
      have hHi := hh1 hi hhi
      refine pw_aload_n (k4 := 0) rfl (by decide +kernel) ?_
      refine pq_getP (c := 11) (k := 65) (ks_m hA) (by decide) (by decide) (kp_m_halfSum hA) lf_Mo_115 (by decide +kernel) ?_
      refine pw_sipush (n := 256) (v := 256) (by decide) (by decide +kernel) ?_
      refine pw_iload (i := 6) rfl (by decide +kernel) ?_
      refine pn_iadd 256 hi rfl rfl (by decide +kernel) ?_
      refine pq_iald (256 + hi) rfl (by omega) (by decide) (ks_m_halfSum hA) (by decide +kernel) ?_
      refine pq_istore (i := 7) (Nat.le_of_ble_eq_true rfl) rfl (by decide +kernel) ?_
      refine pw_iload (i := 7) rfl (by decide +kernel) ?_
      refine pw_if_lt (off := 99) (tgt := 198) (by decide +kernel) (by decide +kernel) (fun z99 => ?_) (fun z99 => ?_)
      · refine pn_iinc (i := 6) (n := 1) 1 hi rfl rfl (by decide) rfl (by decide +kernel) ?_
        refine pw_goto (off := -125) (tgt := 76) (by decide +kernel) (by decide +kernel) ?_
        refine pw_forget [7] (ihO (by omega) best least (bsf_skip hbs (by omega) (fun S h1 h2 => by obtain ⟨l2, rfl, hl2⟩ : ∃ l2, S = 256 * hi + l2 ∧ l2 < 256 := ⟨S - 256 * hi, by omega, by omega⟩; rw [fea_halves hhi hl2]; rintro ⟨_, q2, _⟩; have w := (hHi.1 q2).1; exact nI_pos (show sumB (w8 (yWt I b ns p) 1) hi 8 < 2 ^ 31 by have := hsb 1 hi; omega) (by rw [← w]; exact z99))))
      · have hok1 : okB (w8 (yWt I b ns p) 1) hi 8 := Classical.byContradiction (fun w => z99 (by rw [show aU (aU (aU (sI I 134 54 ev) 170 ck) 168 f) 169 g 168 (256 + hi) = f (256 * 1 + hi) from rfl, hHi.2 w]; decide))
        have hs1e : aU (aU (aU (sI I 134 54 ev) 170 ck) 168 f) 169 g 168 (256 + hi) = nI (sumB (w8 (yWt I b ns p) 1) hi 8) := (hHi.1 hok1).1
        rw [hs1e]
        have hs1b := hsb 1 hi
        refine pw_iload (i := 7) rfl (by decide +kernel) ?_
        refine pw_iload_n (k4 := 3) rfl (by decide +kernel) ?_
        refine pw_icmp_le (off := 6) (tgt := 111) (by decide +kernel) (by decide +kernel) (fun z105 => ?_) (fun z105 => ?_)
        · rw [nI_leI (by omega) (by omega)] at z105
          refine pw_iconst (n := 0) (v := 0) (by decide) (by decide +kernel) ?_
          refine pq_istore (i := 8) (Nat.le_of_ble_eq_true rfl) rfl (by decide +kernel) ?_
          exact hIn hi hhi hok1 z105 ((hHi.1 hok1).2) (fun h bb ll hb2 => ihO h bb ll hb2) 0 (Nat.zero_le _) best least hbs
        · rw [nI_leI (by omega) (by omega)] at z105
          refine pw_goto (off := 90) (tgt := 198) (by decide +kernel) (by decide +kernel) ?_
          refine pn_iinc (i := 6) (n := 1) 1 hi rfl rfl (by decide) rfl (by decide +kernel) ?_
          refine pw_goto (off := -125) (tgt := 76) (by decide +kernel) (by decide +kernel) ?_
          refine pw_forget [7] (ihO (by omega) best least (bsf_skip hbs (by omega) (fun S h1 h2 => by obtain ⟨l2, rfl, hl2⟩ : ∃ l2, S = 256 * hi + l2 ∧ l2 < 256 := ⟨S - 256 * hi, by omega, by omega⟩; rw [fea_halves hhi hl2]; rintro ⟨_, _, q3⟩; omega))))
  have hC := pUpTo ns (fun k => ∀ (ev : Int32) (L0 : Nat → Nat → Int64), lfm L0 L → ∀ ck : Nat → Int32, (∀ s2, s2 < k → ck s2 = nI (yWt I b ns p s2)) → pWn m_Mo_changeOf 6 sh (rCg (selB (yWt I b ns p) q) I L P) 3 [some (.ref 134), some (.int (nI b)), some (.int p), some (.int (nI q)), some (.int (nI k)), none, none, none, none, none] [] (aU (sI I 134 54 ev) 170 ck, L0, P)) (by
    intro k hk ih ev L0 hL0 ck hck
    refine pw_iload (i := 4) rfl (by decide +kernel) ?_
    refine pw_aload_n (k4 := 0) rfl (by decide +kernel) ?_
    refine pq_getI (c := 11) (k := 13) (ks_m hA) (by decide) (by decide) lf_Mo_262 (by decide +kernel) ?_
    refine pn_val (nI (ns)) hm.2.2.1 ?_
    refine pn_icmp_ge (off := 43) (tgt := 52) k ns rfl rfl (by omega) (by omega) (by decide +kernel) (by decide +kernel) (fun z9 => ?_) (fun z9 => ?_)
    · obtain rfl : k = ns := by omega
      have hck : ∀ s2, s2 < 16 → (if s2 < k ∧ I 163 (16 * b + s2) = p then ck s2 else 0) = nI (yWt I b k p s2) := fun s2 hs2 => by
          by_cases qk : s2 < k ∧ I 163 (16 * b + s2) = p
          · rw [if_pos qk]; exact hck s2 qk.1
          · rw [if_neg qk]; unfold yWt; rw [if_neg qk]; rfl
      refine pw_aload_n (k4 := 0) rfl (by decide +kernel) ?_
      refine pw_iload_n (k4 := 1) rfl (by decide +kernel) ?_
      refine pw_iload_n (k4 := 2) rfl (by decide +kernel) ?_
      refine pw_iconst (n := 0) (v := 0) (by decide) (by decide +kernel) ?_
      refine pq_callV (ν := m_Mo_layHalf) (d' := 1) (av := [_, _, _]) (c := 11) (by decide +kernel) lm_Mo_460 ok_Mo_layHalf (show _ = some 3 by decide +kernel) (ks_m hA) rfl (by decide) (by omega) (Nat.le_of_ble_eq_true rfl) (ct_Mo_layHalf hA (by exact hm) hb (h := 0) (by decide) p (wt := yWt I b k p) hw9 (by exact hck)) ?_
      rintro _ _ ⟨rfl, f1, g1, rfl, hf1, hg1⟩
      refine pw_aload_n (k4 := 0) rfl (by decide +kernel) ?_
      refine pw_iload_n (k4 := 1) rfl (by decide +kernel) ?_
      refine pw_iload_n (k4 := 2) rfl (by decide +kernel) ?_
      refine pw_iconst (n := 1) (v := 1) (by decide) (by decide +kernel) ?_
      refine pq_callV (ν := m_Mo_layHalf) (d' := 1) (av := [_, _, _]) (c := 11) (by decide +kernel) lm_Mo_460 ok_Mo_layHalf (show _ = some 3 by decide +kernel) (ks_m hA) rfl (by decide) (by omega) (Nat.le_of_ble_eq_true rfl) (ct_Mo_layHalf hA (by exact hm) hb (h := 1) (by decide) p (wt := yWt I b k p) hw9 (by exact hck)) ?_
      rintro _ _ ⟨rfl, f2, g2, rfl, hf2, hg2⟩
      refine pw_iconst (n := -1) (v := -1) (by decide) (by decide +kernel) ?_
      refine pq_istore (i := 4) (Nat.le_of_ble_eq_true rfl) rfl (by decide +kernel) ?_
      refine pw_bipush (n := 99) (v := 99) (by decide) (by decide +kernel) ?_
      refine pq_istore (i := 5) (Nat.le_of_ble_eq_true rfl) rfl (by decide +kernel) ?_
      refine pw_iconst (n := 0) (v := 0) (by decide) (by decide +kernel) ?_
      refine pq_istore (i := 6) (Nat.le_of_ble_eq_true rfl) rfl (by decide +kernel) ?_
      rw [aU_aU4]
      refine pw_forget [] (hO ev ck L0 hL0 _ _ (fun s2 hs2 => ?_) (fun s2 hs2 => hg2 s2 hs2) 0 (by omega) _ _ (Or.inl ⟨rfl, rfl, fun S hS => absurd hS (Nat.not_lt_zero _)⟩))
      have w := hf2 (256 * 0 + s2) (Or.inl (by omega))
      rw [w.1, w.2]
      exact hg1 s2 hs2
    · refine pw_aload_n (k4 := 0) rfl (by decide +kernel) ?_
      refine pq_getP (c := 11) (k := 67) (ks_m hA) (by decide) (by decide) (kp_m_change1 hA) lf_Mo_121 (by decide +kernel) ?_
      refine pw_iload (i := 4) rfl (by decide +kernel) ?_
      refine pw_aload_n (k4 := 0) rfl (by decide +kernel) ?_
      refine pq_getP (c := 11) (k := 56) (ks_m hA) (by decide) (by decide) (kp_m_whose hA) lf_Mo_100 (by decide +kernel) ?_
      refine pw_bipush (n := 16) (v := 16) (by decide) (by decide +kernel) ?_
      refine pw_iload_n (k4 := 1) rfl (by decide +kernel) ?_
      refine pn_imul 16 b rfl rfl (by decide +kernel) ?_
      refine pw_iload (i := 4) rfl (by decide +kernel) ?_
      refine pn_iadd (16 * b) k rfl rfl (by decide +kernel) ?_
      refine pq_iald ((16 * b) + k) rfl (by omega) (by decide) (ks_m_whose hA) (by decide +kernel) ?_
      refine pw_iload_n (k4 := 2) rfl (by decide +kernel) ?_
      refine pw_icmp_ne (off := 13) (tgt := 44) (by decide +kernel) (by decide +kernel) (fun z31 => ?_) (fun z31 => ?_)
      · refine pw_iconst (n := 0) (v := 0) (by decide) (by decide +kernel) ?_
        refine pq_iast k rfl (by omega) (by decide) (ks_m_change1 hA) (by decide +kernel) ?_
        refine pn_iinc (i := 4) (n := 1) 1 k rfl rfl (by decide) rfl (by decide +kernel) ?_
        refine pw_goto (off := -46) (tgt := 3) (by decide +kernel) (by decide +kernel) ?_
        rw [sI_aU2]
        refine ih (by omega) ev L0 hL0 _ (fun s2 hs2 => ?_)
        unfold upd
        by_cases qe : s2 = k
        · rw [if_pos qe, qe]
          unfold yWt
          rw [if_neg (fun w => z31 w.2)]; rfl
        · rw [if_neg qe]; exact hck s2 (by omega)
      · refine pw_aload_n (k4 := 0) rfl (by decide +kernel) ?_
        refine pw_iload_n (k4 := 1) rfl (by decide +kernel) ?_
        refine pw_iload (i := 4) rfl (by decide +kernel) ?_
        refine pq_callV (ν := m_Mo_worthOf) (d' := 5) (av := [_, _]) (c := 11) (by decide +kernel) lm_Mo_434 ok_Mo_worthOf (show _ = some 2 by decide +kernel) (ks_m hA) rfl (by decide) (by omega) (Nat.le_of_ble_eq_true rfl) (ct_Mo_worthOf hA (by exact hwf) (b := b) (j := k) (by omega) (by omega) (by exact hoo _ (by omega))) ?_
        rintro _ _ ⟨rfl, ev2, L2, rfl, hL2⟩
        refine pw_goto (off := 4) (tgt := 45) (by decide +kernel) (by decide +kernel) ?_
        refine pq_iast k rfl (by omega) (by decide) (ks_m_change1 hA) (by decide +kernel) ?_
        refine pn_iinc (i := 4) (n := 1) 1 k rfl rfl (by decide) rfl (by decide +kernel) ?_
        refine pw_goto (off := -46) (tgt := 3) (by decide +kernel) (by decide +kernel) ?_
        rw [chg_mem]
        refine ih (by omega) ev2 L2 (hL2.tr hL0) _ (fun s2 hs2 => ?_)
        unfold upd
        by_cases qe : s2 = k
        · rw [if_pos qe, qe, yWorth_ck]
          obtain ⟨vv, hvv, hve⟩ := hw1 k (by omega) z31
          unfold yWt
          rw [if_pos ⟨by omega, z31⟩, hve, ixn_nI (by omega)]
        · rw [if_neg qe]; exact hck s2 (by omega)
)
  refine pw_iconst (n := 0) (v := 0) (by decide) (by decide +kernel) ?_
  refine pq_istore (i := 4) (Nat.le_of_ble_eq_true rfl) rfl (by decide +kernel) ?_
  have w := hC 0 (Nat.zero_le _) (I 134 54) L (lfm.rf L) (I 170) (fun s2 h2 => absurd h2 (Nat.not_lt_zero _))
  rw [sI_same, aU_self] at w
  exact w
