/-! ===== the reference: change ===== -/
theorem lr_a (I : Nat → Nat → Int32) {a b : Nat} (h : a ≠ b) (f g : Nat → Int32) (i : Nat) (x : Int32) : sI (aU (aU I a f) b g) a i x = aU (aU I a (upd f i x)) b g := by
  rw [sI_aU, aU_ne h, aU_eq, aU_cm _ h, aU_aU, aU_cm _ (Ne.symm h)]
def w8 (wt : Nat → Nat) (h : Nat) : Nat → Nat := fun k => wt (8 * h + k)
/-- a half's set: its sum and how many, or -1 -/
def hOK (wt : Nat → Nat) (h set : Nat) (x y : Int32) : Prop := (okB (w8 wt h) set 8 → x = nI (sumB (w8 wt h) set 8) ∧ y = nI (cntB set 8)) ∧ (¬ okB (w8 wt h) set 8 → x = -1)
def rHf (wt : Nat → Nat) (h : Nat) (I : Nat → Nat → Int32) (L : Nat → Nat → Int64) (P : Nat → Nat → Option Nat) : Option Value → pM → Prop := fun r M => r = none ∧ ∃ f g, M = (aU (aU I 168 f) 169 g, L, P) ∧ (∀ i, i < 256 * h ∨ 256 * h + 256 ≤ i → f i = I 168 i ∧ g i = I 169 i) ∧ ∀ set, set < 256 → hOK wt h set (f (256 * h + set)) (g (256 * h + set))
theorem sumB_b {wt : Nat → Nat} {c : Nat} (h : ∀ s, wt s ≤ c) (S : Nat) : ∀ n, sumB wt S n ≤ n * c
  | 0 => by unfold sumB; omega
  | n + 1 => by
    have h1 := sumB_b h S n
    have h2 := h n
    unfold sumB
    rw [Nat.succ_mul]
    split <;> omega
theorem sumB_y {wt : Nat → Nat} {S k : Nat} (h : S.testBit k = true) : sumB wt S (k + 1) = sumB wt S k + wt k := by show _ + _ = _; rw [h]; simp
theorem sumB_n {wt : Nat → Nat} {S k : Nat} (h : ¬ S.testBit k = true) : sumB wt S (k + 1) = sumB wt S k := by show _ + _ = _; rw [if_neg h]; rfl
theorem cntB_y {S k : Nat} (h : S.testBit k = true) : cntB S (k + 1) = cntB S k + 1 := by show _ + _ = _; rw [h]; simp
theorem cntB_n {S k : Nat} (h : ¬ S.testBit k = true) : cntB S (k + 1) = cntB S k := by show _ + _ = _; rw [if_neg h]; rfl
theorem okB_y {wt : Nat → Nat} {S k : Nat} (h : okB wt S k) (hk : S.testBit k = true → ¬ wt k = 0) : okB wt S (k + 1) := fun i hi hs => by
  by_cases q : i = k
  · subst q; exact hk hs
  · exact h i (by omega) hs

set_option maxHeartbeats 2000000 in
theorem ct_Mo_layHalf {sh : List pSh} {I : Nat → Nat → Int32} {L : Nat → Nat → Int64} {P : Nat → Nat → Option Nat} (hA : kA sh P) {np ns nd : Nat} (hm : mOK I np ns nd) {b h : Nat} (hb : b < 2) (hh : h < 2) (p : Int32) {wt : Nat → Nat} (hw9 : ∀ s, wt s ≤ 9999) (hc : ∀ s, s < 16 → (if s < ns ∧ I 163 (16 * b + s) = p then I 170 s else 0) = nI (wt s)) : pCn m_Mo_layHalf 1 [.ref 134, .int (nI b), .int p, .int (nI h)] sh (I, L, P) (rHf wt h I L P) := by
  refine pCn_of (by decide +kernel) (Nat.le_of_ble_eq_true rfl) ?_
  have h16 := hm.2.2.2.1
  have hsb : ∀ set n, n ≤ 8 → sumB (w8 wt h) set n ≤ 80000 := fun set n hn => Nat.le_trans (sumB_b (fun s => hw9 _) set n) (by omega)
  have hcb : ∀ set n, n ≤ 8 → cntB set n ≤ 8 := fun set n hn => Nat.le_trans (cntB_le set n) hn
  have h3 := pUpTo 256 (fun set => ∀ f g : Nat → Int32, (∀ i, i < 256 * h ∨ 256 * h + 256 ≤ i → f i = I 168 i ∧ g i = I 169 i) → (∀ s2, s2 < set → hOK wt h s2 (f (256 * h + s2)) (g (256 * h + s2))) →  pWn m_Mo_layHalf 1 sh (rHf wt h I L P) 3 [some (.ref 134), some (.int (nI b)), some (.int p), some (.int (nI h)), some (.int (nI set)), none, none, none, none, none] [] (aU (aU I 168 f) 169 g, L, P)) (by
    intro set hset ih
    have h117 : set < 256 → (∀ f g : Nat → Int32, (∀ i, i < 256 * h ∨ 256 * h + 256 ≤ i → f i = I 168 i ∧ g i = I 169 i) → (∀ s2, s2 < (set + 1) → hOK wt h s2 (f (256 * h + s2)) (g (256 * h + s2))) →  pWn m_Mo_layHalf 1 sh (rHf wt h I L P) 3 [some (.ref 134), some (.int (nI b)), some (.int p), some (.int (nI h)), some (.int (nI (set + 1))), none, none, none, none, none] [] (aU (aU I 168 f) 169 g, L, P)) → ∀ f g : Nat → Int32, (∀ i, i < 256 * h ∨ 256 * h + 256 ≤ i → f i = I 168 i ∧ g i = I 169 i) → (∀ s2, s2 < set → hOK wt h s2 (f (256 * h + s2)) (g (256 * h + s2))) →  ∀ x y z : Int32, hOK wt h set x y → pWn m_Mo_layHalf 1 sh (rHf wt h I L P) 117 [some (.ref 134), some (.int (nI b)), some (.int p), some (.int (nI h)), some (.int (nI set)), some (.int x), some (.int y), some (.int z), none, none] [] (aU (aU I 168 f) 169 g, L, P) := by
      intro hs2 nx f g hf hg x y z hxy
      refine pw_aload_n (k4 := 0) rfl (by decide +kernel) ?_
      refine pq_getP (c := 11) (k := 65) (ks_m hA) (by decide) (by decide) (kp_m_halfSum hA) lf_Mo_115 (by decide +kernel) ?_
      refine pw_sipush (n := 256) (v := 256) (by decide) (by decide +kernel) ?_
      refine pw_iload_n (k4 := 3) rfl (by decide +kernel) ?_
      refine pn_imul 256 h rfl rfl (by decide +kernel) ?_
      refine pw_iload (i := 4) rfl (by decide +kernel) ?_
      refine pn_iadd (256 * h) set rfl rfl (by decide +kernel) ?_
      refine pw_iload (i := 5) rfl (by decide +kernel) ?_
      refine pq_iast ((256 * h) + set) rfl (by omega) (by decide) (ks_m_halfSum hA) (by decide +kernel) ?_
      refine pw_aload_n (k4 := 0) rfl (by decide +kernel) ?_
      refine pq_getP (c := 11) (k := 66) (ks_m hA) (by decide) (by decide) (kp_m_halfMany hA) lf_Mo_118 (by decide +kernel) ?_
      refine pw_sipush (n := 256) (v := 256) (by decide) (by decide +kernel) ?_
      refine pw_iload_n (k4 := 3) rfl (by decide +kernel) ?_
      refine pn_imul 256 h rfl rfl (by decide +kernel) ?_
      refine pw_iload (i := 4) rfl (by decide +kernel) ?_
      refine pn_iadd (256 * h) set rfl rfl (by decide +kernel) ?_
      refine pw_iload (i := 6) rfl (by decide +kernel) ?_
      refine pq_iast ((256 * h) + set) rfl (by omega) (by decide) (ks_m_halfMany hA) (by decide +kernel) ?_
      refine pn_iinc (i := 4) (n := 1) 1 set rfl rfl (by decide) rfl (by decide +kernel) ?_
      refine pw_goto (off := -147) (tgt := 3) (by decide +kernel) (by decide +kernel) ?_
      rw [lr_a _ (by decide), sI_aU2]
      refine pw_forget [5, 6, 7, 8, 9] (nx (upd f (256 * h + set) x) (upd g (256 * h + set) y) (fun i hi => ?_) (fun s2 h2 => ?_))
      · unfold upd
        rw [if_neg (by omega), if_neg (by omega)]
        exact hf i hi
      · unfold upd
        by_cases q : s2 = set
        · subst q; rw [if_pos rfl, if_pos rfl]; exact hxy
        · rw [if_neg (by omega), if_neg (by omega)]; exact hg s2 (by omega)
    have hB : set < 256 → (∀ f g : Nat → Int32, (∀ i, i < 256 * h ∨ 256 * h + 256 ≤ i → f i = I 168 i ∧ g i = I 169 i) → (∀ s2, s2 < (set + 1) → hOK wt h s2 (f (256 * h + s2)) (g (256 * h + s2))) →  pWn m_Mo_layHalf 1 sh (rHf wt h I L P) 3 [some (.ref 134), some (.int (nI b)), some (.int p), some (.int (nI h)), some (.int (nI (set + 1))), none, none, none, none, none] [] (aU (aU I 168 f) 169 g, L, P)) → ∀ f g : Nat → Int32, (∀ i, i < 256 * h ∨ 256 * h + 256 ≤ i → f i = I 168 i ∧ g i = I 169 i) → (∀ s2, s2 < set → hOK wt h s2 (f (256 * h + s2)) (g (256 * h + s2))) →  ¬ okB (w8 wt h) set 8 → ∀ i, i ≤ 8 → ∀ y : Int32, pWn m_Mo_layHalf 1 sh (rHf wt h I L P) 20 [some (.ref 134), some (.int (nI b)), some (.int p), some (.int (nI h)), some (.int (nI set)), some (.int (-1)), some (.int y), some (.int (nI i)), none, none] [] (aU (aU I 168 f) 169 g, L, P) := by
      intro hs2 nx f g hf hg hno i hi y
      refine pw_iload (i := 7) rfl (by decide +kernel) ?_
      refine pw_bipush (n := 8) (v := 8) (by decide) (by decide +kernel) ?_
      refine pn_icmp_ge (off := 93) (tgt := 117) i 8 rfl rfl (by omega) (by omega) (by decide +kernel) (by decide +kernel) (fun z24 => ?_) (fun z24 => ?_)
      · exact h117 hs2 nx f g hf hg (-1) y (nI i) ⟨fun q => absurd q hno, fun _ => rfl⟩
      · refine pw_iload (i := 5) rfl (by decide +kernel) ?_
        refine pw_if_lt (off := 88) (tgt := 117) (by decide +kernel) (by decide +kernel) (fun z29 => ?_) (fun z29 => ?_)
        · exact h117 hs2 nx f g hf hg (-1) y (nI i) ⟨fun q => absurd q hno, fun _ => rfl⟩
        · exact absurd (show (-1 : Int32) < 0 by decide) z29
    have hA2 : set < 256 → (∀ f g : Nat → Int32, (∀ i, i < 256 * h ∨ 256 * h + 256 ≤ i → f i = I 168 i ∧ g i = I 169 i) → (∀ s2, s2 < (set + 1) → hOK wt h s2 (f (256 * h + s2)) (g (256 * h + s2))) →  pWn m_Mo_layHalf 1 sh (rHf wt h I L P) 3 [some (.ref 134), some (.int (nI b)), some (.int p), some (.int (nI h)), some (.int (nI (set + 1))), none, none, none, none, none] [] (aU (aU I 168 f) 169 g, L, P)) → ∀ f g : Nat → Int32, (∀ i, i < 256 * h ∨ 256 * h + 256 ≤ i → f i = I 168 i ∧ g i = I 169 i) → (∀ s2, s2 < set → hOK wt h s2 (f (256 * h + s2)) (g (256 * h + s2))) →  ∀ i, i ≤ 8 → okB (w8 wt h) set i → pWn m_Mo_layHalf 1 sh (rHf wt h I L P) 20 [some (.ref 134), some (.int (nI b)), some (.int p), some (.int (nI h)), some (.int (nI set)), some (.int (nI (sumB (w8 wt h) set i))), some (.int (nI (cntB set i))), some (.int (nI i)), none, none] [] (aU (aU I 168 f) 169 g, L, P) := by
      intro hs2 nx f g hf hg
      refine pUpTo 8 _ ?_
      intro i hi ih hok
      have hs1 := hsb set i hi
      have hc1 := hcb set i hi
      have hw1 : w8 wt h i ≤ 9999 := hw9 _
      refine pw_iload (i := 7) rfl (by decide +kernel) ?_
      refine pw_bipush (n := 8) (v := 8) (by decide) (by decide +kernel) ?_
      refine pn_icmp_ge (off := 93) (tgt := 117) i 8 rfl rfl (by omega) (by omega) (by decide +kernel) (by decide +kernel) (fun z24 => ?_) (fun z24 => ?_)
      · obtain rfl : i = 8 := by omega
        exact h117 hs2 nx f g hf hg _ _ (nI 8) ⟨fun _ => ⟨rfl, rfl⟩, fun q => absurd hok q⟩
      · have hi8 : i < 8 := by omega
        refine pw_iload (i := 5) rfl (by decide +kernel) ?_
        refine pn_if_lt (off := 88) (tgt := 117) (sumB (w8 wt h) set i) rfl (by omega) (by decide +kernel) (by decide +kernel) (fun z29 => ?_) (fun z29 => ?_)
        · exact absurd z29 (Nat.not_lt_zero _)
        · refine pw_iload (i := 4) rfl (by decide +kernel) ?_
          refine pw_iload (i := 7) rfl (by decide +kernel) ?_
          refine pq_callS (ν := m_Mo_isOf) (d' := 0) (av := [_, _]) (by decide +kernel) lm_Mo_457 ok_Mo_isOf (show _ = some 2 by decide +kernel) (by omega) (Nat.le_of_ble_eq_true rfl) (ct_Mo_isOf _ _) ?_
          rintro _ _ ⟨rfl, rfl⟩
          refine pn_ifB_ne (off := 6) (tgt := 45) (by decide +kernel) (by decide +kernel) (fun z39 => ?_) (fun z39 => ?_)
          · have hbt := (nbit_1 (show set < 2 ^ 31 by omega) (show i < 31 by omega)).mp z39
            refine pw_bipush (n := 8) (v := 8) (by decide) (by decide +kernel) ?_
            refine pw_iload_n (k4 := 3) rfl (by decide +kernel) ?_
            refine pn_imul 8 h rfl rfl (by decide +kernel) ?_
            refine pw_iload (i := 7) rfl (by decide +kernel) ?_
            refine pn_iadd (8 * h) i rfl rfl (by decide +kernel) ?_
            refine pq_istore (i := 8) (Nat.le_of_ble_eq_true rfl) rfl (by decide +kernel) ?_
            refine pw_iload (i := 8) rfl (by decide +kernel) ?_
            refine pw_aload_n (k4 := 0) rfl (by decide +kernel) ?_
            refine pq_getI (c := 11) (k := 13) (ks_m hA) (by decide) (by decide) lf_Mo_262 (by decide +kernel) ?_
            refine pn_val (nI (ns)) hm.2.2.1 ?_
            refine pn_icmp_ge (off := 29) (tgt := 89) ((8 * h) + i) ns rfl rfl (by omega) (by omega) (by decide +kernel) (by decide +kernel) (fun z60 => ?_) (fun z60 => ?_)
            · refine pw_iconst (n := 0) (v := 0) (by decide) (by decide +kernel) ?_
              refine pn_val (nI (w8 wt h i)) ((if_neg (fun q => absurd q.1 (by omega))).symm.trans (hc (8 * h + i) (by omega))) ?_
              refine pq_istore (i := 9) (Nat.le_of_ble_eq_true rfl) rfl (by decide +kernel) ?_
              refine pw_iload (i := 9) rfl (by decide +kernel) ?_
              refine pn_if_ne (off := 7) (tgt := 101) (w8 wt h i) rfl (by omega) (by decide +kernel) (by decide +kernel) (fun z94 => ?_) (fun z94 => ?_)
              · refine pw_iload (i := 5) rfl (by decide +kernel) ?_
                refine pw_iload (i := 9) rfl (by decide +kernel) ?_
                refine pn_iadd (sumB (w8 wt h) set i) (w8 wt h i) rfl rfl (by decide +kernel) ?_
                refine pq_istore (i := 5) (Nat.le_of_ble_eq_true rfl) rfl (by decide +kernel) ?_
                refine pn_iinc (i := 6) (n := 1) 1 (cntB set i) rfl rfl (by decide) rfl (by decide +kernel) ?_
                refine pn_iinc (i := 7) (n := 1) 1 i rfl rfl (by decide) rfl (by decide +kernel) ?_
                refine pw_goto (off := -94) (tgt := 20) (by decide +kernel) (by decide +kernel) ?_
                have w := ih hi8 (okB_y hok (fun _ => z94))
                rw [sumB_y hbt, cntB_y hbt] at w
                exact pw_forget [8, 9] w
              · refine pw_iconst (n := -1) (v := -1) (by decide) (by decide +kernel) ?_
                refine pw_goto (off := 8) (tgt := 106) (by decide +kernel) (by decide +kernel) ?_
                refine pq_istore (i := 5) (Nat.le_of_ble_eq_true rfl) rfl (by decide +kernel) ?_
                refine pn_iinc (i := 6) (n := 1) 1 (cntB set i) rfl rfl (by decide) rfl (by decide +kernel) ?_
                refine pn_iinc (i := 7) (n := 1) 1 i rfl rfl (by decide) rfl (by decide +kernel) ?_
                refine pw_goto (off := -94) (tgt := 20) (by decide +kernel) (by decide +kernel) ?_
                exact pw_forget [8, 9] (hB hs2 nx f g hf hg (fun q => q i hi8 hbt (Decidable.not_not.mp z94)) (i + 1) (by omega) (nI (cntB set i + 1)))
            · refine pw_aload_n (k4 := 0) rfl (by decide +kernel) ?_
              refine pq_getP (c := 11) (k := 56) (ks_m hA) (by decide) (by decide) (kp_m_whose hA) lf_Mo_100 (by decide +kernel) ?_
              refine pw_bipush (n := 16) (v := 16) (by decide) (by decide +kernel) ?_
              refine pw_iload_n (k4 := 1) rfl (by decide +kernel) ?_
              refine pn_imul 16 b rfl rfl (by decide +kernel) ?_
              refine pw_iload (i := 8) rfl (by decide +kernel) ?_
              refine pn_iadd (16 * b) ((8 * h) + i) rfl rfl (by decide +kernel) ?_
              refine pq_iald ((16 * b) + ((8 * h) + i)) rfl (by omega) (by decide) (ks_m_whose hA) (by decide +kernel) ?_
              refine pw_iload_n (k4 := 2) rfl (by decide +kernel) ?_
              refine pw_icmp_ne (off := 13) (tgt := 89) (by decide +kernel) (by decide +kernel) (fun z76 => ?_) (fun z76 => ?_)
              · refine pw_iconst (n := 0) (v := 0) (by decide) (by decide +kernel) ?_
                refine pn_val (nI (w8 wt h i)) ((if_neg (fun q => z76 q.2)).symm.trans (hc (8 * h + i) (by omega))) ?_
                refine pq_istore (i := 9) (Nat.le_of_ble_eq_true rfl) rfl (by decide +kernel) ?_
                refine pw_iload (i := 9) rfl (by decide +kernel) ?_
                refine pn_if_ne (off := 7) (tgt := 101) (w8 wt h i) rfl (by omega) (by decide +kernel) (by decide +kernel) (fun z94 => ?_) (fun z94 => ?_)
                · refine pw_iload (i := 5) rfl (by decide +kernel) ?_
                  refine pw_iload (i := 9) rfl (by decide +kernel) ?_
                  refine pn_iadd (sumB (w8 wt h) set i) (w8 wt h i) rfl rfl (by decide +kernel) ?_
                  refine pq_istore (i := 5) (Nat.le_of_ble_eq_true rfl) rfl (by decide +kernel) ?_
                  refine pn_iinc (i := 6) (n := 1) 1 (cntB set i) rfl rfl (by decide) rfl (by decide +kernel) ?_
                  refine pn_iinc (i := 7) (n := 1) 1 i rfl rfl (by decide) rfl (by decide +kernel) ?_
                  refine pw_goto (off := -94) (tgt := 20) (by decide +kernel) (by decide +kernel) ?_
                  have w := ih hi8 (okB_y hok (fun _ => z94))
                  rw [sumB_y hbt, cntB_y hbt] at w
                  exact pw_forget [8, 9] w
                · refine pw_iconst (n := -1) (v := -1) (by decide) (by decide +kernel) ?_
                  refine pw_goto (off := 8) (tgt := 106) (by decide +kernel) (by decide +kernel) ?_
                  refine pq_istore (i := 5) (Nat.le_of_ble_eq_true rfl) rfl (by decide +kernel) ?_
                  refine pn_iinc (i := 6) (n := 1) 1 (cntB set i) rfl rfl (by decide) rfl (by decide +kernel) ?_
                  refine pn_iinc (i := 7) (n := 1) 1 i rfl rfl (by decide) rfl (by decide +kernel) ?_
                  refine pw_goto (off := -94) (tgt := 20) (by decide +kernel) (by decide +kernel) ?_
                  exact pw_forget [8, 9] (hB hs2 nx f g hf hg (fun q => q i hi8 hbt (Decidable.not_not.mp z94)) (i + 1) (by omega) (nI (cntB set i + 1)))
              · refine pw_aload_n (k4 := 0) rfl (by decide +kernel) ?_
                refine pq_getP (c := 11) (k := 67) (ks_m hA) (by decide) (by decide) (kp_m_change1 hA) lf_Mo_121 (by decide +kernel) ?_
                refine pw_iload (i := 8) rfl (by decide +kernel) ?_
                refine pq_iald ((8 * h) + i) rfl (by omega) (by decide) (ks_m_change1 hA) (by decide +kernel) ?_
                refine pn_val (nI (w8 wt h i)) ((if_pos ⟨by omega, z76⟩).symm.trans (hc (8 * h + i) (by omega))) ?_
                refine pw_goto (off := 4) (tgt := 90) (by decide +kernel) (by decide +kernel) ?_
                refine pq_istore (i := 9) (Nat.le_of_ble_eq_true rfl) rfl (by decide +kernel) ?_
                refine pw_iload (i := 9) rfl (by decide +kernel) ?_
                refine pn_if_ne (off := 7) (tgt := 101) (w8 wt h i) rfl (by omega) (by decide +kernel) (by decide +kernel) (fun z94 => ?_) (fun z94 => ?_)
                · refine pw_iload (i := 5) rfl (by decide +kernel) ?_
                  refine pw_iload (i := 9) rfl (by decide +kernel) ?_
                  refine pn_iadd (sumB (w8 wt h) set i) (w8 wt h i) rfl rfl (by decide +kernel) ?_
                  refine pq_istore (i := 5) (Nat.le_of_ble_eq_true rfl) rfl (by decide +kernel) ?_
                  refine pn_iinc (i := 6) (n := 1) 1 (cntB set i) rfl rfl (by decide) rfl (by decide +kernel) ?_
                  refine pn_iinc (i := 7) (n := 1) 1 i rfl rfl (by decide) rfl (by decide +kernel) ?_
                  refine pw_goto (off := -94) (tgt := 20) (by decide +kernel) (by decide +kernel) ?_
                  have w := ih hi8 (okB_y hok (fun _ => z94))
                  rw [sumB_y hbt, cntB_y hbt] at w
                  exact pw_forget [8, 9] w
                · refine pw_iconst (n := -1) (v := -1) (by decide) (by decide +kernel) ?_
                  refine pw_goto (off := 8) (tgt := 106) (by decide +kernel) (by decide +kernel) ?_
                  refine pq_istore (i := 5) (Nat.le_of_ble_eq_true rfl) rfl (by decide +kernel) ?_
                  refine pn_iinc (i := 6) (n := 1) 1 (cntB set i) rfl rfl (by decide) rfl (by decide +kernel) ?_
                  refine pn_iinc (i := 7) (n := 1) 1 i rfl rfl (by decide) rfl (by decide +kernel) ?_
                  refine pw_goto (off := -94) (tgt := 20) (by decide +kernel) (by decide +kernel) ?_
                  exact pw_forget [8, 9] (hB hs2 nx f g hf hg (fun q => q i hi8 hbt (Decidable.not_not.mp z94)) (i + 1) (by omega) (nI (cntB set i + 1)))
          · have hbt : ¬ set.testBit i = true := fun q => z39 ((nbit_1 (show set < 2 ^ 31 by omega) (show i < 31 by omega)).mpr q)
            refine pw_goto (off := 69) (tgt := 111) (by decide +kernel) (by decide +kernel) ?_
            refine pn_iinc (i := 7) (n := 1) 1 i rfl rfl (by decide) rfl (by decide +kernel) ?_
            refine pw_goto (off := -94) (tgt := 20) (by decide +kernel) (by decide +kernel) ?_
            have w := ih hi8 (okB_y hok (fun q => absurd q hbt))
            rw [sumB_n hbt, cntB_n hbt] at w
            exact w
    intro f g hf hg
    refine pw_iload (i := 4) rfl (by decide +kernel) ?_
    refine pw_sipush (n := 256) (v := 256) (by decide) (by decide +kernel) ?_
    refine pn_icmp_ge (off := 145) (tgt := 153) set 256 rfl rfl (by omega) (by omega) (by decide +kernel) (by decide +kernel) (fun z8 => ?_) (fun z8 => ?_)
    · obtain rfl : set = 256 := by omega
      exact pq_vret rfl (by decide +kernel) ⟨rfl, f, g, rfl, hf, hg⟩
    · refine pw_iconst (n := 0) (v := 0) (by decide) (by decide +kernel) ?_
      refine pq_istore (i := 5) (Nat.le_of_ble_eq_true rfl) rfl (by decide +kernel) ?_
      refine pw_iconst (n := 0) (v := 0) (by decide) (by decide +kernel) ?_
      refine pq_istore (i := 6) (Nat.le_of_ble_eq_true rfl) rfl (by decide +kernel) ?_
      refine pw_iconst (n := 0) (v := 0) (by decide) (by decide +kernel) ?_
      refine pq_istore (i := 7) (Nat.le_of_ble_eq_true rfl) rfl (by decide +kernel) ?_
      exact hA2 (by omega) (fun f g hf hg => ih (by omega) f g hf hg) f g hf hg 0 (by omega) (fun i hi => absurd hi (Nat.not_lt_zero _)))
  refine pw_iconst (n := 0) (v := 0) (by decide) (by decide +kernel) ?_
  refine pq_istore (i := 4) (Nat.le_of_ble_eq_true rfl) rfl (by decide +kernel) ?_
  have w := h3 0 (Nat.zero_le _) (I 168) (I 169) (fun _ _ => ⟨rfl, rfl⟩) (fun s2 h2 => absurd h2 (Nat.not_lt_zero _))
  rw [show aU (aU I 168 (I 168)) 169 (I 169) = I from by rw [aU_self, aU_self]] at w
  exact w
