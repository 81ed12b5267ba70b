/-! ===== the reference: mint ===== -/
/-- s is a sum of at most k coins of the sizes in set (c: what a size's coin is worth) -/
def mkB (c : Nat → Nat) (set : Nat) : Nat → Nat → Prop
  | 0, s => s = 0
  | k + 1, s => mkB c set k s ∨ ∃ i, i < 10 ∧ set.testBit i = true ∧ ¬ c (i + 1) = 0 ∧ c (i + 1) ≤ s ∧ mkB c set k (s - c (i + 1))
theorem mkB_mono {c : Nat → Nat} {set k s : Nat} (h : mkB c set k s) : ∀ j, k ≤ j → mkB c set j s := by
  intro j hj
  induction j with
  | zero => obtain rfl : k = 0 := by omega
            exact h
  | succ j ih =>
    rcases Nat.lt_or_ge j k with q | q
    · obtain rfl : k = j + 1 := by omega
      exact h
    · exact Or.inl (ih q)
theorem mkB_zero {c : Nat → Nat} {set : Nat} (k : Nat) : mkB c set k 0 := mkB_mono (k := 0) rfl k (Nat.zero_le _)
theorem mkB_pos {c : Nat → Nat} {set : Nat} : ∀ {k s : Nat}, 1 ≤ s → mkB c set k s → ∃ i, i < 10 ∧ set.testBit i = true ∧ ¬ c (i + 1) = 0 ∧ c (i + 1) ≤ s ∧ 1 ≤ k ∧ mkB c set (k - 1) (s - c (i + 1))
  | 0, s, hs, h => by have : s = 0 := h; omega
  | k + 1, s, hs, h => by
    rcases h with h | ⟨i, h1, h2, h3, h4, h5⟩
    · obtain ⟨i, h1, h2, h3, h4, h5, h6⟩ := mkB_pos hs h
      exact ⟨i, h1, h2, h3, h4, by omega, mkB_mono h6 _ (by omega)⟩
    · exact ⟨i, h1, h2, h3, h4, by omega, h5⟩
/-- the least number of coins, the first n sizes looked at -/
def mfw (c F : Nat → Nat) (set sum : Nat) : Nat → Nat
  | 0 => 99
  | n + 1 => if set.testBit n = true ∧ ¬ c (n + 1) = 0 ∧ c (n + 1) ≤ sum ∧ F (sum - c (n + 1)) + 1 < mfw c F set sum n then F (sum - c (n + 1)) + 1 else mfw c F set sum n
theorem mfw_le (c F : Nat → Nat) (set sum : Nat) : ∀ n, mfw c F set sum n ≤ 99
  | 0 => Nat.le_refl _
  | n + 1 => by
    have := mfw_le c F set sum n
    unfold mfw
    split <;> omega
theorem mfw_is (c F : Nat → Nat) (set sum : Nat) : ∀ n, mfw c F set sum n = 99 ∨ ∃ i, i < n ∧ set.testBit i = true ∧ ¬ c (i + 1) = 0 ∧ c (i + 1) ≤ sum ∧ mfw c F set sum n = F (sum - c (i + 1)) + 1
  | 0 => Or.inl rfl
  | n + 1 => by
    unfold mfw
    split
    · rename_i h; exact Or.inr ⟨n, by omega, h.1, h.2.1, h.2.2.1, rfl⟩
    · rcases mfw_is c F set sum n with h | ⟨i, h1, h2⟩
      · exact Or.inl h
      · exact Or.inr ⟨i, by omega, h2⟩
theorem mfw_min (c F : Nat → Nat) (set sum : Nat) : ∀ n i, i < n → set.testBit i = true → ¬ c (i + 1) = 0 → c (i + 1) ≤ sum → mfw c F set sum n ≤ F (sum - c (i + 1)) + 1
  | 0, i, hi, _, _, _ => absurd hi (Nat.not_lt_zero _)
  | n + 1, i, hi, h1, h2, h3 => by
    unfold mfw
    by_cases e : i = n
    · subst e
      split
      · exact Nat.le_refl _
      · rename_i h
        have : ¬ F (sum - c (i + 1)) + 1 < mfw c F set sum i := fun w => h ⟨h1, h2, h3, w⟩
        omega
    · have ih := mfw_min c F set sum n i (by omega) h1 h2 h3
      split <;> omega
/-- what the row holds below x -/
def fwOK (c F : Nat → Nat) (set k x : Nat) : Prop := ∀ s, s < x → F s ≤ k ∧ ∀ j, mkB c set j s ↔ F s ≤ j
theorem fw_iff {c F : Nat → Nat} {set k sum : Nat} (h : fwOK c F set k sum) (hs : 1 ≤ sum) (j : Nat) (hj : j < 99) : mkB c set j sum ↔ mfw c F set sum 10 ≤ j := by
  constructor
  · intro hm
    obtain ⟨i, h1, h2, h3, h4, h5, h6⟩ := mkB_pos hs hm
    have h7 := ((h (sum - c (i + 1)) (by omega)).2 (j - 1)).mp h6
    have h8 := mfw_min c F set sum 10 i h1 h2 h3 h4
    omega
  · intro hm
    rcases mfw_is c F set sum 10 with h1 | ⟨i, h1, h2, h3, h4, h5⟩
    · omega
    · have h6 := ((h (sum - c (i + 1)) (by omega)).2 (j - 1)).mpr (by omega)
      obtain ⟨j, rfl⟩ : ∃ j2, j = j2 + 1 := ⟨j - 1, by omega⟩
      exact Or.inr ⟨i, h1, h2, h3, h4, h6⟩
abbrev mOKn (c : Nat → Nat) (set n k : Nat) : Prop := ∀ s, 1 ≤ s → s ≤ n → mkB c set k s
def rMt (I : Nat → Nat → Int32) (L : Nat → Nat → Int64) (P : Nat → Nat → Option Nat) (ok : Prop) : Option Value → pM → Prop := fun r M => ∃ v f, r = some (.int v) ∧ M = (aU I 172 f, L, P) ∧ ((v = 1 ∧ ok) ∨ (v = 0 ∧ ¬ ok))

theorem ct_Mo_isMinted {sh : List pSh} {I : Nat → Nat → Int32} {L : Nat → Nat → Int64} {P : Nat → Nat → Option Nat} (hA : kA sh P) {set n k : Nat} (hset : set < 1024) (hn : n ≤ 40) (hk5 : k ≤ 5) {c : Nat → Nat} (hc9 : ∀ s, s < 11 → c s ≤ 999) (hc : ∀ s, 1 ≤ s → s < 11 → I 171 s = nI (c s)) : pCn m_Mo_isMinted 1 [.ref 134, .int (nI set), .int (nI n), .int (nI k)] sh (I, L, P) (rMt I L P (mOKn c set n k)) := by
  refine pCn_of (by decide +kernel) (Nat.le_of_ble_eq_true rfl) ?_
  have hL := pUpTo n (fun x => ∀ (F : Nat → Nat) (f : Nat → Int32), fwOK c F set k (x + 1) → (∀ s, s < x + 1 → f s = nI (F s)) → pWn m_Mo_isMinted 1 sh (rMt I L P (mOKn c set n k)) 10 [some (.ref 134), some (.int (nI set)), some (.int (nI n)), some (.int (nI k)), some (.int (nI (x + 1))), none, none] [] (aU I 172 f, L, P)) (by
    intro x hx ihO F f hW hf
    have hIn : x < n → ∀ i, i ≤ 10 → pWn m_Mo_isMinted 1 sh (rMt I L P (mOKn c set n k)) 23 [some (.ref 134), some (.int (nI set)), some (.int (nI n)), some (.int (nI k)), some (.int (nI (x + 1))), some (.int (nI (mfw c F set (x + 1) i))), some (.int (nI (i + 1)))] [] (aU I 172 f, L, P) := fun hxn => pUpTo 10 _ (by
      intro i hi ih
      have hm9 := mfw_le c F set (x + 1) i
      refine pw_iload (i := 6) rfl (by decide +kernel) ?_
      refine pw_bipush (n := 11) (v := 11) (by decide) (by decide +kernel) ?_
      refine pn_icmp_ge (off := 91) (tgt := 118) (i + 1) 11 rfl rfl (by omega) (by omega) (by decide +kernel) (by decide +kernel) (fun z27 => ?_) (fun z27 => ?_)
      · obtain rfl : i = 10 := by omega
        refine pw_iload (i := 5) rfl (by decide +kernel) ?_
        refine pw_iload_n (k4 := 3) rfl (by decide +kernel) ?_
        refine pn_icmp_le (off := 5) (tgt := 126) (mfw c F set (x + 1) 10) k rfl rfl (by omega) (by omega) (by decide +kernel) (by decide +kernel) (fun z121 => ?_) (fun z121 => ?_)
        · refine pw_aload_n (k4 := 0) rfl (by decide +kernel) ?_
          refine pq_getP (c := 11) (k := 69) (ks_m hA) (by decide) (by decide) (kp_m_fewest hA) lf_Mo_127 (by decide +kernel) ?_
          refine pw_iload (i := 4) rfl (by decide +kernel) ?_
          refine pw_iload (i := 5) rfl (by decide +kernel) ?_
          refine pq_iast (x + 1) rfl (by omega) (by decide) (ks_m_fewest hA) (by decide +kernel) ?_
          refine pn_iinc (i := 4) (n := 1) 1 (x + 1) rfl rfl (by decide) rfl (by decide +kernel) ?_
          refine pw_goto (off := -128) (tgt := 10) (by decide +kernel) (by decide +kernel) ?_
          refine pw_forget [5, 6] ?_
          rw [sI_aU2]
          refine ihO (by omega) (fun s => if s = x + 1 then mfw c F set (x + 1) 10 else F s) _ (fun s hs => ?_) (fun s hs => ?_)
          · dsimp only
            by_cases qe : s = x + 1
            · subst qe
              rw [if_pos rfl]
              refine ⟨z121, fun j => ?_⟩
              rcases Nat.lt_or_ge j 99 with q | q
              · exact fw_iff hW (by omega) j q
              · have h9 := mfw_le c F set (x + 1) 10
                exact ⟨fun _ => by omega, fun _ => mkB_mono ((fw_iff hW (by omega) k (by omega)).mpr z121) j (by omega)⟩
            · rw [if_neg qe]; exact hW s (by omega)
          · unfold upd
            by_cases qe : s = x + 1
            · rw [if_pos qe, if_pos qe]
            · rw [if_neg qe, if_neg qe]; exact hf s (by omega)
        · refine pw_iconst (n := 0) (v := 0) (by decide) (by decide +kernel) ?_
          exact pq_zret rfl (by decide) (by decide +kernel) ⟨0, f, rfl, rfl, Or.inr ⟨rfl, fun w => z121 ((fw_iff hW (by omega) k (by omega)).mp (w (x + 1) (by omega) (by omega)))⟩⟩
      · have hi10 : i < 10 := by omega
        have hci : aU I 172 f 171 (i + 1) = nI (c (i + 1)) := hc (i + 1) (by omega) (by omega)
        have hcb := hc9 (i + 1) (by omega)
        refine pw_iload_n (k4 := 1) rfl (by decide +kernel) ?_
        refine pw_iload (i := 6) rfl (by decide +kernel) ?_
        refine pw_iconst (n := 1) (v := 1) (by decide) (by decide +kernel) ?_
        refine pn_isub (i + 1) 1 rfl rfl (by omega) (by decide +kernel) ?_
        refine pq_callS (ν := m_Mo_isOf) (d' := 0) (av := [_, _]) (by decide +kernel) lm_Mo_457 ok_Mo_isOf (show _ = some 2 by decide +kernel) (by omega) (Nat.le_of_ble_eq_true rfl) (ct_Mo_isOf _ _) ?_
        rintro _ _ ⟨rfl, rfl⟩
        refine pn_ifB_eq (off := 74) (tgt := 112) (by decide +kernel) (by decide +kernel) (fun z38 => ?_) (fun z38 => ?_)
        · have hbt : ¬ set.testBit i = true := fun q => z38 ((nbit_1 (show set < 2 ^ 31 by omega) (show i < 31 by omega)).mpr q)
          refine pn_iinc (i := 6) (n := 1) 1 (i + 1) rfl rfl (by decide) rfl (by decide +kernel) ?_
          refine pw_goto (off := -92) (tgt := 23) (by decide +kernel) (by decide +kernel) ?_
          have w := ih hi10
          rw [show mfw c F set (x + 1) (i + 1) = _ from if_neg (fun w => hbt w.1)] at w
          exact w
        · have hbt := (nbit_1 (show set < 2 ^ 31 by omega) (show i < 31 by omega)).mp z38
          refine pw_aload_n (k4 := 0) rfl (by decide +kernel) ?_
          refine pq_getP (c := 11) (k := 68) (ks_m hA) (by decide) (by decide) (kp_m_coin hA) lf_Mo_124 (by decide +kernel) ?_
          refine pw_iload (i := 6) rfl (by decide +kernel) ?_
          refine pq_iald (i + 1) rfl (by omega) (by decide) (ks_m_coin hA) (by decide +kernel) ?_
          refine pn_val (nI (c (i + 1))) hci ?_
          refine pn_if_eq (off := 64) (tgt := 112) (c (i + 1)) rfl (by omega) (by decide +kernel) (by decide +kernel) (fun z48 => ?_) (fun z48 => ?_)
          · refine pn_iinc (i := 6) (n := 1) 1 (i + 1) rfl rfl (by decide) rfl (by decide +kernel) ?_
            refine pw_goto (off := -92) (tgt := 23) (by decide +kernel) (by decide +kernel) ?_
            have w := ih hi10
            rw [show mfw c F set (x + 1) (i + 1) = _ from if_neg (fun w => w.2.1 z48)] at w
            exact w
          · refine pw_aload_n (k4 := 0) rfl (by decide +kernel) ?_
            refine pq_getP (c := 11) (k := 68) (ks_m hA) (by decide) (by decide) (kp_m_coin hA) lf_Mo_124 (by decide +kernel) ?_
            refine pw_iload (i := 6) rfl (by decide +kernel) ?_
            refine pq_iald (i + 1) rfl (by omega) (by decide) (ks_m_coin hA) (by decide +kernel) ?_
            refine pn_val (nI (c (i + 1))) hci ?_
            refine pw_iload (i := 4) rfl (by decide +kernel) ?_
            refine pn_icmp_le (off := 6) (tgt := 66) (c (i + 1)) (x + 1) rfl rfl (by omega) (by omega) (by decide +kernel) (by decide +kernel) (fun z60 => ?_) (fun z60 => ?_)
            · have hFb := (hW (x + 1 - c (i + 1)) (by omega)).1
              refine pw_aload_n (k4 := 0) rfl (by decide +kernel) ?_
              refine pq_getP (c := 11) (k := 69) (ks_m hA) (by decide) (by decide) (kp_m_fewest hA) lf_Mo_127 (by decide +kernel) ?_
              refine pw_iload (i := 4) rfl (by decide +kernel) ?_
              refine pw_aload_n (k4 := 0) rfl (by decide +kernel) ?_
              refine pq_getP (c := 11) (k := 68) (ks_m hA) (by decide) (by decide) (kp_m_coin hA) lf_Mo_124 (by decide +kernel) ?_
              refine pw_iload (i := 6) rfl (by decide +kernel) ?_
              refine pq_iald (i + 1) rfl (by omega) (by decide) (ks_m_coin hA) (by decide +kernel) ?_
              refine pn_val (nI (c (i + 1))) hci ?_
              refine pn_isub (x + 1) (c (i + 1)) rfl rfl (by omega) (by decide +kernel) ?_
              refine pq_iald ((x + 1) - (c (i + 1))) rfl (by omega) (by decide) (ks_m_fewest hA) (by decide +kernel) ?_
              refine pn_val (nI (F (x + 1 - c (i + 1)))) (by rw [aU_eq]; exact hf _ (by omega)) ?_
              refine pw_iconst (n := 1) (v := 1) (by decide) (by decide +kernel) ?_
              refine pn_iadd (F (x + 1 - c (i + 1))) 1 rfl rfl (by decide +kernel) ?_
              refine pw_iload (i := 5) rfl (by decide +kernel) ?_
              refine pn_icmp_ge (off := 23) (tgt := 108) ((F (x + 1 - c (i + 1))) + 1) (mfw c F set (x + 1) i) rfl rfl (by omega) (by omega) (by decide +kernel) (by decide +kernel) (fun z85 => ?_) (fun z85 => ?_)
              · refine pw_iload (i := 5) rfl (by decide +kernel) ?_
                refine pq_istore (i := 5) (Nat.le_of_ble_eq_true rfl) rfl (by decide +kernel) ?_
                refine pn_iinc (i := 6) (n := 1) 1 (i + 1) rfl rfl (by decide) rfl (by decide +kernel) ?_
                refine pw_goto (off := -92) (tgt := 23) (by decide +kernel) (by decide +kernel) ?_
                have w := ih hi10
                rw [show mfw c F set (x + 1) (i + 1) = _ from if_neg (fun w => by have := w.2.2.2; omega)] at w
                exact w
              · refine pw_aload_n (k4 := 0) rfl (by decide +kernel) ?_
                refine pq_getP (c := 11) (k := 69) (ks_m hA) (by decide) (by decide) (kp_m_fewest hA) lf_Mo_127 (by decide +kernel) ?_
                refine pw_iload (i := 4) rfl (by decide +kernel) ?_
                refine pw_aload_n (k4 := 0) rfl (by decide +kernel) ?_
                refine pq_getP (c := 11) (k := 68) (ks_m hA) (by decide) (by decide) (kp_m_coin hA) lf_Mo_124 (by decide +kernel) ?_
                refine pw_iload (i := 6) rfl (by decide +kernel) ?_
                refine pq_iald (i + 1) rfl (by omega) (by decide) (ks_m_coin hA) (by decide +kernel) ?_
                refine pn_val (nI (c (i + 1))) hci ?_
                refine pn_isub (x + 1) (c (i + 1)) rfl rfl (by omega) (by decide +kernel) ?_
                refine pq_iald ((x + 1) - (c (i + 1))) rfl (by omega) (by decide) (ks_m_fewest hA) (by decide +kernel) ?_
                refine pn_val (nI (F (x + 1 - c (i + 1)))) (by rw [aU_eq]; exact hf _ (by omega)) ?_
                refine pw_iconst (n := 1) (v := 1) (by decide) (by decide +kernel) ?_
                refine pn_iadd (F (x + 1 - c (i + 1))) 1 rfl rfl (by decide +kernel) ?_
                refine pw_goto (off := 5) (tgt := 110) (by decide +kernel) (by decide +kernel) ?_
                refine pq_istore (i := 5) (Nat.le_of_ble_eq_true rfl) rfl (by decide +kernel) ?_
                refine pn_iinc (i := 6) (n := 1) 1 (i + 1) rfl rfl (by decide) rfl (by decide +kernel) ?_
                refine pw_goto (off := -92) (tgt := 23) (by decide +kernel) (by decide +kernel) ?_
                have w := ih hi10
                rw [show mfw c F set (x + 1) (i + 1) = _ from if_pos ⟨hbt, z48, z60, by omega⟩] at w
                exact w
            · refine pw_goto (off := 49) (tgt := 112) (by decide +kernel) (by decide +kernel) ?_
              refine pn_iinc (i := 6) (n := 1) 1 (i + 1) rfl rfl (by decide) rfl (by decide +kernel) ?_
              refine pw_goto (off := -92) (tgt := 23) (by decide +kernel) (by decide +kernel) ?_
              have w := ih hi10
              rw [show mfw c F set (x + 1) (i + 1) = _ from if_neg (fun w => z60 w.2.2.1)] at w
              exact w
)
    refine pw_iload (i := 4) rfl (by decide +kernel) ?_
    refine pw_iload_n (k4 := 2) rfl (by decide +kernel) ?_
    refine pn_icmp_gt (off := 128) (tgt := 141) (x + 1) n rfl rfl (by omega) (by omega) (by decide +kernel) (by decide +kernel) (fun z13 => ?_) (fun z13 => ?_)
    · obtain rfl : x = n := by omega
      refine pw_iconst (n := 1) (v := 1) (by decide) (by decide +kernel) ?_
      exact pq_zret rfl (by decide) (by decide +kernel) ⟨1, f, rfl, rfl, Or.inl ⟨rfl, fun s h1 h2 => ((hW s (by omega)).2 k).mpr (hW s (by omega)).1⟩⟩
    · refine pw_bipush (n := 99) (v := 99) (by decide) (by decide +kernel) ?_
      refine pq_istore (i := 5) (Nat.le_of_ble_eq_true rfl) rfl (by decide +kernel) ?_
      refine pw_iconst (n := 1) (v := 1) (by decide) (by decide +kernel) ?_
      refine pq_istore (i := 6) (Nat.le_of_ble_eq_true rfl) rfl (by decide +kernel) ?_
      exact hIn (by omega) 0 (Nat.zero_le _)
)
  refine pw_aload_n (k4 := 0) rfl (by decide +kernel) ?_
  refine pq_getP (c := 11) (k := 69) (ks_m hA) (by decide) (by decide) (kp_m_fewest hA) lf_Mo_127 (by decide +kernel) ?_
  refine pw_iconst (n := 0) (v := 0) (by decide) (by decide +kernel) ?_
  refine pw_iconst (n := 0) (v := 0) (by decide) (by decide +kernel) ?_
  refine pq_iast 0 rfl (by omega) (by decide) (ks_m_fewest hA) (by decide +kernel) ?_
  refine pw_iconst (n := 1) (v := 1) (by decide) (by decide +kernel) ?_
  refine pq_istore (i := 4) (Nat.le_of_ble_eq_true rfl) rfl (by decide +kernel) ?_
  rw [sI_aU]
  exact hL 0 (Nat.zero_le _) (fun _ => 0) _ (fun s hs => ⟨Nat.zero_le _, fun j => by obtain rfl : s = 0 := (by omega); exact ⟨fun _ => Nat.zero_le _, fun _ => mkB_zero j⟩⟩) (fun s hs => by obtain rfl : s = 0 := (by omega); exact if_pos rfl)

theorem cnt_bit (b k : Nat) : b / 2 ^ k % 2 = if b.testBit k then 1 else 0 := by
  rw [Nat.testBit_eq_decide_div_mod_eq]
  by_cases h : b / 2 ^ k % 2 = 1
  · rw [h]; rfl
  · rw [if_neg (by rw [decide_eq_true_eq]; exact h)]; omega

theorem ct_Mo_manyOf {sh : List pSh} {I : Nat → Nat → Int32} {L : Nat → Nat → Int64} {P : Nat → Nat → Option Nat} {b : Nat} (hb : b < 2 ^ 31) : pCn m_Mo_manyOf 0 [.int (nI b)] sh (I, L, P) (rI (nI (cntB b 31)) (I, L, P)) := by
  refine pCn_of (by decide +kernel) (Nat.le_of_ble_eq_true rfl) ?_
  have hL := pUpTo 31 (fun k => pWn m_Mo_manyOf 0 sh (rI (nI (cntB b 31)) (I, L, P)) 4 [some (.int (nI b)), some (.int (nI (cntB b k))), some (.int (nI k))] [] (I, L, P)) (by
    intro k hk ih
    refine pw_iload_n (k4 := 2) rfl (by decide +kernel) ?_
    refine pw_bipush (n := 31) (v := 31) (by decide) (by decide +kernel) ?_
    refine pn_icmp_ge (off := 17) (tgt := 24) k 31 rfl rfl (by omega) (by omega) (by decide +kernel) (by decide +kernel) (fun z7 => ?_) (fun z7 => ?_)
    · obtain rfl : k = 31 := by omega
      refine pw_iload_n (k4 := 1) rfl (by decide +kernel) ?_
      exact pq_iret rfl (by decide +kernel) ⟨rfl, rfl⟩
    · refine pw_iload_n (k4 := 1) rfl (by decide +kernel) ?_
      refine pw_iload_n (k4 := 0) rfl (by decide +kernel) ?_
      refine pw_iload_n (k4 := 2) rfl (by decide +kernel) ?_
      refine pw_ishr (by decide +kernel) ?_
      refine pw_iconst (n := 1) (v := 1) (by decide) (by decide +kernel) ?_
      refine pw_iand (by decide +kernel) ?_
      refine pw_iadd (by decide +kernel) ?_
      refine pq_istore_n (k4 := 1) (Nat.le_of_ble_eq_true rfl) rfl (by decide +kernel) ?_
      refine pn_iinc (i := 2) (n := 1) 1 k rfl rfl (by decide) rfl (by decide +kernel) ?_
      refine pw_goto (off := -17) (tgt := 4) (by decide +kernel) (by decide +kernel) ?_
      have w := ih (by omega)
      rw [show cntB b (k + 1) = cntB b k + b / 2 ^ k % 2 from by rw [cnt_bit]; rfl] at w
      rw [nbit (by omega) (by omega), nI_add]
      exact w
)
  refine pw_iconst (n := 0) (v := 0) (by decide) (by decide +kernel) ?_
  refine pq_istore_n (k4 := 1) (Nat.le_of_ble_eq_true rfl) rfl (by decide +kernel) ?_
  refine pw_iconst (n := 0) (v := 0) (by decide) (by decide +kernel) ?_
  refine pq_istore_n (k4 := 2) (Nat.le_of_ble_eq_true rfl) rfl (by decide +kernel) ?_
  exact hL 0 (Nat.zero_le _)

/-- what a fresh left boot of a size is worth -/
def yCoin (I : Nat → Nat → Int32) (s : Nat) : Int32 := yBd I 0 (yNm (nI s).toInt64 0 1 0 0 (I 167 0).toInt64 0) (nI (2 * s)) 999
def cnN (I : Nat → Nat → Int32) (s : Nat) : Nat := ixn (yCoin I s)
theorem cnN_eq (I : Nat → Nat → Int32) {s : Nat} (hs : s ≤ 10) : yCoin I s = nI (cnN I s) ∧ cnN I s ≤ 999 := by
  obtain ⟨q, hq, e⟩ := yBd_in I 0 (yNm (nI s).toInt64 0 1 0 0 (I 167 0).toInt64 0) (w := 2 * s) (m := 999) (by omega) (by decide)
  unfold cnN
  rw [show yCoin I s = nI q from e, ixn_nI (by omega)]
  exact ⟨rfl, hq⟩
/-- the best set of sizes below x -/
def msf (ok : Nat → Prop) (x : Nat) (best : Int32) : Prop := (best = -2 ∧ ∀ b, 1 ≤ b → b < x → ¬ ok b) ∨ ∃ b, 1 ≤ b ∧ b < x ∧ best = nI b ∧ ok b ∧ ∀ b', 1 ≤ b' → b' < x → ok b' → cntB b 31 < cntB b' 31 ∨ (cntB b 31 = cntB b' 31 ∧ b ≤ b')
theorem msf_no {ok : Nat → Prop} {x : Nat} {best : Int32} (h : msf ok x best) (hn : ¬ ok x) : msf ok (x + 1) best := by
  rcases h with ⟨h1, h2⟩ | ⟨b, h0, h1, h2, h3, h4⟩
  · exact Or.inl ⟨h1, fun b hb hbx => by
      by_cases q : b = x
      · subst q; exact hn
      · exact h2 b hb (by omega)⟩
  · exact Or.inr ⟨b, h0, by omega, h2, h3, fun b' hb' hbx hk => by
      by_cases q : b' = x
      · subst q; exact absurd hk hn
      · exact h4 b' hb' (by omega) hk⟩
theorem msf_ge {ok : Nat → Prop} {x b : Nat} {best : Int32} (h : msf ok x best) (hx : x < 2 ^ 31) (hb : best = nI b) (hb2 : b < x) (hc : cntB b 31 ≤ cntB x 31) : msf ok (x + 1) best := by
  rcases h with ⟨h1, h2⟩ | ⟨d, h0, h1, h2, h3, h4⟩
  · rw [hb] at h1
    exact absurd (by rw [h1]; decide) (nI_pos (show b < 2 ^ 31 by omega))
  · have e : d = b := (nI_eq (by omega) (by omega)).mp (h2.symm.trans hb)
    subst e
    exact Or.inr ⟨d, h0, by omega, h2, h3, fun b' hb' hbx hk => by
      by_cases q : b' = x
      · subst q; omega
      · exact h4 b' hb' (by omega) hk⟩
theorem msf_new {ok : Nat → Prop} {x : Nat} {best : Int32} (h : msf ok x best) (hx1 : 1 ≤ x) (hx : x < 2 ^ 31) (hk : ok x) (hc : best < 0 ∨ ∃ b, best = nI b ∧ b < x ∧ cntB x 31 < cntB b 31) : msf ok (x + 1) (nI x) := by
  refine Or.inr ⟨x, hx1, by omega, rfl, hk, fun b' hb' hbx hk' => ?_⟩
  by_cases q : b' = x
  · subst q; exact Or.inr ⟨rfl, Nat.le_refl _⟩
  · left
    rcases h with ⟨h1, h2⟩ | ⟨d, h0, h1, h2, h3, h4⟩
    · exact absurd hk' (h2 b' hb' (by omega))
    · rcases hc with hc | ⟨b, hb, hbx2, hc⟩
      · rw [h2] at hc; exact absurd hc (nI_pos (show d < 2 ^ 31 by omega))
      · have e : d = b := (nI_eq (by omega) (by omega)).mp (h2.symm.trans hb)
        subst e
        have := h4 b' hb' (by omega) hk'
        omega
theorem msf_in {ok : Nat → Prop} {x : Nat} {best : Int32} (h : msf ok x best) : best = -2 ∨ ∃ b, b < x ∧ best = nI b := by
  rcases h with ⟨h1, _⟩ | ⟨b, _, h1, h2, _⟩
  · exact Or.inl h1
  · exact Or.inr ⟨b, h1, h2⟩
def rMtM (I : Nat → Nat → Int32) (P : Nat → Nat → Option Nat) (n k : Nat) : Option Value → pM → Prop := fun r M => ∃ v, r = some (.int v) ∧ msf (fun b => mOKn (cnN I) b n k) 1024 v ∧ ∃ I' L', M = (I', L', P) ∧ rep I' I
theorem rep_mt {I : Nat → Nat → Int32} {ev : Int32} {ck f : Nat → Int32} : rep (aU (aU (sI (sI I 134 2 0) 134 54 ev) 171 ck) 172 f) I := rep_scrA (rep_scrA rep_te (by decide) ck) (by decide) f

theorem chg_mem171 (I : Nat → Nat → Int32) (ev ev2 : Int32) (ck : Nat → Int32) (i : Nat) (x : Int32) : sI (sI (aU (sI (sI I 134 2 0) 134 54 ev) 171 ck) 134 54 ev2) 171 i x = aU (sI (sI I 134 2 0) 134 54 ev2) 171 (upd ck i x) := by
  rw [← aU_sI_c _ (show 171 ≠ 134 by decide), sI_sI, sI_aU2]
set_option maxHeartbeats 4000000 in
theorem ct_Mo_mint {sh : List pSh} {I : Nat → Nat → Int32} {L : Nat → Nat → Int64} {P : Nat → Nat → Option Nat} (hA : kA sh P) (hwf : wfL I) (n k : Int32) : pCn m_Mo_mint 4 [.ref 134, .int n, .int k] sh (I, L, P) (rIf ((1 ≤ n ∧ n ≤ 40) ∧ (1 ≤ k ∧ k ≤ 5)) (rMtM I P (ixn n) (ixn k)) (rA (-1) I P)) := by
  refine pCn_of (by decide +kernel) (Nat.le_of_ble_eq_true rfl) ?_
  have h120 : ∀ n k, ((1 ≤ nI n ∧ nI n ≤ 40) ∧ (1 ≤ nI k ∧ nI k ≤ 5)) → n ≤ 40 → k ≤ 5 → ∀ (ev : Int32) (ck : Nat → Int32) (L0 : Nat → Nat → Int64), (∀ s2, 1 ≤ s2 → s2 < 11 → ck s2 = nI (cnN I s2)) → ∀ x, x ≤ 1024 → 1 ≤ x → ∀ (f : Nat → Int32) (best : Int32), msf (fun b => mOKn (cnN I) b n k) x best → pWn m_Mo_mint 4 sh (rIf ((1 ≤ nI n ∧ nI n ≤ 40) ∧ (1 ≤ nI k ∧ nI k ≤ 5)) (rMtM I P (ixn (nI n)) (ixn (nI k))) (rA (-1) I P)) 120 [some (.ref 134), some (.int (nI n)), some (.int (nI k)), some (.int best), some (.int (nI x))] [] (aU (aU (sI (sI I 134 2 0) 134 54 ev) 171 ck) 172 f, L0, P) := fun n k hc hn4 hk5 ev ck L0 hck => pUpTo 1024 _ (by
    intro x hx ih hx1 f best hms
    replace ih := fun h => ih h (by omega)
    refine pw_iload (i := 4) rfl (by decide +kernel) ?_
    refine pw_sipush (n := 1024) (v := 1024) (by decide) (by decide +kernel) ?_
    refine pn_icmp_ge (off := 42) (tgt := 167) x 1024 rfl rfl (by omega) (by omega) (by decide +kernel) (by decide +kernel) (fun z125 => ?_) (fun z125 => ?_)
    · obtain rfl : x = 1024 := by omega
      refine pw_iload_n (k4 := 3) rfl (by decide +kernel) ?_
      exact pq_iret rfl (by decide +kernel) ⟨fun _ => ⟨best, rfl, by rw [ixn_nI (by omega), ixn_nI (by omega)]; exact hms, _, _, rfl, rep_mt⟩, fun h => absurd hc h⟩
    · refine pw_iload_n (k4 := 3) rfl (by decide +kernel) ?_
      refine pw_if_lt (off := 15) (tgt := 144) (by decide +kernel) (by decide +kernel) (fun z129 => ?_) (fun z129 => ?_)
      · refine pw_aload_n (k4 := 0) rfl (by decide +kernel) ?_
        refine pw_iload (i := 4) rfl (by decide +kernel) ?_
        refine pw_iload_n (k4 := 1) rfl (by decide +kernel) ?_
        refine pw_iload_n (k4 := 2) rfl (by decide +kernel) ?_
        refine pq_callV (ν := m_Mo_isMinted) (d' := 1) (av := [_, _, _]) (c := 11) (by decide +kernel) lm_Mo_487 ok_Mo_isMinted (show _ = some 3 by decide +kernel) (ks_m hA) rfl (by decide) (by omega) (Nat.le_of_ble_eq_true rfl) (ct_Mo_isMinted hA (set := x) (n := n) (k := k) (by omega) hn4 hk5 (c := cnN I) (fun s hs => (cnN_eq I (by omega)).2) (by exact hck)) ?_
        rintro _ _ ⟨v, f2, rfl, rfl, hv⟩
        refine pw_if_ne (off := 6) (tgt := 158) (by decide +kernel) (by decide +kernel) (fun z152 => ?_) (fun z152 => ?_)
        · obtain ⟨hv1, hok⟩ := hv.resolve_right (fun w => z152 w.1)
          refine pw_iload (i := 4) rfl (by decide +kernel) ?_
          refine pq_istore_n (k4 := 3) (Nat.le_of_ble_eq_true rfl) rfl (by decide +kernel) ?_
          refine pn_iinc (i := 4) (n := 1) 1 x rfl rfl (by decide) rfl (by decide +kernel) ?_
          refine pw_goto (off := -44) (tgt := 120) (by decide +kernel) (by decide +kernel) ?_
          rw [aU_aU]
          exact ih (by omega) f2 _ (msf_new hms (by omega) (by omega) hok (Or.inl z129))
        · obtain ⟨hv0, hno⟩ := hv.resolve_left (fun w => absurd (w.1.symm.trans z152) (by decide))
          refine pw_goto (off := 6) (tgt := 161) (by decide +kernel) (by decide +kernel) ?_
          refine pn_iinc (i := 4) (n := 1) 1 x rfl rfl (by decide) rfl (by decide +kernel) ?_
          refine pw_goto (off := -44) (tgt := 120) (by decide +kernel) (by decide +kernel) ?_
          rw [aU_aU]
          exact ih (by omega) f2 _ (msf_no hms hno)
      · obtain hb2 | ⟨b, hbx, rfl⟩ := msf_in hms
        · rw [hb2] at z129; exact absurd (by decide) z129
        have hcx := cntB_le x 31
        have hcb := cntB_le b 31
        refine pw_iload (i := 4) rfl (by decide +kernel) ?_
        refine pq_callS (ν := m_Mo_manyOf) (d' := 0) (av := [_]) (by decide +kernel) lm_Mo_484 ok_Mo_manyOf (show _ = some 1 by decide +kernel) (by omega) (Nat.le_of_ble_eq_true rfl) (ct_Mo_manyOf (b := x) (by omega)) ?_
        rintro _ _ ⟨rfl, rfl⟩
        refine pw_iload_n (k4 := 3) rfl (by decide +kernel) ?_
        refine pq_callS (ν := m_Mo_manyOf) (d' := 0) (av := [_]) (by decide +kernel) lm_Mo_484 ok_Mo_manyOf (show _ = some 1 by decide +kernel) (by omega) (Nat.le_of_ble_eq_true rfl) (ct_Mo_manyOf (b := b) (by omega)) ?_
        rintro _ _ ⟨rfl, rfl⟩
        refine pn_icmp_ge (off := 20) (tgt := 161) (cntB x 31) (cntB b 31) rfl rfl (by omega) (by omega) (by decide +kernel) (by decide +kernel) (fun z141 => ?_) (fun z141 => ?_)
        · refine pn_iinc (i := 4) (n := 1) 1 x rfl rfl (by decide) rfl (by decide +kernel) ?_
          refine pw_goto (off := -44) (tgt := 120) (by decide +kernel) (by decide +kernel) ?_
          exact ih (by omega) f _ (msf_ge hms (by omega) rfl hbx z141)
        · refine pw_aload_n (k4 := 0) rfl (by decide +kernel) ?_
          refine pw_iload (i := 4) rfl (by decide +kernel) ?_
          refine pw_iload_n (k4 := 1) rfl (by decide +kernel) ?_
          refine pw_iload_n (k4 := 2) rfl (by decide +kernel) ?_
          refine pq_callV (ν := m_Mo_isMinted) (d' := 1) (av := [_, _, _]) (c := 11) (by decide +kernel) lm_Mo_487 ok_Mo_isMinted (show _ = some 3 by decide +kernel) (ks_m hA) rfl (by decide) (by omega) (Nat.le_of_ble_eq_true rfl) (ct_Mo_isMinted hA (set := x) (n := n) (k := k) (by omega) hn4 hk5 (c := cnN I) (fun s hs => (cnN_eq I (by omega)).2) (by exact hck)) ?_
          rintro _ _ ⟨v, f2, rfl, rfl, hv⟩
          refine pw_if_ne (off := 6) (tgt := 158) (by decide +kernel) (by decide +kernel) (fun z152 => ?_) (fun z152 => ?_)
          · obtain ⟨hv1, hok⟩ := hv.resolve_right (fun w => z152 w.1)
            refine pw_iload (i := 4) rfl (by decide +kernel) ?_
            refine pq_istore_n (k4 := 3) (Nat.le_of_ble_eq_true rfl) rfl (by decide +kernel) ?_
            refine pn_iinc (i := 4) (n := 1) 1 x rfl rfl (by decide) rfl (by decide +kernel) ?_
            refine pw_goto (off := -44) (tgt := 120) (by decide +kernel) (by decide +kernel) ?_
            rw [aU_aU]
            exact ih (by omega) f2 _ (msf_new hms (by omega) (by omega) hok (Or.inr ⟨b, rfl, hbx, by omega⟩))
          · obtain ⟨hv0, hno⟩ := hv.resolve_left (fun w => absurd (w.1.symm.trans z152) (by decide))
            refine pw_goto (off := 6) (tgt := 161) (by decide +kernel) (by decide +kernel) ?_
            refine pn_iinc (i := 4) (n := 1) 1 x rfl rfl (by decide) rfl (by decide +kernel) ?_
            refine pw_goto (off := -44) (tgt := 120) (by decide +kernel) (by decide +kernel) ?_
            rw [aU_aU]
            exact ih (by omega) f2 _ (msf_no hms hno)
)
  have hL : ∀ n k, ((1 ≤ nI n ∧ nI n ≤ 40) ∧ (1 ≤ nI k ∧ nI k ≤ 5)) → n ≤ 40 → k ≤ 5 → ∀ s, s ≤ 10 → ∀ (ev : Int32) (L0 : Nat → Nat → Int64) (ck : Nat → Int32), (∀ s2, 1 ≤ s2 → s2 < s + 1 → ck s2 = nI (cnN I s2)) → pWn m_Mo_mint 4 sh (rIf ((1 ≤ nI n ∧ nI n ≤ 40) ∧ (1 ≤ nI k ∧ nI k ≤ 5)) (rMtM I P (ixn (nI n)) (ixn (nI k))) (rA (-1) I P)) 28 [some (.ref 134), some (.int (nI n)), some (.int (nI k)), some (.int (nI (s + 1))), none] [] (aU (sI (sI I 134 2 0) 134 54 ev) 171 ck, L0, P) := fun n k hc hn4 hk5 => pUpTo 10 _ (by
    intro s hs ih ev L0 ck hck
    refine pw_iload_n (k4 := 3) rfl (by decide +kernel) ?_
    refine pw_bipush (n := 11) (v := 11) (by decide) (by decide +kernel) ?_
    refine pn_icmp_ge (off := 83) (tgt := 114) (s + 1) 11 rfl rfl (by omega) (by omega) (by decide +kernel) (by decide +kernel) (fun z31 => ?_) (fun z31 => ?_)
    · refine pw_bipush (n := -2) (v := -2) (by decide) (by decide +kernel) ?_
      refine pq_istore_n (k4 := 3) (Nat.le_of_ble_eq_true rfl) rfl (by decide +kernel) ?_
      refine pw_iconst (n := 1) (v := 1) (by decide) (by decide +kernel) ?_
      refine pq_istore (i := 4) (Nat.le_of_ble_eq_true rfl) rfl (by decide +kernel) ?_
      have w := h120 n k hc hn4 hk5 ev ck L0 (fun s2 h1 h2 => hck s2 h1 (by omega)) 1 (by decide) (Nat.le_refl 1) (I 172) (-2) (Or.inl ⟨rfl, fun b h1 h2 => by omega⟩)
      rw [show aU (aU (sI (sI I 134 2 0) 134 54 ev) 171 ck) 172 (I 172) = aU (sI (sI I 134 2 0) 134 54 ev) 171 ck from aU_self (aU (sI (sI I 134 2 0) 134 54 ev) 171 ck) 172] at w
      exact w
    · refine pw_aload_n (k4 := 0) rfl (by decide +kernel) ?_
      refine pq_getP (c := 11) (k := 52) (ks_m hA) (by decide) (by decide) (kp_m_names hA) lf_Mo_90 (by decide +kernel) ?_
      refine pw_iconst (n := 0) (v := 0) (by decide) (by decide +kernel) ?_
      refine pw_iload_n (k4 := 3) rfl (by decide +kernel) ?_
      refine pw_i2l (by decide +kernel) ?_
      refine pq_last 0 rfl (by omega) (by decide) (ks_m_names hA) (by decide +kernel) ?_
      refine pw_aload_n (k4 := 0) rfl (by decide +kernel) ?_
      refine pq_getP (c := 11) (k := 52) (ks_m hA) (by decide) (by decide) (kp_m_names hA) lf_Mo_90 (by decide +kernel) ?_
      refine pw_iconst (n := 1) (v := 1) (by decide) (by decide +kernel) ?_
      refine pw_lconst (n := 0) (v := 0) (by decide) (by decide +kernel) ?_
      refine pq_last 1 rfl (by omega) (by decide) (ks_m_names hA) (by decide +kernel) ?_
      refine pw_aload_n (k4 := 0) rfl (by decide +kernel) ?_
      refine pq_getP (c := 11) (k := 52) (ks_m hA) (by decide) (by decide) (kp_m_names hA) lf_Mo_90 (by decide +kernel) ?_
      refine pw_iconst (n := 2) (v := 2) (by decide) (by decide +kernel) ?_
      refine pw_lconst (n := 1) (v := 1) (by decide) (by decide +kernel) ?_
      refine pq_last 2 rfl (by omega) (by decide) (ks_m_names hA) (by decide +kernel) ?_
      refine pw_aload_n (k4 := 0) rfl (by decide +kernel) ?_
      refine pq_getP (c := 11) (k := 52) (ks_m hA) (by decide) (by decide) (kp_m_names hA) lf_Mo_90 (by decide +kernel) ?_
      refine pw_iconst (n := 3) (v := 3) (by decide) (by decide +kernel) ?_
      refine pw_lconst (n := 0) (v := 0) (by decide) (by decide +kernel) ?_
      refine pq_last 3 rfl (by omega) (by decide) (ks_m_names hA) (by decide +kernel) ?_
      refine pw_aload_n (k4 := 0) rfl (by decide +kernel) ?_
      refine pq_getP (c := 11) (k := 52) (ks_m hA) (by decide) (by decide) (kp_m_names hA) lf_Mo_90 (by decide +kernel) ?_
      refine pw_iconst (n := 4) (v := 4) (by decide) (by decide +kernel) ?_
      refine pw_lconst (n := 0) (v := 0) (by decide) (by decide +kernel) ?_
      refine pq_last 4 rfl (by omega) (by decide) (ks_m_names hA) (by decide +kernel) ?_
      refine pw_aload_n (k4 := 0) rfl (by decide +kernel) ?_
      refine pq_getP (c := 11) (k := 52) (ks_m hA) (by decide) (by decide) (kp_m_names hA) lf_Mo_90 (by decide +kernel) ?_
      refine pw_iconst (n := 5) (v := 5) (by decide) (by decide +kernel) ?_
      refine pw_aload_n (k4 := 0) rfl (by decide +kernel) ?_
      refine pq_getP (c := 11) (k := 60) (ks_m hA) (by decide) (by decide) (kp_m_day hA) lf_Mo_112 (by decide +kernel) ?_
      refine pw_iconst (n := 0) (v := 0) (by decide) (by decide +kernel) ?_
      refine pq_iald 0 rfl (by omega) (by decide) (ks_m_day hA) (by decide +kernel) ?_
      refine pw_i2l (by decide +kernel) ?_
      refine pq_last 5 rfl (by omega) (by decide) (ks_m_names hA) (by decide +kernel) ?_
      refine pw_aload_n (k4 := 0) rfl (by decide +kernel) ?_
      refine pq_getP (c := 11) (k := 52) (ks_m hA) (by decide) (by decide) (kp_m_names hA) lf_Mo_90 (by decide +kernel) ?_
      refine pw_bipush (n := 6) (v := 6) (by decide) (by decide +kernel) ?_
      refine pw_lconst (n := 0) (v := 0) (by decide) (by decide +kernel) ?_
      refine pq_last 6 rfl (by omega) (by decide) (ks_m_names hA) (by decide +kernel) ?_
      refine pw_aload_n (k4 := 0) rfl (by decide +kernel) ?_
      refine pq_getP (c := 11) (k := 68) (ks_m hA) (by decide) (by decide) (kp_m_coin hA) lf_Mo_124 (by decide +kernel) ?_
      refine pw_iload_n (k4 := 3) rfl (by decide +kernel) ?_
      refine pw_aload_n (k4 := 0) rfl (by decide +kernel) ?_
      refine pw_iconst (n := 0) (v := 0) (by decide) (by decide +kernel) ?_
      refine pw_iconst (n := 2) (v := 2) (by decide) (by decide +kernel) ?_
      refine pw_iload_n (k4 := 3) rfl (by decide +kernel) ?_
      refine pn_imul 2 (s + 1) rfl rfl (by decide +kernel) ?_
      refine pw_sipush (n := 999) (v := 999) (by decide) (by decide +kernel) ?_
      refine pq_callV (ν := m_Mo_boundLaw) (d' := 3) (av := [_, _, _]) (c := 11) (by decide +kernel) lm_Mo_416 ok_Mo_boundLaw (show _ = some 3 by decide +kernel) (ks_m hA) rfl (by decide) (by omega) (Nat.le_of_ble_eq_true rfl) (ct_Mo_boundLaw hA (by exact hwf) (nm := yNm (nI (s + 1)).toInt64 0 1 0 0 (I 167 0).toInt64 0) (yNm_set _ _ _ _ _ _ _ _ _) (r := 0) (by decide) _ _) ?_
      rintro _ _ ⟨rfl, ev2, L2, rfl, hL2⟩
      refine pq_iast (s + 1) rfl (by omega) (by decide) (ks_m_coin hA) (by decide +kernel) ?_
      refine pn_iinc (i := 3) (n := 1) 1 (s + 1) rfl rfl (by decide) rfl (by decide +kernel) ?_
      refine pw_goto (off := -83) (tgt := 28) (by decide +kernel) (by decide +kernel) ?_
      rw [chg_mem171]
      refine ih (by omega) ev2 L2 _ (fun s2 h1 h2 => ?_)
      unfold upd
      by_cases qe : s2 = s + 1
      · rw [if_pos qe, qe]; exact (cnN_eq I (by omega)).1
      · rw [if_neg qe]; exact hck s2 h1 (by omega)
)
  refine pw_aload_n (k4 := 0) rfl (by decide +kernel) ?_
  refine pw_iconst (n := 0) (v := 0) (by decide) (by decide +kernel) ?_
  refine pq_putI (c := 11) (k := 2) (ks_m hA) (by decide) (by decide) lf_Mo_175 (Or.inl rfl) (by decide +kernel) ?_
  refine pw_iload_n (k4 := 1) rfl (by decide +kernel) ?_
  refine pw_iconst (n := 1) (v := 1) (by decide) (by decide +kernel) ?_
  refine pw_bipush (n := 40) (v := 40) (by decide) (by decide +kernel) ?_
  refine pq_callS (ν := m_Mo_isIn) (d' := 0) (av := [_, _, _]) (by decide +kernel) lm_Mo_220 ok_Mo_isIn (show _ = some 3 by decide +kernel) (by omega) (Nat.le_of_ble_eq_true rfl) (ct_Mo_isIn _ _ _) ?_
  rintro _ _ ⟨rfl, rfl⟩
  refine pn_ifB_eq (off := 12) (tgt := 24) (by decide +kernel) (by decide +kernel) (fun z12 => ?_) (fun z12 => ?_)
  · refine pw_iconst (n := -1) (v := -1) (by decide) (by decide +kernel) ?_
    exact pq_iret rfl (by decide +kernel) ⟨fun h => absurd h.1 z12, fun _ => ⟨rfl, _, _, rfl, rep_t⟩⟩
  · refine pw_iload_n (k4 := 2) rfl (by decide +kernel) ?_
    refine pw_iconst (n := 1) (v := 1) (by decide) (by decide +kernel) ?_
    refine pw_iconst (n := 5) (v := 5) (by decide) (by decide +kernel) ?_
    refine pq_callS (ν := m_Mo_isIn) (d' := 0) (av := [_, _, _]) (by decide +kernel) lm_Mo_220 ok_Mo_isIn (show _ = some 3 by decide +kernel) (by omega) (Nat.le_of_ble_eq_true rfl) (ct_Mo_isIn _ _ _) ?_
    rintro _ _ ⟨rfl, rfl⟩
    refine pn_ifB_ne (off := 5) (tgt := 26) (by decide +kernel) (by decide +kernel) (fun z21 => ?_) (fun z21 => ?_)
    · obtain ⟨n, hn0, rfl⟩ := nI_of (show ¬ n < 0 from fun w => Int32.not_lt.mpr z12.1 (Int32.lt_trans w (by decide)))
      obtain ⟨k, hk0, rfl⟩ := nI_of (show ¬ k < 0 from fun w => Int32.not_lt.mpr z21.1 (Int32.lt_trans w (by decide)))
      have hc : (1 ≤ nI n ∧ nI n ≤ 40) ∧ (1 ≤ nI k ∧ nI k ≤ 5) := ⟨z12, z21⟩
      have hn4 : n ≤ 40 := (nI_leI hn0 (by decide)).mp z12.2
      have hk5 : k ≤ 5 := (nI_leI hk0 (by decide)).mp z21.2
      refine pw_iconst (n := 1) (v := 1) (by decide) (by decide +kernel) ?_
      refine pq_istore_n (k4 := 3) (Nat.le_of_ble_eq_true rfl) rfl (by decide +kernel) ?_
      have w := hL n k hc hn4 hk5 0 (Nat.zero_le _) (I 134 54) L (I 171) (fun s2 h1 h2 => absurd h2 (by omega))
      rw [show aU (sI (sI I 134 2 0) 134 54 (I 134 54)) 171 (I 171) = sI I 134 2 0 from by rw [show sI (sI I 134 2 0) 134 54 (I 134 54) = sI I 134 2 0 from sI_same (sI I 134 2 0) 134 54]; exact aU_self (sI I 134 2 0) 171] at w
      exact w
    · refine pw_iconst (n := -1) (v := -1) (by decide) (by decide +kernel) ?_
      exact pq_iret rfl (by decide +kernel) ⟨fun h => absurd h.2 z21, fun _ => ⟨rfl, _, _, rfl, rep_t⟩⟩
