/-! ===== the class: mint, tried, chance ===== -/
/-- the sizes b make all prices 1 .. n by q boots: as the class tests it (U: the useful sizes) -/
abbrev miT (I : Nat → Nat → Int32) (t w : Nat) (n : Int32) (q : Nat) (b : Nat) : Prop := nI b &&& (xSz (coinF I t w) n 10 ^^^ -1) = 0 ∧ xMade (coinF I t w) (nI b) (xAllL n) q = xAllL n
def rMi (I : Nat → Nat → Int32) (P : Nat → Nat → Option Nat) (t w : Nat) (n : Int32) (q : Nat) : Option Value → pM → Prop := fun r M => (∃ f L', M = (aU I 133 f, L', P)) ∧
  ((∃ b, r = some (.int (nI b)) ∧ 1 ≤ b ∧ b < 1024 ∧ miT I t w n q b ∧ (∀ b', 1 ≤ b' → nI b' ≤ xSz (coinF I t w) n 10 → miT I t w n q b' → b' < 1024 → ¬ (1 ≤ xBc (nI b') ∧ xBc (nI b') < xBc (nI b)) ∧ (xBc (nI b') = xBc (nI b) → b ≤ b')))
   ∨ (r = some (.int (-2)) ∧ ∀ b', 1 ≤ b' → nI b' ≤ xSz (coinF I t w) n 10 → miT I t w n q b' → b' < 1024 → ¬ (1 ≤ xBc (nI b') ∧ xBc (nI b') ≤ xBc (xSz (coinF I t w) n 10))))
theorem xSz_in (f : Nat → Int32) (n : Int32) : ∀ k, k ≤ 10 → ∃ u, u < 2 ^ k ∧ xSz f n k = nI u
  | 0, _ => ⟨0, by decide, rfl⟩
  | k + 1, h => by
    obtain ⟨u, hu, e⟩ := xSz_in f n k (by omega)
    have hp : 2 ^ (k + 1) = 2 ^ k + 2 ^ k := by rw [Nat.pow_succ, Nat.mul_two]
    unfold xSz
    split
    · exact ⟨u, by omega, e⟩
    · rw [e, nI_pow (by omega)]
      exact ⟨u ||| 2 ^ k, Nat.or_lt_two_pow (by omega) (by omega), fa_or u (2 ^ k)⟩
theorem xBc10 : ∀ b : Fin 1024, ∃ c, c ≤ 10 ∧ xBc (nI b.val) = nI c := by decide +kernel
theorem xBc_in {b : Nat} (h : b < 1024) : ∃ c, c ≤ 10 ∧ xBc (nI b) = nI c := xBc10 ⟨b, h⟩
theorem xMk_cg {f g : Nat → Int32} {b : Int32} {m : Int64} : ∀ n, (∀ i, i < n → f i = g i) → xMk f b m n = xMk g b m n
  | 0, _ => rfl
  | n + 1, h => by
    unfold xMk
    rw [xMk_cg n (fun i hi => h i (by omega)), h n (by omega)]
theorem xMade_cg {f g : Nat → Int32} {b : Int32} {a : Int64} (h : ∀ i, i < 10 → f i = g i) : ∀ n, xMade f b a n = xMade g b a n
  | 0 => rfl
  | n + 1 => by
    unfold xMade
    rw [xMade_cg h n, xMk_cg 10 h]

theorem ct_Ls_mint {sh : List pSh} {I : Nat → Nat → Int32} {L : Nat → Nat → Int64} {P : Nat → Nat → Option Nat} (hA : kA sh P) {w t : Nat} (hw : w = 62 ∨ w = 68 ∨ w = 74) (ht : t = 3 ∨ t = 30) (hwt : P w 0 = some t) (hxt : P 1 2 = some t) (hxw : P 1 7 = some w) (hl : lOK I t) (n q : Int32) : pCn m_Ls_mint 4 [.ref 1, .int n, .int q] sh (I, L, P) (rIf (1 ≤ n ∧ n ≤ 40 ∧ 1 ≤ q ∧ q ≤ 5) (rMi I P t w n (ixn q)) (rI (-1) (I, L, P))) := by
  refine pCn_of (by decide +kernel) (Nat.le_of_ble_eq_true rfl) ?_
  obtain ⟨u, hu1, hu⟩ := xSz_in (coinF I t w) n 10 (Nat.le_refl _)
  obtain ⟨c, hcc, hc10⟩ := xBc_in (b := u) (by omega)
  rw [← hu] at hc10
  have hL : ∀ q, q ≤ 5 → (1 ≤ n ∧ n ≤ 40 ∧ 1 ≤ nI q ∧ nI q ≤ 5) → ∀ L', ∀ s, s ≤ c → (∀ b', 1 ≤ b' → nI b' ≤ xSz (coinF I t w) n 10 → miT I t w n q b' → b' < 1024 → ¬ (1 ≤ xBc (nI b') ∧ xBc (nI b') < nI (s + 1))) → pWn m_Ls_mint 4 sh (rIf (1 ≤ n ∧ n ≤ 40 ∧ 1 ≤ nI q ∧ nI q ≤ 5) (rMi I P t w n (ixn (nI q))) (rI (-1) (I, L, P))) 32 [some (.ref 1), some (.int n), some (.int (nI q)), some (.int (xSz (coinF I t w) n 10)), some (.int (nI (s + 1))), none] [] (aU I 133 (fil (coinF I t w) (I 133) 10), L', P) := fun q hq5 hc L' => pUpTo c _ (by
    intro s hs ihO hS
    have hIn : s < c → (∀ b', 1 ≤ b' → nI b' ≤ xSz (coinF I t w) n 10 → miT I t w n q b' → b' < 1024 → ¬ (1 ≤ xBc (nI b') ∧ xBc (nI b') < nI (s + 1))) → ∀ b, b ≤ u → (∀ b', b' < b + 1 → 1 ≤ b' → nI b' ≤ xSz (coinF I t w) n 10 → miT I t w n q b' → b' < 1024 → ¬ xBc (nI b') = nI (s + 1)) → pWn m_Ls_mint 4 sh (rIf (1 ≤ n ∧ n ≤ 40 ∧ 1 ≤ nI q ∧ nI q ≤ 5) (rMi I P t w n (ixn (nI q))) (rI (-1) (I, L, P))) 44 [some (.ref 1), some (.int n), some (.int (nI q)), some (.int (xSz (coinF I t w) n 10)), some (.int (nI (s + 1))), some (.int (nI (b + 1)))] [] (aU I 133 (fil (coinF I t w) (I 133) 10), L', P) := fun hsc hS => pUpTo u _ (by
      intro b0 hb ih hI
      obtain ⟨b, hb0⟩ : ∃ b, b = b0 + 1 := ⟨_, rfl⟩
      have hb1 : 1 ≤ b := by omega
      rw [← hb0] at ih hI ⊢
      refine pw_iload (i := 5) rfl (by decide +kernel) ?_
      refine pw_iload_n (k4 := 3) rfl (by decide +kernel) ?_
      refine pn_val (nI (u)) hu ?_
      refine pn_icmp_gt (off := 42) (tgt := 89) b u rfl rfl (by omega) (by omega) (by decide +kernel) (by decide +kernel) (fun z47 => ?_) (fun z47 => ?_)
      · refine pn_iinc (i := 4) (n := 1) 1 (s + 1) rfl rfl (by decide) rfl (by decide +kernel) ?_
        refine pw_goto (off := -60) (tgt := 32) (by decide +kernel) (by decide +kernel) ?_
        refine pw_forget [5] (ihO (by omega) (fun b1 g1 g2 g3 g4 g5 => ?_))
        by_cases g : xBc (nI b1) = nI (s + 1)
        · refine hI b1 ?_ g1 g2 g3 g4 g
          rw [hu, nI_leI (by omega) (by omega)] at g2
          omega
        · obtain ⟨c2, hc2, ec⟩ := xBc_in g4
          have g7 := g5.2
          rw [ec] at g g7
          rw [nI_ltI (by omega) (by omega)] at g7
          rw [nI_eq (by omega) (by omega)] at g
          exact hS b1 g1 g2 g3 g4 ⟨g5.1, by rw [ec, nI_ltI (by omega) (by omega)]; omega⟩
      · have hXM : xMade (aU I 133 (fil (coinF I t w) (I 133) 10) 133) (nI b) (xAllL n) q = xMade (coinF I t w) (nI b) (xAllL n) q := xMade_cg (fun i hi => by rw [aU_eq]; exact if_pos hi) q
        refine pw_iload (i := 5) rfl (by decide +kernel) ?_
        refine pw_iload_n (k4 := 3) rfl (by decide +kernel) ?_
        refine pw_iconst (n := -1) (v := -1) (by decide) (by decide +kernel) ?_
        refine pw_ixor (by decide +kernel) ?_
        refine pw_iand (by decide +kernel) ?_
        refine pw_if_ne (off := 27) (tgt := 83) (by decide +kernel) (by decide +kernel) (fun z56 => ?_) (fun z56 => ?_)
        · refine pn_iinc (i := 5) (n := 1) 1 b rfl rfl (by decide) rfl (by decide +kernel) ?_
          refine pw_goto (off := -42) (tgt := 44) (by decide +kernel) (by decide +kernel) ?_
          refine ih (by omega) (fun b1 hb1 g1 g2 g3 g4 g6 => ?_)
          rcases Nat.lt_or_ge b1 b with g | g
          · exact hI b1 g g1 g2 g3 g4 g6
          · obtain rfl : b1 = b := by omega
            exact (fun g3 g6 => z56 g3.1) g3 g6
        · refine pw_iload (i := 5) rfl (by decide +kernel) ?_
          refine pq_callS (ν := m_In_bitCount) (d' := 0) (av := [_]) (by decide +kernel) lm_Ls_174 ok_In_bitCount (show _ = some 1 by decide +kernel) (by omega) (Nat.le_of_ble_eq_true rfl) (ct_In_bitCount _) ?_
          rintro _ _ ⟨rfl, rfl⟩
          refine pw_iload (i := 4) rfl (by decide +kernel) ?_
          refine pw_icmp_ne (off := 17) (tgt := 83) (by decide +kernel) (by decide +kernel) (fun z66 => ?_) (fun z66 => ?_)
          · refine pn_iinc (i := 5) (n := 1) 1 b rfl rfl (by decide) rfl (by decide +kernel) ?_
            refine pw_goto (off := -42) (tgt := 44) (by decide +kernel) (by decide +kernel) ?_
            refine ih (by omega) (fun b1 hb1 g1 g2 g3 g4 g6 => ?_)
            rcases Nat.lt_or_ge b1 b with g | g
            · exact hI b1 g g1 g2 g3 g4 g6
            · obtain rfl : b1 = b := by omega
              exact (fun g3 g6 => z66 g6) g3 g6
          · refine pw_aload_n (k4 := 0) rfl (by decide +kernel) ?_
            refine pw_iload (i := 5) rfl (by decide +kernel) ?_
            refine pw_iload_n (k4 := 1) rfl (by decide +kernel) ?_
            refine pw_iload_n (k4 := 2) rfl (by decide +kernel) ?_
            refine pq_callV (ν := m_Ls_makesAll) (d' := 0) (av := [_, _, _]) (c := 10) (by decide +kernel) lm_Ls_249 ok_Ls_makesAll (show _ = some 3 by decide +kernel) (ks_x hA) rfl (by decide) (by omega) (Nat.le_of_ble_eq_true rfl) (ct_Ls_makesAll hA _ _ q hq5) ?_
            rintro _ _ ⟨rfl, rfl⟩
            refine pn_ifB_eq (off := 6) (tgt := 83) (by decide +kernel) (by decide +kernel) (fun z77 => ?_) (fun z77 => ?_)
            · refine pn_iinc (i := 5) (n := 1) 1 b rfl rfl (by decide) rfl (by decide +kernel) ?_
              refine pw_goto (off := -42) (tgt := 44) (by decide +kernel) (by decide +kernel) ?_
              refine ih (by omega) (fun b1 hb1 g1 g2 g3 g4 g6 => ?_)
              rcases Nat.lt_or_ge b1 b with g | g
              · exact hI b1 g g1 g2 g3 g4 g6
              · obtain rfl : b1 = b := by omega
                exact (fun g3 g6 => z77 (by rw [hXM]; exact g3.2)) g3 g6
            · refine pw_iload (i := 5) rfl (by decide +kernel) ?_
              refine pq_iret rfl (by decide +kernel) ⟨fun _ => ⟨⟨_, _, rfl⟩, Or.inl ⟨b, rfl, hb1, by omega, ?_, ?_⟩⟩, fun h => absurd hc h⟩
              · rw [ixn_nI (by omega)]
                exact ⟨z56, by rw [← hXM]; exact z77⟩
              · rw [ixn_nI (by omega)]
                intro b1 g1 g2 g3 g4
                rw [z66]
                refine ⟨hS b1 g1 g2 g3 g4, fun g => Decidable.not_not.mp (fun g9 => hI b1 (by omega) g1 g2 g3 g4 g)⟩
)
    refine pw_iload (i := 4) rfl (by decide +kernel) ?_
    refine pw_iload_n (k4 := 3) rfl (by decide +kernel) ?_
    refine pq_callS (ν := m_In_bitCount) (d' := 0) (av := [_]) (by decide +kernel) lm_Ls_174 ok_In_bitCount (show _ = some 1 by decide +kernel) (by omega) (Nat.le_of_ble_eq_true rfl) (ct_In_bitCount _) ?_
    rintro _ _ ⟨rfl, rfl⟩
    refine pn_val (nI (c)) hc10 ?_
    refine pn_icmp_gt (off := 57) (tgt := 95) (s + 1) c rfl rfl (by omega) (by omega) (by decide +kernel) (by decide +kernel) (fun z38 => ?_) (fun z38 => ?_)
    · obtain rfl : s = c := by omega
      refine pw_bipush (n := -2) (v := -2) (by decide) (by decide +kernel) ?_
      refine pq_iret rfl (by decide +kernel) ⟨fun _ => ⟨⟨_, _, rfl⟩, Or.inr ⟨rfl, ?_⟩⟩, fun h => absurd hc h⟩
      rw [ixn_nI (by omega), hc10]
      intro b1 g1 g2 g3 g4 g5
      obtain ⟨c, hc2, ec⟩ := xBc_in g4
      refine hS b1 g1 g2 g3 g4 ⟨g5.1, ?_⟩
      have g6 := g5.2
      rw [ec] at g6 ⊢
      rw [nI_leI (by omega) (by omega)] at g6
      rw [nI_ltI (by omega) (by omega)]
      omega
    · refine pw_iconst (n := 1) (v := 1) (by decide) (by decide +kernel) ?_
      refine pq_istore (i := 5) (Nat.le_of_ble_eq_true rfl) rfl (by decide +kernel) ?_
      exact hIn (by omega) hS 0 (Nat.zero_le _) (fun b1 hb1 => by omega)
)
  refine pw_iload_n (k4 := 1) rfl (by decide +kernel) ?_
  refine pw_iconst (n := 1) (v := 1) (by decide) (by decide +kernel) ?_
  refine pw_icmp_lt (off := 19) (tgt := 21) (by decide +kernel) (by decide +kernel) (fun z2 => ?_) (fun z2 => ?_)
  · refine pw_iconst (n := -1) (v := -1) (by decide) (by decide +kernel) ?_
    exact pq_iret rfl (by decide +kernel) ⟨fun h => absurd h (fun h => Int32.not_lt.mpr h.1 z2), fun _ => ⟨rfl, rfl⟩⟩
  · refine pw_iload_n (k4 := 1) rfl (by decide +kernel) ?_
    refine pw_bipush (n := 40) (v := 40) (by decide) (by decide +kernel) ?_
    refine pw_icmp_gt (off := 13) (tgt := 21) (by decide +kernel) (by decide +kernel) (fun z8 => ?_) (fun z8 => ?_)
    · refine pw_iconst (n := -1) (v := -1) (by decide) (by decide +kernel) ?_
      exact pq_iret rfl (by decide +kernel) ⟨fun h => absurd h (fun h => Int32.not_lt.mpr h.2.1 z8), fun _ => ⟨rfl, rfl⟩⟩
    · refine pw_iload_n (k4 := 2) rfl (by decide +kernel) ?_
      refine pw_iconst (n := 1) (v := 1) (by decide) (by decide +kernel) ?_
      refine pw_icmp_lt (off := 8) (tgt := 21) (by decide +kernel) (by decide +kernel) (fun z13 => ?_) (fun z13 => ?_)
      · refine pw_iconst (n := -1) (v := -1) (by decide) (by decide +kernel) ?_
        exact pq_iret rfl (by decide +kernel) ⟨fun h => absurd h (fun h => Int32.not_lt.mpr h.2.2.1 z13), fun _ => ⟨rfl, rfl⟩⟩
      · refine pw_iload_n (k4 := 2) rfl (by decide +kernel) ?_
        refine pw_iconst (n := 5) (v := 5) (by decide) (by decide +kernel) ?_
        refine pw_icmp_le (off := 5) (tgt := 23) (by decide +kernel) (by decide +kernel) (fun z18 => ?_) (fun z18 => ?_)
        · obtain ⟨q, hq0, rfl⟩ := nI_of (show ¬ q < 0 from fun e => z13 (Int32.lt_trans e (by decide)))
          have hq5 : q ≤ 5 := (nI_leI hq0 (by decide)).mp z18
          have hc : 1 ≤ n ∧ n ≤ 40 ∧ 1 ≤ nI q ∧ nI q ≤ 5 := ⟨Int32.not_lt.mp z2, Int32.not_lt.mp z8, Int32.not_lt.mp z13, z18⟩
          refine pw_aload_n (k4 := 0) rfl (by decide +kernel) ?_
          refine pw_iload_n (k4 := 1) rfl (by decide +kernel) ?_
          refine pq_callV (ν := m_Ls_sizesUpTo) (d' := 3) (av := [_]) (c := 10) (by decide +kernel) lm_Ls_246 ok_Ls_sizesUpTo (show _ = some 1 by decide +kernel) (ks_x hA) rfl (by decide) (by omega) (Nat.le_of_ble_eq_true rfl) (ct_Ls_sizesUpTo hA hw ht hwt hxt hxw hl _) ?_
          rintro _ _ ⟨rfl, L', rfl⟩
          refine pq_istore_n (k4 := 3) (Nat.le_of_ble_eq_true rfl) rfl (by decide +kernel) ?_
          refine pw_iconst (n := 1) (v := 1) (by decide) (by decide +kernel) ?_
          refine pq_istore (i := 4) (Nat.le_of_ble_eq_true rfl) rfl (by decide +kernel) ?_
          exact hL q hq5 hc L' 0 (Nat.zero_le _) (fun b1 g1 g2 g3 g4 g5 => by have g6 := g5.1; have g7 := g5.2; exact Int32.lt_irrefl (Int32.lt_of_lt_of_le g7 g6))
        · refine pw_iconst (n := -1) (v := -1) (by decide) (by decide +kernel) ?_
          exact pq_iret rfl (by decide +kernel) ⟨fun h => absurd h (fun h => z18 h.2.2.2), fun _ => ⟨rfl, rfl⟩⟩
