/-! ===== the reference: laws, worth, wear, pairs ===== -/
/-- knots i .. behind one another, each behind its operands (the indices of these on a stack) -/
def kW (kn pt ot : Nat → Int32) : Nat → Nat → List Nat → Prop
  | 0, i, stk => stk = [i - 1]
  | j + 1, i, stk => (kn i = 0 ∧ kW kn pt ot j (i + 1) (i :: stk)) ∨ (kn i = 1 ∧ (∃ p, p < 7 ∧ pt i = nI p) ∧ kW kn pt ot j (i + 1) (i :: stk))
      ∨ (kn i = 2 ∧ ∃ a s, stk = a :: s ∧ pt i = nI a ∧ kW kn pt ot j (i + 1) (i :: s))
      ∨ (∃ q, 3 ≤ q ∧ q ≤ 14 ∧ kn i = nI q ∧ ∃ b a s, stk = b :: a :: s ∧ pt i = nI a ∧ ot i = nI b ∧ kW kn pt ot j (i + 1) (i :: s))
/-- the value of knots i .. over a stack; none: an error -/
def zEv (kn pt : Nat → Int32) (nm : Nat → Int64) : Nat → Nat → List Int64 → Option Int64
  | 0, _, st => st.head?
  | j + 1, i, st => if kn i = 0 then zEv kn pt nm j (i + 1) ((pt i).toInt64 :: st) else if kn i = 1 then zEv kn pt nm j (i + 1) (nm (ixn (pt i)) :: st)
      else if kn i = 2 then zEv kn pt nm j (i + 1) (bL (st.headD 0 = 0) :: st.tail)
      else (yBin (kn i) (st.tail.headD 0) (st.headD 0)).bind (fun x => zEv kn pt nm j (i + 1) (x :: st.tail.tail))
theorem map_up (val : Nat → Int64) (i : Nat) (x : Int64) : ∀ s : List Nat, (∀ a ∈ s, a < i) → s.map (vp_updL val i x) = s.map val
  | [], _ => rfl
  | a :: s, h => by
    rw [List.map_cons, List.map_cons, map_up val i x s (fun b hb => h b (List.mem_cons_of_mem _ hb))]
    have := h a List.mem_cons_self
    unfold vp_updL
    rw [if_neg (by omega)]
theorem kW_step {kn pt ot : Nat → Int32} {c i : Nat} {stk : List Nat} (h : kW kn pt ot (c + 1) i stk) (hs : ∀ a ∈ stk, a < i) (hi : i < 64) :
    vOK kn pt ot i ∧ ∃ stk', (∀ a ∈ stk', a < i + 1) ∧ kW kn pt ot c (i + 1) stk' ∧ ∀ (nm nm2 val : Nat → Int64), (∀ k, k < 7 → nm2 k = nm k) →
      (yValF kn pt ot nm2 val i = none → zEv kn pt nm (c + 1) i (stk.map val) = none) ∧
      ∀ y, yValF kn pt ot nm2 val i = some y → zEv kn pt nm (c + 1) i (stk.map val) = zEv kn pt nm c (i + 1) (stk'.map (vp_updL val i y)) := by
  have ui : ∀ (val : Nat → Int64) (y : Int64), vp_updL val i y i = y := fun val y => if_pos rfl
  have hcons : ∀ s : List Nat, (∀ a ∈ s, a < i) → ∀ a ∈ i :: s, a < i + 1 := fun s hs a ha => by
    rcases List.mem_cons.mp ha with e | e
    · omega
    · have := hs a e; omega
  rcases h with ⟨h0, h⟩ | ⟨h1, ⟨p, hp, hpe⟩, h⟩ | ⟨h2, a, s, rfl, hpe, h⟩ | ⟨q, q3, q14, hq, b, a, s, rfl, hpe, hoe, h⟩
  · refine ⟨⟨fun e => absurd (h0.symm.trans e) (by decide), fun e => absurd h0 e, fun e => absurd h0 e⟩, i :: stk, hcons stk hs, h, fun nm nm2 val hn => ⟨fun e => ?_, fun y e => ?_⟩⟩
    · unfold yValF at e; rw [if_pos h0] at e; cases e
    · unfold yValF at e; rw [if_pos h0] at e; cases e
      rw [List.map_cons, map_up _ _ _ _ hs, ui]
      show (if kn i = 0 then _ else _) = _
      rw [if_pos h0]
  · have n0 : ¬ kn i = 0 := by rw [h1]; decide
    refine ⟨⟨fun _ => ⟨p, hp, hpe⟩, fun _ e => absurd h1 e, fun _ e => absurd h1 e⟩, i :: stk, hcons stk hs, h, fun nm nm2 val hn => ⟨fun e => ?_, fun y e => ?_⟩⟩
    · unfold yValF at e; rw [if_neg n0, if_pos h1] at e; cases e
    · unfold yValF at e; rw [if_neg n0, if_pos h1] at e; cases e
      rw [List.map_cons, map_up _ _ _ _ hs, ui]
      show (if kn i = 0 then _ else if kn i = 1 then _ else _) = _
      rw [if_neg n0, if_pos h1, hpe, ixn_nI (by omega), hn p hp]
  · have n0 : ¬ kn i = 0 := by rw [h2]; decide
    have n1 : ¬ kn i = 1 := by rw [h2]; decide
    have ha := hs a List.mem_cons_self
    have hs' : ∀ a ∈ s, a < i := fun b hb => hs b (List.mem_cons_of_mem _ hb)
    refine ⟨⟨fun e => absurd e n1, fun _ _ => ⟨a, by omega, hpe⟩, fun _ _ e => absurd h2 e⟩, i :: s, hcons s hs', h, fun nm nm2 val hn => ⟨fun e => ?_, fun y e => ?_⟩⟩
    · unfold yValF at e; rw [if_neg n0, if_neg n1, if_pos h2] at e; cases e
    · unfold yValF at e; rw [if_neg n0, if_neg n1, if_pos h2, hpe, ixn_nI (by omega)] at e; cases e
      rw [List.map_cons, List.map_cons, map_up _ _ _ _ hs', ui]
      show (if kn i = 0 then _ else if kn i = 1 then _ else if kn i = 2 then _ else _) = _
      rw [if_neg n0, if_neg n1, if_pos h2]
      rfl
  · have n0 : ¬ kn i = 0 := by rw [hq]; exact fun e => by have := (nI_eq (by omega) (show 0 < 2 ^ 31 by decide)).mp e; omega
    have n1 : ¬ kn i = 1 := by rw [hq]; exact fun e => by have := (nI_eq (by omega) (show 1 < 2 ^ 31 by decide)).mp e; omega
    have n2 : ¬ kn i = 2 := by rw [hq]; exact fun e => by have := (nI_eq (by omega) (show 2 < 2 ^ 31 by decide)).mp e; omega
    have hb := hs b List.mem_cons_self
    have ha := hs a (List.mem_cons_of_mem _ List.mem_cons_self)
    have hs' : ∀ a ∈ s, a < i := fun b hb => hs b (List.mem_cons_of_mem _ (List.mem_cons_of_mem _ hb))
    have hz : ∀ (nm val : Nat → Int64), zEv kn pt nm (c + 1) i ((b :: a :: s).map val) = (yBin (kn i) (val a) (val b)).bind (fun x => zEv kn pt nm c (i + 1) (x :: s.map val)) := fun nm val => by
      show (if kn i = 0 then _ else if kn i = 1 then _ else if kn i = 2 then _ else _) = _
      rw [if_neg n0, if_neg n1, if_neg n2]
      rfl
    refine ⟨⟨fun e => absurd e n1, fun _ _ => ⟨a, by omega, hpe⟩, fun _ _ _ => ⟨b, by omega, hoe⟩⟩, i :: s, hcons s hs', h, fun nm nm2 val hn => ⟨fun e => ?_, fun y e => ?_⟩⟩
    · unfold yValF at e; rw [if_neg n0, if_neg n1, if_neg n2, hpe, hoe, ixn_nI (by omega), ixn_nI (by omega)] at e
      rw [hz, e]; rfl
    · unfold yValF at e; rw [if_neg n0, if_neg n1, if_neg n2, hpe, hoe, ixn_nI (by omega), ixn_nI (by omega)] at e
      rw [hz, e, List.map_cons, map_up _ _ _ _ hs', ui]; rfl
def rLw (x : Option Int64) (I : Nat → Nat → Int32) (L : Nat → Nat → Int64) (P : Nat → Nat → Option Nat) : Option Value → pM → Prop := fun r M => ∃ v e' L', r = some (.long v) ∧ M = (sI I 134 54 e', L', P) ∧ (∀ a, a ≠ 161 → L' a = L a) ∧ (e' = 0 ∨ e' = 1) ∧ (x = none → e' = 1) ∧ ∀ y, x = some y → e' = 0 ∧ v = y

theorem ct_Mo_lawOf {sh : List pSh} {I : Nat → Nat → Int32} {L : Nat → Nat → Int64} {P : Nat → Nat → Option Nat} (hA : kA sh P) {r b e : Nat} (hr : r < 3) (hf : I 153 r = nI b) (hl : I 154 r = nI e) (hbe : b < e) (he64 : e ≤ 64) (hW : kW (I 155) (I 156) (I 157) (e - b) b []) {nm : Nat → Int64} (hnm : ∀ k, k < 7 → L 160 k = nm k) : pCn m_Mo_lawOf 2 [.ref 134, .int (nI r)] sh (I, L, P) (rLw (zEv (I 155) (I 156) nm (e - b) b []) I L P) := by
  refine pCn_of (by decide +kernel) (Nat.le_of_ble_eq_true rfl) ?_
  have hL := pDown (fun c => ∀ (i : Nat) (e1 : Int32) (L' : Nat → Nat → Int64) (stk : List Nat), i + c = e → 1 ≤ i + c → (∀ a ∈ stk, a < i) → kW (I 155) (I 156) (I 157) c i stk → (e1 = 0 ∨ e1 = 1) → (∀ a, a ≠ 161 → L' a = L a) →
      (e1 = 0 → zEv (I 155) (I 156) nm c i (stk.map (L' 161)) = zEv (I 155) (I 156) nm (e - b) b []) → (¬ e1 = 0 → zEv (I 155) (I 156) nm (e - b) b [] = none) → pWn m_Mo_lawOf 2 sh (rLw (zEv (I 155) (I 156) nm (e - b) b []) I L P) 12 [some (.ref 134), some (.int (nI r)), some (.int (nI i))] [] (sI I 134 54 e1, L', P)) (by
    intro c ih i e1 L' stk hic hic1 hS hK he1 hLo hz hn
    refine pw_iload_n (k4 := 2) rfl (by decide +kernel) ?_
    refine pw_aload_n (k4 := 0) rfl (by decide +kernel) ?_
    refine pq_getP (c := 11) (k := 40) (ks_m hA) (by decide) (by decide) (kp_m_last hA) lf_Mo_72 (by decide +kernel) ?_
    refine pw_iload_n (k4 := 1) rfl (by decide +kernel) ?_
    refine pq_iald r rfl (by omega) (by decide) (ks_m_last hA) (by decide +kernel) ?_
    refine pn_val (nI (e)) hl ?_
    refine pn_icmp_ge (off := 20) (tgt := 39) i e rfl rfl (by omega) (by omega) (by decide +kernel) (by decide +kernel) (fun z19 => ?_) (fun z19 => ?_)
    · obtain rfl : c = 0 := by omega
      obtain rfl : i = e := by omega
      have hstk : stk = [i - 1] := hK
      refine pw_aload_n (k4 := 0) rfl (by decide +kernel) ?_
      refine pq_getI (c := 11) (k := 54) (ks_m hA) (by decide) (by decide) lf_Mo_362 (by decide +kernel) ?_
      refine pw_if_eq (off := 7) (tgt := 50) (by decide +kernel) (by decide +kernel) (fun z43 => ?_) (fun z43 => ?_)
      · refine pw_aload_n (k4 := 0) rfl (by decide +kernel) ?_
        refine pq_getP (c := 11) (k := 53) (ks_m hA) (by decide) (by decide) (kp_m_value hA) lf_Mo_94 (by decide +kernel) ?_
        refine pw_aload_n (k4 := 0) rfl (by decide +kernel) ?_
        refine pq_getP (c := 11) (k := 40) (ks_m hA) (by decide) (by decide) (kp_m_last hA) lf_Mo_72 (by decide +kernel) ?_
        refine pw_iload_n (k4 := 1) rfl (by decide +kernel) ?_
        refine pq_iald r rfl (by omega) (by decide) (ks_m_last hA) (by decide +kernel) ?_
        refine pn_val (nI (i)) hl ?_
        refine pw_iconst (n := 1) (v := 1) (by decide) (by decide +kernel) ?_
        refine pn_isub i 1 rfl rfl (by omega) (by decide +kernel) ?_
        refine pq_lald (i - 1) rfl (by omega) (by decide) (ks_m_value hA) (by decide +kernel) ?_
        exact pq_lret rfl (by decide +kernel) ⟨_, e1, L', rfl, rfl, hLo, he1, fun q => absurd q (by rw [← hz z43, hstk]; exact fun w => by cases w), fun y hy => ⟨z43, by rw [← hz z43, hstk] at hy; cases hy; rfl⟩⟩
      · refine pw_lconst (n := 0) (v := 0) (by decide) (by decide +kernel) ?_
        refine pw_goto (off := 16) (tgt := 63) (by decide +kernel) (by decide +kernel) ?_
        exact pq_lret rfl (by decide +kernel) ⟨_, e1, L', rfl, rfl, hLo, he1, fun _ => he1.resolve_left z43, fun y hy => absurd hy (by rw [hn z43]; exact fun w => by cases w)⟩
    · obtain ⟨c, rfl⟩ : ∃ c2, c = c2 + 1 := ⟨c - 1, by omega⟩
      have hst := kW_step hK hS (by omega)
      refine pw_aload_n (k4 := 0) rfl (by decide +kernel) ?_
      refine pq_getP (c := 11) (k := 53) (ks_m hA) (by decide) (by decide) (kp_m_value hA) lf_Mo_94 (by decide +kernel) ?_
      refine pw_iload_n (k4 := 2) rfl (by decide +kernel) ?_
      refine pw_aload_n (k4 := 0) rfl (by decide +kernel) ?_
      refine pw_iload_n (k4 := 2) rfl (by decide +kernel) ?_
      refine pq_callV (ν := m_Mo_valueOf) (d' := 1) (av := [_]) (c := 11) (by decide +kernel) lm_Mo_405 ok_Mo_valueOf (show _ = some 1 by decide +kernel) (ks_m hA) rfl (by decide) (by omega) (Nat.le_of_ble_eq_true rfl) (ct_Mo_valueOf hA he1 (by omega) hst.1) ?_
      rintro _ _ ⟨v, e2, rfl, rfl, g1, g2, g3⟩
      refine pq_last i rfl (by omega) (by decide) (ks_m_value hA) (by decide +kernel) ?_
      refine pn_iinc (i := 2) (n := 1) 1 i rfl rfl (by decide) rfl (by decide +kernel) ?_
      refine pw_goto (off := -24) (tgt := 12) (by decide +kernel) (by decide +kernel) ?_
      rw [sI_sI]
      obtain ⟨hv, stk2, k1, k2, k3⟩ := hst
      have k4 := k3 nm (L' 160) (L' 161) (fun q hq => by rw [hLo 160 (by decide)]; exact hnm q hq)
      refine ih c rfl (i + 1) e2 (sL L' 161 i v) stk2 (by omega) (by omega) k1 k2 g1 (fun a ha => by rw [sL_ne ha]; exact hLo a ha) (fun h0 => ?_) (fun h0 => ?_)
      · have e0 : e1 = 0 := Decidable.not_not.mp (fun q => absurd (g2 (show ¬ sI I 134 54 e1 134 54 = 0 from fun z => q z)) (by rw [h0]; decide))
        cases hy : yValF (I 155) (I 156) (I 157) (L' 160) (L' 161) i with
        | none => exact absurd ((g3 (show sI I 134 54 e1 134 54 = 0 from e0)).1 hy) (by rw [h0]; decide)
        | some y =>
          have gy := (g3 (show sI I 134 54 e1 134 54 = 0 from e0)).2 y hy
          rw [sL_eq, gy.2, ← k4.2 y hy]
          exact hz e0
      · by_cases e0 : e1 = 0
        · cases hy : yValF (I 155) (I 156) (I 157) (L' 160) (L' 161) i with
          | none => rw [← hz e0]; exact k4.1 hy
          | some y => exact absurd ((g3 (show sI I 134 54 e1 134 54 = 0 from e0)).2 y hy).1 h0
        · exact hn e0
)
  refine pw_aload_n (k4 := 0) rfl (by decide +kernel) ?_
  refine pw_iconst (n := 0) (v := 0) (by decide) (by decide +kernel) ?_
  refine pq_putZ (c := 11) (k := 54) (ks_m hA) (by decide) (by decide) (by decide) lf_Mo_362 (Or.inl rfl) (by decide +kernel) ?_
  refine pw_aload_n (k4 := 0) rfl (by decide +kernel) ?_
  refine pq_getP (c := 11) (k := 39) (ks_m hA) (by decide) (by decide) (kp_m_first hA) lf_Mo_69 (by decide +kernel) ?_
  refine pw_iload_n (k4 := 1) rfl (by decide +kernel) ?_
  refine pq_iald r rfl (by omega) (by decide) (ks_m_first hA) (by decide +kernel) ?_
  refine pn_val (nI (b)) hf ?_
  refine pq_istore_n (k4 := 2) (Nat.le_of_ble_eq_true rfl) rfl (by decide +kernel) ?_
  exact hL (e - b) b 0 L [] (by omega) (by omega) (fun a ha => by cases ha) hW (Or.inl rfl) (fun _ _ => rfl) (fun _ => rfl) (fun h => absurd rfl h)
