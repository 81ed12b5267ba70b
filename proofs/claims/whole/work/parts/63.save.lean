/-! ===== the reference: run, save ===== -/
theorem shrN {m i : Nat} (hm : m < 2 ^ 31) (hi : i < 31) : nI m >>> (nI i &&& 31) = nI (m / 2 ^ i) := pk_shrN hm _ i (s_l i (by omega))
theorem ycl_n {I : Nat → Nat → Int32} {np : Nat} {b : Int32} {c : Nat → Nat} (hcl : clM I np c) (hnp : np ≤ 5) (h : yClaims I b np) : ∃ b0, b0 < 2 ^ np ∧ b = nI b0 ∧ ∀ p, b0.testBit p = true → 1 ≤ c p := by
  obtain ⟨b0, hb0, rfl⟩ := nI_of h.1
  have h2 := h.2.1
  rw [shrN hb0 (by omega)] at h2
  have h3 : b0 / 2 ^ np = 0 := (nI_eq (Nat.lt_of_le_of_lt (Nat.div_le_self _ _) hb0) (by decide)).mp h2
  have h4 : b0 < 2 ^ np := by
    rcases Nat.lt_or_ge b0 (2 ^ np) with q | q
    · exact q
    · have := Nat.div_pos q (Nat.two_pow_pos np)
      omega
  refine ⟨b0, h4, rfl, fun p hp => ?_⟩
  have hpn : p < np := by
    rcases Nat.lt_or_ge p np with q | q
    · exact q
    · rw [tb_hi h4 q] at hp; cases hp
  have h5 := h.2.2 p hpn ((nbit_1 (show b0 < 2 ^ 31 by omega) (show p < 31 by omega)).mpr hp)
  rcases hcl.1 p hpn with w | w
  · rw [w.1] at h5; exact absurd (by decide) h5
  · exact w.2
def rRnM (c : Nat → Nat) (M np : Nat) (b : Int32) (I : Nat → Nat → Int32) (P : Nat → Nat → Option Nat) : Option Value → pM → Prop := fun r Mm => ∃ b0 j, b = nI b0 ∧ b0 < 2 ^ np ∧ r = some (.int (nI (itN c M np b0 j))) ∧ stN c M np (itN c M np b0 j) = itN c M np b0 j ∧ ∃ I' L', Mm = (I', L', P) ∧ rep I' I
def rSvM (c : Nat → Nat) (M np : Nat) (b : Int32) (I : Nat → Nat → Int32) (P : Nat → Nat → Option Nat) : Option Value → pM → Prop := fun r Mm => ∃ b0 x, b = nI b0 ∧ b0 < 2 ^ np ∧ r = some (.int (nI x)) ∧ stN c (M + x) np b0 = b0 ∧ (∀ y, y < x → ¬ stN c (M + y) np b0 = b0) ∧ ∃ I' L', Mm = (I', L', P) ∧ rep I' I
theorem itN_fix {c : Nat → Nat} {M np b : Nat} (h : stN c M np b = b) : ∀ j, itN c M np b j = b
  | 0 => rfl
  | j + 1 => by
    unfold itN
    rw [itN_fix h j]
    exact h
theorem itN_ge (c : Nat → Nat) (M np b : Nat) : ∀ j, b ≤ itN c M np b j
  | 0 => Nat.le_refl _
  | j + 1 => Nat.le_trans (itN_ge c M np b j) (rnx_ge _ _ _ _)
theorem itN_eq {c : Nat → Nat} {M np b j : Nat} (h : itN c M np b j = b) (hf : stN c M np (itN c M np b j) = itN c M np b j) : stN c M np b = b := by
  rw [h] at hf
  exact hf
theorem stN_rich {c : Nat → Nat} {M np b : Nat} (h9 : ∀ p, c p ≤ 9) (hnp : np ≤ 5) (hM : 64 ≤ M) : stN c M np b = b := by
  have hs := sumB_9 h9 b hnp
  have key : ∀ n, rnx c (M - sumB c b np) b n = b := fun n => by
    induction n with
    | zero => rfl
    | succ n ih =>
      unfold rnx
      have := h9 n
      rw [if_neg (by omega)]
      exact ih
  exact key np

theorem ct_Mo_run {sh : List pSh} {I : Nat → Nat → Int32} {L : Nat → Nat → Int64} {P : Nat → Nat → Option Nat} (hA : kA sh P) {np ns nd : Nat} (hm : mOK I np ns nd) (hwf : wfL I) (ho : oOK I 0 np ns) {c : Nat → Nat} (hcl : clM I np c) (b : Int32) : pCn m_Mo_run 8 [.ref 134, .int b] sh (I, L, P) (rIf (yClaims I b np) (rRnM c (bkN I ns) np b I P) (rA (-1) I P)) := by
  refine pCn_of (by decide +kernel) (Nat.le_of_ble_eq_true rfl) ?_
  have h5 := hm.2.1
  have h16 := hm.2.2.2.1
  have h8 := hm.2.2.2.2.2
  refine pw_aload_n (k4 := 0) rfl (by decide +kernel) ?_
  refine pw_iconst (n := 0) (v := 0) (by decide) (by decide +kernel) ?_
  refine pq_putI (c := 11) (k := 2) (ks_m hA) (by decide) (by decide) lf_Mo_175 (Or.inl rfl) (by decide +kernel) ?_
  refine pw_aload_n (k4 := 0) rfl (by decide +kernel) ?_
  refine pw_iload_n (k4 := 1) rfl (by decide +kernel) ?_
  refine pq_callV (ν := m_Mo_areClaims) (d' := 1) (av := [_]) (c := 11) (by decide +kernel) lm_Mo_529 ok_Mo_areClaims (show _ = some 1 by decide +kernel) (ks_m hA) rfl (by decide) (by omega) (Nat.le_of_ble_eq_true rfl) (ct_Mo_areClaims hA (by exact hm) _) ?_
  rintro _ _ ⟨rfl, rfl⟩
  refine pn_ifB_eq (off := 12) (tgt := 22) (by decide +kernel) (by decide +kernel) (fun z10 => ?_) (fun z10 => ?_)
  · refine pw_iconst (n := -1) (v := -1) (by decide) (by decide +kernel) ?_
    exact pq_iret rfl (by decide +kernel) ⟨fun h => absurd h z10, fun _ => ⟨rfl, _, _, rfl, rep_t⟩⟩
  · obtain ⟨b0, hb0, rfl, hbb⟩ := ycl_n hcl h5 z10
    refine pw_aload_n (k4 := 0) rfl (by decide +kernel) ?_
    refine pw_iload_n (k4 := 1) rfl (by decide +kernel) ?_
    refine pw_iconst (n := 0) (v := 0) (by decide) (by decide +kernel) ?_
    refine pq_callV (ν := m_Mo_runOf) (d' := 7) (av := [_, _]) (c := 11) (by decide +kernel) lm_Mo_532 ok_Mo_runOf (show _ = some 2 by decide +kernel) (ks_m hA) rfl (by decide) (by omega) (Nat.le_of_ble_eq_true rfl) (ct_Mo_runOf hA (by exact hm) (by exact hwf) (by exact ho) (by exact hcl) (b0 := b0) (mo := 0) hb0 hbb (by omega)) ?_
    rintro _ _ ⟨j, ev, L2, rfl, hlt, hfx, rfl⟩
    replace hlt : itN c (bkN I ns + 0) np b0 j < 2 ^ np := hlt
    replace hfx : stN c (bkN I ns + 0) np (itN c (bkN I ns + 0) np b0 j) = itN c (bkN I ns + 0) np b0 j := hfx
    refine pw_goto (off := 4) (tgt := 23) (by decide +kernel) (by decide +kernel) ?_
    exact pq_iret rfl (by decide +kernel) ⟨fun _ => ⟨b0, j, rfl, hb0, rfl, hfx, _, _, rfl, rep_te⟩, fun h => absurd z10 h⟩

theorem ct_Mo_save {sh : List pSh} {I : Nat → Nat → Int32} {L : Nat → Nat → Int64} {P : Nat → Nat → Option Nat} (hA : kA sh P) {np ns nd : Nat} (hm : mOK I np ns nd) (hwf : wfL I) (ho : oOK I 0 np ns) {c : Nat → Nat} (hcl : clM I np c) (b : Int32) : pCn m_Mo_save 8 [.ref 134, .int b] sh (I, L, P) (rIf (yClaims I b np) (rSvM c (bkN I ns) np b I P) (rA (-1) I P)) := by
  refine pCn_of (by decide +kernel) (Nat.le_of_ble_eq_true rfl) ?_
  have h5 := hm.2.1
  have hL : ∀ b0, b0 < 2 ^ np → (∀ p, b0.testBit p = true → 1 ≤ c p) → yClaims I (nI b0) np → ∀ x, x ≤ 64 → ∀ (ev : Int32) (L0 : Nat → Nat → Int64), (∀ y, y < x → ¬ stN c (bkN I ns + y) np b0 = b0) → pWn m_Mo_save 8 sh (rIf (yClaims I (nI b0) np) (rSvM c (bkN I ns) np (nI b0) I P) (rA (-1) I P)) 17 [some (.ref 134), some (.int (nI b0)), some (.int (nI x))] [] (sI (sI I 134 2 0) 134 54 ev, L0, P) := fun b0 hb0 hbb hz => pUpTo 64 _ (by
    intro x hx ih ev L0 hP
    have hs32 : 2 ^ np ≤ 2 ^ 5 := Nat.pow_le_pow_right (by decide) h5
    refine pw_aload_n (k4 := 0) rfl (by decide +kernel) ?_
    refine pw_iload_n (k4 := 1) rfl (by decide +kernel) ?_
    refine pw_iload_n (k4 := 2) rfl (by decide +kernel) ?_
    refine pq_callV (ν := m_Mo_runOf) (d' := 7) (av := [_, _]) (c := 11) (by decide +kernel) lm_Mo_532 ok_Mo_runOf (show _ = some 2 by decide +kernel) (ks_m hA) rfl (by decide) (by omega) (Nat.le_of_ble_eq_true rfl) (ct_Mo_runOf hA (by exact hm) (by exact hwf) (by exact ho) (by exact hcl) (b0 := b0) (mo := x) hb0 hbb (by omega)) ?_
    rintro _ _ ⟨j, ev, L2, rfl, hlt, hfx, rfl⟩
    replace hlt : itN c (bkN I ns + x) np b0 j < 2 ^ np := hlt
    replace hfx : stN c (bkN I ns + x) np (itN c (bkN I ns + x) np b0 j) = itN c (bkN I ns + x) np b0 j := hfx
    refine pn_val (nI (itN c (bkN I ns + x) np b0 j)) rfl ?_
    refine pw_iload_n (k4 := 1) rfl (by decide +kernel) ?_
    refine pn_icmp_eq (off := 9) (tgt := 33) (itN c (bkN I ns + x) np b0 j) b0 rfl rfl (by omega) (by omega) (by decide +kernel) (by decide +kernel) (fun z24 => ?_) (fun z24 => ?_)
    · have hfix := itN_eq z24 hfx
      refine pw_iload_n (k4 := 2) rfl (by decide +kernel) ?_
      exact pq_iret rfl (by decide +kernel) ⟨fun _ => ⟨b0, x, rfl, hb0, rfl, hfix, hP, _, _, rfl, by rw [sI_sI]; exact rep_te⟩, fun h => absurd hz h⟩
    · have hnf : ¬ stN c (bkN I ns + x) np b0 = b0 := fun q => z24 (itN_fix q j)
      have hx64 : x < 64 := Nat.lt_of_not_le (fun q => hnf (stN_rich hcl.2.1 h5 (by omega)))
      refine pn_iinc (i := 2) (n := 1) 1 x rfl rfl (by decide) rfl (by decide +kernel) ?_
      refine pw_goto (off := -13) (tgt := 17) (by decide +kernel) (by decide +kernel) ?_
      rw [sI_sI]
      exact ih (by omega) ev L2 (fun y hy => (Nat.lt_succ_iff_lt_or_eq.mp hy).elim (hP y) (fun q => by subst q; exact hnf))
)
  refine pw_aload_n (k4 := 0) rfl (by decide +kernel) ?_
  refine pw_iconst (n := 0) (v := 0) (by decide) (by decide +kernel) ?_
  refine pq_putI (c := 11) (k := 2) (ks_m hA) (by decide) (by decide) lf_Mo_175 (Or.inl rfl) (by decide +kernel) ?_
  refine pw_aload_n (k4 := 0) rfl (by decide +kernel) ?_
  refine pw_iload_n (k4 := 1) rfl (by decide +kernel) ?_
  refine pq_callV (ν := m_Mo_areClaims) (d' := 1) (av := [_]) (c := 11) (by decide +kernel) lm_Mo_529 ok_Mo_areClaims (show _ = some 1 by decide +kernel) (ks_m hA) rfl (by decide) (by omega) (Nat.le_of_ble_eq_true rfl) (ct_Mo_areClaims hA (by exact hm) _) ?_
  rintro _ _ ⟨rfl, rfl⟩
  refine pn_ifB_ne (off := 5) (tgt := 15) (by decide +kernel) (by decide +kernel) (fun z10 => ?_) (fun z10 => ?_)
  · obtain ⟨b0, hb0, rfl, hbb⟩ := ycl_n hcl h5 z10
    refine pw_iconst (n := 0) (v := 0) (by decide) (by decide +kernel) ?_
    refine pq_istore_n (k4 := 2) (Nat.le_of_ble_eq_true rfl) rfl (by decide +kernel) ?_
    have w := hL b0 hb0 hbb z10 0 (Nat.zero_le _) (I 134 54) L (fun y hy => absurd hy (Nat.not_lt_zero _))
    rw [show sI (sI I 134 2 0) 134 54 (I 134 54) = sI I 134 2 0 from sI_same (sI I 134 2 0) 134 54] at w
    exact w
  · refine pw_iconst (n := -1) (v := -1) (by decide) (by decide +kernel) ?_
    exact pq_iret rfl (by decide +kernel) ⟨fun h => absurd h z10, fun _ => ⟨rfl, _, _, rfl, rep_t⟩⟩
