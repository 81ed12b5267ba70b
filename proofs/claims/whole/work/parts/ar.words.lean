/-! ===== the class: the scribe, words and persons beside the reference ===== -/
theorem tk_rng {kx vx kd wh : Int32} (h : tkT kx vx kd wh) {lo hi : Nat} (hh : hi < 25) (z : lo < 25) (hc : ∀ i, i < 25 → (lo ≤ wmN i ∧ wmN i ≤ hi ↔ lo ≤ i ∧ i ≤ hi)) : ((¬ kx < nI lo ∧ kx ≤ nI hi) ↔ (kd = 1 ∧ ¬ wh < nI lo ∧ ¬ nI hi < wh)) ∧ ((¬ kx < nI lo ∧ kx ≤ nI hi) → ∃ i, lo ≤ i ∧ i ≤ hi ∧ kx = nI (wmN i) ∧ wh = nI i) := by
  obtain ⟨K, hK, e, -⟩ := tkT_F h
  have hk := tk_key h
  have e1 : (¬ kx < nI lo ∧ kx ≤ nI hi) ↔ (lo ≤ K ∧ K ≤ hi) := by
    rw [e, nI_ltI (by omega) (by omega), nI_leI (by omega) (by omega)]
    omega
  have key : kd = 1 ↔ K < 25 := by
    rw [← hk.1, e, show (25 : Int32) = nI 25 from rfl, nI_ltI (by omega) (by decide)]
    exact ⟨fun q => q.2, fun q => ⟨nI_pos (by omega), q⟩⟩
  have mid : kd = 1 → ∃ i, i < 25 ∧ wmN i = K ∧ wh = nI i := by
    intro q
    obtain ⟨i, h1, h2, h3⟩ := hk.2 q
    refine ⟨i, h1, ?_, h3⟩
    have m := (wmN_in i h1).1
    rw [e, nI_eq (by omega) (by omega)] at h2
    exact h2.symm
  refine ⟨?_, ?_⟩
  · rw [e1]
    constructor
    · intro q
      have q1 := key.mpr (by omega)
      obtain ⟨i, h1, h2, h3⟩ := mid q1
      have := (hc i h1).mp (by rw [h2]; exact q)
      refine ⟨q1, ?_⟩
      rw [h3, nI_ltI (by omega) (by omega), nI_ltI (by omega) (by omega)]
      omega
    · rintro ⟨q1, q2⟩
      obtain ⟨i, h1, h2, h3⟩ := mid q1
      rw [h3, nI_ltI (by omega) (by omega), nI_ltI (by omega) (by omega)] at q2
      have := (hc i h1).mpr (by omega)
      rw [h2] at this
      exact this
  · rw [e1]
    intro q
    have q1 := key.mpr (by omega)
    obtain ⟨i, h1, h2, h3⟩ := mid q1
    have := (hc i h1).mp (by rw [h2]; exact q)
    exact ⟨i, this.1, this.2, by rw [h2]; exact e, h3⟩
def kIn (I : Nat → Nat → Int32) (lo hi : Nat) : Prop := ¬ I 58 0 < nI lo ∧ I 58 0 ≤ nI hi
def scLk (lo hi : Nat) (I : Nat → Nat → Int32) (L : Nat → Nat → Int64) (P : Nat → Nat → Option Nat) : Option Value → pM → Prop := fun r M => ∃ I' v, r = some (.int v) ∧ M = (I', L, P) ∧ (kIn I lo hi → v = I 58 0 - nI lo ∧ I = I') ∧ (¬ kIn I lo hi → v = -1 ∧ scRf I 1 = I')
/-- a part of a line that has been passed, with what it says -/
def scPt (q : Bool × (Nat → Nat → Int32)) (I : Nat → Nat → Int32) (L : Nat → Nat → Int64) (P : Nat → Nat → Option Nat) (n : Nat) : Option Value → pM → Prop := fun r M => ∃ I' v, r = some (.int v) ∧ M = (I', L, P) ∧ sbR q I I' n ∧ (q.1 = true → v = q.2 134 11) ∧ (q.1 = false → v = -1)
/-- a part of a line that is looked at and not passed yet -/
def scLq (q : Bool × (Nat → Nat → Int32)) (J I : Nat → Nat → Int32) (L : Nat → Nat → Int64) (P : Nat → Nat → Option Nat) (n m : Nat) : Option Value → pM → Prop := fun r M => ∃ I' v, r = some (.int v) ∧ M = (I', L, P) ∧ (q.1 = true → I = I' ∧ q = (true, sI (yTok J) 134 11 v) ∧ ∃ j, j < m ∧ v = nI j) ∧ (q.1 = false → v = -1 ∧ sbR q I I' n)
def scTe (k : Int32) (J I : Nat → Nat → Int32) (L : Nat → Nat → Int64) (P : Nat → Nat → Option Nat) (n : Nat) : Option Value → pM → Prop := fun r M => ∃ I' b, r = some (.int (bI b)) ∧ M = (I', L, P) ∧ (b = true → I 58 0 = k ∧ rdR I' (yTok J) n ∧ I' 57 = I 57) ∧ (b = false → ¬ I 58 0 = k ∧ I' = scRf I 1) ∧ ∀ a, a ≠ 57 → a ≠ 58 → I' a = I a
theorem gt_takeNumber {sh : List pSh} {I : Nat → Nat → Int32} {L : Nat → Nat → Int64} {P : Nat → Nat → Option Nat} (hA : kA sh P) (hrb : P 58 3 = some 2) {J : Nat → Nat → Int32} {n : Nat} (hr : rdR I J n) (lo hi : Nat) (hhi : hi ≤ 99999) (hlo : lo ≤ 99999) : pCn m_Sc_takeNumber 3 [.ref 57, .int (nI lo), .int (nI hi)] sh (I, L, P) (scPt (yNum J (nI lo) (nI hi)) I L P n) := by
  refine pCn_im (ct_Sc_takeNumber hA hrb hr hhi hlo) ?_
  rintro r M ⟨I', rfl, h1, h2, h3⟩
  have hy : ∀ q, yNum J (nI lo) (nI hi) = q → q.1 = true → q.2 134 11 = J 134 9 := by
    rintro q rfl hq
    unfold yNum at hq ⊢
    split at hq
    · cases hq
    · rename_i c1
      split at hq
      · cases hq
      · rename_i c2
        rw [if_neg c1, if_neg c2]
        rfl
  cases hq : (yNum J (nI lo) (nI hi)).1 with
  | true => exact ⟨I', J 134 9, h2 hq, rfl, h1, fun _ => (hy _ rfl hq).symm, fun w => by rw [hq] at w; cases w⟩
  | false => exact ⟨I', -1, h3 hq, rfl, h1, fun w => (by rw [hq] at w; cases w), fun _ => rfl⟩
theorem ct_Sc_take {sh : List pSh} {I : Nat → Nat → Int32} {L : Nat → Nat → Int64} {P : Nat → Nat → Option Nat} (hA : kA sh P) (hrb : P 58 3 = some 2) {J : Nat → Nat → Int32} {n : Nat} (hr : rdR I J n) (k : Int32) : pCn m_Sc_take 3 [.ref 57, .int k] sh (I, L, P) (scTe k J I L P n) := by
  refine pCn_of (by decide +kernel) (Nat.le_of_ble_eq_true rfl) ?_
  refine pw_aload_n (k4 := 0) rfl (by decide +kernel) ?_
  refine pq_getP (c := 4) (k := 4) (ks_sc hA) (by decide) (by decide) (kp_sc_reader hA) lf_Sc_12 (by decide +kernel) ?_
  refine pq_getI (c := 3) (k := 0) (ks_re hA) (by decide) (by decide) lf_Sc_45 (by decide +kernel) ?_
  refine pw_iload_n (k4 := 1) rfl (by decide +kernel) ?_
  refine pw_icmp_eq (off := 9) (tgt := 17) (by decide +kernel) (by decide +kernel) (fun z8 => ?_) (fun z8 => ?_)
  · refine pw_aload_n (k4 := 0) rfl (by decide +kernel) ?_
    refine pq_getP (c := 4) (k := 4) (ks_sc hA) (by decide) (by decide) (kp_sc_reader hA) lf_Sc_12 (by decide +kernel) ?_
    refine pq_callV (ν := m_Re_advance) (d' := 2) (av := []) (c := 3) (by decide +kernel) lm_Sc_62 ok_Re_advance (show _ = some 0 by decide +kernel) (ks_re hA) rfl (by decide) (by omega) (Nat.le_of_ble_eq_true rfl) (gt_advance hA hrb (J := J) (by exact hr)) ?_
    rintro _ _ ⟨rfl, I1, rfl, hr1, hf1⟩
    refine pw_iconst (n := 1) (v := 1) (by decide) (by decide +kernel) ?_
    exact pq_zret rfl (by decide) (by decide +kernel) ⟨_, true, rfl, rfl, fun _ => ⟨z8, hr1, hf1 57 (by decide)⟩, fun q => (by cases q), fun a _ h2 => hf1 a h2⟩
  · refine pw_aload_n (k4 := 0) rfl (by decide +kernel) ?_
    refine pw_iconst (n := 1) (v := 1) (by decide) (by decide +kernel) ?_
    refine pq_callV (ν := m_Sc_refuse) (d' := 0) (av := [_]) (c := 4) (by decide +kernel) lm_Sc_59 ok_Sc_refuse (show _ = some 1 by decide +kernel) (ks_sc hA) rfl (by decide) (by omega) (Nat.le_of_ble_eq_true rfl) (ct_Sc_refuse hA _) ?_
    rintro _ _ ⟨rfl, rfl⟩
    exact pq_zret rfl (by decide) (by decide +kernel) ⟨_, false, rfl, rfl, fun q => (by cases q), fun _ => ⟨z8, rfl⟩, fun a h1 h2 => by unfold scRf; rw [sI_ne h1, sI_ne h1]⟩

theorem ct_Sc_lookAt {sh : List pSh} {I : Nat → Nat → Int32} {L : Nat → Nat → Int64} {P : Nat → Nat → Option Nat} (hA : kA sh P) (lo hi : Nat) : pCn m_Sc_lookAt 1 [.ref 57, .int (nI lo), .int (nI hi)] sh (I, L, P) (scLk lo hi I L P) := by
  refine pCn_of (by decide +kernel) (Nat.le_of_ble_eq_true rfl) ?_
  refine pw_aload_n (k4 := 0) rfl (by decide +kernel) ?_
  refine pq_getP (c := 4) (k := 4) (ks_sc hA) (by decide) (by decide) (kp_sc_reader hA) lf_Sc_12 (by decide +kernel) ?_
  refine pq_getI (c := 3) (k := 0) (ks_re hA) (by decide) (by decide) lf_Sc_45 (by decide +kernel) ?_
  refine pw_iload_n (k4 := 1) rfl (by decide +kernel) ?_
  refine pw_icmp_lt (off := 14) (tgt := 22) (by decide +kernel) (by decide +kernel) (fun z8 => ?_) (fun z8 => ?_)
  · refine pw_aload_n (k4 := 0) rfl (by decide +kernel) ?_
    refine pw_iconst (n := 1) (v := 1) (by decide) (by decide +kernel) ?_
    refine pq_callV (ν := m_Sc_refuse) (d' := 0) (av := [_]) (c := 4) (by decide +kernel) lm_Sc_59 ok_Sc_refuse (show _ = some 1 by decide +kernel) (ks_sc hA) rfl (by decide) (by omega) (Nat.le_of_ble_eq_true rfl) (ct_Sc_refuse hA _) ?_
    rintro _ _ ⟨rfl, rfl⟩
    refine pw_pop rfl (by decide +kernel) ?_
    refine pw_iconst (n := -1) (v := -1) (by decide) (by decide +kernel) ?_
    exact pq_iret rfl (by decide +kernel) ⟨_, _, rfl, rfl, fun q => absurd z8 q.1, fun _ => ⟨rfl, rfl⟩⟩
  · refine pw_aload_n (k4 := 0) rfl (by decide +kernel) ?_
    refine pq_getP (c := 4) (k := 4) (ks_sc hA) (by decide) (by decide) (kp_sc_reader hA) lf_Sc_12 (by decide +kernel) ?_
    refine pq_getI (c := 3) (k := 0) (ks_re hA) (by decide) (by decide) lf_Sc_45 (by decide +kernel) ?_
    refine pw_iload_n (k4 := 2) rfl (by decide +kernel) ?_
    refine pw_icmp_le (off := 11) (tgt := 30) (by decide +kernel) (by decide +kernel) (fun z19 => ?_) (fun z19 => ?_)
    · refine pw_aload_n (k4 := 0) rfl (by decide +kernel) ?_
      refine pq_getP (c := 4) (k := 4) (ks_sc hA) (by decide) (by decide) (kp_sc_reader hA) lf_Sc_12 (by decide +kernel) ?_
      refine pq_getI (c := 3) (k := 0) (ks_re hA) (by decide) (by decide) lf_Sc_45 (by decide +kernel) ?_
      refine pw_iload_n (k4 := 1) rfl (by decide +kernel) ?_
      refine pw_isub (by decide +kernel) ?_
      exact pq_iret rfl (by decide +kernel) ⟨_, _, rfl, rfl, fun _ => ⟨rfl, rfl⟩, fun q => absurd ⟨z8, z19⟩ q⟩
    · refine pw_aload_n (k4 := 0) rfl (by decide +kernel) ?_
      refine pw_iconst (n := 1) (v := 1) (by decide) (by decide +kernel) ?_
      refine pq_callV (ν := m_Sc_refuse) (d' := 0) (av := [_]) (c := 4) (by decide +kernel) lm_Sc_59 ok_Sc_refuse (show _ = some 1 by decide +kernel) (ks_sc hA) rfl (by decide) (by omega) (Nat.le_of_ble_eq_true rfl) (ct_Sc_refuse hA _) ?_
      rintro _ _ ⟨rfl, rfl⟩
      refine pw_pop rfl (by decide +kernel) ?_
      refine pw_iconst (n := -1) (v := -1) (by decide) (by decide +kernel) ?_
      exact pq_iret rfl (by decide +kernel) ⟨_, _, rfl, rfl, fun q => absurd q.2 z19, fun _ => ⟨rfl, rfl⟩⟩

theorem yPick_t {J : Nat → Nat → Int32} {lo hi : Int32} (h : J 134 8 = 1 ∧ ¬ J 134 9 < lo ∧ ¬ hi < J 134 9) : yPick J lo hi = (true, sI (yTok J) 134 11 (J 134 9 - lo)) := by
  unfold yPick
  rw [if_neg (fun w => w h.1), if_neg h.2.1, if_neg h.2.2]
theorem yPick_f {J : Nat → Nat → Int32} {lo hi : Int32} (h : ¬ (J 134 8 = 1 ∧ ¬ J 134 9 < lo ∧ ¬ hi < J 134 9)) : yPick J lo hi = (false, yWr J 1) := by
  unfold yPick
  by_cases c1 : J 134 8 = 1
  · rw [if_neg (fun w => w c1)]
    by_cases c2 : J 134 9 < lo
    · rw [if_pos c2]
    · rw [if_neg c2, if_pos]
      by_cases c3 : hi < J 134 9
      · exact c3
      · exact absurd ⟨c1, c2, c3⟩ h
  · rw [if_pos c1]
theorem gt_lookAt {sh : List pSh} {I : Nat → Nat → Int32} {L : Nat → Nat → Int64} {P : Nat → Nat → Option Nat} (hA : kA sh P) {J : Nat → Nat → Int32} {n : Nat} (hr : rdR I J n) (lo hi : Nat) (hh : hi < 14) (hl : lo ≤ hi) : pCn m_Sc_lookAt 1 [.ref 57, .int (nI lo), .int (nI hi)] sh (I, L, P) (scLq (yPick J (nI lo) (nI hi)) J I L P n (hi + 1 - lo)) := by
  refine pCn_im (ct_Sc_lookAt hA lo hi) ?_
  rintro r M ⟨I', v, rfl, rfl, h1, h2⟩
  have hw : ∀ i, i < 25 → (lo ≤ wmN i ∧ wmN i ≤ hi ↔ lo ≤ i ∧ i ≤ hi) := by
    intro i hi'
    unfold wmN
    repeat' split
    all_goals omega
  have hg := tk_rng hr.1 (by omega) (by omega) hw
  by_cases c : kIn I lo hi
  · obtain ⟨rfl, rfl⟩ := h1 c
    obtain ⟨i, g1, g2, g3, g4⟩ := hg.2 c
    have e := yPick_t (hg.1.mp c)
    have w : wmN i = i := by unfold wmN; rw [if_neg (by omega), if_neg (by omega), if_neg (by omega), if_neg (by omega)]
    have ev : I 58 0 - nI lo = J 134 9 - nI lo := by rw [g3, g4, w]
    refine ⟨_, _, rfl, rfl, fun _ => ⟨rfl, by rw [e, ev], i - lo, by omega, ?_⟩, fun q => ?_⟩
    · rw [g3, w]
      exact pk_sub g1
    · rw [e] at q; cases q
  · obtain ⟨rfl, rfl⟩ := h2 c
    have e := yPick_f (fun q => c (hg.1.mpr q))
    refine ⟨_, _, rfl, rfl, fun q => ?_, fun _ => ⟨rfl, ?_⟩⟩
    · rw [e] at q; cases q
    · rw [e]; exact scRf_sb hr (by decide)
theorem sbR_in {q : Bool × (Nat → Nat → Int32)} {I I' : Nat → Nat → Int32} {n : Nat} (h : sbR q I I' n) (h0 : I 57 1 = 0) : (I' 57 1 = 0 ↔ q.1 = true) := by
  cases hq : q.1 with
  | true => exact ⟨fun _ => rfl, fun _ => by rw [(h.1 hq).2]; exact h0⟩
  | false => exact ⟨fun w => absurd ((h.2.1 hq).1.symm.trans w) (h.2.1 hq).2.2, fun w => by cases w⟩
theorem rdR_J {X J J' : Nat → Nat → Int32} {n : Nat} (h : rdR X J n) (h4 : ∀ k, k ∈ [6, 7, 8, 9, 10] → J' 134 k = J 134 k) (h5 : J' 135 = J 135) : rdR X J' n := by
  have hb : bT J' = bT J := by unfold bT; rw [h5]
  unfold rdR at h ⊢
  rw [hb, h4 6 (by decide), h4 7 (by decide), h4 8 (by decide), h4 9 (by decide), h4 10 (by decide)]
  exact h
theorem rdR_X {X X' J : Nat → Nat → Int32} {n : Nat} (h : rdR X J n) (h1 : X' 58 = X 58) (h2 : X' 2 = X 2) (h3 : X' 60 = X 60) : rdR X' J n := by
  unfold rdR at h ⊢
  rw [h1, h2, h3]
  exact h
theorem ct_Sc_takeOneOf {sh : List pSh} {I : Nat → Nat → Int32} {L : Nat → Nat → Int64} {P : Nat → Nat → Option Nat} (hA : kA sh P) (hrb : P 58 3 = some 2) {J : Nat → Nat → Int32} {n : Nat} (hr : rdR I J n) (lo hi : Nat) (hh : hi < 14) (hl : lo ≤ hi) : pCn m_Sc_takeOneOf 3 [.ref 57, .int (nI lo), .int (nI hi)] sh (I, L, P) (scPt (yPick J (nI lo) (nI hi)) I L P n) := by
  refine pCn_of (by decide +kernel) (Nat.le_of_ble_eq_true rfl) ?_
  refine pw_aload_n (k4 := 0) rfl (by decide +kernel) ?_
  refine pw_iload_n (k4 := 1) rfl (by decide +kernel) ?_
  refine pw_iload_n (k4 := 2) rfl (by decide +kernel) ?_
  refine pq_callV (ν := m_Sc_lookAt) (d' := 1) (av := [_, _]) (c := 4) (by decide +kernel) lm_Sc_89 ok_Sc_lookAt (show _ = some 2 by decide +kernel) (ks_sc hA) rfl (by decide) (by omega) (Nat.le_of_ble_eq_true rfl) (gt_lookAt hA hr lo hi hh hl) ?_
  rintro _ _ ⟨I0, v, rfl, rfl, hT, hF⟩
  refine pq_istore_n (k4 := 3) (Nat.le_of_ble_eq_true rfl) rfl (by decide +kernel) ?_
  refine pw_iload_n (k4 := 3) rfl (by decide +kernel) ?_
  refine pw_if_lt (off := 10) (tgt := 18) (by decide +kernel) (by decide +kernel) (fun z8 => ?_) (fun z8 => ?_)
  · have hq : (yPick J (nI lo) (nI hi)).1 = false := by
      cases q : (yPick J (nI lo) (nI hi)).1 with
      | true => obtain ⟨-, -, j, hj, e⟩ := hT q; rw [e] at z8; exact absurd z8 (nI_pos (by omega))
      | false => rfl
    obtain ⟨hv, hsb⟩ := hF hq
    refine pw_iload_n (k4 := 3) rfl (by decide +kernel) ?_
    exact pq_iret rfl (by decide +kernel) ⟨_, _, rfl, rfl, hsb, fun q => (by rw [hq] at q; cases q), fun _ => hv⟩
  · have hq : (yPick J (nI lo) (nI hi)).1 = true := by
      cases q : (yPick J (nI lo) (nI hi)).1 with
      | true => rfl
      | false => rw [(hF q).1] at z8; exact absurd (by decide) z8
    obtain ⟨rfl, hE, -⟩ := hT hq
    refine pw_aload_n (k4 := 0) rfl (by decide +kernel) ?_
    refine pq_getP (c := 4) (k := 4) (ks_sc hA) (by decide) (by decide) (kp_sc_reader hA) lf_Sc_12 (by decide +kernel) ?_
    refine pq_callV (ν := m_Re_advance) (d' := 2) (av := []) (c := 3) (by decide +kernel) lm_Sc_62 ok_Re_advance (show _ = some 0 by decide +kernel) (ks_re hA) rfl (by decide) (by omega) (Nat.le_of_ble_eq_true rfl) (gt_advance hA hrb (J := J) (by exact hr)) ?_
    rintro _ _ ⟨rfl, I1, rfl, hr1, hf1⟩
    refine pw_iload_n (k4 := 3) rfl (by decide +kernel) ?_
    exact pq_iret rfl (by decide +kernel) ⟨_, _, rfl, rfl, by rw [hE]; exact ⟨fun _ => ⟨rdR_J hr1 (fun k hk => (show sI (yTok J) 134 11 v 134 k = _ from sI_rd (fun e => by rw [e] at hk; exact absurd hk (by decide)))) rfl, hf1 57 (by decide)⟩, fun q => (by cases q), fun a _ h2 => hf1 a h2⟩, fun _ => by rw [hE]; exact (show v = sI (yTok J) 134 11 v 134 11 from sI_rs.symm), fun q => (by rw [hq] at q; cases q)⟩

theorem ct_Sc_lookAtPerson {sh : List pSh} {I : Nat → Nat → Int32} {L : Nat → Nat → Int64} {P : Nat → Nat → Option Nat} (hA : kA sh P) (hrb : P 58 3 = some 2) {J : Nat → Nat → Int32} {n : Nat} (hr : rdR I J n) {t : Nat} (ht : t = 3 ∨ t = 30) (hst : P 57 5 = some t) {pr sr dr : Nat} (hn : tOK I t pr sr dr) (hnm : ∀ p, p < pr → I (t + 1) p = J 137 (5 + p)) : pCn m_Sc_lookAtPerson 1 [.ref 57] sh (I, L, P) (scLq (yPer J pr) J I L P n pr) := by
  refine pCn_of (by decide +kernel) (Nat.le_of_ble_eq_true rfl) ?_
  refine pw_aload_n (k4 := 0) rfl (by decide +kernel) ?_
  refine pq_getP (c := 4) (k := 4) (ks_sc hA) (by decide) (by decide) (kp_sc_reader hA) lf_Sc_12 (by decide +kernel) ?_
  refine pq_getI (c := 3) (k := 0) (ks_re hA) (by decide) (by decide) lf_Sc_45 (by decide +kernel) ?_
  refine pw_bipush (n := 25) (v := 25) (by decide) (by decide +kernel) ?_
  refine pw_icmp_eq (off := 11) (tgt := 20) (by decide +kernel) (by decide +kernel) (fun z9 => ?_) (fun z9 => ?_)
  · have hk : J 134 8 = 2 := (tk_25 hr.1).mp z9
    have hv : fFind (I (t + 1)) (I 58 1) pr 0 = fFind (fun k => J 137 (5 + k)) (J 134 9) pr 0 := by rw [tk_wd hr.1 hk]; exact fFind_cg pr 0 (fun j _ hj => hnm j (by omega))
    refine pw_aload_n (k4 := 0) rfl (by decide +kernel) ?_
    refine pq_getP (c := 4) (k := 5) (ks_sc hA) (by decide) (by decide) hst lf_Sc_18 (by decide +kernel) ?_
    refine pw_aload_n (k4 := 0) rfl (by decide +kernel) ?_
    refine pq_getP (c := 4) (k := 4) (ks_sc hA) (by decide) (by decide) (kp_sc_reader hA) lf_Sc_12 (by decide +kernel) ?_
    refine pq_getI (c := 3) (k := 1) (ks_re hA) (by decide) (by decide) lf_Sc_86 (by decide +kernel) ?_
    refine pq_callV (ν := m_Ta_personNamed) (d' := 0) (av := [_]) (c := 7) (by decide +kernel) lm_Sc_93 ok_Ta_personNamed (show _ = some 1 by decide +kernel) (ks_t hA ht) rfl (by decide) (by omega) (Nat.le_of_ble_eq_true rfl) (ct_Ta_personNamed hA ht hn _) ?_
    rintro _ _ ⟨rfl, rfl⟩
    refine pq_istore_n (k4 := 1) (Nat.le_of_ble_eq_true rfl) rfl (by decide +kernel) ?_
    refine pw_iload_n (k4 := 1) rfl (by decide +kernel) ?_
    refine pw_if_ge (off := 9) (tgt := 45) (by decide +kernel) (by decide +kernel) (fun z36 => ?_) (fun z36 => ?_)
    · have hge : ¬ fFind (fun k => J 137 (5 + k)) (J 134 9) pr 0 < 0 := by rw [← hv]; exact Int32.not_lt.mpr z36
      have hq : yPer J pr = (true, sI (yTok J) 134 11 (fFind (fun k => J 137 (5 + k)) (J 134 9) pr 0)) := by unfold yPer; rw [if_neg (fun q => q hk), if_neg hge]
      refine pw_iload_n (k4 := 1) rfl (by decide +kernel) ?_
      exact pq_iret rfl (by decide +kernel) ⟨_, _, rfl, rfl, fun _ => ⟨rfl, by rw [hq, hv], by
          rw [hv]
          rcases fFind_in (fun k => J 137 (5 + k)) (J 134 9) pr 0 with q | ⟨j, _, h3, h4⟩
          · rw [q] at hge; exact absurd (by decide) hge
          · exact ⟨j, by omega, h4⟩⟩, fun q => (by rw [hq] at q; cases q)⟩
    · have hlt : fFind (fun k => J 137 (5 + k)) (J 134 9) pr 0 < 0 := by rw [← hv]; exact Int32.not_le.mp z36
      have hq : yPer J pr = (false, yWr J 4) := by unfold yPer; rw [if_neg (fun q => q hk), if_pos hlt]
      have hm1 : fFind (fun k => J 137 (5 + k)) (J 134 9) pr 0 = -1 := by
        rcases fFind_in (fun k => J 137 (5 + k)) (J 134 9) pr 0 with q | ⟨j, _, h3, h4⟩
        · exact q
        · rw [h4] at hlt; exact absurd hlt (nI_pos (by have := hn.2.1; omega))
      refine pw_aload_n (k4 := 0) rfl (by decide +kernel) ?_
      refine pw_iconst (n := 4) (v := 4) (by decide) (by decide +kernel) ?_
      refine pq_callV (ν := m_Sc_refuse) (d' := 0) (av := [_]) (c := 4) (by decide +kernel) lm_Sc_59 ok_Sc_refuse (show _ = some 1 by decide +kernel) (ks_sc hA) rfl (by decide) (by omega) (Nat.le_of_ble_eq_true rfl) (ct_Sc_refuse hA _) ?_
      rintro _ _ ⟨rfl, rfl⟩
      refine pw_pop rfl (by decide +kernel) ?_
      refine pw_iload_n (k4 := 1) rfl (by decide +kernel) ?_
      exact pq_iret rfl (by decide +kernel) ⟨_, _, rfl, rfl, fun q => (by rw [hq] at q; cases q), fun _ => ⟨hv.trans hm1, by rw [hq]; exact scRf_sb hr (by decide)⟩⟩
  · have hq : yPer J pr = (false, yWr J 1) := by unfold yPer; rw [if_pos (fun q => z9 ((tk_25 hr.1).mpr q))]
    refine pw_aload_n (k4 := 0) rfl (by decide +kernel) ?_
    refine pw_iconst (n := 1) (v := 1) (by decide) (by decide +kernel) ?_
    refine pq_callV (ν := m_Sc_refuse) (d' := 0) (av := [_]) (c := 4) (by decide +kernel) lm_Sc_59 ok_Sc_refuse (show _ = some 1 by decide +kernel) (ks_sc hA) rfl (by decide) (by omega) (Nat.le_of_ble_eq_true rfl) (ct_Sc_refuse hA _) ?_
    rintro _ _ ⟨rfl, rfl⟩
    refine pw_pop rfl (by decide +kernel) ?_
    refine pw_iconst (n := -1) (v := -1) (by decide) (by decide +kernel) ?_
    exact pq_iret rfl (by decide +kernel) ⟨_, _, rfl, rfl, fun q => (by rw [hq] at q; cases q), fun _ => ⟨rfl, by rw [hq]; exact scRf_sb hr (by decide)⟩⟩

