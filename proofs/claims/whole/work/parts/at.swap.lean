/-! ===== the class: swaps and seeds of a text beside the reference ===== -/
theorem pick_bd {I K : Nat → Nat → Int32} {lo hi : Nat} (hlo : lo ≤ hi) (hh : hi < 100) (h : yPick I (nI lo) (nI hi) = (true, K)) : ∃ v, v ≤ hi - lo ∧ K 134 11 = nI v := by
  unfold yPick at h
  by_cases h1 : I 134 8 = 1
  · rw [if_neg (fun w => w h1)] at h
    by_cases h2 : I 134 9 < nI lo
    · rw [if_pos h2] at h; cases h
    · rw [if_neg h2] at h
      by_cases h3 : nI hi < I 134 9
      · rw [if_pos h3] at h; cases h
      · rw [if_neg h3] at h
        cases h
        rw [sI_rs]
        obtain ⟨w, hw, e⟩ := nI_of (show ¬ I 134 9 < 0 from fun q => h2 (Int32.lt_of_lt_of_le q (Int32.not_lt.mp (nI_pos (by omega)))))
        rw [e] at h2 h3 ⊢
        have q1 : lo ≤ w := (nI_leI (by omega) hw).mp (Int32.not_lt.mp h2)
        have q2 : w ≤ hi := (nI_leI hw (by omega)).mp (Int32.not_lt.mp h3)
        exact ⟨w - lo, by omega, pk_sub q1⟩
  · rw [if_pos h1] at h; cases h
theorem num_bd {I K : Nat → Nat → Int32} {lo hi : Nat} (hlo : lo ≤ hi) (hh : hi < 2 ^ 31) (h : yNum I (nI lo) (nI hi) = (true, K)) : ∃ v, lo ≤ v ∧ v ≤ hi ∧ K 134 11 = nI v := by
  unfold yNum at h
  by_cases h1 : I 134 8 = 3
  · rw [if_neg (fun w => w h1)] at h
    by_cases h2 : nI lo ≤ I 134 9 ∧ I 134 9 ≤ nI hi
    · rw [if_neg (fun w => w h2)] at h
      cases h
      obtain ⟨v, a, b, e⟩ := in_nat hh h2 hlo
      exact ⟨v, a, b, e⟩
    · rw [if_pos h2] at h; cases h
  · rw [if_pos h1] at h; cases h
theorem swH_iff {r : Nat → Int32} {i : Nat} : ∀ n, swH r i n = true ↔ ∃ k, k < n ∧ r (32 + 4 * k) = r i ∧ r (32 + 4 * k + 2) = r (i + 2)
  | 0 => by
    constructor
    · intro h; cases h
    · rintro ⟨k, h, -⟩; exact absurd h (Nat.not_lt_zero k)
  | n + 1 => by
    unfold swH
    rw [Bool.or_eq_true, swH_iff n, decide_eq_true_iff]
    constructor
    · rintro (⟨k, h1, h2⟩ | h)
      · exact ⟨k, by omega, h2⟩
      · exact ⟨n, by omega, h⟩
    · rintro ⟨k, h1, h2⟩
      by_cases e : k = n
      · subst e; exact Or.inr h2
      · exact Or.inl ⟨k, by omega, h2⟩
/-- the rates told so far -/
def dRt (X J : Nat → Nat → Int32) (t rr : Nat) : Prop := X (t + 15) 0 = nI rr ∧ rr ≤ 8 ∧
  (∀ k, k < rr → ∃ a b u v, a < 6 ∧ b < 6 ∧ a ≠ b ∧ 1 ≤ u ∧ u ≤ 99 ∧ 1 ≤ v ∧ v ≤ 99 ∧ J 151 (32 + 4 * k) = nI a ∧ J 151 (32 + 4 * k + 1) = nI u ∧ J 151 (32 + 4 * k + 2) = nI b ∧ J 151 (32 + 4 * k + 3) = nI v ∧ X (t + 16) (a * 6 + b) = nI u ∧ X (t + 17) (a * 6 + b) = nI v) ∧
  (∀ a b, a < 6 → b < 6 → (∀ k, k < rr → ¬ (J 151 (32 + 4 * k) = nI a ∧ J 151 (32 + 4 * k + 2) = nI b)) → X (t + 17) (a * 6 + b) = 0) ∧
  ∀ k k', k < rr → k' < rr → J 151 (32 + 4 * k) = J 151 (32 + 4 * k') → J 151 (32 + 4 * k + 2) = J 151 (32 + 4 * k' + 2) → k = k'
/-- what a rate's line has changed -/
def tRt (I J : Nat → Nat → Int32) (t rr : Nat) (I' J' : Nat → Nat → Int32) : Prop := I' 57 = I 57 ∧ ∃ a b u v, a < 6 ∧ b < 6 ∧ a ≠ b ∧ 1 ≤ u ∧ u ≤ 99 ∧ 1 ≤ v ∧ v ≤ 99 ∧ J' 151 (32 + 4 * rr) = nI a ∧ J' 151 (32 + 4 * rr + 1) = nI u ∧ J' 151 (32 + 4 * rr + 2) = nI b ∧ J' 151 (32 + 4 * rr + 3) = nI v ∧ (∀ k, k < rr → ¬ (J 151 (32 + 4 * k) = nI a ∧ J 151 (32 + 4 * k + 2) = nI b)) ∧ (∀ k, k < 32 + 4 * rr → J' 151 k = J 151 k) ∧ frE I' (sI (sI (sI I (t + 16) (a * 6 + b) (nI u)) (t + 17) (a * 6 + b) (nI v)) (t + 15) 0 (nI (rr + 1)))
theorem told_iff {X J U : Nat → Nat → Int32} {t rr a b : Nat} (h : dRt X J t rr) (hl : ∀ k, k < 32 + 4 * rr → U 151 k = J 151 k) (h0 : U 151 (32 + 4 * rr) = nI a) (h2 : U 151 (32 + 4 * rr + 2) = nI b) (ha : a < 6) (hb : b < 6) : (swH (U 151) (32 + 4 * rr) rr = true ↔ ¬ X (t + 17) (a * 6 + b) ≤ 0) ∧ (¬ swH (U 151) (32 + 4 * rr) rr = true → ∀ k, k < rr → ¬ (J 151 (32 + 4 * k) = nI a ∧ J 151 (32 + 4 * k + 2) = nI b)) := by
  have key : swH (U 151) (32 + 4 * rr) rr = true ↔ ∃ k, k < rr ∧ J 151 (32 + 4 * k) = nI a ∧ J 151 (32 + 4 * k + 2) = nI b := by
    rw [swH_iff, h0, h2]
    constructor
    · rintro ⟨k, q, q1, q2⟩
      exact ⟨k, q, by rw [← hl _ (by omega)]; exact q1, by rw [← hl _ (by omega)]; exact q2⟩
    · rintro ⟨k, q, q1, q2⟩
      exact ⟨k, q, by rw [hl _ (by omega)]; exact q1, by rw [hl _ (by omega)]; exact q2⟩
  refine ⟨?_, fun w k hk q => w (key.mpr ⟨k, hk, q⟩)⟩
  rw [key]
  constructor
  · rintro ⟨k, q, q1, q2⟩ w
    obtain ⟨a', b', u, v, ha', hb', -, -, -, v1, v2, e1, -, e2, -, -, e3⟩ := h.2.2.1 k q
    rw [e1, nI_eq (by omega) (by omega)] at q1
    rw [e2, nI_eq (by omega) (by omega)] at q2
    subst q1 q2
    rw [e3, show (0 : Int32) = nI 0 from rfl, nI_leI (by omega) (by decide)] at w
    omega
  · intro w
    refine Classical.byContradiction fun c => w ?_
    rw [h.2.2.2.1 a b ha hb (fun k hk q => c ⟨k, hk, q⟩)]
    decide
theorem nI_21 (a b : Nat) : 2 * nI a + nI b = nI (2 * a + b) := by
  show nI 2 * nI a + nI b = _
  rw [pk_mul 2 a, nI_add]
set_option maxHeartbeats 4000000 in
theorem ct_Sc_readSwap {sh : List pSh} {I : Nat → Nat → Int32} {L : Nat → Nat → Int64} {P : Nat → Nat → Option Nat} (hA : kA sh P) (hrb : P 58 3 = some 2) {J : Nat → Nat → Int32} {n : Nat} (hr : rdR I J n) {t : Nat} (ht : t = 3 ∨ t = 30) (hst : P 57 5 = some t) (h0 : I 57 1 = 0) {rr : Nat} (hrt : dRt I J t rr) : pCn m_Sc_readSwap 4 [.ref 57] sh (I, L, P) (lnQ (yRL rr J) (tRt I J t rr) I L P n t) := by
  refine pCn_of (by decide +kernel) (Nat.le_of_ble_eq_true rfl) ?_
  obtain ⟨X, hX⟩ : ∃ X, X = yRL rr J := ⟨_, rfl⟩
  rw [← hX]
  unfold yRL at hX
  have fe0 : frE I I := frE.rf I
  have fo0 : frO t I I := frO.rf t I
  have hz0 : I 57 = I 57 := rfl
  have hc0 : J 137 = J 137 := rfl
  have hl0 : ∀ k, k < 32 + 4 * rr → J 151 k = J 151 k := fun _ _ => Eq.refl _
  have h8 := hrt.2.1
  refine pw_aload_n (k4 := 0) rfl (by decide +kernel) ?_
  refine pq_getP (c := 4) (k := 5) (ks_sc hA) (by decide) (by decide) hst lf_Sc_18 (by decide +kernel) ?_
  refine pq_getP (c := 7) (k := 17) (ks_t hA ht) (by decide) (by decide) (kp_t_swaps hA ht) lf_Sc_158 (by decide +kernel) ?_
  refine pq_astore_n (k4 := 1) (Nat.le_of_ble_eq_true rfl) rfl (by decide +kernel) ?_
  refine pw_aload_n (k4 := 1) rfl (by decide +kernel) ?_
  refine pq_getI (c := 6) (k := 0) (ks_t_swaps hA ht) (by decide) (by decide) lf_Sc_162 (by decide +kernel) ?_
  refine pn_val (nI (rr)) (hrt.1) ?_
  refine pw_bipush (n := 8) (v := 8) (by decide) (by decide +kernel) ?_
  refine pn_icmp_lt (off := 9) (tgt := 23) rr 8 rfl rfl (by omega) (by omega) (by decide +kernel) (by decide +kernel) (fun z14 => ?_) (fun z14 => ?_)
  · rw [if_neg (by omega)] at hX
    refine pw_aload_n (k4 := 0) rfl (by decide +kernel) ?_
    refine pq_getP (c := 4) (k := 4) (ks_sc hA) (by decide) (by decide) (kp_sc_reader hA) lf_Sc_12 (by decide +kernel) ?_
    refine pq_callV (ν := m_Re_advance) (d' := 2) (av := []) (c := 3) (by decide +kernel) lm_Sc_62 ok_Re_advance (show _ = some 0 by decide +kernel) (ks_re hA) rfl (by decide) (by omega) (Nat.le_of_ble_eq_true rfl) (gt_advance hA hrb hr) ?_
    rintro _ _ ⟨rfl, I27, rfl, hr27, hf27⟩
    have pf27 : prF (yTok J) J := prF_tok _
    generalize yTok J = G27 at hX hr27 pf27
    try dsimp only at hX
    have fe27 : frE I27 (I) := fun a h1 h2 => (hf27 a h2).trans (fe0 a h1 h2)
    have fo27 : frO t I I27 := fun a h1 h2 h3 => (hf27 a h2).trans (fo0 a h1 h2 h3)
    have hz27 : I27 57 = I 57 := (hf27 57 (by decide)).trans hz0
    have c27 : G27 137 = J 137 := (pf27.1 137 (by decide)).trans hc0
    have l27 : ∀ k, k < 32 + 4 * rr → G27 151 k = J 151 k := fun k hk => by exact (congrFun (pf27.1 151 (by decide)) k).trans (hl0 k hk)
    refine pw_aload_n (k4 := 0) rfl (by decide +kernel) ?_
    refine pw_bipush (n := 9) (v := 9) (by decide) (by decide +kernel) ?_
    refine pw_bipush (n := 11) (v := 11) (by decide) (by decide +kernel) ?_
    refine pq_callV (ν := m_Sc_takeOneOf) (d' := 3) (av := [_, _]) (c := 4) (by decide +kernel) lm_Sc_122 ok_Sc_takeOneOf (show _ = some 2 by decide +kernel) (ks_sc hA) rfl (by decide) (by omega) (Nat.le_of_ble_eq_true rfl) (ct_Sc_takeOneOf hA hrb hr27 9 11 (by decide) (by decide)) ?_
    rintro _ _ ⟨I35, v35, rfl, rfl, hs35, hv35, hw35⟩
    have fe35 : frE I35 (I) := fun a h1 h2 => (hs35.2.2 a h1 h2).trans (fe27 a h1 h2)
    have fo35 : frO t I I35 := fun a h1 h2 h3 => (hs35.2.2 a h1 h2).trans (fo27 a h1 h2 h3)
    refine pq_istore_n (k4 := 2) (Nat.le_of_ble_eq_true rfl) rfl (by decide +kernel) ?_
    refine pw_aload_n (k4 := 0) rfl (by decide +kernel) ?_
    refine pq_getI (c := 4) (k := 1) (ks_sc hA) (by decide) (by decide) lf_Sc_35 (by decide +kernel) ?_
    refine pw_if_ne (off := 14) (tgt := 57) (by decide +kernel) (by decide +kernel) (fun z43 => ?_) (fun z43 => ?_)
    · have hb35 : (I35 57 1 = 0 ↔ (yPick G27 (nI 9) (nI 11)).1 = true) := sbR_in hs35 (by rw [hz27]; exact h0)
      have hq35 : (yPick G27 (nI 9) (nI 11)).1 = false := by
        cases e : (yPick G27 (nI 9) (nI 11)).1 with
        | false => rfl
        | true => exact absurd (hb35.mpr e) z43
      have hXf35 : X = yPick G27 (nI 9) (nI 11) := by rw [hX]; exact yB_q hq35
      have ff35 : scF X I35 := by rw [hXf35]; exact ⟨hq35, hs35.2.1 hq35⟩
      refine pw_iconst (n := -1) (v := -1) (by decide) (by decide +kernel) ?_
      refine pq_istore_n (k4 := 3) (Nat.le_of_ble_eq_true rfl) rfl (by decide +kernel) ?_
      refine pw_aload_n (k4 := 0) rfl (by decide +kernel) ?_
      refine pq_getI (c := 4) (k := 1) (ks_sc hA) (by decide) (by decide) lf_Sc_35 (by decide +kernel) ?_
      refine pw_if_ne (off := 13) (tgt := 76) (by decide +kernel) (by decide +kernel) (fun z63 => ?_) (fun z63 => ?_)
      · refine pw_iconst (n := -1) (v := -1) (by decide) (by decide +kernel) ?_
        refine pq_istore (i := 4) (Nat.le_of_ble_eq_true rfl) rfl (by decide +kernel) ?_
        refine pw_aload_n (k4 := 0) rfl (by decide +kernel) ?_
        refine pq_getI (c := 4) (k := 1) (ks_sc hA) (by decide) (by decide) lf_Sc_35 (by decide +kernel) ?_
        refine pw_if_ne (off := 14) (tgt := 97) (by decide +kernel) (by decide +kernel) (fun z83 => ?_) (fun z83 => ?_)
        · refine pw_iconst (n := -1) (v := -1) (by decide) (by decide +kernel) ?_
          refine pq_istore (i := 5) (Nat.le_of_ble_eq_true rfl) rfl (by decide +kernel) ?_
          refine pw_aload_n (k4 := 0) rfl (by decide +kernel) ?_
          refine pq_getI (c := 4) (k := 1) (ks_sc hA) (by decide) (by decide) lf_Sc_35 (by decide +kernel) ?_
          refine pw_if_ne (off := 14) (tgt := 118) (by decide +kernel) (by decide +kernel) (fun z104 => ?_) (fun z104 => ?_)
          · refine pw_iconst (n := -1) (v := -1) (by decide) (by decide +kernel) ?_
            refine pq_istore (i := 6) (Nat.le_of_ble_eq_true rfl) rfl (by decide +kernel) ?_
            refine pw_aload_n (k4 := 0) rfl (by decide +kernel) ?_
            refine pq_getI (c := 4) (k := 1) (ks_sc hA) (by decide) (by decide) lf_Sc_35 (by decide +kernel) ?_
            refine pw_if_eq (off := 5) (tgt := 130) (by decide +kernel) (by decide +kernel) (fun z125 => ?_) (fun z125 => ?_)
            · exact absurd z125 (by rw [ff35.2.1]; exact ff35.2.2.2)
            · refine pw_iconst (n := 0) (v := 0) (by decide) (by decide +kernel) ?_
              exact pq_zret rfl (by decide) (by decide +kernel) (lnQ_f ff35 fo35)
          · exact absurd z104 (by rw [ff35.2.1]; exact ff35.2.2.2)
        · exact absurd z83 (by rw [ff35.2.1]; exact ff35.2.2.2)
      · exact absurd z63 (by rw [ff35.2.1]; exact ff35.2.2.2)
    · have hb35 : (I35 57 1 = 0 ↔ (yPick G27 (nI 9) (nI 11)).1 = true) := sbR_in hs35 (by rw [hz27]; exact h0)
      have hq35 : (yPick G27 (nI 9) (nI 11)).1 = true := hb35.mp z43
      obtain ⟨K35, hK35⟩ : ∃ K, yPick G27 (nI 9) (nI 11) = (true, K) := ⟨_, Prod.ext hq35 rfl⟩
      rw [show yPick G27 9 11 = (true, K35) from hK35, yB_t] at hX
      try dsimp only at hX
      have pf35 : prF K35 G27 := pick_pf hK35
      have hr35 : rdR I35 K35 n := by have := (hs35.1 hq35).1; rw [hK35] at this; exact this
      have hz35 : I35 57 = I 57 := (hs35.1 hq35).2.trans hz27
      have hu35 : v35 = K35 134 11 := by have := hv35 hq35; rw [hK35] at this; exact this
      have c35 : K35 137 = J 137 := (pf35.1 137 (by decide)).trans c27
      have l35 : ∀ k, k < 32 + 4 * rr → K35 151 k = J 151 k := fun k hk => by exact (congrFun (pf35.1 151 (by decide)) k).trans (l27 k hk)
      obtain ⟨H35_0, hH35_0⟩ : ∃ Z, Z = sI K35 151 (32 + 4 * rr) (2 * K35 134 11) := ⟨_, rfl⟩
      rw [← hH35_0] at hX
      have hrH35_0 : rdR I35 H35_0 n := by rw [hH35_0]; exact rdR_sJ hr35 (by decide) _ _
      have c35g0 : H35_0 137 = J 137 := by rw [hH35_0, sI_ne (by decide)]; exact c35
      have l35g0 : ∀ k, k < 32 + 4 * rr → H35_0 151 k = J 151 k := fun k hk => by rw [hH35_0, sI_rd (by omega)]; exact l35 k hk
      have x35n0_0 : H35_0 151 (32 + 4 * rr) = 2 * K35 134 11 := by rw [hH35_0, sI_rs]
      refine pw_aload_n (k4 := 0) rfl (by decide +kernel) ?_
      refine pw_bipush (n := 7) (v := 7) (by decide) (by decide +kernel) ?_
      refine pw_bipush (n := 8) (v := 8) (by decide) (by decide +kernel) ?_
      refine pq_callV (ν := m_Sc_takeOneOf) (d' := 3) (av := [_, _]) (c := 4) (by decide +kernel) lm_Sc_122 ok_Sc_takeOneOf (show _ = some 2 by decide +kernel) (ks_sc hA) rfl (by decide) (by omega) (Nat.le_of_ble_eq_true rfl) (ct_Sc_takeOneOf hA hrb hrH35_0 7 8 (by decide) (by decide)) ?_
      rintro _ _ ⟨I51, v51, rfl, rfl, hs51, hv51, hw51⟩
      have fe51 : frE I51 (I) := fun a h1 h2 => (hs51.2.2 a h1 h2).trans (fe35 a h1 h2)
      have fo51 : frO t I I51 := fun a h1 h2 h3 => (hs51.2.2 a h1 h2).trans (fo35 a h1 h2 h3)
      refine pw_goto (off := 4) (tgt := 58) (by decide +kernel) (by decide +kernel) ?_
      refine pq_istore_n (k4 := 3) (Nat.le_of_ble_eq_true rfl) rfl (by decide +kernel) ?_
      refine pw_aload_n (k4 := 0) rfl (by decide +kernel) ?_
      refine pq_getI (c := 4) (k := 1) (ks_sc hA) (by decide) (by decide) lf_Sc_35 (by decide +kernel) ?_
      refine pw_if_ne (off := 13) (tgt := 76) (by decide +kernel) (by decide +kernel) (fun z63 => ?_) (fun z63 => ?_)
      · have hb51 : (I51 57 1 = 0 ↔ (yPick H35_0 (nI 7) (nI 8)).1 = true) := sbR_in hs51 (by rw [hz35]; exact h0)
        have hq51 : (yPick H35_0 (nI 7) (nI 8)).1 = false := by
          cases e : (yPick H35_0 (nI 7) (nI 8)).1 with
          | false => rfl
          | true => exact absurd (hb51.mpr e) z63
        have hXf51 : X = yPick H35_0 (nI 7) (nI 8) := by rw [hX]; exact yB_q hq51
        have ff51 : scF X I51 := by rw [hXf51]; exact ⟨hq51, hs51.2.1 hq51⟩
        refine pw_iconst (n := -1) (v := -1) (by decide) (by decide +kernel) ?_
        refine pq_istore (i := 4) (Nat.le_of_ble_eq_true rfl) rfl (by decide +kernel) ?_
        refine pw_aload_n (k4 := 0) rfl (by decide +kernel) ?_
        refine pq_getI (c := 4) (k := 1) (ks_sc hA) (by decide) (by decide) lf_Sc_35 (by decide +kernel) ?_
        refine pw_if_ne (off := 14) (tgt := 97) (by decide +kernel) (by decide +kernel) (fun z83 => ?_) (fun z83 => ?_)
        · refine pw_iconst (n := -1) (v := -1) (by decide) (by decide +kernel) ?_
          refine pq_istore (i := 5) (Nat.le_of_ble_eq_true rfl) rfl (by decide +kernel) ?_
          refine pw_aload_n (k4 := 0) rfl (by decide +kernel) ?_
          refine pq_getI (c := 4) (k := 1) (ks_sc hA) (by decide) (by decide) lf_Sc_35 (by decide +kernel) ?_
          refine pw_if_ne (off := 14) (tgt := 118) (by decide +kernel) (by decide +kernel) (fun z104 => ?_) (fun z104 => ?_)
          · refine pw_iconst (n := -1) (v := -1) (by decide) (by decide +kernel) ?_
            refine pq_istore (i := 6) (Nat.le_of_ble_eq_true rfl) rfl (by decide +kernel) ?_
            refine pw_aload_n (k4 := 0) rfl (by decide +kernel) ?_
            refine pq_getI (c := 4) (k := 1) (ks_sc hA) (by decide) (by decide) lf_Sc_35 (by decide +kernel) ?_
            refine pw_if_eq (off := 5) (tgt := 130) (by decide +kernel) (by decide +kernel) (fun z125 => ?_) (fun z125 => ?_)
            · exact absurd z125 (by rw [ff51.2.1]; exact ff51.2.2.2)
            · refine pw_iconst (n := 0) (v := 0) (by decide) (by decide +kernel) ?_
              exact pq_zret rfl (by decide) (by decide +kernel) (lnQ_f ff51 fo51)
          · exact absurd z104 (by rw [ff51.2.1]; exact ff51.2.2.2)
        · exact absurd z83 (by rw [ff51.2.1]; exact ff51.2.2.2)
      · have hb51 : (I51 57 1 = 0 ↔ (yPick H35_0 (nI 7) (nI 8)).1 = true) := sbR_in hs51 (by rw [hz35]; exact h0)
        have hq51 : (yPick H35_0 (nI 7) (nI 8)).1 = true := hb51.mp z63
        obtain ⟨K51, hK51⟩ : ∃ K, yPick H35_0 (nI 7) (nI 8) = (true, K) := ⟨_, Prod.ext hq51 rfl⟩
        rw [show yPick H35_0 7 8 = (true, K51) from hK51, yB_t] at hX
        try dsimp only at hX
        have pf51 : prF K51 H35_0 := pick_pf hK51
        have hr51 : rdR I51 K51 n := by have := (hs51.1 hq51).1; rw [hK51] at this; exact this
        have hz51 : I51 57 = I 57 := (hs51.1 hq51).2.trans hz35
        have hu51 : v51 = K51 134 11 := by have := hv51 hq51; rw [hK51] at this; exact this
        have c51 : K51 137 = J 137 := (pf51.1 137 (by decide)).trans c35g0
        have l51 : ∀ k, k < 32 + 4 * rr → K51 151 k = J 151 k := fun k hk => by exact (congrFun (pf51.1 151 (by decide)) k).trans (l35g0 k hk)
        have x35n0_51 : K51 151 (32 + 4 * rr) = 2 * K35 134 11 := by rw [pf51.1 151 (by decide)]; exact x35n0_0
        obtain ⟨H51_0, hH51_0⟩ : ∃ Z, Z = sI K51 151 (32 + 4 * rr) (K51 151 (32 + 4 * rr) + K51 134 11) := ⟨_, rfl⟩
        rw [← hH51_0] at hX
        have hrH51_0 : rdR I51 H51_0 n := by rw [hH51_0]; exact rdR_sJ hr51 (by decide) _ _
        have c51g0 : H51_0 137 = J 137 := by rw [hH51_0, sI_ne (by decide)]; exact c51
        have l51g0 : ∀ k, k < 32 + 4 * rr → H51_0 151 k = J 151 k := fun k hk => by rw [hH51_0, sI_rd (by omega)]; exact l51 k hk
        have x51n0_0 : H51_0 151 (32 + 4 * rr) = K51 151 (32 + 4 * rr) + K51 134 11 := by rw [hH51_0, sI_rs]
        refine pw_aload_n (k4 := 0) rfl (by decide +kernel) ?_
        refine pw_iconst (n := 1) (v := 1) (by decide) (by decide +kernel) ?_
        refine pw_bipush (n := 99) (v := 99) (by decide) (by decide +kernel) ?_
        refine pq_callV (ν := m_Sc_takeNumber) (d' := 3) (av := [_, _]) (c := 4) (by decide +kernel) lm_Sc_107 ok_Sc_takeNumber (show _ = some 2 by decide +kernel) (ks_sc hA) rfl (by decide) (by omega) (Nat.le_of_ble_eq_true rfl) (gt_takeNumber hA hrb hrH51_0 1 99 (by decide) (by decide)) ?_
        rintro _ _ ⟨I70, v70, rfl, rfl, hs70, hv70, hw70⟩
        have fe70 : frE I70 (I) := fun a h1 h2 => (hs70.2.2 a h1 h2).trans (fe51 a h1 h2)
        have fo70 : frO t I I70 := fun a h1 h2 h3 => (hs70.2.2 a h1 h2).trans (fo51 a h1 h2 h3)
        refine pw_goto (off := 4) (tgt := 77) (by decide +kernel) (by decide +kernel) ?_
        refine pq_istore (i := 4) (Nat.le_of_ble_eq_true rfl) rfl (by decide +kernel) ?_
        refine pw_aload_n (k4 := 0) rfl (by decide +kernel) ?_
        refine pq_getI (c := 4) (k := 1) (ks_sc hA) (by decide) (by decide) lf_Sc_35 (by decide +kernel) ?_
        refine pw_if_ne (off := 14) (tgt := 97) (by decide +kernel) (by decide +kernel) (fun z83 => ?_) (fun z83 => ?_)
        · have hb70 : (I70 57 1 = 0 ↔ (yNum H51_0 (nI 1) (nI 99)).1 = true) := sbR_in hs70 (by rw [hz51]; exact h0)
          have hq70 : (yNum H51_0 (nI 1) (nI 99)).1 = false := by
            cases e : (yNum H51_0 (nI 1) (nI 99)).1 with
            | false => rfl
            | true => exact absurd (hb70.mpr e) z83
          have hXf70 : X = yNum H51_0 (nI 1) (nI 99) := by rw [hX]; exact yB_q hq70
          have ff70 : scF X I70 := by rw [hXf70]; exact ⟨hq70, hs70.2.1 hq70⟩
          refine pw_iconst (n := -1) (v := -1) (by decide) (by decide +kernel) ?_
          refine pq_istore (i := 5) (Nat.le_of_ble_eq_true rfl) rfl (by decide +kernel) ?_
          refine pw_aload_n (k4 := 0) rfl (by decide +kernel) ?_
          refine pq_getI (c := 4) (k := 1) (ks_sc hA) (by decide) (by decide) lf_Sc_35 (by decide +kernel) ?_
          refine pw_if_ne (off := 14) (tgt := 118) (by decide +kernel) (by decide +kernel) (fun z104 => ?_) (fun z104 => ?_)
          · refine pw_iconst (n := -1) (v := -1) (by decide) (by decide +kernel) ?_
            refine pq_istore (i := 6) (Nat.le_of_ble_eq_true rfl) rfl (by decide +kernel) ?_
            refine pw_aload_n (k4 := 0) rfl (by decide +kernel) ?_
            refine pq_getI (c := 4) (k := 1) (ks_sc hA) (by decide) (by decide) lf_Sc_35 (by decide +kernel) ?_
            refine pw_if_eq (off := 5) (tgt := 130) (by decide +kernel) (by decide +kernel) (fun z125 => ?_) (fun z125 => ?_)
            · exact absurd z125 (by rw [ff70.2.1]; exact ff70.2.2.2)
            · refine pw_iconst (n := 0) (v := 0) (by decide) (by decide +kernel) ?_
              exact pq_zret rfl (by decide) (by decide +kernel) (lnQ_f ff70 fo70)
          · exact absurd z104 (by rw [ff70.2.1]; exact ff70.2.2.2)
        · have hb70 : (I70 57 1 = 0 ↔ (yNum H51_0 (nI 1) (nI 99)).1 = true) := sbR_in hs70 (by rw [hz51]; exact h0)
          have hq70 : (yNum H51_0 (nI 1) (nI 99)).1 = true := hb70.mp z83
          obtain ⟨K70, hK70⟩ : ∃ K, yNum H51_0 (nI 1) (nI 99) = (true, K) := ⟨_, Prod.ext hq70 rfl⟩
          rw [show yNum H51_0 1 99 = (true, K70) from hK70, yB_t] at hX
          try dsimp only at hX
          have pf70 : prF K70 H51_0 := num_pf hK70
          have hr70 : rdR I70 K70 n := by have := (hs70.1 hq70).1; rw [hK70] at this; exact this
          have hz70 : I70 57 = I 57 := (hs70.1 hq70).2.trans hz51
          have hu70 : v70 = K70 134 11 := by have := hv70 hq70; rw [hK70] at this; exact this
          have c70 : K70 137 = J 137 := (pf70.1 137 (by decide)).trans c51g0
          have l70 : ∀ k, k < 32 + 4 * rr → K70 151 k = J 151 k := fun k hk => by exact (congrFun (pf70.1 151 (by decide)) k).trans (l51g0 k hk)
          have x51n0_70 : K70 151 (32 + 4 * rr) = K51 151 (32 + 4 * rr) + K51 134 11 := by rw [pf70.1 151 (by decide)]; exact x51n0_0
          obtain ⟨H70_0, hH70_0⟩ : ∃ Z, Z = sI K70 151 (32 + 4 * rr + 1) (K70 134 11) := ⟨_, rfl⟩
          rw [← hH70_0] at hX
          have hrH70_0 : rdR I70 H70_0 n := by rw [hH70_0]; exact rdR_sJ hr70 (by decide) _ _
          have c70g0 : H70_0 137 = J 137 := by rw [hH70_0, sI_ne (by decide)]; exact c70
          have l70g0 : ∀ k, k < 32 + 4 * rr → H70_0 151 k = J 151 k := fun k hk => by rw [hH70_0, sI_rd (by omega)]; exact l70 k hk
          have x51n0_70g0 : H70_0 151 (32 + 4 * rr) = K51 151 (32 + 4 * rr) + K51 134 11 := by rw [hH70_0, sI_rd (by omega)]; exact x51n0_70
          have x70n0_0 : H70_0 151 (32 + 4 * rr + 1) = K70 134 11 := by rw [hH70_0, sI_rs]
          refine pw_aload_n (k4 := 0) rfl (by decide +kernel) ?_
          refine pw_bipush (n := 9) (v := 9) (by decide) (by decide +kernel) ?_
          refine pw_bipush (n := 11) (v := 11) (by decide) (by decide +kernel) ?_
          refine pq_callV (ν := m_Sc_takeOneOf) (d' := 3) (av := [_, _]) (c := 4) (by decide +kernel) lm_Sc_122 ok_Sc_takeOneOf (show _ = some 2 by decide +kernel) (ks_sc hA) rfl (by decide) (by omega) (Nat.le_of_ble_eq_true rfl) (ct_Sc_takeOneOf hA hrb hrH70_0 9 11 (by decide) (by decide)) ?_
          rintro _ _ ⟨I91, v91, rfl, rfl, hs91, hv91, hw91⟩
          have fe91 : frE I91 (I) := fun a h1 h2 => (hs91.2.2 a h1 h2).trans (fe70 a h1 h2)
          have fo91 : frO t I I91 := fun a h1 h2 h3 => (hs91.2.2 a h1 h2).trans (fo70 a h1 h2 h3)
          refine pw_goto (off := 4) (tgt := 98) (by decide +kernel) (by decide +kernel) ?_
          refine pq_istore (i := 5) (Nat.le_of_ble_eq_true rfl) rfl (by decide +kernel) ?_
          refine pw_aload_n (k4 := 0) rfl (by decide +kernel) ?_
          refine pq_getI (c := 4) (k := 1) (ks_sc hA) (by decide) (by decide) lf_Sc_35 (by decide +kernel) ?_
          refine pw_if_ne (off := 14) (tgt := 118) (by decide +kernel) (by decide +kernel) (fun z104 => ?_) (fun z104 => ?_)
          · have hb91 : (I91 57 1 = 0 ↔ (yPick H70_0 (nI 9) (nI 11)).1 = true) := sbR_in hs91 (by rw [hz70]; exact h0)
            have hq91 : (yPick H70_0 (nI 9) (nI 11)).1 = false := by
              cases e : (yPick H70_0 (nI 9) (nI 11)).1 with
              | false => rfl
              | true => exact absurd (hb91.mpr e) z104
            have hXf91 : X = yPick H70_0 (nI 9) (nI 11) := by rw [hX]; exact yB_q hq91
            have ff91 : scF X I91 := by rw [hXf91]; exact ⟨hq91, hs91.2.1 hq91⟩
            refine pw_iconst (n := -1) (v := -1) (by decide) (by decide +kernel) ?_
            refine pq_istore (i := 6) (Nat.le_of_ble_eq_true rfl) rfl (by decide +kernel) ?_
            refine pw_aload_n (k4 := 0) rfl (by decide +kernel) ?_
            refine pq_getI (c := 4) (k := 1) (ks_sc hA) (by decide) (by decide) lf_Sc_35 (by decide +kernel) ?_
            refine pw_if_eq (off := 5) (tgt := 130) (by decide +kernel) (by decide +kernel) (fun z125 => ?_) (fun z125 => ?_)
            · exact absurd z125 (by rw [ff91.2.1]; exact ff91.2.2.2)
            · refine pw_iconst (n := 0) (v := 0) (by decide) (by decide +kernel) ?_
              exact pq_zret rfl (by decide) (by decide +kernel) (lnQ_f ff91 fo91)
          · have hb91 : (I91 57 1 = 0 ↔ (yPick H70_0 (nI 9) (nI 11)).1 = true) := sbR_in hs91 (by rw [hz70]; exact h0)
            have hq91 : (yPick H70_0 (nI 9) (nI 11)).1 = true := hb91.mp z104
            obtain ⟨K91, hK91⟩ : ∃ K, yPick H70_0 (nI 9) (nI 11) = (true, K) := ⟨_, Prod.ext hq91 rfl⟩
            rw [show yPick H70_0 9 11 = (true, K91) from hK91, yB_t] at hX
            try dsimp only at hX
            have pf91 : prF K91 H70_0 := pick_pf hK91
            have hr91 : rdR I91 K91 n := by have := (hs91.1 hq91).1; rw [hK91] at this; exact this
            have hz91 : I91 57 = I 57 := (hs91.1 hq91).2.trans hz70
            have hu91 : v91 = K91 134 11 := by have := hv91 hq91; rw [hK91] at this; exact this
            have c91 : K91 137 = J 137 := (pf91.1 137 (by decide)).trans c70g0
            have l91 : ∀ k, k < 32 + 4 * rr → K91 151 k = J 151 k := fun k hk => by exact (congrFun (pf91.1 151 (by decide)) k).trans (l70g0 k hk)
            have x51n0_91 : K91 151 (32 + 4 * rr) = K51 151 (32 + 4 * rr) + K51 134 11 := by rw [pf91.1 151 (by decide)]; exact x51n0_70g0
            have x70n0_91 : K91 151 (32 + 4 * rr + 1) = K70 134 11 := by rw [pf91.1 151 (by decide)]; exact x70n0_0
            obtain ⟨H91_0, hH91_0⟩ : ∃ Z, Z = sI K91 151 (32 + 4 * rr + 2) (2 * K91 134 11) := ⟨_, rfl⟩
            rw [← hH91_0] at hX
            have hrH91_0 : rdR I91 H91_0 n := by rw [hH91_0]; exact rdR_sJ hr91 (by decide) _ _
            have c91g0 : H91_0 137 = J 137 := by rw [hH91_0, sI_ne (by decide)]; exact c91
            have l91g0 : ∀ k, k < 32 + 4 * rr → H91_0 151 k = J 151 k := fun k hk => by rw [hH91_0, sI_rd (by omega)]; exact l91 k hk
            have x51n0_91g0 : H91_0 151 (32 + 4 * rr) = K51 151 (32 + 4 * rr) + K51 134 11 := by rw [hH91_0, sI_rd (by omega)]; exact x51n0_91
            have x70n0_91g0 : H91_0 151 (32 + 4 * rr + 1) = K70 134 11 := by rw [hH91_0, sI_rd (by omega)]; exact x70n0_91
            have x91n0_0 : H91_0 151 (32 + 4 * rr + 2) = 2 * K91 134 11 := by rw [hH91_0, sI_rs]
            refine pw_aload_n (k4 := 0) rfl (by decide +kernel) ?_
            refine pw_bipush (n := 7) (v := 7) (by decide) (by decide +kernel) ?_
            refine pw_bipush (n := 8) (v := 8) (by decide) (by decide +kernel) ?_
            refine pq_callV (ν := m_Sc_lookAt) (d' := 1) (av := [_, _]) (c := 4) (by decide +kernel) lm_Sc_89 ok_Sc_lookAt (show _ = some 2 by decide +kernel) (ks_sc hA) rfl (by decide) (by omega) (Nat.le_of_ble_eq_true rfl) (gt_lookAt hA hrH91_0 7 8 (by decide) (by decide)) ?_
            rintro _ _ ⟨I112, v112, rfl, rfl, hT112, hF112⟩
            have fr112 : ∀ a, a ≠ 57 → a ≠ 58 → I112 a = I91 a := by
              cases e : (yPick H91_0 (nI 7) (nI 8)).1 with
              | true => intro a _ _; rw [← (hT112 e).1]
              | false => exact (hF112 e).2.2.2
            have fe112 : frE I112 (I) := fun a h1 h2 => (fr112 a h1 h2).trans (fe91 a h1 h2)
            have fo112 : frO t I I112 := fun a h1 h2 h3 => (fr112 a h1 h2).trans (fo91 a h1 h2 h3)
            refine pw_goto (off := 4) (tgt := 119) (by decide +kernel) (by decide +kernel) ?_
            refine pq_istore (i := 6) (Nat.le_of_ble_eq_true rfl) rfl (by decide +kernel) ?_
            refine pw_aload_n (k4 := 0) rfl (by decide +kernel) ?_
            refine pq_getI (c := 4) (k := 1) (ks_sc hA) (by decide) (by decide) lf_Sc_35 (by decide +kernel) ?_
            refine pw_if_eq (off := 5) (tgt := 130) (by decide +kernel) (by decide +kernel) (fun z125 => ?_) (fun z125 => ?_)
            · have hb112 : (I112 57 1 = 0 ↔ (yPick H91_0 (nI 7) (nI 8)).1 = true) := by
                cases e : (yPick H91_0 (nI 7) (nI 8)).1 with
                | true => exact ⟨fun _ => rfl, fun _ => by rw [← (hT112 e).1, hz91]; exact h0⟩
                | false => exact ⟨fun w => absurd w (by rw [((hF112 e).2.2.1 e).1]; exact ((hF112 e).2.2.1 e).2.2), fun w => by cases w⟩
              have hq112 : (yPick H91_0 (nI 7) (nI 8)).1 = true := hb112.mp z125
              obtain ⟨K112, hK112⟩ : ∃ K, yPick H91_0 (nI 7) (nI 8) = (true, K) := ⟨_, Prod.ext hq112 rfl⟩
              obtain ⟨eI112, eK112, j112, lj112, ej112⟩ := hT112 hq112
              rw [show yPick H91_0 7 8 = (true, sI (yTok H91_0) 134 11 v112) from eK112, yB_t] at hX
              try dsimp only at hX
              have hz112 : I112 57 = I 57 := by rw [← eI112]; exact hz91
              have hr112 : rdR I112 H91_0 n := by rw [← eI112]; exact hrH91_0
              obtain ⟨a35, la35, ea35⟩ := pick_bd (by decide) (by decide) hK35
              obtain ⟨a51, la51, ea51⟩ := pick_bd (by decide) (by decide) hK51
              obtain ⟨a91, la91, ea91⟩ := pick_bd (by decide) (by decide) hK91
              obtain ⟨a70, ma70, la70, ea70⟩ := num_bd (by decide) (by decide) hK70
              have w35 : v35 = nI a35 := hu35.trans ea35
              have w51 : v51 = nI a51 := hu51.trans ea51
              have w91 : v91 = nI a91 := hu91.trans ea91
              have w70 : v70 = nI a70 := hu70.trans ea70
              subst w35 w51 w91 w70 ej112
              obtain ⟨U, hU⟩ : ∃ Z, Z = sI (sI (yTok H91_0) 134 11 (nI j112)) 151 (32 + 4 * rr + 2) ((sI (yTok H91_0) 134 11 (nI j112)) 151 (32 + 4 * rr + 2) + (sI (yTok H91_0) 134 11 (nI j112)) 134 11) := ⟨_, rfl⟩
              rw [← hU] at hX
              have t151 : (sI (yTok H91_0) 134 11 (nI j112)) 151 = H91_0 151 := by rw [sI_ne (by decide), (prF_tok H91_0).1 151 (by decide)]
              have u0 : U 151 (32 + 4 * rr) = nI (2 * a35 + a51) := by rw [hU, sI_rd (by omega), t151, x51n0_91g0, x35n0_51, ea35, ea51, nI_21]
              have u1 : U 151 (32 + 4 * rr + 1) = nI a70 := by rw [hU, sI_rd (by omega), t151, x70n0_91g0, ea70]
              have u2 : U 151 (32 + 4 * rr + 2) = nI (2 * a91 + j112) := by rw [hU, sI_rs, t151, show (sI (yTok H91_0) 134 11 (nI j112)) 134 11 = nI j112 from sI_rs, x91n0_0, ea91, nI_21]
              have ul : ∀ k, k < 32 + 4 * rr → U 151 k = J 151 k := fun k hk => by rw [hU, sI_rd (by omega), t151]; exact l91g0 k hk
              have e17 : I112 (t + 17) = I (t + 17) := by rw [fe112 (t + 17) (by omega) (by omega)]
              have htd := told_iff hrt ul u0 u2 (by omega) (by omega)
              refine pw_iconst (n := 2) (v := 2) (by decide) (by decide +kernel) ?_
              refine pw_iload_n (k4 := 2) rfl (by decide +kernel) ?_
              refine pn_imul 2 a35 rfl rfl (by decide +kernel) ?_
              refine pw_iload_n (k4 := 3) rfl (by decide +kernel) ?_
              refine pn_iadd (2 * a35) a51 rfl rfl (by decide +kernel) ?_
              refine pq_istore (i := 7) (Nat.le_of_ble_eq_true rfl) rfl (by decide +kernel) ?_
              refine pw_iconst (n := 2) (v := 2) (by decide) (by decide +kernel) ?_
              refine pw_iload (i := 5) rfl (by decide +kernel) ?_
              refine pn_imul 2 a91 rfl rfl (by decide +kernel) ?_
              refine pw_iload (i := 6) rfl (by decide +kernel) ?_
              refine pn_iadd (2 * a91) j112 rfl rfl (by decide +kernel) ?_
              refine pq_istore (i := 8) (Nat.le_of_ble_eq_true rfl) rfl (by decide +kernel) ?_
              refine pw_iload (i := 7) rfl (by decide +kernel) ?_
              refine pw_iload (i := 8) rfl (by decide +kernel) ?_
              refine pn_icmp_ne (off := 9) (tgt := 159) ((2 * a35) + a51) ((2 * a91) + j112) rfl rfl (by omega) (by omega) (by decide +kernel) (by decide +kernel) (fun z150 => ?_) (fun z150 => ?_)
              · have hne : ¬ U 151 (32 + 4 * rr) = U 151 (32 + 4 * rr + 2) := by rw [u0, u2, nI_eq (by omega) (by omega)]; exact z150
                rw [if_neg hne] at hX
                refine pw_iload (i := 7) rfl (by decide +kernel) ?_
                refine pw_bipush (n := 6) (v := 6) (by decide) (by decide +kernel) ?_
                refine pn_imul ((2 * a35) + a51) 6 rfl rfl (by decide +kernel) ?_
                refine pw_iload (i := 8) rfl (by decide +kernel) ?_
                refine pn_iadd (((2 * a35) + a51) * 6) ((2 * a91) + j112) rfl rfl (by decide +kernel) ?_
                refine pq_istore (i := 9) (Nat.le_of_ble_eq_true rfl) rfl (by decide +kernel) ?_
                refine pw_aload_n (k4 := 1) rfl (by decide +kernel) ?_
                refine pq_getP (c := 6) (k := 2) (ks_t_swaps hA ht) (by decide) (by decide) (kp_t_swaps_got hA ht) lf_Sc_167 (by decide +kernel) ?_
                refine pw_iload (i := 9) rfl (by decide +kernel) ?_
                refine pq_iald ((((2 * a35) + a51) * 6) + ((2 * a91) + j112)) rfl (by omega) (by decide) (ks_t_swaps_got hA ht) (by decide +kernel) ?_
                refine pw_if_le (off := 9) (tgt := 185) (by decide +kernel) (by decide +kernel) (fun z176 => ?_) (fun z176 => ?_)
                · rw [e17] at z176
                  have hno : ¬ swH (U 151) (32 + 4 * rr) rr = true := fun w => htd.1.mp w z176
                  rw [if_neg (fun w => w.elim hno hne)] at hX
                  refine pw_aload_n (k4 := 0) rfl (by decide +kernel) ?_
                  refine pq_getP (c := 4) (k := 4) (ks_sc hA) (by decide) (by decide) (kp_sc_reader hA) lf_Sc_12 (by decide +kernel) ?_
                  refine pq_callV (ν := m_Re_advance) (d' := 2) (av := []) (c := 3) (by decide +kernel) lm_Sc_62 ok_Re_advance (show _ = some 0 by decide +kernel) (ks_re hA) rfl (by decide) (by omega) (Nat.le_of_ble_eq_true rfl) (gt_advance hA hrb hr112) ?_
                  rintro _ _ ⟨rfl, I189, rfl, hr189, hf189⟩
                  have pf189 : prF (yTok H91_0) H91_0 := prF_tok _
                  generalize yTok H91_0 = G189 at hU hr189 pf189
                  try dsimp only at hX
                  have fe189 : frE I189 (I) := fun a h1 h2 => (hf189 a h2).trans (fe112 a h1 h2)
                  have fo189 : frO t I I189 := fun a h1 h2 h3 => (hf189 a h2).trans (fo112 a h1 h2 h3)
                  have hz189 : I189 57 = I 57 := (hf189 57 (by decide)).trans hz112
                  have c189 : G189 137 = J 137 := (pf189.1 137 (by decide)).trans c91g0
                  have l189 : ∀ k, k < 32 + 4 * rr → G189 151 k = J 151 k := fun k hk => by exact (congrFun (pf189.1 151 (by decide)) k).trans (l91g0 k hk)
                  have x51n0_189 : G189 151 (32 + 4 * rr) = K51 151 (32 + 4 * rr) + K51 134 11 := by rw [pf189.1 151 (by decide)]; exact x51n0_91g0
                  have x70n0_189 : G189 151 (32 + 4 * rr + 1) = K70 134 11 := by rw [pf189.1 151 (by decide)]; exact x70n0_91g0
                  have x91n0_189 : G189 151 (32 + 4 * rr + 2) = 2 * K91 134 11 := by rw [pf189.1 151 (by decide)]; exact x91n0_0
                  have hrU : rdR I189 U n := by rw [hU]; exact rdR_sJ (rdR_sJ4 hr189 (by decide) _) (by decide) _ _
                  refine pw_aload_n (k4 := 1) rfl (by decide +kernel) ?_
                  refine pq_getP (c := 6) (k := 1) (ks_t_swaps hA ht) (by decide) (by decide) (kp_t_swaps_given hA ht) lf_Sc_170 (by decide +kernel) ?_
                  refine pw_iload (i := 9) rfl (by decide +kernel) ?_
                  refine pw_iload (i := 4) rfl (by decide +kernel) ?_
                  refine pq_iast ((((2 * a35) + a51) * 6) + ((2 * a91) + j112)) rfl (by omega) (by decide) (ks_t_swaps_given hA ht) (by decide +kernel) ?_
                  obtain ⟨I200, hI200⟩ : ∃ Z, Z = sI I189 (t + 16) ((2 * a35 + a51) * 6 + (2 * a91 + j112)) (nI a70) := ⟨_, rfl⟩
                  rw [← hI200]
                  have fe200 : frE I200 (sI (I) (t + 16) ((2 * a35 + a51) * 6 + (2 * a91 + j112)) (nI a70)) := by rw [hI200]; exact fe189.st
                  have fo200 : frO t I I200 := by rw [hI200]; exact fo189.st (by omega)
                  have e57_200 : I200 57 = I189 57 := by rw [hI200, sI_ne (by omega)]
                  have hz200 : I200 57 = I 57 := e57_200.trans hz189
                  have hr200 : rdR I200 U n := by rw [hI200]; exact rdR_sX hrU (by omega) _ _
                  refine pw_aload_n (k4 := 1) rfl (by decide +kernel) ?_
                  refine pq_getP (c := 6) (k := 2) (ks_t_swaps hA ht) (by decide) (by decide) (kp_t_swaps_got hA ht) lf_Sc_167 (by decide +kernel) ?_
                  refine pw_iload (i := 9) rfl (by decide +kernel) ?_
                  refine pw_aload_n (k4 := 0) rfl (by decide +kernel) ?_
                  refine pw_iconst (n := 1) (v := 1) (by decide) (by decide +kernel) ?_
                  refine pw_bipush (n := 99) (v := 99) (by decide) (by decide +kernel) ?_
                  refine pq_callV (ν := m_Sc_takeNumber) (d' := 3) (av := [_, _]) (c := 4) (by decide +kernel) lm_Sc_107 ok_Sc_takeNumber (show _ = some 2 by decide +kernel) (ks_sc hA) rfl (by decide) (by omega) (Nat.le_of_ble_eq_true rfl) (gt_takeNumber hA hrb hr200 1 99 (by decide) (by decide)) ?_
                  rintro _ _ ⟨I211, v211, rfl, rfl, hs211, hv211, hw211⟩
                  have fe211 : frE I211 (sI (I) (t + 16) ((2 * a35 + a51) * 6 + (2 * a91 + j112)) (nI a70)) := fun a h1 h2 => (hs211.2.2 a h1 h2).trans (fe200 a h1 h2)
                  have fo211 : frO t I I211 := fun a h1 h2 h3 => (hs211.2.2 a h1 h2).trans (fo200 a h1 h2 h3)
                  refine pq_iast ((((2 * a35) + a51) * 6) + ((2 * a91) + j112)) rfl (by omega) (by decide) (ks_t_swaps_got hA ht) (by decide +kernel) ?_
                  obtain ⟨I214, hI214⟩ : ∃ Z, Z = sI I211 (t + 17) ((2 * a35 + a51) * 6 + (2 * a91 + j112)) (v211) := ⟨_, rfl⟩
                  rw [← hI214]
                  have fe214 : frE I214 (sI (sI (I) (t + 16) ((2 * a35 + a51) * 6 + (2 * a91 + j112)) (nI a70)) (t + 17) ((2 * a35 + a51) * 6 + (2 * a91 + j112)) (v211)) := by rw [hI214]; exact fe211.st
                  have fo214 : frO t I I214 := by rw [hI214]; exact fo211.st (by omega)
                  have e57_214 : I214 57 = I211 57 := by rw [hI214, sI_ne (by omega)]
                  refine pw_aload_n (k4 := 1) rfl (by decide +kernel) ?_
                  refine pw_dup rfl (by decide +kernel) ?_
                  refine pq_getI (c := 6) (k := 0) (ks_t_swaps hA ht) (by decide) (by decide) lf_Sc_162 (by decide +kernel) ?_
                  refine pn_val (nI (rr)) (by rw [fe214 (t + 15) (by omega) (by omega)]; (repeat rw [sI_ne (by omega)]); exact hrt.1) ?_
                  refine pw_iconst (n := 1) (v := 1) (by decide) (by decide +kernel) ?_
                  refine pn_iadd rr 1 rfl rfl (by decide +kernel) ?_
                  refine pq_putI (c := 6) (k := 0) (ks_t_swaps hA ht) (by decide) (by decide) lf_Sc_162 (Or.inl rfl) (by decide +kernel) ?_
                  obtain ⟨I222, hI222⟩ : ∃ Z, Z = sI I214 (t + 15) 0 (nI (rr + 1)) := ⟨_, rfl⟩
                  rw [← hI222]
                  have fe222 : frE I222 (sI (sI (sI (I) (t + 16) ((2 * a35 + a51) * 6 + (2 * a91 + j112)) (nI a70)) (t + 17) ((2 * a35 + a51) * 6 + (2 * a91 + j112)) (v211)) (t + 15) 0 (nI (rr + 1))) := by rw [hI222]; exact fe214.st
                  have fo222 : frO t I I222 := by rw [hI222]; exact fo214.st (by omega)
                  have e57_222 : I222 57 = I214 57 := by rw [hI222, sI_ne (by omega)]
                  refine pw_aload_n (k4 := 0) rfl (by decide +kernel) ?_
                  refine pq_getI (c := 4) (k := 1) (ks_sc hA) (by decide) (by decide) lf_Sc_35 (by decide +kernel) ?_
                  refine pw_if_ne (off := 7) (tgt := 236) (by decide +kernel) (by decide +kernel) (fun z229 => ?_) (fun z229 => ?_)
                  · have hb211 : (I211 57 1 = 0 ↔ (yNum U (nI 1) (nI 99)).1 = true) := sbR_in hs211 (by rw [hz200]; exact h0)
                    have hq211 : (yNum U (nI 1) (nI 99)).1 = false := by
                      cases e : (yNum U (nI 1) (nI 99)).1 with
                      | false => rfl
                      | true => exact absurd (hb211.mpr e) (by rw [← (e57_222.trans e57_214)]; exact z229)
                    have hXf211 : X = yNum U (nI 1) (nI 99) := by rw [hX]; exact yB_q hq211
                    have ff211 : scF X I211 := by rw [hXf211]; exact ⟨hq211, hs211.2.1 hq211⟩
                    have fc211 : scF X I222 := ff211.cg (e57_222.trans e57_214)
                    refine pw_iconst (n := 0) (v := 0) (by decide) (by decide +kernel) ?_
                    exact pq_zret rfl (by decide) (by decide +kernel) (lnQ_f fc211 fo222)
                  · have hb211 : (I211 57 1 = 0 ↔ (yNum U (nI 1) (nI 99)).1 = true) := sbR_in hs211 (by rw [hz200]; exact h0)
                    have hq211 : (yNum U (nI 1) (nI 99)).1 = true := hb211.mp (by rw [← (e57_222.trans e57_214)]; exact z229)
                    obtain ⟨K211, hK211⟩ : ∃ K, yNum U (nI 1) (nI 99) = (true, K) := ⟨_, Prod.ext hq211 rfl⟩
                    rw [show yNum U 1 99 = (true, K211) from hK211, yB_t] at hX
                    try dsimp only at hX
                    have pf211 : prF K211 U := num_pf hK211
                    have hr211 : rdR I211 K211 n := by have := (hs211.1 hq211).1; rw [hK211] at this; exact this
                    have hz211 : I211 57 = I 57 := (hs211.1 hq211).2.trans hz200
                    have hu211 : v211 = K211 134 11 := by have := hv211 hq211; rw [hK211] at this; exact this
                    have l211 : ∀ k, k < 32 + 4 * rr → K211 151 k = J 151 k := fun k hk => by exact (congrFun (pf211.1 151 (by decide)) k).trans (ul k hk)
                    have u0_211 : K211 151 (32 + 4 * rr) = nI (2 * a35 + a51) := by rw [pf211.1 151 (by decide)]; exact u0
                    have u1_211 : K211 151 (32 + 4 * rr + 1) = nI a70 := by rw [pf211.1 151 (by decide)]; exact u1
                    have u2_211 : K211 151 (32 + 4 * rr + 2) = nI (2 * a91 + j112) := by rw [pf211.1 151 (by decide)]; exact u2
                    have hzc211 : I222 57 = I 57 := (e57_222.trans e57_214).trans hz211
                    have hrc211 : rdR I222 K211 n := by rw [hI222, hI214]; exact rdR_sX (rdR_sX (hr211) (by omega) _ _) (by omega) _ _
                    obtain ⟨H211_0, hH211_0⟩ : ∃ Z, Z = sI K211 151 (32 + 4 * rr + 3) (K211 134 11) := ⟨_, rfl⟩
                    rw [← hH211_0] at hX
                    have hrH211_0 : rdR I222 H211_0 n := by rw [hH211_0]; exact rdR_sJ hrc211 (by decide) _ _
                    have l211g0 : ∀ k, k < 32 + 4 * rr → H211_0 151 k = J 151 k := fun k hk => by rw [hH211_0, sI_rd (by omega)]; exact l211 k hk
                    have u0_211g0 : H211_0 151 (32 + 4 * rr) = nI (2 * a35 + a51) := by rw [hH211_0, sI_rd (by omega)]; exact u0_211
                    have u1_211g0 : H211_0 151 (32 + 4 * rr + 1) = nI a70 := by rw [hH211_0, sI_rd (by omega)]; exact u1_211
                    have u2_211g0 : H211_0 151 (32 + 4 * rr + 2) = nI (2 * a91 + j112) := by rw [hH211_0, sI_rd (by omega)]; exact u2_211
                    have x211n0_0 : H211_0 151 (32 + 4 * rr + 3) = K211 134 11 := by rw [hH211_0, sI_rs]
                    obtain ⟨a211, ma211, la211, ea211⟩ := num_bd (by decide) (by decide) hK211
                    refine pw_iconst (n := 1) (v := 1) (by decide) (by decide +kernel) ?_
                    refine pw_goto (off := 4) (tgt := 237) (by decide +kernel) (by decide +kernel) ?_
                    exact pq_zret rfl (by decide) (by decide +kernel) (lnQ_t hX (rdR_sJ4 hrH211_0 (by decide) _) fo222 ⟨hzc211, 2 * a35 + a51, 2 * a91 + j112, a70, a211, by omega, by omega, fun w => hne (by rw [u0, u2, w]), by omega, by omega, by omega, by omega, ((congrFun (sI_ne (by decide)) _).trans u0_211g0), ((congrFun (sI_ne (by decide)) _).trans u1_211g0), ((congrFun (sI_ne (by decide)) _).trans u2_211g0), ((congrFun (sI_ne (by decide)) _).trans (x211n0_0.trans ea211)), htd.2 hno, fun k hk => (congrFun (sI_ne (by decide)) _).trans (l211g0 k hk), by have w211 := hu211.trans ea211; rw [w211] at fe222; exact fe222⟩)
                · rw [e17] at z176
                  rw [if_pos (Or.inl (htd.1.mpr z176))] at hX
                  refine pw_aload_n (k4 := 0) rfl (by decide +kernel) ?_
                  refine pw_iconst (n := 3) (v := 3) (by decide) (by decide +kernel) ?_
                  refine pq_callV (ν := m_Sc_refuse) (d' := 0) (av := [_]) (c := 4) (by decide +kernel) lm_Sc_59 ok_Sc_refuse (show _ = some 1 by decide +kernel) (ks_sc hA) rfl (by decide) (by omega) (Nat.le_of_ble_eq_true rfl) (ct_Sc_refuse hA _) ?_
                  rintro _ _ ⟨rfl, rfl⟩
                  exact pq_zret rfl (Or.inl rfl) (by decide +kernel) (lnQ_r hX (hr112.2.1.trans (by rw [hH91_0, sI_ne (by decide)])) (by decide) fo112)
              · have heq : U 151 (32 + 4 * rr) = U 151 (32 + 4 * rr + 2) := by rw [u0, u2, nI_eq (by omega) (by omega)]; omega
                rw [if_pos (Or.inr heq), if_pos heq] at hX
                refine pw_aload_n (k4 := 0) rfl (by decide +kernel) ?_
                refine pw_iconst (n := 5) (v := 5) (by decide) (by decide +kernel) ?_
                refine pq_callV (ν := m_Sc_refuse) (d' := 0) (av := [_]) (c := 4) (by decide +kernel) lm_Sc_59 ok_Sc_refuse (show _ = some 1 by decide +kernel) (ks_sc hA) rfl (by decide) (by omega) (Nat.le_of_ble_eq_true rfl) (ct_Sc_refuse hA _) ?_
                rintro _ _ ⟨rfl, rfl⟩
                exact pq_zret rfl (Or.inl rfl) (by decide +kernel) (lnQ_r hX (hr112.2.1.trans (by rw [hH91_0, sI_ne (by decide)])) (by decide) fo112)
            · have hb112 : (I112 57 1 = 0 ↔ (yPick H91_0 (nI 7) (nI 8)).1 = true) := by
                cases e : (yPick H91_0 (nI 7) (nI 8)).1 with
                | true => exact ⟨fun _ => rfl, fun _ => by rw [← (hT112 e).1, hz91]; exact h0⟩
                | false => exact ⟨fun w => absurd w (by rw [((hF112 e).2.2.1 e).1]; exact ((hF112 e).2.2.1 e).2.2), fun w => by cases w⟩
              have hq112 : (yPick H91_0 (nI 7) (nI 8)).1 = false := by
                cases e : (yPick H91_0 (nI 7) (nI 8)).1 with
                | false => rfl
                | true => exact absurd (hb112.mpr e) z125
              have hXf112 : X = yPick H91_0 (nI 7) (nI 8) := by rw [hX]; exact yB_q hq112
              have ff112 : scF X I112 := by rw [hXf112]; exact ⟨hq112, (hF112 hq112).2.2.1 hq112⟩
              refine pw_iconst (n := 0) (v := 0) (by decide) (by decide +kernel) ?_
              exact pq_zret rfl (by decide) (by decide +kernel) (lnQ_f ff112 fo112)
  · rw [if_pos (by omega)] at hX
    refine pw_aload_n (k4 := 0) rfl (by decide +kernel) ?_
    refine pw_iconst (n := 2) (v := 2) (by decide) (by decide +kernel) ?_
    refine pq_callV (ν := m_Sc_refuse) (d' := 0) (av := [_]) (c := 4) (by decide +kernel) lm_Sc_59 ok_Sc_refuse (show _ = some 1 by decide +kernel) (ks_sc hA) rfl (by decide) (by omega) (Nat.le_of_ble_eq_true rfl) (ct_Sc_refuse hA _) ?_
    rintro _ _ ⟨rfl, rfl⟩
    exact pq_zret rfl (Or.inl rfl) (by decide +kernel) (lnQ_w hX hr (by decide) fo0)

def ySd (J : Nat → Nat → Int32) : Bool × (Nat → Nat → Int32) := if J 134 22 = 0 then yNum (yTok (sI J 134 22 1)) 0 99999 else (false, yWr J 3)
def tSd (I : Nat → Nat → Int32) (I' J' : Nat → Nat → Int32) : Prop := I' 57 = upd (I 57) 3 1 ∧ frE I' I
set_option maxHeartbeats 4000000 in
theorem ct_Sc_readSeed {sh : List pSh} {I : Nat → Nat → Int32} {L : Nat → Nat → Int64} {P : Nat → Nat → Option Nat} (hA : kA sh P) (hrb : P 58 3 = some 2) {J : Nat → Nat → Int32} {n : Nat} (hr : rdR I J n) {t : Nat} (ht : t = 3 ∨ t = 30) (hst : P 57 5 = some t) (h0 : I 57 1 = 0) (hsd : I 57 3 = J 134 22) : pCn m_Sc_readSeed 4 [.ref 57] sh (I, L, P) (lnQ (ySd J) (tSd I) I L P n t) := by
  refine pCn_of (by decide +kernel) (Nat.le_of_ble_eq_true rfl) ?_
  refine pw_aload_n (k4 := 0) rfl (by decide +kernel) ?_
  refine pq_getI (c := 4) (k := 3) (ks_sc hA) (by decide) (by decide) lf_Sc_31 (by decide +kernel) ?_
  refine pw_if_eq (off := 9) (tgt := 13) (by decide +kernel) (by decide +kernel) (fun z4 => ?_) (fun z4 => ?_)
  · have hX : ySd J = yNum (yTok (sI J 134 22 1)) (nI 0) (nI 99999) := if_pos (by rw [← hsd]; exact z4)
    refine pw_aload_n (k4 := 0) rfl (by decide +kernel) ?_
    refine pq_getP (c := 4) (k := 4) (ks_sc hA) (by decide) (by decide) (kp_sc_reader hA) lf_Sc_12 (by decide +kernel) ?_
    refine pq_callV (ν := m_Re_advance) (d' := 2) (av := []) (c := 3) (by decide +kernel) lm_Sc_62 ok_Re_advance (show _ = some 0 by decide +kernel) (ks_re hA) rfl (by decide) (by omega) (Nat.le_of_ble_eq_true rfl) (gt_advance hA hrb (rdR_sJ4 hr (k := 22) (by decide) 1)) ?_
    rintro _ _ ⟨rfl, I1, rfl, hr1, hf1⟩
    refine pw_aload_n (k4 := 0) rfl (by decide +kernel) ?_
    refine pw_iconst (n := 1) (v := 1) (by decide) (by decide +kernel) ?_
    refine pq_putZ (c := 4) (k := 3) (ks_sc hA) (by decide) (by decide) (by decide) lf_Sc_31 (Or.inl rfl) (by decide +kernel) ?_
    refine pw_aload_n (k4 := 0) rfl (by decide +kernel) ?_
    refine pw_iconst (n := 0) (v := 0) (by decide) (by decide +kernel) ?_
    refine pw_ldc lc_Sc_173 (by decide +kernel) ?_
    refine pq_callV (ν := m_Sc_takeNumber) (d' := 3) (av := [_, _]) (c := 4) (by decide +kernel) lm_Sc_107 ok_Sc_takeNumber (show _ = some 2 by decide +kernel) (ks_sc hA) rfl (by decide) (by omega) (Nat.le_of_ble_eq_true rfl) (gt_takeNumber hA hrb (rdR_sX hr1 (by decide) 3 1) 0 99999 (by decide) (by decide)) ?_
    rintro _ _ ⟨I2, v2, rfl, rfl, hs2, hv2, hw2⟩
    have e57 : sI I1 57 3 1 57 = upd (I 57) 3 1 := by rw [← hf1 57 (by decide)]; exact va_up_eq2 _ _ _
    refine pw_if_lt (off := 7) (tgt := 39) (by decide +kernel) (by decide +kernel) (fun z32 => ?_) (fun z32 => ?_)
    · have hq : (yNum (yTok (sI J 134 22 1)) (nI 0) (nI 99999)).1 = false := by
        cases e : (yNum (yTok (sI J 134 22 1)) (nI 0) (nI 99999)).1 with
        | false => rfl
        | true => obtain ⟨v, v1, v2, v3⟩ := num_bd (K := (yNum (yTok (sI J 134 22 1)) (nI 0) (nI 99999)).2) (by decide) (by decide) (Prod.ext e rfl); rw [hv2 e, v3] at z32; exact absurd z32 (nI_pos (by omega))
      refine pw_iconst (n := 0) (v := 0) (by decide) (by decide +kernel) ?_
      exact pq_zret rfl (by decide) (by decide +kernel) (lnQ_f (by rw [hX]; exact ⟨hq, hs2.2.1 hq⟩) (fun a h1 h2 _ => (hs2.2.2 a h1 h2).trans ((sI_ne h1).trans (hf1 a h2))))
    · have hq : (yNum (yTok (sI J 134 22 1)) (nI 0) (nI 99999)).1 = true := by
        cases e : (yNum (yTok (sI J 134 22 1)) (nI 0) (nI 99999)).1 with
        | true => rfl
        | false => rw [hw2 e] at z32; exact absurd (by decide) z32
      refine pw_iconst (n := 1) (v := 1) (by decide) (by decide +kernel) ?_
      refine pw_goto (off := 4) (tgt := 40) (by decide +kernel) (by decide +kernel) ?_
      exact pq_zret rfl (by decide) (by decide +kernel) (lnQ_t (G := (yNum (yTok (sI J 134 22 1)) (nI 0) (nI 99999)).2) (by rw [hX]; exact Prod.ext hq rfl) (hs2.1 hq).1 (fun a h1 h2 _ => (hs2.2.2 a h1 h2).trans ((sI_ne h1).trans (hf1 a h2))) ⟨(hs2.1 hq).2.trans e57, fun a h1 h2 => (hs2.2.2 a h1 h2).trans ((sI_ne h1).trans (hf1 a h2))⟩)
  · have hX : ySd J = (false, yWr J 3) := if_neg (by rw [← hsd]; exact z4)
    refine pw_aload_n (k4 := 0) rfl (by decide +kernel) ?_
    refine pw_iconst (n := 3) (v := 3) (by decide) (by decide +kernel) ?_
    refine pq_callV (ν := m_Sc_refuse) (d' := 0) (av := [_]) (c := 4) (by decide +kernel) lm_Sc_59 ok_Sc_refuse (show _ = some 1 by decide +kernel) (ks_sc hA) rfl (by decide) (by omega) (Nat.le_of_ble_eq_true rfl) (ct_Sc_refuse hA _) ?_
    rintro _ _ ⟨rfl, rfl⟩
    exact pq_zret rfl (Or.inl rfl) (by decide +kernel) (lnQ_w hX hr (by decide) (frO.rf t I))

