/-! ===== the class: a text is begun ===== -/
theorem kPs_57 : ∀ z ∈ kPs, ¬ (z.1 = 57 ∧ z.2.1 = 5) := by decide +kernel
theorem kPs_58 : ∀ z ∈ kPs, ¬ (z.1 = 58 ∧ z.2.1 = 3) := by decide +kernel
theorem kPs_1t : ∀ z ∈ kPs, ¬ (z.1 = 1 ∧ z.2.1 = 2) := by decide +kernel
theorem kPs_1s : ∀ z ∈ kPs, ¬ (z.1 = 1 ∧ z.2.1 = 3) := by decide +kernel
theorem sP_at {P : Nat → Nat → Option Nat} {a k q : Nat} : sP P a k q a k = some q := by rw [sP_eq]; exact va_up_eq2 _ _ _
theorem sP_k {P : Nat → Nat → Option Nat} {a k j q : Nat} (h : j ≠ k) : sP P a k q a j = P a j := by rw [sP_eq]; exact va_up_ne2 _ _ h
def laC (I : Nat → Nat → Int32) (t : Nat) : Nat → Nat → Int32 := aU (sI (sI I (t + 19) 0 0) (t + 19) 1 0) (t + 24) (fil (fun _ => 0) (I (t + 24)) 3)
def swC (I : Nat → Nat → Int32) (t : Nat) : Nat → Nat → Int32 := aU (aU (sI I (t + 15) 0 0) (t + 16) (fil (fun _ => 0) (I (t + 16)) 36)) (t + 17) (fil (fun _ => 0) (I (t + 17)) 36)
def taC (I : Nat → Nat → Int32) (t : Nat) : Nat → Nat → Int32 := laC (swC (aU (sI (sI (sI I t 0 0) t 6 0) t 12 0) (t + 5) (fil (fun _ => 0) (I (t + 5)) 5)) t) t
theorem ct_La_clear {sh : List pSh} {I : Nat → Nat → Int32} {L : Nat → Nat → Int64} {P : Nat → Nat → Option Nat} (hA : kA sh P) {t : Nat} (ht : t = 3 ∨ t = 30) : pCn m_La_clear 0 [.ref (t + 19)] sh (I, L, P) (rV (laC I t, L, P)) := by
  refine pCn_of (by decide +kernel) (Nat.le_of_ble_eq_true rfl) ?_
  have hL := pUpTo 3 (fun k => pWn m_La_clear 0 sh (rV (laC I t, L, P)) 12 [some (.ref (t + 19)), some (.int (nI k))] [] (aU (sI (sI I (t + 19) 0 0) (t + 19) 1 0) (t + 24) (fil (fun _ => 0) (I (t + 24)) k), L, P)) (by
    intro k hk ih
    refine pw_iload_n (k4 := 1) rfl (by decide +kernel) ?_
    refine pw_iconst (n := 3) (v := 3) (by decide) (by decide +kernel) ?_
    refine pn_icmp_ge (off := 16) (tgt := 30) k 3 rfl rfl (by omega) (by omega) (by decide +kernel) (by decide +kernel) (fun z14 => ?_) (fun z14 => ?_)
    · exact pq_vret rfl (by decide +kernel) ⟨rfl, by rw [show k = 3 by omega]; rfl⟩
    · refine pw_aload_n (k4 := 0) rfl (by decide +kernel) ?_
      refine pq_getP (c := 2) (k := 6) (ks_t_laws hA ht) (by decide) (by decide) (kp_t_laws_told hA ht) lf_La_24 (by decide +kernel) ?_
      refine pw_iload_n (k4 := 1) rfl (by decide +kernel) ?_
      refine pw_iconst (n := 0) (v := 0) (by decide) (by decide +kernel) ?_
      refine pq_zast k rfl (by omega) (by decide) (ks_t_laws_told hA ht) (by decide +kernel) ?_
      refine pn_iinc (i := 1) (n := 1) 1 k rfl rfl (by decide) rfl (by decide +kernel) ?_
      refine pw_goto (off := -15) (tgt := 12) (by decide +kernel) (by decide +kernel) ?_
      rw [show (0 : Int32) &&& 1 = 0 from rfl, sI_aU2]
      have q := ih (by omega)
      rw [← fil_s] at q
      exact q
)
  refine pw_aload_n (k4 := 0) rfl (by decide +kernel) ?_
  refine pw_iconst (n := 0) (v := 0) (by decide) (by decide +kernel) ?_
  refine pq_putI (c := 2) (k := 0) (ks_t_laws hA ht) (by decide) (by decide) lf_La_35 (Or.inl rfl) (by decide +kernel) ?_
  refine pw_aload_n (k4 := 0) rfl (by decide +kernel) ?_
  refine pw_iconst (n := 0) (v := 0) (by decide) (by decide +kernel) ?_
  refine pq_putI (c := 2) (k := 1) (ks_t_laws hA ht) (by decide) (by decide) lf_La_39 (Or.inl rfl) (by decide +kernel) ?_
  refine pw_iconst (n := 0) (v := 0) (by decide) (by decide +kernel) ?_
  refine pq_istore_n (k4 := 1) (Nat.le_of_ble_eq_true rfl) rfl (by decide +kernel) ?_
  have q := hL 0 (Nat.zero_le _)
  rw [fil_0, show aU (sI (sI I (t + 19) 0 0) (t + 19) 1 0) (t + 24) (I (t + 24)) = sI (sI I (t + 19) 0 0) (t + 19) 1 0 from by rw [show I (t + 24) = sI (sI I (t + 19) 0 0) (t + 19) 1 0 (t + 24) from by rw [sI_ne (by omega), sI_ne (by omega)]]; exact aU_self _ _] at q
  exact q

theorem ct_Ta_clear {sh : List pSh} {I : Nat → Nat → Int32} {L : Nat → Nat → Int64} {P : Nat → Nat → Option Nat} (hA : kA sh P) {t : Nat} (ht : t = 3 ∨ t = 30) : pCn m_Ta_clear 1 [.ref t] sh (I, L, P) (rV (taC I t, L, P)) := by
  refine pCn_of (by decide +kernel) (Nat.le_of_ble_eq_true rfl) ?_
  have hL := pUpTo 5 (fun k => pWn m_Ta_clear 1 sh (rV (taC I t, L, P)) 17 [some (.ref t), some (.int (nI k))] [] (aU (sI (sI (sI I t 0 0) t 6 0) t 12 0) (t + 5) (fil (fun _ => 0) (I (t + 5)) k), L, P)) (by
    intro k hk ih
    refine pw_iload_n (k4 := 1) rfl (by decide +kernel) ?_
    refine pw_iconst (n := 5) (v := 5) (by decide) (by decide +kernel) ?_
    refine pn_icmp_ge (off := 16) (tgt := 35) k 5 rfl rfl (by omega) (by omega) (by decide +kernel) (by decide +kernel) (fun z19 => ?_) (fun z19 => ?_)
    · refine pw_aload_n (k4 := 0) rfl (by decide +kernel) ?_
      refine pq_getP (c := 7) (k := 17) (ks_t hA ht) (by decide) (by decide) (kp_t_swaps hA ht) lf_Ta_57 (by decide +kernel) ?_
      refine pq_callV (ν := m_Sw_clear) (d' := 0) (av := []) (c := 6) (by decide +kernel) lm_Ta_78 ok_Sw_clear (show _ = some 0 by decide +kernel) (ks_t_swaps hA ht) rfl (by decide) (by omega) (Nat.le_of_ble_eq_true rfl) (ct_Sw_clear hA ht) ?_
      rintro _ _ ⟨rfl, rfl⟩
      refine pw_aload_n (k4 := 0) rfl (by decide +kernel) ?_
      refine pq_getP (c := 7) (k := 18) (ks_t hA ht) (by decide) (by decide) (kp_t_laws hA ht) lf_Ta_64 (by decide +kernel) ?_
      refine pq_callV (ν := m_La_clear) (d' := 0) (av := []) (c := 2) (by decide +kernel) lm_Ta_81 ok_La_clear (show _ = some 0 by decide +kernel) (ks_t_laws hA ht) rfl (by decide) (by omega) (Nat.le_of_ble_eq_true rfl) (ct_La_clear hA ht) ?_
      rintro _ _ ⟨rfl, rfl⟩
      exact pq_vret rfl (by decide +kernel) ⟨rfl, by rw [show k = 5 by omega]; rfl⟩
    · refine pw_aload_n (k4 := 0) rfl (by decide +kernel) ?_
      refine pq_getP (c := 7) (k := 5) (ks_t hA ht) (by decide) (by decide) (kp_t_claim hA ht) lf_Ta_24 (by decide +kernel) ?_
      refine pw_iload_n (k4 := 1) rfl (by decide +kernel) ?_
      refine pw_iconst (n := 0) (v := 0) (by decide) (by decide +kernel) ?_
      refine pq_iast k rfl (by omega) (by decide) (ks_t_claim hA ht) (by decide +kernel) ?_
      refine pn_iinc (i := 1) (n := 1) 1 k rfl rfl (by decide) rfl (by decide +kernel) ?_
      refine pw_goto (off := -15) (tgt := 17) (by decide +kernel) (by decide +kernel) ?_
      rw [sI_aU2]
      have q := ih (by omega)
      rw [← fil_s] at q
      exact q
)
  refine pw_aload_n (k4 := 0) rfl (by decide +kernel) ?_
  refine pw_iconst (n := 0) (v := 0) (by decide) (by decide +kernel) ?_
  refine pq_putI (c := 7) (k := 0) (ks_t hA ht) (by decide) (by decide) lf_Ta_68 (Or.inl rfl) (by decide +kernel) ?_
  refine pw_aload_n (k4 := 0) rfl (by decide +kernel) ?_
  refine pw_iconst (n := 0) (v := 0) (by decide) (by decide +kernel) ?_
  refine pq_putI (c := 7) (k := 6) (ks_t hA ht) (by decide) (by decide) lf_Ta_72 (Or.inl rfl) (by decide +kernel) ?_
  refine pw_aload_n (k4 := 0) rfl (by decide +kernel) ?_
  refine pw_iconst (n := 0) (v := 0) (by decide) (by decide +kernel) ?_
  refine pq_putI (c := 7) (k := 12) (ks_t hA ht) (by decide) (by decide) lf_Ta_75 (Or.inl rfl) (by decide +kernel) ?_
  refine pw_iconst (n := 0) (v := 0) (by decide) (by decide +kernel) ?_
  refine pq_istore_n (k4 := 1) (Nat.le_of_ble_eq_true rfl) rfl (by decide +kernel) ?_
  have q := hL 0 (Nat.zero_le _)
  rw [fil_0, show aU (sI (sI (sI I t 0 0) t 6 0) t 12 0) (t + 5) (I (t + 5)) = sI (sI (sI I t 0 0) t 6 0) t 12 0 from by rw [show I (t + 5) = sI (sI (sI I t 0 0) t 6 0) t 12 0 (t + 5) from by rw [sI_ne (by omega), sI_ne (by omega), sI_ne (by omega)]]; exact aU_self _ _] at q
  exact q

theorem rdR_tk0 {X J : Nat → Nat → Int32} {n q : Nat} (h4 : X 58 4 = nI n) (h5 : J 134 6 = nI n) (h6 : n ≤ 700) (h7 : ∀ k, k < n → X 2 k = sgB (bT J k) ∧ bT J k < 256) (h8 : ∀ w, w < 25 → X 60 w = nI (rfW (wmN w))) (hq : J 134 7 = nI q) (hqn : q ≤ n) : rdR (xTk X (bT J) n q) (yTok J) n := by
  have hle := runTo_le (fun k => decide (blP (bT J) n k)) (n - q) q
  have ha : tkA (bT J) n q ≤ n := by show runTo _ _ _ ≤ n; omega
  have e6 : ixn (J 134 6) = n := by rw [h5, ixn_nI (by omega)]
  have e7 : ixn (J 134 7) = q := by rw [hq, ixn_nI (by omega)]
  obtain ⟨r0, r1, r2, r5, r4, rn⟩ := reQ_at X (nI (kTk (bT J) n (tkA (bT J) n q))) (nI (vTk (bT J) n (tkA (bT J) n q))) (nI (tkA (bT J) n q)) (nI (tkE (bT J) n (tkA (bT J) n q)))
  have hE : tkE (bT J) n (tkA (bT J) n q) ≤ n := by
    generalize tkA (bT J) n q = a at ha
    unfold tkE
    split
    · exact ha
    · split
      · have := (runTo_le (fun k => decide (smP (bT J) n k)) (n - a) a).2
        show runTo _ _ _ ≤ n
        omega
      · split
        · have := (runTo_le (fun k => decide (dgP (bT J) n k)) (n - a) a).2
          show runTo _ _ _ ≤ n
          omega
        · rename_i hne _ _
          rw [sgE_j]
          by_cases z : jnP (bT J) n a
          · rw [if_pos z]
            have : sgN (bT J) n a ≠ 0 := by unfold jnP at z; omega
            unfold sgN at this
            by_cases w : a + 1 < n
            · omega
            · rw [if_neg w] at this; exact absurd rfl this
          · rw [if_neg z]; omega
  have yJ : yTok J = tkQ J (nI (tkE (bT J) n (tkA (bT J) n q))) (nI (tkK (bT J) n (tkA (bT J) n q))) (tkH (bT J) n (tkA (bT J) n q) (J 134 9)) (nI (tkA (bT J) n q)) := by
    unfold yTok
    rw [e6, e7]
  rw [yJ]
  refine ⟨?_, r2, ⟨_, hE, r5, rfl⟩, r4.trans h4, h5, h6, ?_, ?_⟩
  · show tkT (reQ X _ _ _ _ 58 0) (reQ X _ _ _ _ 58 1) _ _
    rw [r0, r1]
    exact tok_T (bT J) n _ ha (J 134 9)
  · intro k hk
    show reQ X _ _ _ _ 2 k = _ ∧ _
    rw [rn 2 (by decide)]
    exact h7 k hk
  · intro w hw
    show reQ X _ _ _ _ 60 w = _
    rw [rn 60 (by decide)]
    exact h8 w hw
def rBg (I J : Nat → Nat → Int32) (L : Nat → Nat → Int64) (P : Nat → Nat → Option Nat) (n : Nat) : Option Value → pM → Prop := fun r M => r = none ∧ ∃ I', M = (I', L, P) ∧ rdR I' (yTok J) n ∧ ∀ a, a ≠ 58 → I' a = I a
theorem ct_Re_begin {sh : List pSh} {I : Nat → Nat → Int32} {L : Nat → Nat → Int64} {P : Nat → Nat → Option Nat} (hA : kA sh P) {J : Nat → Nat → Int32} {n : Nat} (hn : n ≤ 700) (hb : ∀ k, k < n → I 2 k = sgB (bT J k) ∧ bT J k < 256) (hw60 : ∀ w, w < 25 → I 60 w = nI (rfW (wmN w))) (h6 : J 134 6 = nI n) (h7 : J 134 7 = nI 0) : pCn m_Re_begin 3 [.ref 58, .ref 2, .int (nI n)] sh (I, L, P) (rBg I J L (sP P 58 3 2) n) := by
  refine pCn_of (by decide +kernel) (Nat.le_of_ble_eq_true rfl) ?_
  have hB : kA sh (sP P 58 3 2) := kA_sP hA 2 kPs_58
  have hmx : iMax 0 (iMin (nI n) (nI 700)) = nI n := by
    unfold iMin iMax
    by_cases z : nI 700 < nI n
    · have := (nI_ltI (by decide) (by omega)).mp z; omega
    · rw [if_neg z]
      by_cases y : (0 : Int32) < nI n
      · rw [if_pos y]
      · rw [if_neg y]
        have := mt (nI_ltI (a := 0) (b := n) (by decide) (by omega)).mpr y
        rw [show n = 0 by omega]; rfl
  have hfin : rdR (xTk (sI (sI I 58 4 (nI n)) 58 5 0) (bT J) n 0) (yTok J) n := rdR_tk0 (by rw [sI_rd (by decide), sI_rs]) h6 hn (fun k hk => by rw [sI_ne (by decide), sI_ne (by decide)]; exact hb k hk) (fun w hw => by rw [sI_ne (by decide), sI_ne (by decide)]; exact hw60 w hw) h7 (Nat.zero_le _)
  have hfo : ∀ a, a ≠ 58 → xTk (sI (sI I 58 4 (nI n)) 58 5 0) (bT J) n 0 a = I a := fun a ha => by
    rw [show xTk (sI (sI I 58 4 (nI n)) 58 5 0) (bT J) n 0 a = sI (sI I 58 4 (nI n)) 58 5 0 a from (reQ_at _ _ _ _ _).2.2.2.2.2 a ha, sI_ne ha, sI_ne ha]
  refine pw_aload_n (k4 := 0) rfl (by decide +kernel) ?_
  refine pw_aload_n (k4 := 1) rfl (by decide +kernel) ?_
  refine pq_putP (c := 3) (k := 3) (ks_re hA) (by decide) (by decide) lf_Re_9 (Or.inl rfl) (by decide +kernel) ?_
  refine pw_aload_n (k4 := 0) rfl (by decide +kernel) ?_
  refine pw_iconst (n := 0) (v := 0) (by decide) (by decide +kernel) ?_
  refine pw_iload_n (k4 := 2) rfl (by decide +kernel) ?_
  refine pw_aload_n (k4 := 1) rfl (by decide +kernel) ?_
  refine pq_alen (by decide) (ks_x_tape hA) (by decide +kernel) ?_
  refine pw_mmin (by decide +kernel) lm_Re_31 (by omega) (Nat.le_of_ble_eq_true rfl) (Nat.le_refl _) (Nat.le_refl _) ?_
  refine pw_mmax (by decide +kernel) lm_Re_37 (by omega) (Nat.le_of_ble_eq_true rfl) (Nat.le_refl _) (Nat.le_refl _) ?_
  refine pq_putI (c := 3) (k := 4) (ks_re hA) (by decide) (by decide) lf_Re_40 (Or.inl rfl) (by decide +kernel) ?_
  refine pw_aload_n (k4 := 0) rfl (by decide +kernel) ?_
  refine pw_iconst (n := 0) (v := 0) (by decide) (by decide +kernel) ?_
  refine pq_putI (c := 3) (k := 5) (ks_re hA) (by decide) (by decide) lf_Re_43 (Or.inl rfl) (by decide +kernel) ?_
  refine pw_aload_n (k4 := 0) rfl (by decide +kernel) ?_
  rw [show iMax 0 (iMin (nI n) (nI 700)) = nI n from hmx]
  refine pq_callV (ν := m_Re_advance) (d' := 2) (av := []) (c := 3) (by decide +kernel) lm_Re_46 ok_Re_advance (show _ = some 0 by decide +kernel) (ks_re hA) rfl (by decide) (by omega) (Nat.le_of_ble_eq_true rfl) (ct_Re_advance hB (sP_at) (n := n) (b := bT J) (p := 0) (by rw [sI_rd (by decide), sI_rs]) hn (fun k hk => by rw [sI_ne (by decide), sI_ne (by decide)]; exact (hb k hk).1) (fun k hk => (hb k hk).2) (fun w hw => by rw [sI_ne (by decide), sI_ne (by decide)]; exact hw60 w hw) (Nat.zero_le _) sI_rs) ?_
  rintro _ _ ⟨rfl, rfl⟩
  exact pq_vret rfl (by decide +kernel) ⟨rfl, _, rfl, hfin, fun a ha => hfo a ha⟩

