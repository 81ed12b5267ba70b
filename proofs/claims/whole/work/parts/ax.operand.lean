/-! ===== the class: operands of laws beside the machine ===== -/
def lvQ (l : Nat) (E : List (Nat × Nat)) (W : List Nat) (mn : Bool) (br cn : Nat) (G I : Nat → Nat → Int32) (L : Nat → Nat → Int64) (P : Nat → Nat → Option Nat) (n t b0 : Nat) : Option Value → pM → Prop := fun r M => ∃ I' b, r = some (.int (bI b)) ∧ M = (I', L, P) ∧ lvF t (b0 + E.length) I I' ∧
  (b = true → ∃ E' W' mn' cn' G' E1, mRn (E, W, true, mn, br, cn, G) (E', W', false, mn', br, cn', G') ∧ bindA (l + 1) W' E' = (W, E1) ∧ stS l E' W' G' ∧ lvI I' G' n t b0 E1 W cn' ∧ E.length ≤ E1.length ∧ I' 57 = I 57) ∧
  (b = false → ∃ f G', mFl (E, W, true, mn, br, cn, G) f G' ∧ I' 57 1 = nI f ∧ I' 57 2 = G' 134 10)
def lvH (sh : List pSh) (L : Nat → Nat → Int64) (P : Nat → Nat → Option Nat) (n t b0 l e dl : Nat) : Prop := ∀ (E : List (Nat × Nat)) (W : List Nat) (mn : Bool) (cn br : Nat) (G I : Nat → Nat → Int32), br + e = 8 → lvI I G n t b0 E W cn → rkN (W.headD 0) ≤ l → (l ≤ 2 → mn = true) → (3 ≤ l → ¬ ((G 134 8 = 1 ∧ G 134 9 = 18) ∧ mn = true)) → pCn m_Sc_readLevel (14 * e + 4 + dl) [.ref 57, .int (nI l), .int (nI br)] sh (I, L, P) (lvQ l E W mn br cn G I L P n t b0)
theorem scRf_57 {I G : Nat → Nat → Int32} {n : Nat} (h : rdR I G n) (k : Int32) : scRf I k 57 1 = k ∧ scRf I k 57 2 = G 134 10 := by
  refine ⟨?_, ?_⟩
  · show sI (sI I 57 1 k) 57 2 (I 58 2) 57 1 = k
    rw [sI_rd (by decide), sI_rs]
  · show sI (sI I 57 1 k) 57 2 (I 58 2) 57 2 = _
    rw [sI_rs]
    exact h.2.1
/-- the class refuses where the machine stops -/
theorem lvQ_r {l : Nat} {E : List (Nat × Nat)} {W : List Nat} {mn : Bool} {br cn f : Nat} {G G' I Z : Nat → Nat → Int32} {L : Nat → Nat → Int64} {P : Nat → Nat → Option Nat} {n t b0 : Nat} (ht : t = 3 ∨ t = 30) (hm : mFl (E, W, true, mn, br, cn, G) f G') (hr : rdR Z G' n) (hF : lvF t (b0 + E.length) I Z) : lvQ l E W mn br cn G I L P n t b0 (some (.int 0)) (scRf Z (nI f), L, P) :=
  ⟨_, false, rfl, rfl, hF.tr (lvF_rf t _ ht Z _) (Nat.le_refl _), fun q => (by cases q), fun _ => ⟨f, G', hm, (scRf_57 hr _).1, (scRf_57 hr _).2⟩⟩
theorem leafA_n {E : List (Nat × Nat)} {W : List Nat} {mn : Bool} {br cn : Nat} {G : Nat → Nat → Int32} (h1 : ¬ (G 134 8 = 4 ∧ G 134 9 = 40)) (h2 : ¬ ((G 134 8 = 1 ∧ G 134 9 = 18) ∧ mn = true)) (h3 : ¬ nmA G < 0) : leafA E W true mn br cn G = if cn = 64 then (2, E, W, true, mn, br, cn, G) else (0, (1, ixn (nmA G)) :: E, W, false, mn, br, cn + 1, yTok G) := by
  unfold leafA
  rw [if_neg h1, if_neg h2, if_neg (fun q => h3 q.1), if_neg (fun q => h3 q.1), if_neg h3]
theorem leafA_v {E : List (Nat × Nat)} {W : List Nat} {mn : Bool} {br cn : Nat} {G : Nat → Nat → Int32} (h1 : ¬ (G 134 8 = 4 ∧ G 134 9 = 40)) (h2 : ¬ ((G 134 8 = 1 ∧ G 134 9 = 18) ∧ mn = true)) (h3 : nmA G < 0) (h4 : G 134 8 = 3) (h5 : ¬ 9999 < G 134 9) : leafA E W true mn br cn G = if cn = 64 then (2, E, W, true, mn, br, cn, G) else (0, (0, ixn (G 134 9)) :: E, W, false, mn, br, cn + 1, yTok G) := by
  unfold leafA
  rw [if_neg h1, if_neg h2, if_neg (fun q => q.2 h4), if_neg (fun q => h5 q.2), if_pos h3]
theorem lPut_in {I G : Nat → Nat → Int32} {n t b0 cn : Nat} {E : List (Nat × Nat)} {W : List Nat} (ht : t = 3 ∨ t = 30) (h : lvI I G n t b0 E W cn) (c v : Int32) : rdR (lPut I t (b0 + E.length) c v) G n ∧ lPut I t (b0 + E.length) c v (t + 19) 0 = nI cn ∧ lPut I t (b0 + E.length) c v 57 = I 57 ∧ lvF t (b0 + E.length) I (lPut I t (b0 + E.length) c v) := by
  obtain ⟨h1, h2, h3, h4, h5, h6, h7⟩ := h
  unfold lPut
  by_cases w : b0 + E.length < 64
  · rw [if_pos w]
    refine ⟨rdR_sX (rdR_sX (rdR_sX h1 (by omega) _ _) (by omega) _ _) (by omega) _ _, ?_, by rw [sI_ne (by omega), sI_ne (by omega), sI_ne (by omega)], fun a a1 a2 a3 a4 a5 => by rw [sI_ne a3, sI_ne a5, sI_ne a4], fun i hi => ?_, gwN_s h4 w sI_rs⟩
    · rw [sI_rd (by decide), sI_ne (show t + 19 ≠ t + 21 by omega), sI_ne (show t + 19 ≠ t + 20 by omega)]; exact h3
    · rw [sI_ne (show t + 20 ≠ t + 19 by omega), sI_ne (show t + 20 ≠ t + 21 by omega), sI_rd (show i ≠ b0 + E.length by omega), sI_ne (show t + 21 ≠ t + 19 by omega), sI_rd (show i ≠ b0 + E.length by omega), sI_ne (show t + 21 ≠ t + 20 by omega)]
      exact ⟨rfl, rfl⟩
  · rw [if_neg w]
    exact ⟨h1, h3, rfl, lvF.rf t _ I⟩
/-- a leaf has been written and counted -/
theorem leaf_fin {I G : Nat → Nat → Int32} {L : Nat → Nat → Int64} {P : Nat → Nat → Option Nat} {n t b0 cn br q p : Nat} {E : List (Nat × Nat)} {W : List Nat} {mn : Bool} {c v : Int32} (ht : t = 3 ∨ t = 30) (h : lvI I G n t b0 E W cn) (hl : leafA E W true mn br cn G = if cn = 64 then (2, E, W, true, mn, br, cn, G) else (0, (q, p) :: E, W, false, mn, br, cn + 1, yTok G)) (hc : cdR c v (nI q) (nI p)) : ∀ r M, rKn G (lPut I t (b0 + E.length) c v) L P n t cn r M → lvQ 6 E W mn br cn G I L P n t b0 r M := by
  rintro r M ⟨I', b, rfl, rfl, hT, hN⟩
  obtain ⟨p1, p2, p3, p4⟩ := lPut_in ht h c v
  cases b with
  | false =>
    obtain ⟨e1, rfl⟩ := hN rfl
    rw [if_pos e1] at hl
    exact lvQ_r ht (st_leafF hl (by decide)) p1 p4
  | true =>
    obtain ⟨e1, e2, e3⟩ := hT rfl
    obtain ⟨h1, h2, h3, h4, h5, h6, h7⟩ := h
    rw [if_neg (by omega)] at hl
    have w : b0 + E.length < 64 := by omega
    have z : lPut I t (b0 + E.length) c v = sI (sI (sI I (t + 20) (b0 + E.length) c) (t + 21) (b0 + E.length) v) (t + 19) 1 (nI (b0 + E.length + 1)) := if_pos w
    have e20 : I' (t + 20) = upd (I (t + 20)) (b0 + E.length) c := by rw [e3 _ (by omega), sI_ne (by omega), z, sI_ne (by omega), sI_ne (by omega)]; exact va_up_eq2 _ _ _
    have e21 : I' (t + 21) = upd (I (t + 21)) (b0 + E.length) v := by rw [e3 _ (by omega), sI_ne (by omega), z, sI_ne (by omega)]; show va_up _ (t + 21) _ (t + 21) = _; rw [va_up_eq2, sI_ne (by omega)]
    have e57 : I' 57 = I 57 := by rw [e3 _ (by decide), sI_ne (by omega)]; exact p3
    have eo : ∀ i, i < b0 + E.length → I' (t + 20) i = I (t + 20) i ∧ I' (t + 21) i = I (t + 21) i := fun i hi => by rw [e20, e21, upd_ne (by omega), upd_ne (by omega)]; exact ⟨rfl, rfl⟩
    refine ⟨I', true, rfl, rfl, ⟨fun a a1 a2 a3 a4 a5 => by rw [e3 a a2, sI_ne a3]; exact p4.1 a a1 a2 a3 a4 a5, eo, gwN.tr p4.2.2 (gwN_e (by rw [e3 _ (by omega), sI_rd (by decide)]))⟩, fun _ => ⟨_, _, _, _, _, (q, p) :: E, st_leaf hl, bindA_7 _ _, Or.inr (Or.inl (rkN_6 _)), ⟨e2, by rw [e57]; exact h2, ?_, ?_, cdL_cons h5 eo ?_, ?_, by omega⟩, ?_, e57⟩, fun q => by cases q⟩
    · rw [e3 _ (by omega), sI_rs]
    · rw [e3 _ (by omega), sI_rd (by decide), z, sI_rs]; rfl
    · rw [e20, e21, upd_eq, upd_eq]; exact hc
    · show b0 + (E.length + 1) + opW W = cn + 1; omega
    · show E.length ≤ E.length + 1; omega
theorem op_close {I I2 I3 G G' : Nat → Nat → Int32} {L : Nat → Nat → Int64} {P : Nat → Nat → Option Nat} {n t b0 cn cn' br : Nat} {E E' E1 : List (Nat × Nat)} {W W' : List Nat} {mn mn' : Bool} (ht : t = 3 ∨ t = 30) (hl : leafA E W true mn br cn G = (0, E, 0 :: W, true, true, br + 1, cn, yTok G)) (m1 : mRn (E, 0 :: W, true, true, br + 1, cn, yTok G) (E', W', false, mn', br + 1, cn', G')) (m2 : bindA (0 + 1) W' E' = (0 :: W, E1)) (m4 : lvI I2 G' n t b0 E1 (0 :: W) cn') (m5 : E.length ≤ E1.length) (hc : G' 134 8 = 4 ∧ G' 134 9 = 41) (n2 : rdR I3 (yTok G') n) (hf : ∀ a, a ≠ 58 → I3 a = I2 a) (hF : lvF t (b0 + E.length) I I2) (h57 : I3 57 = I 57) : lvQ 6 E W mn br cn G I L P n t b0 (some (.int 1)) (I3, L, P) := by
  obtain ⟨h1, h2, h3, h4, h5, h6, h7⟩ := m4
  have hs : signsA E' W' false mn' (br + 1) cn' G' = (0, E1, W, false, mn', br, cn', yTok G') := by
    unfold signsA
    rw [if_pos ⟨hc, by omega⟩, m2]
    rfl
  have hn : ¬ ((G' 134 8 = 4 ∧ G' 134 9 = 59) ∧ br + 1 = 0) := fun w => by omega
  refine ⟨I3, true, rfl, rfl, hF.tr (lvF_ad (w0 := b0 + E.length) ht hf) (Nat.le_refl _), fun _ => ⟨E1, W, mn', cn', yTok G', E1, ((st_leaf hl).tr m1).tr (st_sign hn hs), bindA_7 _ _, Or.inr (Or.inl (rkN_6 _)), ⟨n2, by rw [hf 57 (by decide)]; exact h2, by rw [hf (t + 19) (by omega)]; exact h3, by rw [hf (t + 19) (by omega)]; exact h4, cdL_cg h5 (fun i _ => by rw [hf (t + 20) (by omega), hf (t + 21) (by omega)]; exact ⟨rfl, rfl⟩), ?_, h7⟩, m5, h57⟩, fun q => by cases q⟩
  have : opW (0 :: W) = opW W := by show (if 2 ≤ 0 then 1 else 0) + opW W = _; rw [if_neg (by decide)]; omega
  omega
theorem nam_fin {I G : Nat → Nat → Int32} {L : Nat → Nat → Int64} {P : Nat → Nat → Option Nat} {n t b0 cn br K : Nat} {E : List (Nat × Nat)} {W : List Nat} {mn : Bool} {v : Int32} (ht : t = 3 ∨ t = 30) (h : lvI I G n t b0 E W cn) (h1 : ¬ (G 134 8 = 4 ∧ G 134 9 = 40)) (h2 : ¬ ((G 134 8 = 1 ∧ G 134 9 = 18) ∧ mn = true)) (hN : nmA G = nmK K) (hK : K = 7 ∨ (19 ≤ K ∧ K ≤ 24)) (hv : v = nI (if K = 7 then 6 else K - 19)) : ∀ r M, rKn G (lPut I t (b0 + E.length) 25 v) L P n t cn r M → lvQ 6 E W mn br cn G I L P n t b0 r M := by
  have key : ¬ nmK K < 0 ∧ ixn (nmK K) < 7 ∧ nI (if K = 7 then 6 else K - 19) = nI (pmN (ixn (nmK K))) := by
    have hc : K = 7 ∨ K = 19 ∨ K = 20 ∨ K = 21 ∨ K = 22 ∨ K = 23 ∨ K = 24 := by omega
    rcases hc with rfl | rfl | rfl | rfl | rfl | rfl | rfl <;> decide +kernel
  refine leaf_fin ht h (leafA_n h1 h2 (by rw [hN]; exact key.1)) ?_
  rw [hN]
  exact Or.inr (Or.inl ⟨rfl, rfl, _, key.2.1, rfl, by rw [hv]; exact key.2.2⟩)
set_option maxHeartbeats 8000000 in
theorem ct_Sc_readOperand {sh : List pSh} {I : Nat → Nat → Int32} {L : Nat → Nat → Int64} {P : Nat → Nat → Option Nat} (hA : kA sh P) (hrb : P 58 3 = some 2) {n t b0 : Nat} (ht : t = 3 ∨ t = 30) (hst : P 57 5 = some t) {E : List (Nat × Nat)} {W : List Nat} {mn : Bool} {cn br e : Nat} {G : Nat → Nat → Int32} (hbe : br + e = 8) (h : lvI I G n t b0 E W cn) (hm : ¬ ((G 134 8 = 1 ∧ G 134 9 = 18) ∧ mn = true)) (ih : ∀ e1, e = e1 + 1 → lvH sh L P n t b0 0 e1 8) : pCn m_Sc_readOperand (14 * e + 4) [.ref 57, .int (nI br)] sh (I, L, P) (lvQ 6 E W mn br cn G I L P n t b0) := by
  refine pCn_of (by decide +kernel) (Nat.le_of_ble_eq_true rfl) ?_
  obtain ⟨K, hK41, hK, -, K28, -, -, -, K26, KN⟩ := rdR_K h.1
  have h7 := h.2.2.2.2.2.2
  have h6 := h.2.2.2.2.2.1
  have hnum : K = 26 → ∃ v u, nmR v u ∧ I 58 1 = nI v ∧ G 134 9 = nI u := fun w => tk_nm h.1.1 (K26.mpr w)
  have hvl : K = 26 → (¬ I 58 1 ≤ 9999 ↔ 9999 < G 134 9) := by
    intro w
    obtain ⟨v, u, a1, a2, a3⟩ := hnum w
    rw [a2, a3, show (9999 : Int32) = nI 9999 from rfl]
    unfold nmR at a1
    rw [nI_leI (by omega) (by decide), nI_ltI (by decide) (by omega)]
    omega
  have hve : K = 26 → I 58 1 ≤ 9999 → cdR 26 (I 58 1) (nI 0) (nI (ixn (G 134 9))) := by
    intro w w2
    obtain ⟨v, u, a1, a2, a3⟩ := hnum w
    unfold nmR at a1
    rw [a2, show (9999 : Int32) = nI 9999 from rfl, nI_leI (by omega) (by decide)] at w2
    rw [a2, a3, ixn_nI (by omega), show v = u by omega]
    exact Or.inl ⟨rfl, rfl, rfl⟩
  refine pw_aload_n (k4 := 0) rfl (by decide +kernel) ?_
  refine pq_getP (c := 4) (k := 4) (ks_sc hA) (by decide) (by decide) (kp_sc_reader hA) lf_Sc_12 (by decide +kernel) ?_
  refine pq_getI (c := 3) (k := 0) (ks_re hA) (by decide) (by decide) lf_Sc_45 (by decide +kernel) ?_
  refine pn_val (nI (K)) hK ?_
  refine pq_istore_n (k4 := 2) (Nat.le_of_ble_eq_true rfl) rfl (by decide +kernel) ?_
  refine pw_iload_n (k4 := 2) rfl (by decide +kernel) ?_
  refine pw_bipush (n := 28) (v := 28) (by decide) (by decide +kernel) ?_
  refine pn_icmp_ne (off := 48) (tgt := 59) K 28 rfl rfl (by omega) (by omega) (by decide +kernel) (by decide +kernel) (fun z11 => ?_) (fun z11 => ?_)
  · have k28 : ¬ (G 134 8 = 4 ∧ G 134 9 = 40) := fun w => by have := K28.mp w; omega
    refine pw_iload_n (k4 := 2) rfl (by decide +kernel) ?_
    refine pw_bipush (n := 7) (v := 7) (by decide) (by decide +kernel) ?_
    refine pn_icmp_eq (off := 15) (tgt := 77) K 7 rfl rfl (by omega) (by omega) (by decide +kernel) (by decide +kernel) (fun z62 => ?_) (fun z62 => ?_)
    · refine pw_iconst (n := 1) (v := 1) (by decide) (by decide +kernel) ?_
      refine pw_goto (off := 4) (tgt := 82) (by decide +kernel) (by decide +kernel) ?_
      refine pq_istore_n (k4 := 3) (Nat.le_of_ble_eq_true rfl) rfl (by decide +kernel) ?_
      refine pw_iload_n (k4 := 3) rfl (by decide +kernel) ?_
      refine pn_if_ne (off := 15) (tgt := 99) 1 rfl (by omega) (by decide +kernel) (by decide +kernel) (fun z84 => ?_) (fun z84 => ?_)
      · refine pw_iload_n (k4 := 2) rfl (by decide +kernel) ?_
        refine pw_bipush (n := 7) (v := 7) (by decide) (by decide +kernel) ?_
        refine pn_icmp_ne (off := 8) (tgt := 110) K 7 rfl rfl (by omega) (by omega) (by decide +kernel) (by decide +kernel) (fun z102 => ?_) (fun z102 => ?_)
        · exfalso; omega
        · refine pw_bipush (n := 6) (v := 6) (by decide) (by decide +kernel) ?_
          refine pw_goto (off := 7) (tgt := 114) (by decide +kernel) (by decide +kernel) ?_
          refine pq_istore (i := 4) (Nat.le_of_ble_eq_true rfl) rfl (by decide +kernel) ?_
          refine pw_iload_n (k4 := 2) rfl (by decide +kernel) ?_
          refine pw_bipush (n := 26) (v := 26) (by decide) (by decide +kernel) ?_
          refine pn_icmp_ne (off := 26) (tgt := 145) K 26 rfl rfl (by omega) (by omega) (by decide +kernel) (by decide +kernel) (fun z119 => ?_) (fun z119 => ?_)
          · refine pw_aload_n (k4 := 0) rfl (by decide +kernel) ?_
            refine pq_getP (c := 4) (k := 5) (ks_sc hA) (by decide) (by decide) hst lf_Sc_18 (by decide +kernel) ?_
            refine pq_getP (c := 7) (k := 18) (ks_t hA ht) (by decide) (by decide) (kp_t_laws hA ht) lf_Sc_174 (by decide +kernel) ?_
            refine pw_iload_n (k4 := 3) rfl (by decide +kernel) ?_
            refine pn_if_eq (off := 8) (tgt := 161) 1 rfl (by omega) (by decide +kernel) (by decide +kernel) (fun z153 => ?_) (fun z153 => ?_)
            · exact absurd z153 (by decide)
            · refine pw_bipush (n := 25) (v := 25) (by decide) (by decide +kernel) ?_
              refine pw_goto (off := 5) (tgt := 163) (by decide +kernel) (by decide +kernel) ?_
              refine pw_iload (i := 4) rfl (by decide +kernel) ?_
              refine pq_callV (ν := m_La_put) (d' := 0) (av := [_, _]) (c := 2) (by decide +kernel) lm_Sc_209 ok_La_put (show _ = some 2 by decide +kernel) (ks_t_laws hA ht) rfl (by decide) (by omega) (Nat.le_of_ble_eq_true rfl) (ct_La_put hA ht (w := b0 + E.length) h.2.2.2.1 (by omega) _ _) ?_
              rintro _ _ ⟨rfl, rfl⟩
              refine pw_aload_n (k4 := 0) rfl (by decide +kernel) ?_
              refine pq_callV (ν := m_Sc_takeKnot) (d' := 3) (av := []) (c := 4) (by decide +kernel) lm_Sc_206 ok_Sc_takeKnot (show _ = some 0 by decide +kernel) (ks_sc hA) rfl (by decide) (by omega) (Nat.le_of_ble_eq_true rfl) (ct_Sc_takeKnot hA hrb (J := G) (lPut_in ht h _ _).1 ht hst (lPut_in ht h _ _).2.1 h7) ?_
              rintro _ _ ⟨I169, b169, rfl, rfl, hT169, hN169⟩
              exact pq_zret rfl (bI_z _) (by decide +kernel) (nam_fin ht h k28 hm KN (by omega) (by rw [if_pos (by omega)]; rfl) _ _ ⟨I169, b169, rfl, rfl, hT169, hN169⟩)
          · exfalso; omega
      · exact absurd (by decide) z84
    · refine pw_iload_n (k4 := 2) rfl (by decide +kernel) ?_
      refine pw_bipush (n := 19) (v := 19) (by decide) (by decide +kernel) ?_
      refine pn_icmp_lt (off := 13) (tgt := 81) K 19 rfl rfl (by omega) (by omega) (by decide +kernel) (by decide +kernel) (fun z68 => ?_) (fun z68 => ?_)
      · refine pw_iconst (n := 0) (v := 0) (by decide) (by decide +kernel) ?_
        refine pq_istore_n (k4 := 3) (Nat.le_of_ble_eq_true rfl) rfl (by decide +kernel) ?_
        refine pw_iload_n (k4 := 3) rfl (by decide +kernel) ?_
        refine pn_if_ne (off := 15) (tgt := 99) 0 rfl (by omega) (by decide +kernel) (by decide +kernel) (fun z84 => ?_) (fun z84 => ?_)
        · exact absurd z84 (by decide)
        · refine pw_iload_n (k4 := 2) rfl (by decide +kernel) ?_
          refine pw_bipush (n := 26) (v := 26) (by decide) (by decide +kernel) ?_
          refine pn_icmp_eq (off := 9) (tgt := 99) K 26 rfl rfl (by omega) (by omega) (by decide +kernel) (by decide +kernel) (fun z90 => ?_) (fun z90 => ?_)
          · refine pw_iload_n (k4 := 2) rfl (by decide +kernel) ?_
            refine pw_bipush (n := 7) (v := 7) (by decide) (by decide +kernel) ?_
            refine pn_icmp_ne (off := 8) (tgt := 110) K 7 rfl rfl (by omega) (by omega) (by decide +kernel) (by decide +kernel) (fun z102 => ?_) (fun z102 => ?_)
            · refine pw_iload_n (k4 := 2) rfl (by decide +kernel) ?_
              refine pw_bipush (n := 19) (v := 19) (by decide) (by decide +kernel) ?_
              refine pn_isub K 19 rfl rfl (by omega) (by decide +kernel) ?_
              refine pq_istore (i := 4) (Nat.le_of_ble_eq_true rfl) rfl (by decide +kernel) ?_
              refine pw_iload_n (k4 := 2) rfl (by decide +kernel) ?_
              refine pw_bipush (n := 26) (v := 26) (by decide) (by decide +kernel) ?_
              refine pn_icmp_ne (off := 26) (tgt := 145) K 26 rfl rfl (by omega) (by omega) (by decide +kernel) (by decide +kernel) (fun z119 => ?_) (fun z119 => ?_)
              · exfalso; omega
              · refine pw_aload_n (k4 := 0) rfl (by decide +kernel) ?_
                refine pq_getP (c := 4) (k := 4) (ks_sc hA) (by decide) (by decide) (kp_sc_reader hA) lf_Sc_12 (by decide +kernel) ?_
                refine pq_getI (c := 3) (k := 1) (ks_re hA) (by decide) (by decide) lf_Sc_86 (by decide +kernel) ?_
                refine pq_istore (i := 4) (Nat.le_of_ble_eq_true rfl) rfl (by decide +kernel) ?_
                refine pw_iload (i := 4) rfl (by decide +kernel) ?_
                refine pw_sipush (n := 9999) (v := 9999) (by decide) (by decide +kernel) ?_
                refine pw_icmp_le (off := 9) (tgt := 145) (by decide +kernel) (by decide +kernel) (fun z136 => ?_) (fun z136 => ?_)
                · refine pw_aload_n (k4 := 0) rfl (by decide +kernel) ?_
                  refine pq_getP (c := 4) (k := 5) (ks_sc hA) (by decide) (by decide) hst lf_Sc_18 (by decide +kernel) ?_
                  refine pq_getP (c := 7) (k := 18) (ks_t hA ht) (by decide) (by decide) (kp_t_laws hA ht) lf_Sc_174 (by decide +kernel) ?_
                  refine pw_iload_n (k4 := 3) rfl (by decide +kernel) ?_
                  refine pn_if_eq (off := 8) (tgt := 161) 0 rfl (by omega) (by decide +kernel) (by decide +kernel) (fun z153 => ?_) (fun z153 => ?_)
                  · refine pw_bipush (n := 26) (v := 26) (by decide) (by decide +kernel) ?_
                    refine pw_iload (i := 4) rfl (by decide +kernel) ?_
                    refine pq_callV (ν := m_La_put) (d' := 0) (av := [_, _]) (c := 2) (by decide +kernel) lm_Sc_209 ok_La_put (show _ = some 2 by decide +kernel) (ks_t_laws hA ht) rfl (by decide) (by omega) (Nat.le_of_ble_eq_true rfl) (ct_La_put hA ht (w := b0 + E.length) h.2.2.2.1 (by omega) _ _) ?_
                    rintro _ _ ⟨rfl, rfl⟩
                    refine pw_aload_n (k4 := 0) rfl (by decide +kernel) ?_
                    refine pq_callV (ν := m_Sc_takeKnot) (d' := 3) (av := []) (c := 4) (by decide +kernel) lm_Sc_206 ok_Sc_takeKnot (show _ = some 0 by decide +kernel) (ks_sc hA) rfl (by decide) (by omega) (Nat.le_of_ble_eq_true rfl) (ct_Sc_takeKnot hA hrb (J := G) (lPut_in ht h _ _).1 ht hst (lPut_in ht h _ _).2.1 h7) ?_
                    rintro _ _ ⟨I169, b169, rfl, rfl, hT169, hN169⟩
                    exact pq_zret rfl (bI_z _) (by decide +kernel) (leaf_fin ht h (q := 0) (leafA_v k28 hm (by rw [KN]; unfold nmK; rw [if_neg (by omega), if_neg (by omega), if_neg (by omega)]; decide) (K26.mpr (by omega)) (fun w => (hvl (by omega)).mpr w z136)) (hve (by omega) z136) _ _ ⟨I169, b169, rfl, rfl, hT169, hN169⟩)
                  · exact absurd (by decide) z153
                · refine pw_aload_n (k4 := 0) rfl (by decide +kernel) ?_
                  refine pw_iconst (n := 2) (v := 2) (by decide) (by decide +kernel) ?_
                  refine pq_callV (ν := m_Sc_refuse) (d' := 0) (av := [_]) (c := 4) (by decide +kernel) lm_Sc_59 ok_Sc_refuse (show _ = some 1 by decide +kernel) (ks_sc hA) rfl (by decide) (by omega) (Nat.le_of_ble_eq_true rfl) (ct_Sc_refuse hA _) ?_
                  rintro _ _ ⟨rfl, rfl⟩
                  exact pq_zret rfl (Or.inl rfl) (by decide +kernel) (lvQ_r (f := 2) ht (st_leafF (s := (E, W, true, mn, br, cn, G)) (by unfold leafA; rw [if_neg k28, if_neg hm, if_neg (fun w => w.2 (K26.mpr (by omega))), if_pos ⟨by rw [KN]; unfold nmK; rw [if_neg (by omega), if_neg (by omega), if_neg (by omega)]; decide, (hvl (by omega)).mp z136⟩]) (by decide)) h.1 (lvF.rf t _ I))
            · exfalso; omega
          · refine pw_aload_n (k4 := 0) rfl (by decide +kernel) ?_
            refine pw_iconst (n := 1) (v := 1) (by decide) (by decide +kernel) ?_
            refine pq_callV (ν := m_Sc_refuse) (d' := 0) (av := [_]) (c := 4) (by decide +kernel) lm_Sc_59 ok_Sc_refuse (show _ = some 1 by decide +kernel) (ks_sc hA) rfl (by decide) (by omega) (Nat.le_of_ble_eq_true rfl) (ct_Sc_refuse hA _) ?_
            rintro _ _ ⟨rfl, rfl⟩
            exact pq_zret rfl (Or.inl rfl) (by decide +kernel) (lvQ_r (f := 1) ht (st_leafF (s := (E, W, true, mn, br, cn, G)) (by unfold leafA; rw [if_neg k28, if_neg hm, if_pos ⟨by rw [KN]; unfold nmK; rw [if_neg (by omega), if_neg (by omega), if_neg (by omega)]; decide, fun w => by have := K26.mp w; omega⟩]) (by decide)) h.1 (lvF.rf t _ I))
      · refine pw_iload_n (k4 := 2) rfl (by decide +kernel) ?_
        refine pw_bipush (n := 24) (v := 24) (by decide) (by decide +kernel) ?_
        refine pn_icmp_gt (off := 7) (tgt := 81) K 24 rfl rfl (by omega) (by omega) (by decide +kernel) (by decide +kernel) (fun z74 => ?_) (fun z74 => ?_)
        · refine pw_iconst (n := 0) (v := 0) (by decide) (by decide +kernel) ?_
          refine pq_istore_n (k4 := 3) (Nat.le_of_ble_eq_true rfl) rfl (by decide +kernel) ?_
          refine pw_iload_n (k4 := 3) rfl (by decide +kernel) ?_
          refine pn_if_ne (off := 15) (tgt := 99) 0 rfl (by omega) (by decide +kernel) (by decide +kernel) (fun z84 => ?_) (fun z84 => ?_)
          · exact absurd z84 (by decide)
          · refine pw_iload_n (k4 := 2) rfl (by decide +kernel) ?_
            refine pw_bipush (n := 26) (v := 26) (by decide) (by decide +kernel) ?_
            refine pn_icmp_eq (off := 9) (tgt := 99) K 26 rfl rfl (by omega) (by omega) (by decide +kernel) (by decide +kernel) (fun z90 => ?_) (fun z90 => ?_)
            · refine pw_iload_n (k4 := 2) rfl (by decide +kernel) ?_
              refine pw_bipush (n := 7) (v := 7) (by decide) (by decide +kernel) ?_
              refine pn_icmp_ne (off := 8) (tgt := 110) K 7 rfl rfl (by omega) (by omega) (by decide +kernel) (by decide +kernel) (fun z102 => ?_) (fun z102 => ?_)
              · refine pw_iload_n (k4 := 2) rfl (by decide +kernel) ?_
                refine pw_bipush (n := 19) (v := 19) (by decide) (by decide +kernel) ?_
                refine pn_isub K 19 rfl rfl (by omega) (by decide +kernel) ?_
                refine pq_istore (i := 4) (Nat.le_of_ble_eq_true rfl) rfl (by decide +kernel) ?_
                refine pw_iload_n (k4 := 2) rfl (by decide +kernel) ?_
                refine pw_bipush (n := 26) (v := 26) (by decide) (by decide +kernel) ?_
                refine pn_icmp_ne (off := 26) (tgt := 145) K 26 rfl rfl (by omega) (by omega) (by decide +kernel) (by decide +kernel) (fun z119 => ?_) (fun z119 => ?_)
                · exfalso; omega
                · refine pw_aload_n (k4 := 0) rfl (by decide +kernel) ?_
                  refine pq_getP (c := 4) (k := 4) (ks_sc hA) (by decide) (by decide) (kp_sc_reader hA) lf_Sc_12 (by decide +kernel) ?_
                  refine pq_getI (c := 3) (k := 1) (ks_re hA) (by decide) (by decide) lf_Sc_86 (by decide +kernel) ?_
                  refine pq_istore (i := 4) (Nat.le_of_ble_eq_true rfl) rfl (by decide +kernel) ?_
                  refine pw_iload (i := 4) rfl (by decide +kernel) ?_
                  refine pw_sipush (n := 9999) (v := 9999) (by decide) (by decide +kernel) ?_
                  refine pw_icmp_le (off := 9) (tgt := 145) (by decide +kernel) (by decide +kernel) (fun z136 => ?_) (fun z136 => ?_)
                  · refine pw_aload_n (k4 := 0) rfl (by decide +kernel) ?_
                    refine pq_getP (c := 4) (k := 5) (ks_sc hA) (by decide) (by decide) hst lf_Sc_18 (by decide +kernel) ?_
                    refine pq_getP (c := 7) (k := 18) (ks_t hA ht) (by decide) (by decide) (kp_t_laws hA ht) lf_Sc_174 (by decide +kernel) ?_
                    refine pw_iload_n (k4 := 3) rfl (by decide +kernel) ?_
                    refine pn_if_eq (off := 8) (tgt := 161) 0 rfl (by omega) (by decide +kernel) (by decide +kernel) (fun z153 => ?_) (fun z153 => ?_)
                    · refine pw_bipush (n := 26) (v := 26) (by decide) (by decide +kernel) ?_
                      refine pw_iload (i := 4) rfl (by decide +kernel) ?_
                      refine pq_callV (ν := m_La_put) (d' := 0) (av := [_, _]) (c := 2) (by decide +kernel) lm_Sc_209 ok_La_put (show _ = some 2 by decide +kernel) (ks_t_laws hA ht) rfl (by decide) (by omega) (Nat.le_of_ble_eq_true rfl) (ct_La_put hA ht (w := b0 + E.length) h.2.2.2.1 (by omega) _ _) ?_
                      rintro _ _ ⟨rfl, rfl⟩
                      refine pw_aload_n (k4 := 0) rfl (by decide +kernel) ?_
                      refine pq_callV (ν := m_Sc_takeKnot) (d' := 3) (av := []) (c := 4) (by decide +kernel) lm_Sc_206 ok_Sc_takeKnot (show _ = some 0 by decide +kernel) (ks_sc hA) rfl (by decide) (by omega) (Nat.le_of_ble_eq_true rfl) (ct_Sc_takeKnot hA hrb (J := G) (lPut_in ht h _ _).1 ht hst (lPut_in ht h _ _).2.1 h7) ?_
                      rintro _ _ ⟨I169, b169, rfl, rfl, hT169, hN169⟩
                      exact pq_zret rfl (bI_z _) (by decide +kernel) (leaf_fin ht h (q := 0) (leafA_v k28 hm (by rw [KN]; unfold nmK; rw [if_neg (by omega), if_neg (by omega), if_neg (by omega)]; decide) (K26.mpr (by omega)) (fun w => (hvl (by omega)).mpr w z136)) (hve (by omega) z136) _ _ ⟨I169, b169, rfl, rfl, hT169, hN169⟩)
                    · exact absurd (by decide) z153
                  · refine pw_aload_n (k4 := 0) rfl (by decide +kernel) ?_
                    refine pw_iconst (n := 2) (v := 2) (by decide) (by decide +kernel) ?_
                    refine pq_callV (ν := m_Sc_refuse) (d' := 0) (av := [_]) (c := 4) (by decide +kernel) lm_Sc_59 ok_Sc_refuse (show _ = some 1 by decide +kernel) (ks_sc hA) rfl (by decide) (by omega) (Nat.le_of_ble_eq_true rfl) (ct_Sc_refuse hA _) ?_
                    rintro _ _ ⟨rfl, rfl⟩
                    exact pq_zret rfl (Or.inl rfl) (by decide +kernel) (lvQ_r (f := 2) ht (st_leafF (s := (E, W, true, mn, br, cn, G)) (by unfold leafA; rw [if_neg k28, if_neg hm, if_neg (fun w => w.2 (K26.mpr (by omega))), if_pos ⟨by rw [KN]; unfold nmK; rw [if_neg (by omega), if_neg (by omega), if_neg (by omega)]; decide, (hvl (by omega)).mp z136⟩]) (by decide)) h.1 (lvF.rf t _ I))
              · exfalso; omega
            · refine pw_aload_n (k4 := 0) rfl (by decide +kernel) ?_
              refine pw_iconst (n := 1) (v := 1) (by decide) (by decide +kernel) ?_
              refine pq_callV (ν := m_Sc_refuse) (d' := 0) (av := [_]) (c := 4) (by decide +kernel) lm_Sc_59 ok_Sc_refuse (show _ = some 1 by decide +kernel) (ks_sc hA) rfl (by decide) (by omega) (Nat.le_of_ble_eq_true rfl) (ct_Sc_refuse hA _) ?_
              rintro _ _ ⟨rfl, rfl⟩
              exact pq_zret rfl (Or.inl rfl) (by decide +kernel) (lvQ_r (f := 1) ht (st_leafF (s := (E, W, true, mn, br, cn, G)) (by unfold leafA; rw [if_neg k28, if_neg hm, if_pos ⟨by rw [KN]; unfold nmK; rw [if_neg (by omega), if_neg (by omega), if_neg (by omega)]; decide, fun w => by have := K26.mp w; omega⟩]) (by decide)) h.1 (lvF.rf t _ I))
        · refine pw_iconst (n := 1) (v := 1) (by decide) (by decide +kernel) ?_
          refine pw_goto (off := 4) (tgt := 82) (by decide +kernel) (by decide +kernel) ?_
          refine pq_istore_n (k4 := 3) (Nat.le_of_ble_eq_true rfl) rfl (by decide +kernel) ?_
          refine pw_iload_n (k4 := 3) rfl (by decide +kernel) ?_
          refine pn_if_ne (off := 15) (tgt := 99) 1 rfl (by omega) (by decide +kernel) (by decide +kernel) (fun z84 => ?_) (fun z84 => ?_)
          · refine pw_iload_n (k4 := 2) rfl (by decide +kernel) ?_
            refine pw_bipush (n := 7) (v := 7) (by decide) (by decide +kernel) ?_
            refine pn_icmp_ne (off := 8) (tgt := 110) K 7 rfl rfl (by omega) (by omega) (by decide +kernel) (by decide +kernel) (fun z102 => ?_) (fun z102 => ?_)
            · refine pw_iload_n (k4 := 2) rfl (by decide +kernel) ?_
              refine pw_bipush (n := 19) (v := 19) (by decide) (by decide +kernel) ?_
              refine pn_isub K 19 rfl rfl (by omega) (by decide +kernel) ?_
              refine pq_istore (i := 4) (Nat.le_of_ble_eq_true rfl) rfl (by decide +kernel) ?_
              refine pw_iload_n (k4 := 2) rfl (by decide +kernel) ?_
              refine pw_bipush (n := 26) (v := 26) (by decide) (by decide +kernel) ?_
              refine pn_icmp_ne (off := 26) (tgt := 145) K 26 rfl rfl (by omega) (by omega) (by decide +kernel) (by decide +kernel) (fun z119 => ?_) (fun z119 => ?_)
              · refine pw_aload_n (k4 := 0) rfl (by decide +kernel) ?_
                refine pq_getP (c := 4) (k := 5) (ks_sc hA) (by decide) (by decide) hst lf_Sc_18 (by decide +kernel) ?_
                refine pq_getP (c := 7) (k := 18) (ks_t hA ht) (by decide) (by decide) (kp_t_laws hA ht) lf_Sc_174 (by decide +kernel) ?_
                refine pw_iload_n (k4 := 3) rfl (by decide +kernel) ?_
                refine pn_if_eq (off := 8) (tgt := 161) 1 rfl (by omega) (by decide +kernel) (by decide +kernel) (fun z153 => ?_) (fun z153 => ?_)
                · exact absurd z153 (by decide)
                · refine pw_bipush (n := 25) (v := 25) (by decide) (by decide +kernel) ?_
                  refine pw_goto (off := 5) (tgt := 163) (by decide +kernel) (by decide +kernel) ?_
                  refine pw_iload (i := 4) rfl (by decide +kernel) ?_
                  refine pq_callV (ν := m_La_put) (d' := 0) (av := [_, _]) (c := 2) (by decide +kernel) lm_Sc_209 ok_La_put (show _ = some 2 by decide +kernel) (ks_t_laws hA ht) rfl (by decide) (by omega) (Nat.le_of_ble_eq_true rfl) (ct_La_put hA ht (w := b0 + E.length) h.2.2.2.1 (by omega) _ _) ?_
                  rintro _ _ ⟨rfl, rfl⟩
                  refine pw_aload_n (k4 := 0) rfl (by decide +kernel) ?_
                  refine pq_callV (ν := m_Sc_takeKnot) (d' := 3) (av := []) (c := 4) (by decide +kernel) lm_Sc_206 ok_Sc_takeKnot (show _ = some 0 by decide +kernel) (ks_sc hA) rfl (by decide) (by omega) (Nat.le_of_ble_eq_true rfl) (ct_Sc_takeKnot hA hrb (J := G) (lPut_in ht h _ _).1 ht hst (lPut_in ht h _ _).2.1 h7) ?_
                  rintro _ _ ⟨I169, b169, rfl, rfl, hT169, hN169⟩
                  exact pq_zret rfl (bI_z _) (by decide +kernel) (nam_fin ht h k28 hm KN (by omega) (by rw [if_neg (by omega)]) _ _ ⟨I169, b169, rfl, rfl, hT169, hN169⟩)
              · exfalso; omega
            · exfalso; omega
          · exact absurd (by decide) z84
  · have k28 := K28.mpr (by omega)
    refine pw_iload_n (k4 := 1) rfl (by decide +kernel) ?_
    refine pw_bipush (n := 8) (v := 8) (by decide) (by decide +kernel) ?_
    refine pn_icmp_lt (off := 9) (tgt := 26) br 8 rfl rfl (by omega) (by omega) (by decide +kernel) (by decide +kernel) (fun z17 => ?_) (fun z17 => ?_)
    · obtain ⟨e1, he1⟩ : ∃ e1, e = e1 + 1 := ⟨e - 1, by omega⟩
      have hl : leafA E W true mn br cn G = (0, E, 0 :: W, true, true, br + 1, cn, yTok G) := by unfold leafA; rw [if_pos k28, if_neg (by omega)]
      refine pw_aload_n (k4 := 0) rfl (by decide +kernel) ?_
      refine pq_getP (c := 4) (k := 4) (ks_sc hA) (by decide) (by decide) (kp_sc_reader hA) lf_Sc_12 (by decide +kernel) ?_
      refine pq_callV (ν := m_Re_advance) (d' := 2) (av := []) (c := 3) (by decide +kernel) lm_Sc_62 ok_Re_advance (show _ = some 0 by decide +kernel) (ks_re hA) rfl (by decide) (by omega) (Nat.le_of_ble_eq_true rfl) (gt_advance hA hrb (J := G) h.1) ?_
      rintro _ _ ⟨rfl, I30, rfl, hr30, hf30⟩
      refine pw_aload_n (k4 := 0) rfl (by decide +kernel) ?_
      refine pw_iconst (n := 0) (v := 0) (by decide) (by decide +kernel) ?_
      refine pw_iload_n (k4 := 1) rfl (by decide +kernel) ?_
      refine pw_iconst (n := 1) (v := 1) (by decide) (by decide +kernel) ?_
      refine pn_iadd br 1 rfl rfl (by decide +kernel) ?_
      have fA : lvF t (b0 + E.length) I I30 := lvF_ad ht hf30
      have iA : lvI I30 (yTok G) n t b0 E (0 :: W) cn := ⟨hr30, by rw [hf30 57 (by decide)]; exact h.2.1, by rw [hf30 (t + 19) (by omega)]; exact h.2.2.1, by rw [hf30 (t + 19) (by omega)]; exact h.2.2.2.1, cdL_cg h.2.2.2.2.1 (fun i _ => by rw [hf30 (t + 20) (by omega), hf30 (t + 21) (by omega)]; exact ⟨rfl, rfl⟩), by rw [← h6]; show _ + (0 + opW W) = _; omega, h7⟩
      refine pq_callV (ν := m_Sc_readLevel) (d' := (14 * e1 + 4 + 8)) (av := [_, _]) (c := 4) (by decide +kernel) lm_Sc_187 ok_Sc_readLevel (show _ = some 2 by decide +kernel) (ks_sc hA) rfl (by decide) (by omega) (Nat.le_of_ble_eq_true rfl) (ih e1 he1 E (0 :: W) true cn (br + 1) (yTok G) I30 (by omega) iA (Nat.le_refl _) (fun _ => rfl) (fun w => absurd w (by decide))) ?_
      rintro _ _ ⟨I38, b38, rfl, rfl, hF38, hT38, hN38⟩
      refine pw_if_eq (off := 16) (tgt := 57) (by decide +kernel) (by decide +kernel) (fun z41 => ?_) (fun z41 => ?_)
      · have hb := bI_0 z41
        refine pw_iconst (n := 0) (v := 0) (by decide) (by decide +kernel) ?_
        exact pq_zret rfl (by decide) (by decide +kernel) ⟨_, false, rfl, rfl, fA.tr hF38 (Nat.le_refl _), fun q => (by cases q), fun _ => by
            obtain ⟨f, G', g1, g2, g3⟩ := hN38 hb
            exact ⟨f, G', (st_leaf hl).fl g1, g2, g3⟩⟩
      · have hb := bI_1 z41
        obtain ⟨E', W', mn', cn', G', E1, m1, m2, m3, m4, m5, m6⟩ := hT38 hb
        obtain ⟨K', hK41', hK', -, -, K29', K27', -, -, -⟩ := rdR_K m4.1
        refine pw_aload_n (k4 := 0) rfl (by decide +kernel) ?_
        refine pw_bipush (n := 29) (v := 29) (by decide) (by decide +kernel) ?_
        refine pq_callV (ν := m_Sc_take) (d' := 3) (av := [_]) (c := 4) (by decide +kernel) lm_Sc_52 ok_Sc_take (show _ = some 1 by decide +kernel) (ks_sc hA) rfl (by decide) (by omega) (Nat.le_of_ble_eq_true rfl) (ct_Sc_take hA hrb (J := G') m4.1 29) ?_
        rintro _ _ ⟨I47, b47, rfl, rfl, hT47, hN47, hF47⟩
        refine pw_if_eq (off := 7) (tgt := 57) (by decide +kernel) (by decide +kernel) (fun z50 => ?_) (fun z50 => ?_)
        · obtain ⟨n1, n2⟩ := hN47 (bI_0 z50)
          refine pw_iconst (n := 0) (v := 0) (by decide) (by decide +kernel) ?_
          exact pq_zret rfl (by decide) (by decide +kernel) (by rw [n2]; exact lvQ_r (f := 1) ht ((st_leaf hl).fl (m1.fl (st_stop m3 (fun w => by have := w.2; omega) (fun w => n1 (by rw [hK', K29'.mp w.1]; rfl))))) m4.1 (fA.tr hF38 (Nat.le_refl _)))
        · obtain ⟨n1, n2, n3⟩ := hT47 (bI_1 z50)
          refine pw_iconst (n := 1) (v := 1) (by decide) (by decide +kernel) ?_
          refine pw_goto (off := 4) (tgt := 58) (by decide +kernel) (by decide +kernel) ?_
          exact pq_zret rfl (by decide) (by decide +kernel) (op_close ht hl m1 m2 m4 m5 (K29'.mpr (by rw [hK', show (29 : Int32) = nI 29 from rfl, nI_eq (by omega) (by decide)] at n1; exact n1)) n2 (fun a a2 => if w : a = 57 then (by rw [w]; exact n3) else hF47 a w a2) (fA.tr hF38 (Nat.le_refl _)) (by rw [n3, m6]; exact hf30 57 (by decide)))
    · have hl : leafA E W true mn br cn G = (2, E, W, true, mn, br, cn, G) := by unfold leafA; rw [if_pos k28, if_pos (by omega)]
      refine pw_aload_n (k4 := 0) rfl (by decide +kernel) ?_
      refine pw_iconst (n := 2) (v := 2) (by decide) (by decide +kernel) ?_
      refine pq_callV (ν := m_Sc_refuse) (d' := 0) (av := [_]) (c := 4) (by decide +kernel) lm_Sc_59 ok_Sc_refuse (show _ = some 1 by decide +kernel) (ks_sc hA) rfl (by decide) (by omega) (Nat.le_of_ble_eq_true rfl) (ct_Sc_refuse hA _) ?_
      rintro _ _ ⟨rfl, rfl⟩
      exact pq_zret rfl (Or.inl rfl) (by decide +kernel) (lvQ_r (f := 2) ht (st_leafF hl (by decide)) h.1 (lvF.rf t _ I))

