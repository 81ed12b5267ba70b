/-! ===== the reference: the best pairs of all ===== -/
theorem pCn_im {μ : pMeth} {d : Nat} {av : List Value} {sh : List pSh} {M : pM} {Q Q' : Option Value → pM → Prop} (h : pCn μ d av sh M Q) (hq : ∀ r M, Q r M → Q' r M) : pCn μ d av sh M Q' := by
  intro l D dA b base
  intro p e ha hc hk s m args below hf hap hP hK
  obtain ⟨n, o, h1, h2, h3, ⟨r, hh, q1, ⟨q2, q3⟩, q4⟩, hL⟩ := h l D dA b base p e ha hc hk s m args below hf hap hP hK
  exact ⟨n, o, h1, h2, h3, ⟨r, hh, q1, ⟨q2, hq _ _ q3⟩, q4⟩, hL⟩

theorem nI_pw : ∀ k, k < 31 → (1 : Int32) <<< (nI k &&& 31) = nI (2 ^ k) := by decide +kernel
theorem bt_nI (n i : Nat) (hi : i < 32) : bt (nI n) i = n.testBit i := by
  unfold bt
  show (BitVec.ofNat 32 n).getLsbD i = _
  rw [BitVec.getLsbD_ofNat, decide_eq_true hi, Bool.true_and]
theorem and_not {S r : Nat} (h : S.testBit r = true) : nI S &&& (nI (2 ^ r) ^^^ -1) = nI (S ^^^ 2 ^ r) := by
  refine b_ext fun i hi => ?_
  rw [b_and, b_xor, b_m1 i hi, bt_nI _ i hi, bt_nI _ i hi, bt_nI _ i hi, Nat.testBit_xor, Nat.testBit_two_pow]
  by_cases e : r = i
  · subst e; rw [h]; simp
  · simp [e]
theorem fa_first_is {p : Nat → Bool} {n r : Nat} (hr : r ≤ n) (h1 : ∀ k, k < r → p k = false) (h2 : r < n → p r = true) : fa_first p n = r := by
  have hl := fa_first_le p n
  rcases Nat.lt_trichotomy (fa_first p n) r with q | q | q
  · have := fa_first_yes p n (by omega)
    rw [h1 _ q] at this
    cases this
  · exact q
  · have := fa_first_no p n r q
    rw [h2 (by omega)] at this
    cases this
def yLf (I : Nat → Nat → Int32) (s : Nat) : Bool := decide (I 163 s ≠ -2 ∧ I 142 s = 0)
def yRt (I : Nat → Nat → Int32) (s : Nat) : Bool := decide (I 163 s ≠ -2 ∧ ¬ I 142 s = 0)
def ylL (I : Nat → Nat → Int32) (n : Nat) : List Nat := (List.range n).filter (yLf I)
def ylR (I : Nat → Nat → Int32) (n : Nat) : List Nat := (List.range n).filter (yRt I)
theorem yl_sum (I : Nat → Nat → Int32) : ∀ n, (ylL I n).length + (ylR I n).length ≤ n
  | 0 => Nat.le_refl _
  | n + 1 => by
    have ih := yl_sum I n
    unfold ylL ylR at ih ⊢
    rw [ls_s, ls_s]
    by_cases h1 : yLf I n = true
    · have h2 : ¬ yRt I n = true := by
        unfold yLf at h1; unfold yRt
        have := of_decide_eq_true h1
        intro h; exact (of_decide_eq_true h).2 this.2
      rw [if_pos h1, if_neg h2, List.length_append]
      simp only [List.length_cons, List.length_nil]
      omega
    · rw [if_neg h1]
      by_cases h2 : yRt I n = true
      · rw [if_pos h2, List.length_append]
        simp only [List.length_cons, List.length_nil]
        omega
      · rw [if_neg h2]; omega
/-- the rows behind k shoes -/
def gM0 (I J : Nat → Nat → Int32) (k : Nat) : Prop := rep J I ∧ (∀ i x, (ylL I k)[i]? = some x → J 173 i = nI x) ∧ (∀ i x, (ylR I k)[i]? = some x → J 174 i = nI x) ∧ J 134 70 = nI (ylL I k).length ∧ J 134 71 = nI (ylR I k).length
def gM (I J : Nat → Nat → Int32) (k : Nat) : Prop := gM0 I J k ∧ ∀ s, s < k → J 177 s = -2
theorem gM0_to {I J K : Nat → Nat → Int32} {k : Nat} (h : gM0 I J k) (hr : rep K J) (h3 : K 173 = J 173) (h4 : K 174 = J 174) (h5 : K 134 70 = J 134 70) (h6 : K 134 71 = J 134 71) : gM0 I K k := by
  obtain ⟨g1, g2, g3, g4, g5⟩ := h
  exact ⟨hr.tr g1, by rw [h3]; exact g2, by rw [h4]; exact g3, h5.trans g4, h6.trans g5⟩
theorem gM_L {I J : Nat → Nat → Int32} {k : Nat} (h : gM I J k) (hf : yLf I k = true) : gM I (sI (sI (sI J 177 k (-2)) 173 (ylL I k).length (nI k)) 134 70 (nI ((ylL I k).length + 1))) (k + 1) := by
  have hg : ¬ yRt I k = true := by
    unfold yLf at hf; unfold yRt
    intro h2; exact (of_decide_eq_true h2).2 (of_decide_eq_true hf).2
  obtain ⟨⟨h1, h3, h4, h5, h6⟩, h2⟩ := h
  have eL : ylL I (k + 1) = ylL I k ++ [k] := by unfold ylL; rw [ls_s, if_pos hf]
  have eR : ylR I (k + 1) = ylR I k := by unfold ylR; rw [ls_s, if_neg hg]
  refine ⟨⟨?_, fun i x hx => ?_, fun i x hx => ?_, ?_, ?_⟩, fun s hs => ?_⟩
  · exact ((h1.scr (a := 177) (by simp [scr, scrA]) _).scr (a := 173) (by simp [scr, scrA]) _).scr (by decide) _
  · rw [sI_ne (by decide)]
    rw [eL] at hx
    rcases ap_get hx with hx | ⟨rfl, rfl⟩
    · rw [sI_rd (gl_ne hx), sI_ne (by decide)]; exact h3 i x hx
    · exact sI_rs
  · rw [sI_ne (by decide), sI_ne (by decide), sI_ne (by decide)]; exact h4 i x (by rw [← eR]; exact hx)
  · rw [sI_rs, eL, List.length_append]; rfl
  · rw [sI_rd (by decide), sI_ne (by decide), sI_ne (by decide), eR]; exact h6
  · rw [sI_ne (by decide), sI_ne (by decide)]
    by_cases e : s = k
    · subst e; exact sI_rs
    · rw [sI_rd e]; exact h2 s (by omega)
theorem gM_R {I J : Nat → Nat → Int32} {k : Nat} (h : gM I J k) (hf : yRt I k = true) : gM I (sI (sI (sI J 177 k (-2)) 174 (ylR I k).length (nI k)) 134 71 (nI ((ylR I k).length + 1))) (k + 1) := by
  have hg : ¬ yLf I k = true := by
    unfold yRt at hf; unfold yLf
    intro h2; exact (of_decide_eq_true hf).2 (of_decide_eq_true h2).2
  obtain ⟨⟨h1, h3, h4, h5, h6⟩, h2⟩ := h
  have eR : ylR I (k + 1) = ylR I k ++ [k] := by unfold ylR; rw [ls_s, if_pos hf]
  have eL : ylL I (k + 1) = ylL I k := by unfold ylL; rw [ls_s, if_neg hg]
  refine ⟨⟨?_, fun i x hx => ?_, fun i x hx => ?_, ?_, ?_⟩, fun s hs => ?_⟩
  · exact ((h1.scr (a := 177) (by simp [scr, scrA]) _).scr (a := 174) (by simp [scr, scrA]) _).scr (by decide) _
  · rw [sI_ne (by decide), sI_ne (by decide), sI_ne (by decide)]; exact h3 i x (by rw [← eL]; exact hx)
  · rw [sI_ne (by decide)]
    rw [eR] at hx
    rcases ap_get hx with hx | ⟨rfl, rfl⟩
    · rw [sI_rd (gl_ne hx), sI_ne (by decide)]; exact h4 i x hx
    · exact sI_rs
  · rw [sI_rd (by decide), sI_ne (by decide), sI_ne (by decide), eL]; exact h5
  · rw [sI_rs, eR, List.length_append]; rfl
  · rw [sI_ne (by decide), sI_ne (by decide)]
    by_cases e : s = k
    · subst e; exact sI_rs
    · rw [sI_rd e]; exact h2 s (by omega)
theorem gM_N {I J : Nat → Nat → Int32} {k : Nat} (h : gM I J k) (hf : I 163 k = -2) : gM I (sI J 177 k (-2)) (k + 1) := by
  obtain ⟨⟨h1, h3, h4, h5, h6⟩, h2⟩ := h
  have eR : ylR I (k + 1) = ylR I k := by unfold ylR; rw [ls_s, if_neg (by unfold yRt; intro q; exact (of_decide_eq_true q).1 hf)]
  have eL : ylL I (k + 1) = ylL I k := by unfold ylL; rw [ls_s, if_neg (by unfold yLf; intro q; exact (of_decide_eq_true q).1 hf)]
  unfold gM gM0
  rw [eR, eL]
  refine ⟨⟨h1.scr (a := 177) (by simp [scr, scrA]) _, fun i x hx => ?_, fun i x hx => ?_, ?_, ?_⟩, fun s hs => ?_⟩
  · rw [sI_ne (by decide)]; exact h3 i x hx
  · rw [sI_ne (by decide)]; exact h4 i x hx
  · rw [sI_ne (by decide)]; exact h5
  · rw [sI_ne (by decide)]; exact h6
  · by_cases e : s = k
    · subst e; exact sI_rs
    · rw [sI_rd e]; exact h2 s (by omega)
/-- what a pair of lists' places is worth -/
def yGn (I : Nat → Nat → Int32) (ns a b : Nat) : Nat := ixn (yPairB I ((ylL I ns).getD a 0) ((ylR I ns).getD b 0))
theorem yPairB_in (I : Nat → Nat → Int32) (i j : Nat) : ∃ q, q ≤ 999 ∧ yPairB I i j = nI q := by
  unfold yPairB
  by_cases h : I 143 i = I 143 j ∧ I 145 i = I 145 j
  · rw [if_pos h]; exact yBd_in I 1 _ (w := 10) (m := 999) (by decide) (by decide)
  · rw [if_neg h]; exact yBd_in I 1 _ (w := 0) (m := 999) (by decide) (by decide)
theorem yGn_is (I : Nat → Nat → Int32) (ns a b : Nat) : yGn I ns a b ≤ 999 ∧ yPairB I ((ylL I ns).getD a 0) ((ylR I ns).getD b 0) = nI (yGn I ns a b) := by
  obtain ⟨q, hq, he⟩ := yPairB_in I ((ylL I ns).getD a 0) ((ylR I ns).getD b 0)
  unfold yGn
  rw [he, ixn_nI (by omega)]
  exact ⟨hq, rfl⟩
/-- the first right that keeps the best for left l -/
def grR (G : Nat → Nat → Nat) (lc rc l S lf : Nat) : Nat := fa_first (fun r => S.testBit r && decide (G l r + vF G rc (lc - (l + 1)) (l + 1) (S ^^^ 2 ^ r) = lf)) rc
def grP (G : Nat → Nat → Nat) (LL RR : List Nat) (lc rc : Nat) : Nat → Nat → Nat → Nat → (Nat → Int32) → Nat → Int32
  | 0, _, _, _, f => f
  | c + 1, l, S, lf, f => if grR G lc rc l S lf = rc then grP G LL RR lc rc c (l + 1) S lf f else
      grP G LL RR lc rc c (l + 1) (S ^^^ 2 ^ grR G lc rc l S lf) (lf - G l (grR G lc rc l S lf)) (upd (upd f (LL.getD l 0) (nI (RR.getD (grR G lc rc l S lf) 0))) (RR.getD (grR G lc rc l S lf) 0) (nI (LL.getD l 0)))
theorem ct_Mo_mostV {sh : List pSh} {I : Nat → Nat → Int32} {L : Nat → Nat → Int64} {P : Nat → Nat → Option Nat} (hA : kA sh P) {lc rc : Nat} (hlc : I 134 70 = nI lc) (hrc : I 134 71 = nI rc) (h16 : lc + rc ≤ 16) {g : Nat → Nat → Nat} (hg9 : ∀ a b, g a b ≤ 999) (hg : ∀ a b, a < lc → b < rc → I 175 (16 * a + b) = nI (g a b)) {fr S : Nat} (hfr : fr ≤ lc) (hS : S < 2 ^ 16) : pCn m_Mo_mostBy 1 [.ref 134, .int (nI fr), .int (nI S)] sh (I, L, P) (fun r M => ∃ F, vF g rc (lc - fr) fr S ≤ 20000 ∧ r = some (.int (nI (vF g rc (lc - fr) fr S))) ∧ M = (aU I 176 F, L, P)) := by
  refine pCn_im (ct_Mo_mostBy hA hlc hrc h16 hg9 hg hfr hS) ?_
  rintro r M ⟨bv, F, h1, h2, h3, h4⟩
  have e : bv = vF g rc (lc - fr) fr S := isMx_u (isMx_cg h4 (fun a b => ⟨fun q => ⟨q.1, by omega, q.2.2⟩, fun q => ⟨q.1, by omega, q.2.2⟩⟩) (fun _ _ _ => rfl)) (vF_mx g rc (lc - fr) fr S)
  rw [← e]
  exact ⟨F, h1, h2, h3⟩

def rLp (I : Nat → Nat → Int32) (P : Nat → Nat → Option Nat) (ns : Nat) : Option Value → pM → Prop := fun r M => r = none ∧ ∃ J L' f, M = (J, L', P) ∧ rep J I ∧ (∀ s, s < ns → f s = -2) ∧ J 134 77 = nI (vF (yGn I ns) (ylR I ns).length (ylL I ns).length 0 (2 ^ (ylR I ns).length - 1)) ∧
  J 177 = grP (yGn I ns) (ylL I ns) (ylR I ns) (ylL I ns).length (ylR I ns).length (ylL I ns).length 0 (2 ^ (ylR I ns).length - 1) (vF (yGn I ns) (ylR I ns).length (ylL I ns).length 0 (2 ^ (ylR I ns).length - 1)) f

set_option maxHeartbeats 8000000 in
theorem ct_Mo_layPairs {sh : List pSh} {I : Nat → Nat → Int32} {L : Nat → Nat → Int64} {P : Nat → Nat → Option Nat} (hA : kA sh P) {np ns nd : Nat} (hm : mOK I np ns nd) (hwf : wfL I) : pCn m_Mo_layPairs 5 [.ref 134] sh (I, L, P) (rLp I P ns) := by
  refine pCn_of (by decide +kernel) (Nat.le_of_ble_eq_true rfl) ?_
  have h16 := hm.2.2.2.1
  have hls := yl_sum I ns
  obtain ⟨lc, hlc⟩ : ∃ lc, lc = (ylL I ns).length := ⟨_, rfl⟩
  obtain ⟨rc, hrc⟩ : ∃ rc, rc = (ylR I ns).length := ⟨_, rfl⟩
  have hS0 : 2 ^ rc - 1 < 2 ^ 16 := by
    have h1 : 2 ^ rc ≤ 2 ^ 16 := Nat.pow_le_pow_right (by decide) (by omega)
    have h2 := Nat.two_pow_pos rc
    omega
  have hC := fun (f0 : Nat → Int32) (hf0 : ∀ s, s < ns → f0 s = -2) (W0 : Nat → Int32) (hW : W0 = grP (yGn I ns) (ylL I ns) (ylR I ns) lc rc lc 0 (2 ^ rc - 1) (vF (yGn I ns) rc lc 0 (2 ^ rc - 1)) f0) => pUpTo lc (fun l => ∀ S lf (f : Nat → Int32) (J : Nat → Nat → Int32) (L1 : Nat → Nat → Int64), S < 2 ^ 16 → lf ≤ 20000 → gM0 I J ns → J 134 77 = nI (vF (yGn I ns) rc lc 0 (2 ^ rc - 1)) → (∀ a b, a < lc → b < rc → J 175 (16 * a + b) = nI ((yGn I ns) a b)) → J 177 = f → grP (yGn I ns) (ylL I ns) (ylR I ns) lc rc (lc - l) l S lf f = W0 → pWn m_Mo_layPairs 5 sh (rLp I P ns) 182 [some (.ref 134), some (.int (nI S)), some (.int (nI lf)), some (.int (nI l)), none] [] (J, L1, P)) (by
    intro l hl ihl S lf f J L1 hS hlf hJ h77 hg hF7 hV
    have h193 : l < lc → ∀ r, r ≤ rc → ∀ (J : Nat → Nat → Int32) (L1 : Nat → Nat → Int64), gM0 I J ns → J 134 77 = nI (vF (yGn I ns) rc lc 0 (2 ^ rc - 1)) → (∀ a b, a < lc → b < rc → J 175 (16 * a + b) = nI ((yGn I ns) a b)) → J 177 = f → (∀ r2, r2 < r → (fun r => S.testBit r && decide ((yGn I ns) l r + vF (yGn I ns) rc (lc - (l + 1)) (l + 1) (S ^^^ 2 ^ r) = lf)) r2 = false) → pWn m_Mo_layPairs 5 sh (rLp I P ns) 193 [some (.ref 134), some (.int (nI S)), some (.int (nI lf)), some (.int (nI l)), some (.int (nI r))] [] (J, L1, P) := fun hll => pUpTo rc _ (by
      intro r hr ihr J L1 hJ h77 hg hF7 hno
      rw [show lc - l = lc - (l + 1) + 1 by omega] at hV
      refine pw_iload (i := 4) rfl (by decide +kernel) ?_
      refine pw_aload_n (k4 := 0) rfl (by decide +kernel) ?_
      refine pq_getI (c := 11) (k := 71) (ks_m hA) (by decide) (by decide) lf_Mo_490 (by decide +kernel) ?_
      refine pn_val (nI (rc)) (by exact hJ.2.2.2.2.trans (by rw [hrc])) ?_
      refine pn_icmp_ge (off := 50) (tgt := 249) r rc rfl rfl (by omega) (by omega) (by decide +kernel) (by decide +kernel) (fun z199 => ?_) (fun z199 => ?_)
      · have hrr : r = rc := by omega
        have hfi : grR (yGn I ns) lc rc l S lf = rc := fa_first_is (Nat.le_refl _) (fun k hk => hno k (by omega)) (fun w => absurd w (Nat.lt_irrefl _))
        refine pw_iload (i := 4) rfl (by decide +kernel) ?_
        refine pw_aload_n (k4 := 0) rfl (by decide +kernel) ?_
        refine pq_getI (c := 11) (k := 71) (ks_m hA) (by decide) (by decide) lf_Mo_490 (by decide +kernel) ?_
        refine pn_val (nI (rc)) (by exact hJ.2.2.2.2.trans (by rw [hrc])) ?_
        refine pn_icmp_ne (off := 6) (tgt := 261) r rc rfl rfl (by omega) (by omega) (by decide +kernel) (by decide +kernel) (fun z255 => ?_) (fun z255 => ?_)
        · exact absurd hrr z255
        · refine pw_goto (off := 63) (tgt := 321) (by decide +kernel) (by decide +kernel) ?_
          refine pn_iinc (i := 3) (n := 1) 1 l rfl rfl (by decide) rfl (by decide +kernel) ?_
          refine pw_goto (off := -142) (tgt := 182) (by decide +kernel) (by decide +kernel) ?_
          exact pw_forget [4] (ihl (by omega) S lf f J L1 hS hlf hJ h77 hg hF7 ((show grP (yGn I ns) (ylL I ns) (ylR I ns) lc rc (lc - (l + 1) + 1) l S lf f = _ from if_pos hfi).symm.trans hV))
      · refine pw_iload_n (k4 := 1) rfl (by decide +kernel) ?_
        refine pw_iload (i := 4) rfl (by decide +kernel) ?_
        refine pq_callS (ν := m_Mo_isOf) (d' := 0) (av := [_, _]) (by decide +kernel) lm_Mo_457 ok_Mo_isOf (show _ = some 2 by decide +kernel) (by omega) (Nat.le_of_ble_eq_true rfl) (ct_Mo_isOf _ _) ?_
        rintro _ _ ⟨rfl, rfl⟩
        refine pn_ifB_eq (off := 35) (tgt := 243) (by decide +kernel) (by decide +kernel) (fun z208 => ?_) (fun z208 => ?_)
        · have hb : ¬ S.testBit r = true := fun w => z208 ((nbit_1 (by omega) (by omega)).mpr w)
          refine pn_iinc (i := 4) (n := 1) 1 r rfl rfl (by decide) rfl (by decide +kernel) ?_
          refine pw_goto (off := -53) (tgt := 193) (by decide +kernel) (by decide +kernel) ?_
          have hno2 : ∀ r2, r2 < r + 1 → (fun r => S.testBit r && decide ((yGn I ns) l r + vF (yGn I ns) rc (lc - (l + 1)) (l + 1) (S ^^^ 2 ^ r) = lf)) r2 = false := fun r2 h2 => (Nat.lt_succ_iff_lt_or_eq.mp h2).elim (hno r2) (fun e => by subst e; show (_ && _) = false; rw [Bool.eq_false_iff.mpr hb, Bool.false_and])
          exact ihr (by omega) J L1 hJ h77 hg hF7 hno2
        · have hb : S.testBit r = true := (nbit_1 (by omega) (by omega)).mp z208
          have hS2 : S ^^^ 2 ^ r < 2 ^ 16 := Nat.xor_lt_two_pow (by omega) (Nat.pow_lt_pow_right (by decide) (by omega))
          have hgr := (yGn_is I ns l r).1
          refine pw_aload_n (k4 := 0) rfl (by decide +kernel) ?_
          refine pq_getP (c := 11) (k := 74) (ks_m hA) (by decide) (by decide) (kp_m_gain hA) lf_Mo_136 (by decide +kernel) ?_
          refine pw_bipush (n := 16) (v := 16) (by decide) (by decide +kernel) ?_
          refine pw_iload_n (k4 := 3) rfl (by decide +kernel) ?_
          refine pn_imul 16 l rfl rfl (by decide +kernel) ?_
          refine pw_iload (i := 4) rfl (by decide +kernel) ?_
          refine pn_iadd (16 * l) r rfl rfl (by decide +kernel) ?_
          refine pq_iald ((16 * l) + r) rfl (by omega) (by decide) (ks_m_gain hA) (by decide +kernel) ?_
          refine pn_val (nI (yGn I ns l r)) (by exact hg l r (by omega) (by omega)) ?_
          refine pw_aload_n (k4 := 0) rfl (by decide +kernel) ?_
          refine pw_iload_n (k4 := 3) rfl (by decide +kernel) ?_
          refine pw_iconst (n := 1) (v := 1) (by decide) (by decide +kernel) ?_
          refine pn_iadd l 1 rfl rfl (by decide +kernel) ?_
          refine pw_iload_n (k4 := 1) rfl (by decide +kernel) ?_
          refine pw_iconst (n := 1) (v := 1) (by decide) (by decide +kernel) ?_
          refine pw_iload (i := 4) rfl (by decide +kernel) ?_
          refine pw_ishl (by decide +kernel) ?_
          refine pn_val (nI (2 ^ r)) (nI_pw r (by omega)) ?_
          refine pw_iconst (n := -1) (v := -1) (by decide) (by decide +kernel) ?_
          refine pw_ixor (by decide +kernel) ?_
          refine pw_iand (by decide +kernel) ?_
          refine pn_val (nI (S ^^^ 2 ^ r)) (and_not hb) ?_
          refine pq_callV (ν := m_Mo_mostBy) (d' := 1) (av := [_, _]) (c := 11) (by decide +kernel) lm_Mo_496 ok_Mo_mostBy (show _ = some 2 by decide +kernel) (ks_m hA) rfl (by decide) (by omega) (Nat.le_of_ble_eq_true rfl) (ct_Mo_mostV hA (lc := lc) (rc := rc) (by exact hJ.2.2.2.1.trans (by rw [hlc])) (by exact hJ.2.2.2.2.trans (by rw [hrc])) (by omega) (g := (yGn I ns)) (fun a b => (yGn_is I ns a b).1) (by exact fun a b h1 h2 => hg a b (by omega) h2) (fr := l + 1) (S := S ^^^ 2 ^ r) (by omega) hS2) ?_
          rintro _ _ ⟨F, hF, rfl, rfl⟩
          refine pn_iadd (yGn I ns l r) (vF (yGn I ns) rc (lc - (l + 1)) (l + 1) (S ^^^ 2 ^ r)) rfl rfl (by decide +kernel) ?_
          refine pw_iload_n (k4 := 2) rfl (by decide +kernel) ?_
          refine pn_icmp_eq (off := 9) (tgt := 249) ((yGn I ns l r) + (vF (yGn I ns) rc (lc - (l + 1)) (l + 1) (S ^^^ 2 ^ r))) lf rfl rfl (by omega) (by omega) (by decide +kernel) (by decide +kernel) (fun z240 => ?_) (fun z240 => ?_)
          · have hfi : grR (yGn I ns) lc rc l S lf = r := fa_first_is (by omega) hno (fun _ => by rw [hb, Bool.true_and]; exact decide_eq_true z240)
            obtain ⟨x, hx⟩ := ls_get (show l < (ylL I ns).length by omega)
            obtain ⟨y, hy⟩ := ls_get (show r < (ylR I ns).length by omega)
            have hx1 := (ls_at hx).1
            have hy1 := (ls_at hy).1
            refine pw_iload (i := 4) rfl (by decide +kernel) ?_
            refine pw_aload_n (k4 := 0) rfl (by decide +kernel) ?_
            refine pq_getI (c := 11) (k := 71) (ks_m hA) (by decide) (by decide) lf_Mo_490 (by decide +kernel) ?_
            refine pn_val (nI (rc)) (by exact hJ.2.2.2.2.trans (by rw [hrc])) ?_
            refine pn_icmp_ne (off := 6) (tgt := 261) r rc rfl rfl (by omega) (by omega) (by decide +kernel) (by decide +kernel) (fun z255 => ?_) (fun z255 => ?_)
            · refine pw_iload_n (k4 := 2) rfl (by decide +kernel) ?_
              refine pw_aload_n (k4 := 0) rfl (by decide +kernel) ?_
              refine pq_getP (c := 11) (k := 74) (ks_m hA) (by decide) (by decide) (kp_m_gain hA) lf_Mo_136 (by decide +kernel) ?_
              refine pw_bipush (n := 16) (v := 16) (by decide) (by decide +kernel) ?_
              refine pw_iload_n (k4 := 3) rfl (by decide +kernel) ?_
              refine pn_imul 16 l rfl rfl (by decide +kernel) ?_
              refine pw_iload (i := 4) rfl (by decide +kernel) ?_
              refine pn_iadd (16 * l) r rfl rfl (by decide +kernel) ?_
              refine pq_iald ((16 * l) + r) rfl (by omega) (by decide) (ks_m_gain hA) (by decide +kernel) ?_
              refine pn_val (nI (yGn I ns l r)) (by exact hg l r (by omega) (by omega)) ?_
              refine pn_isub lf (yGn I ns l r) rfl rfl (by omega) (by decide +kernel) ?_
              refine pq_istore_n (k4 := 2) (Nat.le_of_ble_eq_true rfl) rfl (by decide +kernel) ?_
              refine pw_iload_n (k4 := 1) rfl (by decide +kernel) ?_
              refine pw_iconst (n := 1) (v := 1) (by decide) (by decide +kernel) ?_
              refine pw_iload (i := 4) rfl (by decide +kernel) ?_
              refine pw_ishl (by decide +kernel) ?_
              refine pn_val (nI (2 ^ r)) (nI_pw r (by omega)) ?_
              refine pw_iconst (n := -1) (v := -1) (by decide) (by decide +kernel) ?_
              refine pw_ixor (by decide +kernel) ?_
              refine pw_iand (by decide +kernel) ?_
              refine pn_val (nI (S ^^^ 2 ^ r)) (and_not hb) ?_
              refine pq_istore_n (k4 := 1) (Nat.le_of_ble_eq_true rfl) rfl (by decide +kernel) ?_
              refine pw_aload_n (k4 := 0) rfl (by decide +kernel) ?_
              refine pq_getP (c := 11) (k := 76) (ks_m hA) (by decide) (by decide) (kp_m_partnerOf hA) lf_Mo_142 (by decide +kernel) ?_
              refine pw_aload_n (k4 := 0) rfl (by decide +kernel) ?_
              refine pq_getP (c := 11) (k := 72) (ks_m hA) (by decide) (by decide) (kp_m_leftAt hA) lf_Mo_130 (by decide +kernel) ?_
              refine pw_iload_n (k4 := 3) rfl (by decide +kernel) ?_
              refine pq_iald l rfl (by omega) (by decide) (ks_m_leftAt hA) (by decide +kernel) ?_
              refine pn_val (nI (x)) (by exact hJ.2.1 l x hx) ?_
              refine pw_aload_n (k4 := 0) rfl (by decide +kernel) ?_
              refine pq_getP (c := 11) (k := 73) (ks_m hA) (by decide) (by decide) (kp_m_rightAt hA) lf_Mo_133 (by decide +kernel) ?_
              refine pw_iload (i := 4) rfl (by decide +kernel) ?_
              refine pq_iald r rfl (by omega) (by decide) (ks_m_rightAt hA) (by decide +kernel) ?_
              refine pn_val (nI (y)) (by exact hJ.2.2.1 r y hy) ?_
              refine pq_iast x rfl (by omega) (by decide) (ks_m_partnerOf hA) (by decide +kernel) ?_
              refine pw_aload_n (k4 := 0) rfl (by decide +kernel) ?_
              refine pq_getP (c := 11) (k := 76) (ks_m hA) (by decide) (by decide) (kp_m_partnerOf hA) lf_Mo_142 (by decide +kernel) ?_
              refine pw_aload_n (k4 := 0) rfl (by decide +kernel) ?_
              refine pq_getP (c := 11) (k := 73) (ks_m hA) (by decide) (by decide) (kp_m_rightAt hA) lf_Mo_133 (by decide +kernel) ?_
              refine pw_iload (i := 4) rfl (by decide +kernel) ?_
              refine pq_iald r rfl (by omega) (by decide) (ks_m_rightAt hA) (by decide +kernel) ?_
              refine pn_val (nI (y)) (by exact hJ.2.2.1 r y hy) ?_
              refine pw_aload_n (k4 := 0) rfl (by decide +kernel) ?_
              refine pq_getP (c := 11) (k := 72) (ks_m hA) (by decide) (by decide) (kp_m_leftAt hA) lf_Mo_130 (by decide +kernel) ?_
              refine pw_iload_n (k4 := 3) rfl (by decide +kernel) ?_
              refine pq_iald l rfl (by omega) (by decide) (ks_m_leftAt hA) (by decide +kernel) ?_
              refine pn_val (nI (x)) (by exact hJ.2.1 l x hx) ?_
              refine pq_iast y rfl (by omega) (by decide) (ks_m_partnerOf hA) (by decide +kernel) ?_
              refine pn_iinc (i := 3) (n := 1) 1 l rfl rfl (by decide) rfl (by decide +kernel) ?_
              refine pw_goto (off := -142) (tgt := 182) (by decide +kernel) (by decide +kernel) ?_
              have hSx : S ^^^ 2 ^ r < 2 ^ 16 := hS2
              have hle : (yGn I ns) l r ≤ lf := by omega
              refine pw_forget [4] (ihl (by omega) (S ^^^ 2 ^ r) (lf - (yGn I ns) l r) (upd (upd f x (nI y)) y (nI x)) _ L1 hSx (by omega) (gM0_to hJ ((rep_scrA (rep.rf J) (by decide) F |>.scr (a := 177) (by simp [scr, scrA]) _).scr (a := 177) (by simp [scr, scrA]) _) rfl rfl rfl rfl) h77 hg ?_ ?_)
              · show sI (sI (aU J 176 F) 177 x (nI y)) 177 y (nI x) 177 = _
                rw [sI_eq, sI_eq]
                show upd (upd (J 177) x (nI y)) y (nI x) = _
                rw [hF7]
              · refine Eq.trans ?_ ((show grP (yGn I ns) (ylL I ns) (ylR I ns) lc rc (lc - (l + 1) + 1) l S lf f = _ from if_neg (by rw [hfi]; omega)).symm.trans hV)
                rw [hfi, gt_get hx, gt_get hy]
            · exact absurd (Decidable.not_not.mp z255) (by omega)
          · refine pn_iinc (i := 4) (n := 1) 1 r rfl rfl (by decide) rfl (by decide +kernel) ?_
            refine pw_goto (off := -53) (tgt := 193) (by decide +kernel) (by decide +kernel) ?_
            have hno2 : ∀ r2, r2 < r + 1 → (fun r => S.testBit r && decide ((yGn I ns) l r + vF (yGn I ns) rc (lc - (l + 1)) (l + 1) (S ^^^ 2 ^ r) = lf)) r2 = false := fun r2 h2 => (Nat.lt_succ_iff_lt_or_eq.mp h2).elim (hno r2) (fun e => by subst e; show (_ && _) = false; rw [hb, Bool.true_and]; exact decide_eq_false z240)
            exact ihr (by omega) _ L1 (gM0_to hJ (rep_scrA (rep.rf J) (by decide) F) rfl rfl rfl rfl) h77 hg hF7 hno2)
    refine pw_iload_n (k4 := 3) rfl (by decide +kernel) ?_
    refine pw_aload_n (k4 := 0) rfl (by decide +kernel) ?_
    refine pq_getI (c := 11) (k := 70) (ks_m hA) (by decide) (by decide) lf_Mo_493 (by decide +kernel) ?_
    refine pn_val (nI (lc)) (by exact hJ.2.2.2.1.trans (by rw [hlc])) ?_
    refine pn_icmp_ge (off := 140) (tgt := 327) l lc rfl rfl (by omega) (by omega) (by decide +kernel) (by decide +kernel) (fun z187 => ?_) (fun z187 => ?_)
    · exact pq_vret rfl (by decide +kernel) ⟨rfl, J, L1, f0, rfl, hJ.1, hf0, by rw [h77, hlc, hrc], by rw [← hlc, ← hrc, hF7]; refine Eq.trans ?_ (hV.trans hW); rw [show lc - l = 0 by omega]; rfl⟩
    · refine pw_iconst (n := 0) (v := 0) (by decide) (by decide +kernel) ?_
      refine pq_istore (i := 4) (Nat.le_of_ble_eq_true rfl) rfl (by decide +kernel) ?_
      exact h193 (by omega) 0 (Nat.zero_le _) J L1 hJ h77 hg hF7 (fun r h => absurd h (Nat.not_lt_zero _)))
  have hB := pUpTo lc (fun l => ∀ (J : Nat → Nat → Int32) (L1 : Nat → Nat → Int64), gM0 I J ns → (∀ s, s < ns → J 177 s = -2) → (∀ a b, a < l → b < rc → J 175 (16 * a + b) = nI ((yGn I ns) a b)) → pWn m_Mo_layPairs 5 sh (rLp I P ns) 99 [some (.ref 134), some (.int (nI l)), none, none, none] [] (J, L1, P)) (by
    intro l hl ihl J L1 hJ hP hg
    have h109 : l < lc → ∀ r, r ≤ rc → ∀ (J : Nat → Nat → Int32) (L1 : Nat → Nat → Int64), gM0 I J ns → (∀ s, s < ns → J 177 s = -2) → (∀ a b, (a < l ∧ b < rc) ∨ (a = l ∧ b < r) → J 175 (16 * a + b) = nI ((yGn I ns) a b)) → pWn m_Mo_layPairs 5 sh (rLp I P ns) 109 [some (.ref 134), some (.int (nI l)), some (.int (nI r)), none, none] [] (J, L1, P) := fun hll => pUpTo rc _ (by
      intro r hr ihr J L1 hJ hP hg
      refine pw_iload_n (k4 := 2) rfl (by decide +kernel) ?_
      refine pw_aload_n (k4 := 0) rfl (by decide +kernel) ?_
      refine pq_getI (c := 11) (k := 71) (ks_m hA) (by decide) (by decide) lf_Mo_490 (by decide +kernel) ?_
      refine pn_val (nI (rc)) (by exact hJ.2.2.2.2.trans (by rw [hrc])) ?_
      refine pn_icmp_ge (off := 36) (tgt := 150) r rc rfl rfl (by omega) (by omega) (by decide +kernel) (by decide +kernel) (fun z114 => ?_) (fun z114 => ?_)
      · refine pn_iinc (i := 1) (n := 1) 1 l rfl rfl (by decide) rfl (by decide +kernel) ?_
        refine pw_goto (off := -54) (tgt := 99) (by decide +kernel) (by decide +kernel) ?_
        have hrr : r = rc := by omega
        exact pw_forget [2] (ihl (by omega) J L1 hJ hP (fun a b h h2 => hg a b (by omega)))
      · obtain ⟨x, hx⟩ := ls_get (show l < (ylL I ns).length by omega)
        obtain ⟨y, hy⟩ := ls_get (show r < (ylR I ns).length by omega)
        have hx1 := (ls_at hx).1
        have hy1 := (ls_at hy).1
        refine pw_aload_n (k4 := 0) rfl (by decide +kernel) ?_
        refine pq_getP (c := 11) (k := 74) (ks_m hA) (by decide) (by decide) (kp_m_gain hA) lf_Mo_136 (by decide +kernel) ?_
        refine pw_bipush (n := 16) (v := 16) (by decide) (by decide +kernel) ?_
        refine pw_iload_n (k4 := 1) rfl (by decide +kernel) ?_
        refine pn_imul 16 l rfl rfl (by decide +kernel) ?_
        refine pw_iload_n (k4 := 2) rfl (by decide +kernel) ?_
        refine pn_iadd (16 * l) r rfl rfl (by decide +kernel) ?_
        refine pw_aload_n (k4 := 0) rfl (by decide +kernel) ?_
        refine pw_aload_n (k4 := 0) rfl (by decide +kernel) ?_
        refine pq_getP (c := 11) (k := 72) (ks_m hA) (by decide) (by decide) (kp_m_leftAt hA) lf_Mo_130 (by decide +kernel) ?_
        refine pw_iload_n (k4 := 1) rfl (by decide +kernel) ?_
        refine pq_iald l rfl (by omega) (by decide) (ks_m_leftAt hA) (by decide +kernel) ?_
        refine pn_val (nI (x)) (by exact hJ.2.1 l x hx) ?_
        refine pw_aload_n (k4 := 0) rfl (by decide +kernel) ?_
        refine pq_getP (c := 11) (k := 73) (ks_m hA) (by decide) (by decide) (kp_m_rightAt hA) lf_Mo_133 (by decide +kernel) ?_
        refine pw_iload_n (k4 := 2) rfl (by decide +kernel) ?_
        refine pq_iald r rfl (by omega) (by decide) (ks_m_rightAt hA) (by decide +kernel) ?_
        refine pn_val (nI (y)) (by exact hJ.2.2.1 r y hy) ?_
        refine pq_callV (ν := m_Mo_pairOf) (d' := 4) (av := [_, _]) (c := 11) (by decide +kernel) lm_Mo_452 ok_Mo_pairOf (show _ = some 2 by decide +kernel) (ks_m hA) rfl (by decide) (by omega) (Nat.le_of_ble_eq_true rfl) (ct_Mo_pairOf hA (wfL_rep hJ.1 hwf) (i := x) (j := y) (by omega) (by omega)) ?_
        rintro _ _ ⟨rfl, ev, L2, rfl, hL2⟩
        refine pn_val (nI (yGn I ns l r)) (by rw [yPairB_rep hJ.1, ← gt_get hx, ← gt_get hy]; exact (yGn_is I ns l r).2) ?_
        refine pq_iast ((16 * l) + r) rfl (by omega) (by decide) (ks_m_gain hA) (by decide +kernel) ?_
        refine pn_iinc (i := 2) (n := 1) 1 r rfl rfl (by decide) rfl (by decide +kernel) ?_
        refine pw_goto (off := -38) (tgt := 109) (by decide +kernel) (by decide +kernel) ?_
        refine ihr (by omega) _ _ (gM0_to hJ ((rep.rf J).scr (by decide) ev |>.scr (a := 175) (by simp [scr, scrA]) _) rfl rfl rfl rfl) hP (fun a b h => ?_)
        by_cases e : a = l ∧ b = r
        · obtain ⟨rfl, rfl⟩ := e; exact sI_rs
        · rw [sI_rd (by omega)]; exact hg a b (by omega))
    refine pw_iload_n (k4 := 1) rfl (by decide +kernel) ?_
    refine pw_aload_n (k4 := 0) rfl (by decide +kernel) ?_
    refine pq_getI (c := 11) (k := 70) (ks_m hA) (by decide) (by decide) lf_Mo_493 (by decide +kernel) ?_
    refine pn_val (nI (lc)) (by exact hJ.2.2.2.1.trans (by rw [hlc])) ?_
    refine pn_icmp_ge (off := 52) (tgt := 156) l lc rfl rfl (by omega) (by omega) (by decide +kernel) (by decide +kernel) (fun z104 => ?_) (fun z104 => ?_)
    · refine pw_iconst (n := 1) (v := 1) (by decide) (by decide +kernel) ?_
      refine pw_aload_n (k4 := 0) rfl (by decide +kernel) ?_
      refine pq_getI (c := 11) (k := 71) (ks_m hA) (by decide) (by decide) lf_Mo_490 (by decide +kernel) ?_
      refine pn_val (nI (rc)) (by exact hJ.2.2.2.2.trans (by rw [hrc])) ?_
      refine pw_ishl (by decide +kernel) ?_
      refine pn_val (nI (2 ^ rc)) (nI_pw rc (by omega)) ?_
      refine pw_iconst (n := 1) (v := 1) (by decide) (by decide +kernel) ?_
      refine pw_isub (by decide +kernel) ?_
      refine pn_val (nI (2 ^ rc - 1)) (pk_sub (Nat.two_pow_pos rc)) ?_
      refine pq_istore_n (k4 := 1) (Nat.le_of_ble_eq_true rfl) rfl (by decide +kernel) ?_
      refine pw_aload_n (k4 := 0) rfl (by decide +kernel) ?_
      refine pw_aload_n (k4 := 0) rfl (by decide +kernel) ?_
      refine pw_iconst (n := 0) (v := 0) (by decide) (by decide +kernel) ?_
      refine pw_iload_n (k4 := 1) rfl (by decide +kernel) ?_
      refine pq_callV (ν := m_Mo_mostBy) (d' := 1) (av := [_, _]) (c := 11) (by decide +kernel) lm_Mo_496 ok_Mo_mostBy (show _ = some 2 by decide +kernel) (ks_m hA) rfl (by decide) (by omega) (Nat.le_of_ble_eq_true rfl) (ct_Mo_mostV hA (lc := lc) (rc := rc) (by exact hJ.2.2.2.1.trans (by rw [hlc])) (by exact hJ.2.2.2.2.trans (by rw [hrc])) (by omega) (g := (yGn I ns)) (fun a b => (yGn_is I ns a b).1) (by exact fun a b h1 h2 => hg a b (by omega) h2) (fr := 0) (S := 2 ^ rc - 1) (by omega) hS0) ?_
      rintro _ _ ⟨F, hF, rfl, rfl⟩
      refine pq_putI (c := 11) (k := 77) (ks_m hA) (by decide) (by decide) lf_Mo_499 (Or.inl rfl) (by decide +kernel) ?_
      refine pw_aload_n (k4 := 0) rfl (by decide +kernel) ?_
      refine pq_getI (c := 11) (k := 77) (ks_m hA) (by decide) (by decide) lf_Mo_499 (by decide +kernel) ?_
      refine pn_val (nI (vF (yGn I ns) rc lc 0 (2 ^ rc - 1))) (by exact sI_rs) ?_
      refine pq_istore_n (k4 := 2) (Nat.le_of_ble_eq_true rfl) rfl (by decide +kernel) ?_
      refine pw_iconst (n := 0) (v := 0) (by decide) (by decide +kernel) ?_
      refine pq_istore_n (k4 := 3) (Nat.le_of_ble_eq_true rfl) rfl (by decide +kernel) ?_
      have hll : l = lc := by omega
      refine (hC (J 177) hP _ rfl 0 (Nat.zero_le _) (2 ^ rc - 1) (vF (yGn I ns) rc lc 0 (2 ^ rc - 1)) (J 177) _ _ hS0 (by rw [Nat.sub_zero] at hF; exact hF) (gM0_to hJ (rep_scrA (rep.rf J) (by decide) F |>.scr (by decide) _) rfl rfl rfl rfl) (by exact sI_rs) (by exact fun a b h1 h2 => hg a b (by omega) h2) rfl rfl)
    · refine pw_iconst (n := 0) (v := 0) (by decide) (by decide +kernel) ?_
      refine pq_istore_n (k4 := 2) (Nat.le_of_ble_eq_true rfl) rfl (by decide +kernel) ?_
      exact h109 (by omega) 0 (Nat.zero_le _) J L1 hJ hP (fun a b h => hg a b (by omega) (by omega)))
  have hL := pUpTo ns (fun k => ∀ J : Nat → Nat → Int32, gM I J k → pWn m_Mo_layPairs 5 sh (rLp I P ns) 12 [some (.ref 134), some (.int (nI k)), none, none, none] [] (J, L, P)) (by
    intro k hk ih J hJ
    have hlk := yl_sum I k
    refine pw_iload_n (k4 := 1) rfl (by decide +kernel) ?_
    refine pw_aload_n (k4 := 0) rfl (by decide +kernel) ?_
    refine pq_getI (c := 11) (k := 13) (ks_m hA) (by decide) (by decide) lf_Mo_262 (by decide +kernel) ?_
    refine pn_val (nI (ns)) (by exact (mOK_rep hJ.1.1 hm).2.2.1) ?_
    refine pn_icmp_ge (off := 80) (tgt := 97) k ns rfl rfl (by omega) (by omega) (by decide +kernel) (by decide +kernel) (fun z17 => ?_) (fun z17 => ?_)
    · refine pw_iconst (n := 0) (v := 0) (by decide) (by decide +kernel) ?_
      refine pq_istore_n (k4 := 1) (Nat.le_of_ble_eq_true rfl) rfl (by decide +kernel) ?_
      have hk2 : k = ns := by omega
      rw [hk2] at hJ
      exact hB 0 (Nat.zero_le _) J L hJ.1 hJ.2 (fun a b h => absurd h (Nat.not_lt_zero _))
    · refine pw_aload_n (k4 := 0) rfl (by decide +kernel) ?_
      refine pq_getP (c := 11) (k := 76) (ks_m hA) (by decide) (by decide) (kp_m_partnerOf hA) lf_Mo_142 (by decide +kernel) ?_
      refine pw_iload_n (k4 := 1) rfl (by decide +kernel) ?_
      refine pw_bipush (n := -2) (v := -2) (by decide) (by decide +kernel) ?_
      refine pq_iast k rfl (by omega) (by decide) (ks_m_partnerOf hA) (by decide +kernel) ?_
      refine pw_aload_n (k4 := 0) rfl (by decide +kernel) ?_
      refine pw_iload_n (k4 := 1) rfl (by decide +kernel) ?_
      refine pq_callV (ν := m_Mo_isThere) (d' := 1) (av := [_]) (c := 11) (by decide +kernel) lm_Mo_446 ok_Mo_isThere (show _ = some 1 by decide +kernel) (ks_m hA) rfl (by decide) (by omega) (Nat.le_of_ble_eq_true rfl) (ct_Mo_isThere hA (mOK_rep (hJ.1.1.scr (a := 177) (k := k) (by simp [scr, scrA]) (-2)) hm) _) ?_
      rintro _ _ ⟨rfl, rfl⟩
      have hth : yThere (sI J 177 k (-2)) (nI k) → I 163 k ≠ -2 := fun q => by have q2 : J 163 (ixn (nI k)) ≠ -2 := q.2; rwa [hJ.1.1.a163, ixn_nI (by omega)] at q2
      have hnt : ¬ yThere (sI J 177 k (-2)) (nI k) → I 163 k = -2 := fun q => Decidable.not_not.mp (fun e => q ⟨(show 0 ≤ nI k ∧ nI k < J 134 13 from nVal (mOK_rep hJ.1.1 hm).2.2.1 (by omega) (by omega)), (show J 163 (ixn (nI k)) ≠ -2 from by rw [hJ.1.1.a163, ixn_nI (by omega)]; exact e)⟩)
      refine pn_ifB_ne (off := 6) (tgt := 39) (by decide +kernel) (by decide +kernel) (fun z33 => ?_) (fun z33 => ?_)
      · refine pw_aload_n (k4 := 0) rfl (by decide +kernel) ?_
        refine pq_getP (c := 11) (k := 28) (ks_m hA) (by decide) (by decide) (kp_m_sideOf hA) lf_Mo_35 (by decide +kernel) ?_
        refine pw_iload_n (k4 := 1) rfl (by decide +kernel) ?_
        refine pq_iald k rfl (by omega) (by decide) (ks_m_sideOf hA) (by decide +kernel) ?_
        refine pw_if_ne (off := 26) (tgt := 71) (by decide +kernel) (by decide +kernel) (fun z45 => ?_) (fun z45 => ?_)
        · refine pw_aload_n (k4 := 0) rfl (by decide +kernel) ?_
          refine pq_getP (c := 11) (k := 73) (ks_m hA) (by decide) (by decide) (kp_m_rightAt hA) lf_Mo_133 (by decide +kernel) ?_
          refine pw_aload_n (k4 := 0) rfl (by decide +kernel) ?_
          refine pq_getI (c := 11) (k := 71) (ks_m hA) (by decide) (by decide) lf_Mo_490 (by decide +kernel) ?_
          refine pn_val (nI ((ylR I k).length)) (by exact hJ.1.2.2.2.2) ?_
          refine pw_iload_n (k4 := 1) rfl (by decide +kernel) ?_
          refine pq_iast ((ylR I k).length) rfl (by omega) (by decide) (ks_m_rightAt hA) (by decide +kernel) ?_
          refine pw_aload_n (k4 := 0) rfl (by decide +kernel) ?_
          refine pw_dup rfl (by decide +kernel) ?_
          refine pq_getI (c := 11) (k := 71) (ks_m hA) (by decide) (by decide) lf_Mo_490 (by decide +kernel) ?_
          refine pn_val (nI ((ylR I k).length)) (by exact hJ.1.2.2.2.2) ?_
          refine pw_iconst (n := 1) (v := 1) (by decide) (by decide +kernel) ?_
          refine pn_iadd ((ylR I k).length) 1 rfl rfl (by decide +kernel) ?_
          refine pq_putI (c := 11) (k := 71) (ks_m hA) (by decide) (by decide) lf_Mo_490 (Or.inl rfl) (by decide +kernel) ?_
          refine pn_iinc (i := 1) (n := 1) 1 k rfl rfl (by decide) rfl (by decide +kernel) ?_
          refine pw_goto (off := -82) (tgt := 12) (by decide +kernel) (by decide +kernel) ?_
          exact ih (by omega) _ (gM_R hJ (decide_eq_true ⟨hth z33, by rw [← hJ.1.1.a142]; exact z45⟩))
        · refine pw_aload_n (k4 := 0) rfl (by decide +kernel) ?_
          refine pq_getP (c := 11) (k := 72) (ks_m hA) (by decide) (by decide) (kp_m_leftAt hA) lf_Mo_130 (by decide +kernel) ?_
          refine pw_aload_n (k4 := 0) rfl (by decide +kernel) ?_
          refine pq_getI (c := 11) (k := 70) (ks_m hA) (by decide) (by decide) lf_Mo_493 (by decide +kernel) ?_
          refine pn_val (nI ((ylL I k).length)) (by exact hJ.1.2.2.2.1) ?_
          refine pw_iload_n (k4 := 1) rfl (by decide +kernel) ?_
          refine pq_iast ((ylL I k).length) rfl (by omega) (by decide) (ks_m_leftAt hA) (by decide +kernel) ?_
          refine pw_aload_n (k4 := 0) rfl (by decide +kernel) ?_
          refine pw_dup rfl (by decide +kernel) ?_
          refine pq_getI (c := 11) (k := 70) (ks_m hA) (by decide) (by decide) lf_Mo_493 (by decide +kernel) ?_
          refine pn_val (nI ((ylL I k).length)) (by exact hJ.1.2.2.2.1) ?_
          refine pw_iconst (n := 1) (v := 1) (by decide) (by decide +kernel) ?_
          refine pn_iadd ((ylL I k).length) 1 rfl rfl (by decide +kernel) ?_
          refine pq_putI (c := 11) (k := 70) (ks_m hA) (by decide) (by decide) lf_Mo_493 (Or.inl rfl) (by decide +kernel) ?_
          refine pw_goto (off := 23) (tgt := 91) (by decide +kernel) (by decide +kernel) ?_
          refine pn_iinc (i := 1) (n := 1) 1 k rfl rfl (by decide) rfl (by decide +kernel) ?_
          refine pw_goto (off := -82) (tgt := 12) (by decide +kernel) (by decide +kernel) ?_
          exact ih (by omega) _ (gM_L hJ (decide_eq_true ⟨hth z33, by rw [← hJ.1.1.a142]; exact z45⟩))
      · refine pw_goto (off := 55) (tgt := 91) (by decide +kernel) (by decide +kernel) ?_
        refine pn_iinc (i := 1) (n := 1) 1 k rfl rfl (by decide) rfl (by decide +kernel) ?_
        refine pw_goto (off := -82) (tgt := 12) (by decide +kernel) (by decide +kernel) ?_
        exact ih (by omega) _ (gM_N hJ (hnt z33))
)
  refine pw_aload_n (k4 := 0) rfl (by decide +kernel) ?_
  refine pw_iconst (n := 0) (v := 0) (by decide) (by decide +kernel) ?_
  refine pq_putI (c := 11) (k := 70) (ks_m hA) (by decide) (by decide) lf_Mo_493 (Or.inl rfl) (by decide +kernel) ?_
  refine pw_aload_n (k4 := 0) rfl (by decide +kernel) ?_
  refine pw_iconst (n := 0) (v := 0) (by decide) (by decide +kernel) ?_
  refine pq_putI (c := 11) (k := 71) (ks_m hA) (by decide) (by decide) lf_Mo_490 (Or.inl rfl) (by decide +kernel) ?_
  refine pw_iconst (n := 0) (v := 0) (by decide) (by decide +kernel) ?_
  refine pq_istore_n (k4 := 1) (Nat.le_of_ble_eq_true rfl) rfl (by decide +kernel) ?_
  exact hL 0 (Nat.zero_le _) _ ⟨⟨((rep.rf I).scr (by decide) _).scr (by decide) _, fun i x hx => (by cases hx), fun i x hx => (by cases hx), rfl, rfl⟩, fun s hs => absurd hs (Nat.not_lt_zero _)⟩
