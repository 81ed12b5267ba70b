/-! ===== what a shoe is worth, how it wears, what a pair is more ===== -/
theorem xName_congr {nm nm' : Nat → Int64} (h : ∀ k, k < 7 → nm k = nm' k) (i : Int32) : xName nm i = xName nm' i := by
  unfold xName
  by_cases hi : 0 ≤ i ∧ i < 7
  · rw [if_pos hi, if_pos hi]
    obtain ⟨j, hj, rfl⟩ := nIn (show (7 : Int32) = nI 7 from rfl) (by decide) hi
    rw [ixn_nI (by omega)]
    exact h j hj
  · rw [if_neg hi, if_neg hi]
theorem xEv_congr {c v : Nat → Int32} {nm nm' : Nat → Int64} (h : ∀ k, k < 7 → nm k = nm' k) : ∀ (j i : Nat) (f g : Nat → Int64) (top : Nat), (∀ k, k < top → f k = g k) → xEv c v nm j i f top = xEv c v nm' j i g top
  | 0, i, f, g, top, hf => by
    unfold xEv
    by_cases ht : top = 1
    · rw [if_pos ht, if_pos ht, hf 0 (by omega)]
    · rw [if_neg ht, if_neg ht]
  | j + 1, i, f, g, top, hf => by
    have ih := xEv_congr (c := c) (v := v) h j (i + 1)
    unfold xEv
    by_cases h1 : c i = 26 ∨ c i = 25
    · rw [if_pos h1, if_pos h1]
      by_cases h2 : 64 ≤ top
      · rw [if_pos h2, if_pos h2]
      · rw [if_neg h2, if_neg h2, xName_congr h]
        refine ih _ _ _ fun k hk => ?_
        unfold vp_updL
        by_cases e : k = top
        · rw [if_pos e, if_pos e]
        · rw [if_neg e, if_neg e]
          exact hf k (by omega)
    · rw [if_neg h1, if_neg h1]
      by_cases h3 : c i = 18
      · rw [if_pos h3, if_pos h3]
        by_cases h2 : top < 1
        · rw [if_pos h2, if_pos h2]
        · rw [if_neg h2, if_neg h2, hf (top - 1) (by omega)]
          refine ih _ _ _ fun k hk => ?_
          unfold vp_updL
          by_cases e : k = top - 1
          · rw [if_pos e, if_pos e]
          · rw [if_neg e, if_neg e]
            exact hf k hk
      · rw [if_neg h3, if_neg h3]
        by_cases h2 : top < 2
        · rw [if_pos h2, if_pos h2]
        · rw [if_neg h2, if_neg h2, hf (top - 1) (by omega), hf (top - 2) (by omega)]
          by_cases h4 : 1000000000000 < xJoin (c i) (g (top - 2)) (g (top - 1)) ∨ xJoin (c i) (g (top - 2)) (g (top - 1)) < -1000000000000
          · rw [if_pos h4, if_pos h4]
          · rw [if_neg h4, if_neg h4]
            refine ih _ _ _ fun k hk => ?_
            unfold vp_updL
            by_cases e : k = top - 2
            · rw [if_pos e, if_pos e]
            · rw [if_neg e, if_neg e]
              exact hf k (by omega)
def xNm (size used sort steps day foot left : Int64) : Nat → Int64
  | 0 => size
  | 1 => used
  | 2 => sort
  | 3 => steps
  | 4 => day
  | 5 => foot
  | _ => left
/-- law r of the tale at t over these names -/
def xLaw (I : Nat → Nat → Int32) (t r : Nat) (nm : Nat → Int64) : Int64 := if I (t + 24) r = 0 then ERR else xEv (I (t + 20)) (I (t + 21)) nm (ixn (I (t + 23) r) - ixn (I (t + 22) r)) (ixn (I (t + 22) r)) (fun _ => 0) 0
theorem xVal_law {I : Nat → Nat → Int32} {L : Nat → Nat → Int64} {t r : Nat} {nm : Nat → Int64} (h : ∀ k, k < 7 → L (t + 25) k = nm k) : xVal I L t r = xLaw I t r nm := by
  unfold xVal xLaw
  by_cases e : I (t + 24) r = 0
  · rw [if_pos e, if_pos e]
  · rw [if_neg e, if_neg e]
    exact xEv_congr h _ _ _ _ _ fun k hk => by omega
theorem xNm_set (L : Nat → Nat → Int64) (a : Nat) (x0 x1 x2 x3 x4 x5 x6 : Int64) : ∀ k, k < 7 → sL (sL (sL (sL (sL (sL (sL L a 0 x0) a 1 x1) a 2 x2) a 6 x6) a 3 x3) a 5 x5) a 4 x4 a k = xNm x0 x1 x2 x3 x4 x5 x6 k := by
  intro k hk
  rcases (show k = 0 ∨ k = 1 ∨ k = 2 ∨ k = 3 ∨ k = 4 ∨ k = 5 ∨ k = 6 by omega) with rfl | rfl | rfl | rfl | rfl | rfl | rfl <;> simp [sL, va_up, vp_updL, xNm]
def rJx (v : Int64) (I : Nat → Nat → Int32) (P : Nat → Nat → Option Nat) : Option Value → pM → Prop := fun r M => r = some (.long v) ∧ ∃ L', M = (I, L', P)
def rIx (v : Int32) (I : Nat → Nat → Int32) (P : Nat → Nat → Option Nat) : Option Value → pM → Prop := fun r M => r = some (.int v) ∧ ∃ L', M = (I, L', P)
/-- steps and foot of a shoe's owner, 0 where it has none -/
def xSteps (I : Nat → Nat → Int32) (t : Nat) (o : Int32) : Int32 := if xHasP I t o then I (t + 3) (ixn o) else 0
def xFoot (I : Nat → Nat → Int32) (t : Nat) (o : Int32) : Int32 := if xHasP I t o then I (t + 2) (ixn o) else 0
/-- law r of shoe j, used u, on day d -/
def xLawS (I : Nat → Nat → Int32) (t w r j : Nat) (u d : Int32) : Int64 := xLaw I t r (xNm (I (t + 7) j).toInt64 u.toInt64 (I (t + 9) j).toInt64 (xSteps I t (I (w + 3) j)).toInt64 d.toInt64 (xFoot I t (I (w + 3) j)).toInt64 (B (I (w + 1) j = 0)).toInt64)
/-- the law of a pair -/
def xLawP (I : Nat → Nat → Int32) (t w i j : Nat) : Int64 := xLaw I t 2 (xNm (I (t + 7) i).toInt64 (I (w + 2) i + I (w + 2) j).toInt64 (I (t + 9) i).toInt64 0 (I w 1).toInt64 0 (iAbs (I (t + 7) i - I (t + 7) j)).toInt64)
def xFirst (v : Int64) (m z : Int32) : Int32 := if v = ERR then z else xWithin v m
/-- what shoe j is worth, used u, on day d -/
def xWorth (I : Nat → Nat → Int32) (t w j : Nat) (u d : Int32) : Int32 := xFirst (xLawS I t w 0 j u d) 999 (iMax 0 ((if I (w + 1) j = 0 then 2 * I (t + 7) j else I (t + 7) j) - u / 5))
def xWear (I : Nat → Nat → Int32) (t w j : Nat) (u d : Int32) : Int32 := xFirst (xLawS I t w 1 j u d) 50 (if xHasP I t (I (w + 3) j) then I (t + 3) (ixn (I (w + 3) j)) / 10 else 0)
def xPair (I : Nat → Nat → Int32) (t w i j : Nat) : Int32 := xFirst (xLawP I t w i j) 999 (if I (t + 7) i = I (t + 7) j ∧ I (t + 9) i = I (t + 9) j then 10 else 0)
def xFresh (I : Nat → Nat → Int32) (t w : Nat) (size : Int32) : Int32 := xFirst (xLaw I t 0 (xNm size.toInt64 0 0 0 (I w 1).toInt64 0 1)) 999 (2 * size)

theorem ct_Wo_lawOf {sh : List pSh} {I : Nat → Nat → Int32} {L : Nat → Nat → Int64} {P : Nat → Nat → Option Nat} (hA : kA sh P) {w t : Nat} (hw : w = 62 ∨ w = 68 ∨ w = 74) (ht : t = 3 ∨ t = 30) (hwt : P w 0 = some t) {np ns nd : Nat} (hn : tOK I t np ns nd) (hl : lOK I t) (j : Nat) (hj : j < ns) {r : Nat} (hr : r < 3) (u d : Int32) : pCn m_Wo_lawOf 2 [.ref w, .int (nI r), .int (nI j), .int u, .int d] sh (I, L, P) (rJx (xLawS I t w r j u d) I P) := by
  refine pCn_of (by decide +kernel) (Nat.le_of_ble_eq_true rfl) ?_
  refine pw_aload_n (k4 := 0) rfl (by decide +kernel) ?_
  refine pq_getP (c := 9) (k := 0) (ks_w hA hw) (by decide) (by decide) hwt lf_Wo_29 (by decide +kernel) ?_
  refine pw_iload_n (k4 := 2) rfl (by decide +kernel) ?_
  refine pq_callV (ν := m_Ta_hasShoe) (d' := 0) (av := [_]) (c := 7) (by decide +kernel) lm_Wo_58 ok_Ta_hasShoe (show _ = some 1 by decide +kernel) (ks_t hA ht) rfl (by decide) (by omega) (Nat.le_of_ble_eq_true rfl) (ct_Ta_hasShoe hA ht _) ?_
  rintro _ _ ⟨rfl, rfl⟩
  refine pw_if_ne (off := 7) (tgt := 15) (by decide +kernel) (by decide +kernel) (fun z8 => ?_) (fun z8 => ?_)
  · have h16 := hn.2.2.2.1
    have h5 := hn.2.1
    refine pw_aload_n (k4 := 0) rfl (by decide +kernel) ?_
    refine pq_getP (c := 9) (k := 6) (ks_w hA hw) (by decide) (by decide) (kp_w_owner hA hw) lf_Wo_20 (by decide +kernel) ?_
    refine pw_iload_n (k4 := 2) rfl (by decide +kernel) ?_
    refine pq_iald j rfl (by omega) (by decide) (ks_w_owner hA hw) (by decide +kernel) ?_
    refine pq_istore (i := 5) (Nat.le_of_ble_eq_true rfl) rfl (by decide +kernel) ?_
    refine pw_aload_n (k4 := 0) rfl (by decide +kernel) ?_
    refine pq_getP (c := 9) (k := 0) (ks_w hA hw) (by decide) (by decide) hwt lf_Wo_29 (by decide +kernel) ?_
    refine pw_iload (i := 5) rfl (by decide +kernel) ?_
    refine pq_callV (ν := m_Ta_hasPerson) (d' := 0) (av := [_]) (c := 7) (by decide +kernel) lm_Wo_65 ok_Ta_hasPerson (show _ = some 1 by decide +kernel) (ks_t hA ht) rfl (by decide) (by omega) (Nat.le_of_ble_eq_true rfl) (ct_Ta_hasPerson hA ht _) ?_
    rintro _ _ ⟨rfl, rfl⟩
    refine pq_istore (i := 6) (Nat.le_of_ble_eq_true rfl) rfl (by decide +kernel) ?_
    refine pw_aload_n (k4 := 0) rfl (by decide +kernel) ?_
    refine pq_getP (c := 9) (k := 0) (ks_w hA hw) (by decide) (by decide) hwt lf_Wo_29 (by decide +kernel) ?_
    refine pq_getP (c := 7) (k := 18) (ks_t hA ht) (by decide) (by decide) (kp_t_laws hA ht) lf_Wo_84 (by decide +kernel) ?_
    refine pq_astore (i := 7) (Nat.le_of_ble_eq_true rfl) rfl (by decide +kernel) ?_
    refine pw_aload (i := 7) rfl (by decide +kernel) ?_
    refine pw_aload_n (k4 := 0) rfl (by decide +kernel) ?_
    refine pq_getP (c := 9) (k := 0) (ks_w hA hw) (by decide) (by decide) hwt lf_Wo_29 (by decide +kernel) ?_
    refine pq_getP (c := 7) (k := 8) (ks_t hA ht) (by decide) (by decide) (kp_t_size hA ht) lf_Wo_88 (by decide +kernel) ?_
    refine pw_iload_n (k4 := 2) rfl (by decide +kernel) ?_
    refine pq_iald j rfl (by omega) (by decide) (ks_t_size hA ht) (by decide +kernel) ?_
    refine pw_iload_n (k4 := 3) rfl (by decide +kernel) ?_
    refine pw_aload_n (k4 := 0) rfl (by decide +kernel) ?_
    refine pq_getP (c := 9) (k := 0) (ks_w hA hw) (by decide) (by decide) hwt lf_Wo_29 (by decide +kernel) ?_
    refine pq_getP (c := 7) (k := 10) (ks_t hA ht) (by decide) (by decide) (kp_t_kind hA ht) lf_Wo_91 (by decide +kernel) ?_
    refine pw_iload_n (k4 := 2) rfl (by decide +kernel) ?_
    refine pq_iald j rfl (by omega) (by decide) (ks_t_kind hA ht) (by decide +kernel) ?_
    refine pw_aload_n (k4 := 0) rfl (by decide +kernel) ?_
    refine pq_getP (c := 9) (k := 4) (ks_w hA hw) (by decide) (by decide) (kp_w_side hA hw) lf_Wo_11 (by decide +kernel) ?_
    refine pw_iload_n (k4 := 2) rfl (by decide +kernel) ?_
    refine pq_iald j rfl (by omega) (by decide) (ks_w_side hA hw) (by decide +kernel) ?_
    refine pw_if_ne (off := 7) (tgt := 77) (by decide +kernel) (by decide +kernel) (fun z70 => ?_) (fun z70 => ?_)
    · refine pw_iconst (n := 0) (v := 0) (by decide) (by decide +kernel) ?_
      refine pq_callV (ν := m_La_setShoe) (d' := 0) (av := [_, _, _, _]) (c := 2) (by decide +kernel) lm_Wo_94 ok_La_setShoe (show _ = some 4 by decide +kernel) (ks_t_laws hA ht) rfl (by decide) (by omega) (Nat.le_of_ble_eq_true rfl) (ct_La_setShoe hA ht _ _ _ _) ?_
      rintro _ _ ⟨rfl, rfl⟩
      refine pw_aload (i := 7) rfl (by decide +kernel) ?_
      refine pw_iload (i := 6) rfl (by decide +kernel) ?_
      refine pw_if_eq (off := 16) (tgt := 101) (by decide +kernel) (by decide +kernel) (fun z85 => ?_) (fun z85 => ?_)
      · have hp := B_0.mp z85
        refine pw_iconst (n := 0) (v := 0) (by decide) (by decide +kernel) ?_
        refine pw_iload (i := 6) rfl (by decide +kernel) ?_
        refine pw_if_eq (off := 16) (tgt := 120) (by decide +kernel) (by decide +kernel) (fun z104 => ?_) (fun z104 => ?_)
        · refine pw_iconst (n := 0) (v := 0) (by decide) (by decide +kernel) ?_
          refine pw_iload (i := 4) rfl (by decide +kernel) ?_
          refine pq_callV (ν := m_La_setOwner) (d' := 0) (av := [_, _, _]) (c := 2) (by decide +kernel) lm_Wo_106 ok_La_setOwner (show _ = some 3 by decide +kernel) (ks_t_laws hA ht) rfl (by decide) (by omega) (Nat.le_of_ble_eq_true rfl) (ct_La_setOwner hA ht _ _ _) ?_
          rintro _ _ ⟨rfl, rfl⟩
          refine pw_aload (i := 7) rfl (by decide +kernel) ?_
          refine pw_iload_n (k4 := 1) rfl (by decide +kernel) ?_
          refine pq_callV (ν := m_La_valueOf) (d' := 1) (av := [_]) (c := 2) (by decide +kernel) lm_Wo_110 ok_La_valueOf (show _ = some 1 by decide +kernel) (ks_t_laws hA ht) rfl (by decide) (by omega) (Nat.le_of_ble_eq_true rfl) (ct_La_valueOf hA ht hl (r := r) (by omega)) ?_
          rintro _ _ ⟨rfl, g, rfl⟩
          exact pq_lret rfl (by decide +kernel) ⟨congrArg (fun z => some (Value.long z)) ((xVal_law (xNm_set _ _ _ _ _ _ _ _ _)).trans (by unfold xLawS xSteps xFoot; rw [if_neg hp, if_neg hp, B_f z70] <;> rfl)), _, rfl⟩
        · exact absurd z85 z104
      · have hp := B_ne.mp z85
        obtain ⟨p, hpl, hpe⟩ := nIn hn.1 (by omega) hp
        refine pw_aload_n (k4 := 0) rfl (by decide +kernel) ?_
        refine pq_getP (c := 9) (k := 0) (ks_w hA hw) (by decide) (by decide) hwt lf_Wo_29 (by decide +kernel) ?_
        refine pq_getP (c := 7) (k := 3) (ks_t hA ht) (by decide) (by decide) (kp_t_steps hA ht) lf_Wo_100 (by decide +kernel) ?_
        refine pw_iload (i := 5) rfl (by decide +kernel) ?_
        refine pq_iald p hpe (by omega) (by decide) (ks_t_steps hA ht) (by decide +kernel) ?_
        refine pw_goto (off := 4) (tgt := 102) (by decide +kernel) (by decide +kernel) ?_
        refine pw_iload (i := 6) rfl (by decide +kernel) ?_
        refine pw_if_eq (off := 16) (tgt := 120) (by decide +kernel) (by decide +kernel) (fun z104 => ?_) (fun z104 => ?_)
        · exact absurd z104 z85
        · refine pw_aload_n (k4 := 0) rfl (by decide +kernel) ?_
          refine pq_getP (c := 9) (k := 0) (ks_w hA hw) (by decide) (by decide) hwt lf_Wo_29 (by decide +kernel) ?_
          refine pq_getP (c := 7) (k := 2) (ks_t hA ht) (by decide) (by decide) (kp_t_foot hA ht) lf_Wo_103 (by decide +kernel) ?_
          refine pw_iload (i := 5) rfl (by decide +kernel) ?_
          refine pq_iald p hpe (by omega) (by decide) (ks_t_foot hA ht) (by decide +kernel) ?_
          refine pw_goto (off := 4) (tgt := 121) (by decide +kernel) (by decide +kernel) ?_
          refine pw_iload (i := 4) rfl (by decide +kernel) ?_
          refine pq_callV (ν := m_La_setOwner) (d' := 0) (av := [_, _, _]) (c := 2) (by decide +kernel) lm_Wo_106 ok_La_setOwner (show _ = some 3 by decide +kernel) (ks_t_laws hA ht) rfl (by decide) (by omega) (Nat.le_of_ble_eq_true rfl) (ct_La_setOwner hA ht _ _ _) ?_
          rintro _ _ ⟨rfl, rfl⟩
          refine pw_aload (i := 7) rfl (by decide +kernel) ?_
          refine pw_iload_n (k4 := 1) rfl (by decide +kernel) ?_
          refine pq_callV (ν := m_La_valueOf) (d' := 1) (av := [_]) (c := 2) (by decide +kernel) lm_Wo_110 ok_La_valueOf (show _ = some 1 by decide +kernel) (ks_t_laws hA ht) rfl (by decide) (by omega) (Nat.le_of_ble_eq_true rfl) (ct_La_valueOf hA ht hl (r := r) (by omega)) ?_
          rintro _ _ ⟨rfl, g, rfl⟩
          exact pq_lret rfl (by decide +kernel) ⟨congrArg (fun z => some (Value.long z)) ((xVal_law (xNm_set _ _ _ _ _ _ _ _ _)).trans (by unfold xLawS xSteps xFoot; rw [if_pos hp, if_pos hp, B_f z70, hpe, ixn_nI (by omega)] <;> rfl)), _, rfl⟩
    · refine pw_iconst (n := 1) (v := 1) (by decide) (by decide +kernel) ?_
      refine pw_goto (off := 4) (tgt := 78) (by decide +kernel) (by decide +kernel) ?_
      refine pq_callV (ν := m_La_setShoe) (d' := 0) (av := [_, _, _, _]) (c := 2) (by decide +kernel) lm_Wo_94 ok_La_setShoe (show _ = some 4 by decide +kernel) (ks_t_laws hA ht) rfl (by decide) (by omega) (Nat.le_of_ble_eq_true rfl) (ct_La_setShoe hA ht _ _ _ _) ?_
      rintro _ _ ⟨rfl, rfl⟩
      refine pw_aload (i := 7) rfl (by decide +kernel) ?_
      refine pw_iload (i := 6) rfl (by decide +kernel) ?_
      refine pw_if_eq (off := 16) (tgt := 101) (by decide +kernel) (by decide +kernel) (fun z85 => ?_) (fun z85 => ?_)
      · have hp := B_0.mp z85
        refine pw_iconst (n := 0) (v := 0) (by decide) (by decide +kernel) ?_
        refine pw_iload (i := 6) rfl (by decide +kernel) ?_
        refine pw_if_eq (off := 16) (tgt := 120) (by decide +kernel) (by decide +kernel) (fun z104 => ?_) (fun z104 => ?_)
        · refine pw_iconst (n := 0) (v := 0) (by decide) (by decide +kernel) ?_
          refine pw_iload (i := 4) rfl (by decide +kernel) ?_
          refine pq_callV (ν := m_La_setOwner) (d' := 0) (av := [_, _, _]) (c := 2) (by decide +kernel) lm_Wo_106 ok_La_setOwner (show _ = some 3 by decide +kernel) (ks_t_laws hA ht) rfl (by decide) (by omega) (Nat.le_of_ble_eq_true rfl) (ct_La_setOwner hA ht _ _ _) ?_
          rintro _ _ ⟨rfl, rfl⟩
          refine pw_aload (i := 7) rfl (by decide +kernel) ?_
          refine pw_iload_n (k4 := 1) rfl (by decide +kernel) ?_
          refine pq_callV (ν := m_La_valueOf) (d' := 1) (av := [_]) (c := 2) (by decide +kernel) lm_Wo_110 ok_La_valueOf (show _ = some 1 by decide +kernel) (ks_t_laws hA ht) rfl (by decide) (by omega) (Nat.le_of_ble_eq_true rfl) (ct_La_valueOf hA ht hl (r := r) (by omega)) ?_
          rintro _ _ ⟨rfl, g, rfl⟩
          exact pq_lret rfl (by decide +kernel) ⟨congrArg (fun z => some (Value.long z)) ((xVal_law (xNm_set _ _ _ _ _ _ _ _ _)).trans (by unfold xLawS xSteps xFoot; rw [if_neg hp, if_neg hp, B_t z70] <;> rfl)), _, rfl⟩
        · exact absurd z85 z104
      · have hp := B_ne.mp z85
        obtain ⟨p, hpl, hpe⟩ := nIn hn.1 (by omega) hp
        refine pw_aload_n (k4 := 0) rfl (by decide +kernel) ?_
        refine pq_getP (c := 9) (k := 0) (ks_w hA hw) (by decide) (by decide) hwt lf_Wo_29 (by decide +kernel) ?_
        refine pq_getP (c := 7) (k := 3) (ks_t hA ht) (by decide) (by decide) (kp_t_steps hA ht) lf_Wo_100 (by decide +kernel) ?_
        refine pw_iload (i := 5) rfl (by decide +kernel) ?_
        refine pq_iald p hpe (by omega) (by decide) (ks_t_steps hA ht) (by decide +kernel) ?_
        refine pw_goto (off := 4) (tgt := 102) (by decide +kernel) (by decide +kernel) ?_
        refine pw_iload (i := 6) rfl (by decide +kernel) ?_
        refine pw_if_eq (off := 16) (tgt := 120) (by decide +kernel) (by decide +kernel) (fun z104 => ?_) (fun z104 => ?_)
        · exact absurd z104 z85
        · refine pw_aload_n (k4 := 0) rfl (by decide +kernel) ?_
          refine pq_getP (c := 9) (k := 0) (ks_w hA hw) (by decide) (by decide) hwt lf_Wo_29 (by decide +kernel) ?_
          refine pq_getP (c := 7) (k := 2) (ks_t hA ht) (by decide) (by decide) (kp_t_foot hA ht) lf_Wo_103 (by decide +kernel) ?_
          refine pw_iload (i := 5) rfl (by decide +kernel) ?_
          refine pq_iald p hpe (by omega) (by decide) (ks_t_foot hA ht) (by decide +kernel) ?_
          refine pw_goto (off := 4) (tgt := 121) (by decide +kernel) (by decide +kernel) ?_
          refine pw_iload (i := 4) rfl (by decide +kernel) ?_
          refine pq_callV (ν := m_La_setOwner) (d' := 0) (av := [_, _, _]) (c := 2) (by decide +kernel) lm_Wo_106 ok_La_setOwner (show _ = some 3 by decide +kernel) (ks_t_laws hA ht) rfl (by decide) (by omega) (Nat.le_of_ble_eq_true rfl) (ct_La_setOwner hA ht _ _ _) ?_
          rintro _ _ ⟨rfl, rfl⟩
          refine pw_aload (i := 7) rfl (by decide +kernel) ?_
          refine pw_iload_n (k4 := 1) rfl (by decide +kernel) ?_
          refine pq_callV (ν := m_La_valueOf) (d' := 1) (av := [_]) (c := 2) (by decide +kernel) lm_Wo_110 ok_La_valueOf (show _ = some 1 by decide +kernel) (ks_t_laws hA ht) rfl (by decide) (by omega) (Nat.le_of_ble_eq_true rfl) (ct_La_valueOf hA ht hl (r := r) (by omega)) ?_
          rintro _ _ ⟨rfl, g, rfl⟩
          exact pq_lret rfl (by decide +kernel) ⟨congrArg (fun z => some (Value.long z)) ((xVal_law (xNm_set _ _ _ _ _ _ _ _ _)).trans (by unfold xLawS xSteps xFoot; rw [if_pos hp, if_pos hp, B_t z70, hpe, ixn_nI (by omega)] <;> rfl)), _, rfl⟩
  · exact absurd (nVal hn.2.2.1 (by have := hn.2.2.2.1; omega) hj) (B_0.mp z8)
