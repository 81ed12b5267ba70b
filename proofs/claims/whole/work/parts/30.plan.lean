/-! ===== walking or paying the fare: the plan ===== -/
/-- the fields of Stroll as plan lays them -/
def xPl (I : Nat → Nat → Int32) (t w p n : Nat) : Nat → Int32 :=
  upd (upd (upd (upd (upd (upd (I 132) 3 (nI n)) 4 (I (t + 4) p)) 5 (I (w + 4) (2 * p))) 6 (I (w + 4) (2 * p + 1))) 7 (xWT I t w (nI n) (I (w + 4) (2 * p)) (xUN I t w (I (w + 4) (2 * p))) + xWT I t w (nI n) (I (w + 4) (2 * p + 1)) (xUN I t w (I (w + 4) (2 * p + 1))))) 8 0
def xPlan (I : Nat → Nat → Int32) (t w p n : Nat) : Nat → Int32 := xGo I t w n 0 (xUN I t w (I (w + 4) (2 * p))) (xUN I t w (I (w + 4) (2 * p + 1))) 0 0 (xPl I t w p n)
theorem xThere_cg {I J : Nat → Nat → Int32} {t w : Nat} (h : ∀ a, (t ≤ a ∧ a < t + 27) ∨ (w ≤ a ∧ a < w + 6) → J a = I a) (s : Int32) : xThere J t w s ↔ xThere I t w s := by
  unfold xThere xHasS
  rw [h t (by omega), h (w + 3) (by omega)]
theorem xUN_cg {I J : Nat → Nat → Int32} {t w : Nat} (h : ∀ a, (t ≤ a ∧ a < t + 27) ∨ (w ≤ a ∧ a < w + 6) → J a = I a) (s : Int32) : xUN J t w s = xUN I t w s := by
  unfold xUN
  rw [h (w + 2) (by omega)]
  by_cases e : xThere I t w s
  · rw [if_pos e, if_pos ((xThere_cg h s).mpr e)]
  · rw [if_neg e, if_neg (fun q => e ((xThere_cg h s).mp q))]
theorem xUN_in {I : Nat → Nat → Int32} {t w np ns nd : Nat} (hn : tOK I t np ns nd) {s : Int32} (h : xUN I t w s < 50) : ∃ j, j < ns ∧ s = nI j := by
  by_cases e : xThere I t w s
  · exact nIn hn.2.2.1 (by have := hn.2.2.2.1; omega) e.1
  · unfold xUN at h
    rw [if_neg e] at h
    exact absurd h (by decide)

theorem ct_St_plan {sh : List pSh} {I : Nat → Nat → Int32} {L : Nat → Nat → Int64} {P : Nat → Nat → Option Nat} (hA : kA sh P) {w t : Nat} (hw : w = 62 ∨ w = 68 ∨ w = 74) (ht : t = 3 ∨ t = 30) (hwt : P w 0 = some t) (hsw : P 132 2 = some w) {np ns nd : Nat} (hn : tOK I t np ns nd) (hl : lOK I t) {p n : Nat} (hp : p < np) (hn8 : n ≤ 8) : pCn m_St_plan (n + 6) [.ref 132, .int (nI p), .int (nI n)] sh (I, L, P) (rS (xPlan I t w p n) I P) := by
  refine pCn_of (by decide +kernel) (Nat.le_of_ble_eq_true rfl) ?_
  have h5 := hn.2.1
  refine pw_aload_n (k4 := 0) rfl (by decide +kernel) ?_
  refine pq_getP (c := 5) (k := 2) (ks_st hA) (by decide) (by decide) hsw lf_St_9 (by decide +kernel) ?_
  refine pq_getP (c := 9) (k := 0) (ks_w hA hw) (by decide) (by decide) hwt lf_St_15 (by decide +kernel) ?_
  refine pw_iload_n (k4 := 1) rfl (by decide +kernel) ?_
  refine pq_callV (ν := m_Ta_hasPerson) (d' := 0) (av := [_]) (c := 7) (by decide +kernel) lm_St_21 ok_Ta_hasPerson (show _ = some 1 by decide +kernel) (ks_t hA ht) rfl (by decide) (by omega) (Nat.le_of_ble_eq_true rfl) (ct_Ta_hasPerson hA ht _) ?_
  rintro _ _ ⟨rfl, rfl⟩
  refine pn_ifB_ne (off := 4) (tgt := 15) (by decide +kernel) (by decide +kernel) (fun z11 => ?_) (fun z11 => ?_)
  · refine pw_aload_n (k4 := 0) rfl (by decide +kernel) ?_
    refine pw_iload_n (k4 := 2) rfl (by decide +kernel) ?_
    refine pq_putI (c := 5) (k := 3) (ks_st hA) (by decide) (by decide) lf_St_27 (Or.inl rfl) (by decide +kernel) ?_
    rw [sI_aU]
    refine pw_aload_n (k4 := 0) rfl (by decide +kernel) ?_
    refine pw_aload_n (k4 := 0) rfl (by decide +kernel) ?_
    refine pq_getP (c := 5) (k := 2) (ks_st hA) (by decide) (by decide) hsw lf_St_9 (by decide +kernel) ?_
    refine pq_getP (c := 9) (k := 0) (ks_w hA hw) (by decide) (by decide) hwt lf_St_15 (by decide +kernel) ?_
    refine pq_getP (c := 7) (k := 4) (ks_t hA ht) (by decide) (by decide) (kp_t_fare hA ht) lf_St_31 (by decide +kernel) ?_
    refine pw_iload_n (k4 := 1) rfl (by decide +kernel) ?_
    refine pq_iald p rfl (by omega) (by decide) (ks_t_fare hA ht) (by decide +kernel) ?_
    refine pn_val (I (t + 4) p) (by rw [aU_ne (by omega)]) ?_
    refine pq_putI (c := 5) (k := 4) (ks_st hA) (by decide) (by decide) lf_St_35 (Or.inl rfl) (by decide +kernel) ?_
    rw [sI_aU2]
    refine pw_aload_n (k4 := 0) rfl (by decide +kernel) ?_
    refine pw_aload_n (k4 := 0) rfl (by decide +kernel) ?_
    refine pq_getP (c := 5) (k := 2) (ks_st hA) (by decide) (by decide) hsw lf_St_9 (by decide +kernel) ?_
    refine pq_getP (c := 9) (k := 7) (ks_w hA hw) (by decide) (by decide) (kp_w_worn hA hw) lf_St_37 (by decide +kernel) ?_
    refine pw_iconst (n := 2) (v := 2) (by decide) (by decide +kernel) ?_
    refine pw_iload_n (k4 := 1) rfl (by decide +kernel) ?_
    refine pn_imul 2 p rfl rfl (by decide +kernel) ?_
    refine pq_iald (2 * p) rfl (by omega) (by decide) (ks_w_worn hA hw) (by decide +kernel) ?_
    refine pn_val (I (w + 4) (2 * p)) (by rw [aU_ne (by omega)]) ?_
    refine pq_putI (c := 5) (k := 5) (ks_st hA) (by decide) (by decide) lf_St_40 (Or.inl rfl) (by decide +kernel) ?_
    rw [sI_aU2]
    refine pw_aload_n (k4 := 0) rfl (by decide +kernel) ?_
    refine pw_aload_n (k4 := 0) rfl (by decide +kernel) ?_
    refine pq_getP (c := 5) (k := 2) (ks_st hA) (by decide) (by decide) hsw lf_St_9 (by decide +kernel) ?_
    refine pq_getP (c := 9) (k := 7) (ks_w hA hw) (by decide) (by decide) (kp_w_worn hA hw) lf_St_37 (by decide +kernel) ?_
    refine pw_iconst (n := 2) (v := 2) (by decide) (by decide +kernel) ?_
    refine pw_iload_n (k4 := 1) rfl (by decide +kernel) ?_
    refine pn_imul 2 p rfl rfl (by decide +kernel) ?_
    refine pw_iconst (n := 1) (v := 1) (by decide) (by decide +kernel) ?_
    refine pn_iadd (2 * p) 1 rfl rfl (by decide +kernel) ?_
    refine pq_iald ((2 * p) + 1) rfl (by omega) (by decide) (ks_w_worn hA hw) (by decide +kernel) ?_
    refine pn_val (I (w + 4) (2 * p + 1)) (by rw [aU_ne (by omega)]) ?_
    refine pq_putI (c := 5) (k := 6) (ks_st hA) (by decide) (by decide) lf_St_43 (Or.inl rfl) (by decide +kernel) ?_
    rw [sI_aU2]
    obtain ⟨g, hg⟩ : ∃ g, g = upd (upd (upd (upd (I 132) 3 (nI n)) 4 (I (t + 4) p)) 5 (I (w + 4) (2 * p))) 6 (I (w + 4) (2 * p + 1)) := ⟨_, rfl⟩
    have hg3 : g 3 = nI n := by rw [hg]; rfl
    have hg5 : g 5 = I (w + 4) (2 * p) := by rw [hg]; rfl
    have hg6 : g 6 = I (w + 4) (2 * p + 1) := by rw [hg]; rfl
    rw [← hg]
    refine pw_aload_n (k4 := 0) rfl (by decide +kernel) ?_
    refine pw_aload_n (k4 := 0) rfl (by decide +kernel) ?_
    refine pw_aload_n (k4 := 0) rfl (by decide +kernel) ?_
    refine pq_getI (c := 5) (k := 5) (ks_st hA) (by decide) (by decide) lf_St_40 (by decide +kernel) ?_
    refine pn_val (I (w + 4) (2 * p)) (by rw [aU_eq]; exact hg5) ?_
    refine pw_aload_n (k4 := 0) rfl (by decide +kernel) ?_
    refine pw_aload_n (k4 := 0) rfl (by decide +kernel) ?_
    refine pq_getI (c := 5) (k := 5) (ks_st hA) (by decide) (by decide) lf_St_40 (by decide +kernel) ?_
    refine pn_val (I (w + 4) (2 * p)) (by rw [aU_eq]; exact hg5) ?_
    refine pq_callV (ν := m_St_usedNow) (d' := 2) (av := [_]) (c := 5) (by decide +kernel) lm_St_46 ok_St_usedNow (show _ = some 1 by decide +kernel) (ks_st hA) rfl (by decide) (by omega) (Nat.le_of_ble_eq_true rfl) (ct_St_usedNow hA hw ht hwt hsw (tOK_cg (aU_ne (by omega)) hn) _) ?_
    rintro _ _ ⟨rfl, rfl⟩
    rw [xUN_cg (I := I) (fun a ha => aU_ne (by omega))]
    refine pq_callV (ν := m_St_worthThen) (d' := 4) (av := [_, _]) (c := 5) (by decide +kernel) lm_St_50 ok_St_worthThen (show _ = some 2 by decide +kernel) (ks_st hA) rfl (by decide) (by omega) (Nat.le_of_ble_eq_true rfl) (ct_St_worthThen hA hw ht hwt hsw (tOK_cg (aU_ne (by omega)) hn) (lOK_cg (aU_ne (by omega)) (aU_ne (by omega)) hl) _ _ (fun z => xUN_in hn z)) ?_
    rintro _ _ ⟨rfl, L', rfl⟩
    rw [xWT_cg (I := I) (fun a ha => aU_ne (by omega)), aU_eq, show g 3 = nI n from hg3]
    refine pw_aload_n (k4 := 0) rfl (by decide +kernel) ?_
    refine pw_aload_n (k4 := 0) rfl (by decide +kernel) ?_
    refine pq_getI (c := 5) (k := 6) (ks_st hA) (by decide) (by decide) lf_St_43 (by decide +kernel) ?_
    refine pn_val (I (w + 4) (2 * p + 1)) (by rw [aU_eq]; exact hg6) ?_
    refine pw_aload_n (k4 := 0) rfl (by decide +kernel) ?_
    refine pw_aload_n (k4 := 0) rfl (by decide +kernel) ?_
    refine pq_getI (c := 5) (k := 6) (ks_st hA) (by decide) (by decide) lf_St_43 (by decide +kernel) ?_
    refine pn_val (I (w + 4) (2 * p + 1)) (by rw [aU_eq]; exact hg6) ?_
    refine pq_callV (ν := m_St_usedNow) (d' := 2) (av := [_]) (c := 5) (by decide +kernel) lm_St_46 ok_St_usedNow (show _ = some 1 by decide +kernel) (ks_st hA) rfl (by decide) (by omega) (Nat.le_of_ble_eq_true rfl) (ct_St_usedNow hA hw ht hwt hsw (tOK_cg (aU_ne (by omega)) hn) _) ?_
    rintro _ _ ⟨rfl, rfl⟩
    rw [xUN_cg (I := I) (fun a ha => aU_ne (by omega))]
    refine pq_callV (ν := m_St_worthThen) (d' := 4) (av := [_, _]) (c := 5) (by decide +kernel) lm_St_50 ok_St_worthThen (show _ = some 2 by decide +kernel) (ks_st hA) rfl (by decide) (by omega) (Nat.le_of_ble_eq_true rfl) (ct_St_worthThen hA hw ht hwt hsw (tOK_cg (aU_ne (by omega)) hn) (lOK_cg (aU_ne (by omega)) (aU_ne (by omega)) hl) _ _ (fun z => xUN_in hn z)) ?_
    rintro _ _ ⟨rfl, L', rfl⟩
    rw [xWT_cg (I := I) (fun a ha => aU_ne (by omega)), aU_eq, show g 3 = nI n from hg3]
    refine pw_iadd (by decide +kernel) ?_
    refine pq_putI (c := 5) (k := 7) (ks_st hA) (by decide) (by decide) lf_St_54 (Or.inl rfl) (by decide +kernel) ?_
    rw [sI_aU2]
    refine pw_aload_n (k4 := 0) rfl (by decide +kernel) ?_
    refine pw_iconst (n := 0) (v := 0) (by decide) (by decide +kernel) ?_
    refine pq_putZ (c := 5) (k := 8) (ks_st hA) (by decide) (by decide) (by decide) lf_St_57 (Or.inl rfl) (by decide +kernel) ?_
    rw [sI_aU2]
    obtain ⟨g2, hg2⟩ : ∃ g2, g2 = xPl I t w p n := ⟨_, rfl⟩
    have hk3 : g2 3 = nI n := by rw [hg2]; rfl
    have hk5 : g2 5 = I (w + 4) (2 * p) := by rw [hg2]; rfl
    have hk6 : g2 6 = I (w + 4) (2 * p + 1) := by rw [hg2]; rfl
    rw [show upd (upd g 7 _) 8 0 = g2 from by rw [hg, hg2]; rfl]
    refine pw_aload_n (k4 := 0) rfl (by decide +kernel) ?_
    refine pw_iconst (n := 0) (v := 0) (by decide) (by decide +kernel) ?_
    refine pw_aload_n (k4 := 0) rfl (by decide +kernel) ?_
    refine pw_aload_n (k4 := 0) rfl (by decide +kernel) ?_
    refine pq_getI (c := 5) (k := 5) (ks_st hA) (by decide) (by decide) lf_St_40 (by decide +kernel) ?_
    refine pn_val (I (w + 4) (2 * p)) (by rw [aU_eq]; exact hk5) ?_
    refine pq_callV (ν := m_St_usedNow) (d' := 2) (av := [_]) (c := 5) (by decide +kernel) lm_St_46 ok_St_usedNow (show _ = some 1 by decide +kernel) (ks_st hA) rfl (by decide) (by omega) (Nat.le_of_ble_eq_true rfl) (ct_St_usedNow hA hw ht hwt hsw (tOK_cg (aU_ne (by omega)) hn) _) ?_
    rintro _ _ ⟨rfl, rfl⟩
    rw [xUN_cg (I := I) (fun a ha => aU_ne (by omega))]
    refine pw_aload_n (k4 := 0) rfl (by decide +kernel) ?_
    refine pw_aload_n (k4 := 0) rfl (by decide +kernel) ?_
    refine pq_getI (c := 5) (k := 6) (ks_st hA) (by decide) (by decide) lf_St_43 (by decide +kernel) ?_
    refine pn_val (I (w + 4) (2 * p + 1)) (by rw [aU_eq]; exact hk6) ?_
    refine pq_callV (ν := m_St_usedNow) (d' := 2) (av := [_]) (c := 5) (by decide +kernel) lm_St_46 ok_St_usedNow (show _ = some 1 by decide +kernel) (ks_st hA) rfl (by decide) (by omega) (Nat.le_of_ble_eq_true rfl) (ct_St_usedNow hA hw ht hwt hsw (tOK_cg (aU_ne (by omega)) hn) _) ?_
    rintro _ _ ⟨rfl, rfl⟩
    rw [xUN_cg (I := I) (fun a ha => aU_ne (by omega))]
    refine pw_iconst (n := 0) (v := 0) (by decide) (by decide +kernel) ?_
    refine pw_iconst (n := 0) (v := 0) (by decide) (by decide +kernel) ?_
    refine pq_callV (ν := m_St_goOn) (d' := (n + 5)) (av := [_, _, _, _, _]) (c := 5) (by decide +kernel) lm_St_61 ok_St_goOn (show _ = some 5 by decide +kernel) (ks_st hA) rfl (by decide) (by omega) (Nat.le_of_ble_eq_true rfl) (ct_St_goOn hA hw ht hwt hsw hn hl hn8 n 0 _ _ _ _ _ (by omega) hk3 (fun z => hk5.symm ▸ xUN_in hn z) (fun z => hk6.symm ▸ xUN_in hn z)) ?_
    rintro _ _ ⟨rfl, L', rfl⟩
    exact pq_vret rfl (by decide +kernel) ⟨rfl, _, by rw [hg2]; rfl⟩
  · exact absurd (nVal hn.1 (by omega) hp) z11
