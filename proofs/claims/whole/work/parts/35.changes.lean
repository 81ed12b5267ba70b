/-! ===== the class: its calls that change something ===== -/
theorem xNote_ne {I : Nat → Nat → Int32} {w nx sz a : Nat} (h1 : a ≠ 80) (h2 : a ≠ 82 + nx) (h3 : a ≠ 103 + nx) : xNote I w nx sz a = I a := by
  unfold xNote
  rw [sI_ne h1, sI_ne h1, aU_ne h3, aU_ne h2]
theorem xNote_lo {I : Nat → Nat → Int32} {w nx sz a : Nat} (h : a < 80) : xNote I w nx sz a = I a := xNote_ne (by omega) (by omega) (by omega)

theorem ct_Ls_give {sh : List pSh} {I : Nat → Nat → Int32} {L : Nat → Nat → Int64} {P : Nat → Nat → Option Nat} (hA : kA sh P) {w t : Nat} (hw : w = 62 ∨ w = 68 ∨ w = 74) (ht : t = 3 ∨ t = 30) (hwt : P w 0 = some t) (hxt : P 1 2 = some t) (hxw : P 1 7 = some w) {np ns nd : Nat} (hn : tOK I t np ns nd) {nx sz : Nat} (hnx : I 80 1 = nI nx) (hnl : nx < 20) (hsz : I 80 0 = nI sz) (hsl : sz ≤ 20) (s to : Int32) : pCn m_Ls_give 3 [.ref 1, .int s, .int to] sh (I, L, P) (rIf (xThere I t w s ∧ (to = -1 ∨ xHasP I t to) ∧ I (w + 3) (ixn s) ≠ to) (rI 1 (xMove (xNote I w nx sz) t w (ixn s) to, L, P)) (rI 0 (I, L, P))) := by
  refine pCn_of (by decide +kernel) (Nat.le_of_ble_eq_true rfl) ?_
  have h16 := hn.2.2.2.1
  have h5 := hn.2.1
  have h8 := hn.2.2.2.2.2
  refine pw_aload_n (k4 := 0) rfl (by decide +kernel) ?_
  refine pq_getP (c := 10) (k := 7) (ks_x hA) (by decide) (by decide) hxw lf_Ls_43 (by decide +kernel) ?_
  refine pw_iload_n (k4 := 1) rfl (by decide +kernel) ?_
  refine pq_callV (ν := m_Wo_isThere) (d' := 1) (av := [_]) (c := 9) (by decide +kernel) lm_Ls_211 ok_Wo_isThere (show _ = some 1 by decide +kernel) (ks_w hA hw) rfl (by decide) (by omega) (Nat.le_of_ble_eq_true rfl) (ct_Wo_isThere hA hw ht hwt hn _) ?_
  rintro _ _ ⟨rfl, rfl⟩
  refine pn_ifB_eq (off := 32) (tgt := 40) (by decide +kernel) (by decide +kernel) (fun z8 => ?_) (fun z8 => ?_)
  · refine pw_iconst (n := 0) (v := 0) (by decide) (by decide +kernel) ?_
    exact pq_zret rfl (by decide) (by decide +kernel) ⟨fun h => absurd h.1 z8, fun _ => ⟨rfl, rfl⟩⟩
  · obtain ⟨j, hj, rfl⟩ := nIn hn.2.2.1 (by omega) z8.1
    refine pw_iload_n (k4 := 2) rfl (by decide +kernel) ?_
    refine pw_iconst (n := -1) (v := -1) (by decide) (by decide +kernel) ?_
    refine pw_icmp_eq (off := 14) (tgt := 27) (by decide +kernel) (by decide +kernel) (fun z13 => ?_) (fun z13 => ?_)
    · refine pw_aload_n (k4 := 0) rfl (by decide +kernel) ?_
      refine pq_getP (c := 10) (k := 7) (ks_x hA) (by decide) (by decide) hxw lf_Ls_43 (by decide +kernel) ?_
      refine pq_getP (c := 9) (k := 6) (ks_w hA hw) (by decide) (by decide) (kp_w_owner hA hw) lf_Ls_148 (by decide +kernel) ?_
      refine pw_iload_n (k4 := 1) rfl (by decide +kernel) ?_
      refine pq_iald j rfl (by omega) (by decide) (ks_w_owner hA hw) (by decide +kernel) ?_
      refine pw_iload_n (k4 := 2) rfl (by decide +kernel) ?_
      refine pw_icmp_ne (off := 5) (tgt := 42) (by decide +kernel) (by decide +kernel) (fun z37 => ?_) (fun z37 => ?_)
      · refine pw_aload_n (k4 := 0) rfl (by decide +kernel) ?_
        refine pq_getP (c := 10) (k := 11) (ks_x hA) (by decide) (by decide) (kp_x_history hA) lf_Ls_56 (by decide +kernel) ?_
        refine pw_aload_n (k4 := 0) rfl (by decide +kernel) ?_
        refine pq_getP (c := 10) (k := 7) (ks_x hA) (by decide) (by decide) hxw lf_Ls_43 (by decide +kernel) ?_
        refine pq_callV (ν := m_Hi_note) (d' := 1) (av := [_]) (c := 1) (by decide +kernel) lm_Ls_227 ok_Hi_note (show _ = some 1 by decide +kernel) (ks_hi hA) rfl (by decide) (by omega) (Nat.le_of_ble_eq_true rfl) (ct_Hi_note hA hw hnx hnl hsz hsl) ?_
        rintro _ _ ⟨rfl, rfl⟩
        refine pw_aload_n (k4 := 0) rfl (by decide +kernel) ?_
        refine pq_getP (c := 10) (k := 7) (ks_x hA) (by decide) (by decide) hxw lf_Ls_43 (by decide +kernel) ?_
        refine pw_iload_n (k4 := 1) rfl (by decide +kernel) ?_
        refine pw_iload_n (k4 := 2) rfl (by decide +kernel) ?_
        refine pq_callV (ν := m_Wo_move) (d' := 2) (av := [_, _]) (c := 9) (by decide +kernel) lm_Ls_234 ok_Wo_move (show _ = some 2 by decide +kernel) (ks_w hA hw) rfl (by decide) (by omega) (Nat.le_of_ble_eq_true rfl) (ct_Wo_move hA hw ht hwt (tOK_cg (xNote_lo (by omega)) hn) j hj _) ?_
        rintro _ _ ⟨rfl, rfl⟩
        refine pw_iconst (n := 1) (v := 1) (by decide) (by decide +kernel) ?_
        exact pq_zret rfl (by decide) (by decide +kernel) ⟨fun _ => ⟨rfl, by rw [ixn_nI (by omega)]⟩, fun h => absurd ⟨z8, Or.inl z13, by rw [ixn_nI (by omega)]; exact z37⟩ h⟩
      · refine pw_iconst (n := 0) (v := 0) (by decide) (by decide +kernel) ?_
        exact pq_zret rfl (by decide) (by decide +kernel) ⟨fun h => absurd z37 (by have e := h.2.2; rwa [ixn_nI (by omega)] at e), fun _ => ⟨rfl, rfl⟩⟩
    · refine pw_aload_n (k4 := 0) rfl (by decide +kernel) ?_
      refine pq_getP (c := 10) (k := 2) (ks_x hA) (by decide) (by decide) hxt lf_Ls_18 (by decide +kernel) ?_
      refine pw_iload_n (k4 := 2) rfl (by decide +kernel) ?_
      refine pq_callV (ν := m_Ta_hasPerson) (d' := 0) (av := [_]) (c := 7) (by decide +kernel) lm_Ls_162 ok_Ta_hasPerson (show _ = some 1 by decide +kernel) (ks_t hA ht) rfl (by decide) (by omega) (Nat.le_of_ble_eq_true rfl) (ct_Ta_hasPerson hA ht _) ?_
      rintro _ _ ⟨rfl, rfl⟩
      refine pn_ifB_eq (off := 16) (tgt := 40) (by decide +kernel) (by decide +kernel) (fun z24 => ?_) (fun z24 => ?_)
      · refine pw_iconst (n := 0) (v := 0) (by decide) (by decide +kernel) ?_
        exact pq_zret rfl (by decide) (by decide +kernel) ⟨fun h => absurd h.2.1 (fun e => e.elim z13 z24), fun _ => ⟨rfl, rfl⟩⟩
      · refine pw_aload_n (k4 := 0) rfl (by decide +kernel) ?_
        refine pq_getP (c := 10) (k := 7) (ks_x hA) (by decide) (by decide) hxw lf_Ls_43 (by decide +kernel) ?_
        refine pq_getP (c := 9) (k := 6) (ks_w hA hw) (by decide) (by decide) (kp_w_owner hA hw) lf_Ls_148 (by decide +kernel) ?_
        refine pw_iload_n (k4 := 1) rfl (by decide +kernel) ?_
        refine pq_iald j rfl (by omega) (by decide) (ks_w_owner hA hw) (by decide +kernel) ?_
        refine pw_iload_n (k4 := 2) rfl (by decide +kernel) ?_
        refine pw_icmp_ne (off := 5) (tgt := 42) (by decide +kernel) (by decide +kernel) (fun z37 => ?_) (fun z37 => ?_)
        · refine pw_aload_n (k4 := 0) rfl (by decide +kernel) ?_
          refine pq_getP (c := 10) (k := 11) (ks_x hA) (by decide) (by decide) (kp_x_history hA) lf_Ls_56 (by decide +kernel) ?_
          refine pw_aload_n (k4 := 0) rfl (by decide +kernel) ?_
          refine pq_getP (c := 10) (k := 7) (ks_x hA) (by decide) (by decide) hxw lf_Ls_43 (by decide +kernel) ?_
          refine pq_callV (ν := m_Hi_note) (d' := 1) (av := [_]) (c := 1) (by decide +kernel) lm_Ls_227 ok_Hi_note (show _ = some 1 by decide +kernel) (ks_hi hA) rfl (by decide) (by omega) (Nat.le_of_ble_eq_true rfl) (ct_Hi_note hA hw hnx hnl hsz hsl) ?_
          rintro _ _ ⟨rfl, rfl⟩
          refine pw_aload_n (k4 := 0) rfl (by decide +kernel) ?_
          refine pq_getP (c := 10) (k := 7) (ks_x hA) (by decide) (by decide) hxw lf_Ls_43 (by decide +kernel) ?_
          refine pw_iload_n (k4 := 1) rfl (by decide +kernel) ?_
          refine pw_iload_n (k4 := 2) rfl (by decide +kernel) ?_
          refine pq_callV (ν := m_Wo_move) (d' := 2) (av := [_, _]) (c := 9) (by decide +kernel) lm_Ls_234 ok_Wo_move (show _ = some 2 by decide +kernel) (ks_w hA hw) rfl (by decide) (by omega) (Nat.le_of_ble_eq_true rfl) (ct_Wo_move hA hw ht hwt (tOK_cg (xNote_lo (by omega)) hn) j hj _) ?_
          rintro _ _ ⟨rfl, rfl⟩
          refine pw_iconst (n := 1) (v := 1) (by decide) (by decide +kernel) ?_
          exact pq_zret rfl (by decide) (by decide +kernel) ⟨fun _ => ⟨rfl, by rw [ixn_nI (by omega)]⟩, fun h => absurd ⟨z8, Or.inr z24, by rw [ixn_nI (by omega)]; exact z37⟩ h⟩
        · refine pw_iconst (n := 0) (v := 0) (by decide) (by decide +kernel) ?_
          exact pq_zret rfl (by decide) (by decide +kernel) ⟨fun h => absurd z37 (by have e := h.2.2; rwa [ixn_nI (by omega)] at e), fun _ => ⟨rfl, rfl⟩⟩

theorem ct_Ls_on {sh : List pSh} {I : Nat → Nat → Int32} {L : Nat → Nat → Int64} {P : Nat → Nat → Option Nat} (hA : kA sh P) {w t : Nat} (hw : w = 62 ∨ w = 68 ∨ w = 74) (ht : t = 3 ∨ t = 30) (hwt : P w 0 = some t) (hxt : P 1 2 = some t) (hxw : P 1 7 = some w) {np ns nd : Nat} (hn : tOK I t np ns nd) {nx sz : Nat} (hnx : I 80 1 = nI nx) (hnl : nx < 20) (hsz : I 80 0 = nI sz) (hsl : sz ≤ 20) (hown : ∀ j, j < ns → I (w + 3) j ≠ -2 → I (w + 3) j ≠ -1 → ∃ p, p < np ∧ I (w + 3) j = nI p) (hsd : ∀ j, j < ns → ∃ d, d < 2 ∧ I (w + 1) j = nI d) (s : Int32) : pCn m_Ls_on 2 [.ref 1, .int s] sh (I, L, P) (rIf (xThere I t w s ∧ I (w + 3) (ixn s) ≠ -1 ∧ ¬ xWorn I t w (ixn s)) (rI 1 (sI (xNote I w nx sz) (w + 4) (2 * ixn (I (w + 3) (ixn s)) + ixn (I (w + 1) (ixn s))) s, L, P)) (rI 0 (I, L, P))) := by
  refine pCn_of (by decide +kernel) (Nat.le_of_ble_eq_true rfl) ?_
  have h16 := hn.2.2.2.1
  have h5 := hn.2.1
  have h8 := hn.2.2.2.2.2
  refine pw_aload_n (k4 := 0) rfl (by decide +kernel) ?_
  refine pq_getP (c := 10) (k := 7) (ks_x hA) (by decide) (by decide) hxw lf_Ls_43 (by decide +kernel) ?_
  refine pw_iload_n (k4 := 1) rfl (by decide +kernel) ?_
  refine pq_callV (ν := m_Wo_isThere) (d' := 1) (av := [_]) (c := 9) (by decide +kernel) lm_Ls_211 ok_Wo_isThere (show _ = some 1 by decide +kernel) (ks_w hA hw) rfl (by decide) (by omega) (Nat.le_of_ble_eq_true rfl) (ct_Wo_isThere hA hw ht hwt hn _) ?_
  rintro _ _ ⟨rfl, rfl⟩
  refine pn_ifB_eq (off := 27) (tgt := 35) (by decide +kernel) (by decide +kernel) (fun z8 => ?_) (fun z8 => ?_)
  · refine pw_iconst (n := 0) (v := 0) (by decide) (by decide +kernel) ?_
    exact pq_zret rfl (by decide) (by decide +kernel) ⟨fun h => absurd h.1 z8, fun _ => ⟨rfl, rfl⟩⟩
  · obtain ⟨j, hj, rfl⟩ := nIn hn.2.2.1 (by omega) z8.1
    refine pw_aload_n (k4 := 0) rfl (by decide +kernel) ?_
    refine pq_getP (c := 10) (k := 7) (ks_x hA) (by decide) (by decide) hxw lf_Ls_43 (by decide +kernel) ?_
    refine pq_getP (c := 9) (k := 6) (ks_w hA hw) (by decide) (by decide) (kp_w_owner hA hw) lf_Ls_148 (by decide +kernel) ?_
    refine pw_iload_n (k4 := 1) rfl (by decide +kernel) ?_
    refine pq_iald j rfl (by omega) (by decide) (ks_w_owner hA hw) (by decide +kernel) ?_
    refine pw_iconst (n := -1) (v := -1) (by decide) (by decide +kernel) ?_
    refine pw_icmp_eq (off := 14) (tgt := 35) (by decide +kernel) (by decide +kernel) (fun z21 => ?_) (fun z21 => ?_)
    · refine pw_iconst (n := 0) (v := 0) (by decide) (by decide +kernel) ?_
      exact pq_zret rfl (by decide) (by decide +kernel) ⟨fun h => absurd z21 (by have e := h.2.1; rwa [ixn_nI (by omega)] at e), fun _ => ⟨rfl, rfl⟩⟩
    · refine pw_aload_n (k4 := 0) rfl (by decide +kernel) ?_
      refine pq_getP (c := 10) (k := 7) (ks_x hA) (by decide) (by decide) hxw lf_Ls_43 (by decide +kernel) ?_
      refine pw_iload_n (k4 := 1) rfl (by decide +kernel) ?_
      refine pq_callV (ν := m_Wo_isWorn) (d' := 1) (av := [_]) (c := 9) (by decide +kernel) lm_Ls_154 ok_Wo_isWorn (show _ = some 1 by decide +kernel) (ks_w hA hw) rfl (by decide) (by omega) (Nat.le_of_ble_eq_true rfl) (ct_Wo_isWorn hA hw ht hwt hn j hj) ?_
      rintro _ _ ⟨rfl, rfl⟩
      refine pn_ifB_eq (off := 5) (tgt := 37) (by decide +kernel) (by decide +kernel) (fun z32 => ?_) (fun z32 => ?_)
      · obtain ⟨p, hp, hpe⟩ := hown j hj (by have e := z8.2; rwa [ixn_nI (by omega)] at e) z21
        obtain ⟨d, hd, hde⟩ := hsd j hj
        refine pw_aload_n (k4 := 0) rfl (by decide +kernel) ?_
        refine pq_getP (c := 10) (k := 11) (ks_x hA) (by decide) (by decide) (kp_x_history hA) lf_Ls_56 (by decide +kernel) ?_
        refine pw_aload_n (k4 := 0) rfl (by decide +kernel) ?_
        refine pq_getP (c := 10) (k := 7) (ks_x hA) (by decide) (by decide) hxw lf_Ls_43 (by decide +kernel) ?_
        refine pq_callV (ν := m_Hi_note) (d' := 1) (av := [_]) (c := 1) (by decide +kernel) lm_Ls_227 ok_Hi_note (show _ = some 1 by decide +kernel) (ks_hi hA) rfl (by decide) (by omega) (Nat.le_of_ble_eq_true rfl) (ct_Hi_note hA hw hnx hnl hsz hsl) ?_
        rintro _ _ ⟨rfl, rfl⟩
        refine pw_aload_n (k4 := 0) rfl (by decide +kernel) ?_
        refine pq_getP (c := 10) (k := 7) (ks_x hA) (by decide) (by decide) hxw lf_Ls_43 (by decide +kernel) ?_
        refine pw_iload_n (k4 := 1) rfl (by decide +kernel) ?_
        refine pq_callV (ν := m_Wo_putOn) (d' := 1) (av := [_]) (c := 9) (by decide +kernel) lm_Ls_237 ok_Wo_putOn (show _ = some 1 by decide +kernel) (ks_w hA hw) rfl (by decide) (by omega) (Nat.le_of_ble_eq_true rfl) (ct_Wo_putOn hA hw ht hwt (tOK_cg (xNote_lo (by omega)) hn) j p d hj hp (by rw [xNote_lo (by omega)]; exact hpe) (by rw [xNote_lo (by omega)]; exact hde) hd) ?_
        rintro _ _ ⟨rfl, rfl⟩
        refine pw_iconst (n := 1) (v := 1) (by decide) (by decide +kernel) ?_
        exact pq_zret rfl (by decide) (by decide +kernel) ⟨fun _ => ⟨rfl, by rw [ixn_nI (by omega), hpe, hde, ixn_nI (show p < 2 ^ 31 by omega), ixn_nI (show d < 2 ^ 31 by omega)]⟩, fun h => absurd ⟨z8, by rw [ixn_nI (by omega)]; exact z21, by rw [ixn_nI (by omega)]; exact z32⟩ h⟩
      · refine pw_iconst (n := 0) (v := 0) (by decide) (by decide +kernel) ?_
        exact pq_zret rfl (by decide) (by decide +kernel) ⟨fun h => absurd z32 (by have e := h.2.2; rwa [ixn_nI (by omega)] at e), fun _ => ⟨rfl, rfl⟩⟩

theorem ct_Ls_off {sh : List pSh} {I : Nat → Nat → Int32} {L : Nat → Nat → Int64} {P : Nat → Nat → Option Nat} (hA : kA sh P) {w t : Nat} (hw : w = 62 ∨ w = 68 ∨ w = 74) (ht : t = 3 ∨ t = 30) (hwt : P w 0 = some t) (hxt : P 1 2 = some t) (hxw : P 1 7 = some w) {np ns nd : Nat} (hn : tOK I t np ns nd) {nx sz : Nat} (hnx : I 80 1 = nI nx) (hnl : nx < 20) (hsz : I 80 0 = nI sz) (hsl : sz ≤ 20) (s : Int32) : pCn m_Ls_off 2 [.ref 1, .int s] sh (I, L, P) (rIf (xThere I t w s ∧ xWorn I t w (ixn s)) (rI 1 (aU (xNote I w nx sz) (w + 4) (xOff (I (w + 4)) (I (w + 3) (ixn s)) (I t 0) s), L, P)) (rI 0 (I, L, P))) := by
  refine pCn_of (by decide +kernel) (Nat.le_of_ble_eq_true rfl) ?_
  have h16 := hn.2.2.2.1
  have h5 := hn.2.1
  have h8 := hn.2.2.2.2.2
  refine pw_aload_n (k4 := 0) rfl (by decide +kernel) ?_
  refine pq_getP (c := 10) (k := 7) (ks_x hA) (by decide) (by decide) hxw lf_Ls_43 (by decide +kernel) ?_
  refine pw_iload_n (k4 := 1) rfl (by decide +kernel) ?_
  refine pq_callV (ν := m_Wo_isThere) (d' := 1) (av := [_]) (c := 9) (by decide +kernel) lm_Ls_211 ok_Wo_isThere (show _ = some 1 by decide +kernel) (ks_w hA hw) rfl (by decide) (by omega) (Nat.le_of_ble_eq_true rfl) (ct_Wo_isThere hA hw ht hwt hn _) ?_
  rintro _ _ ⟨rfl, rfl⟩
  refine pn_ifB_eq (off := 14) (tgt := 22) (by decide +kernel) (by decide +kernel) (fun z8 => ?_) (fun z8 => ?_)
  · refine pw_iconst (n := 0) (v := 0) (by decide) (by decide +kernel) ?_
    exact pq_zret rfl (by decide) (by decide +kernel) ⟨fun h => absurd h.1 z8, fun _ => ⟨rfl, rfl⟩⟩
  · obtain ⟨j, hj, rfl⟩ := nIn hn.2.2.1 (by omega) z8.1
    refine pw_aload_n (k4 := 0) rfl (by decide +kernel) ?_
    refine pq_getP (c := 10) (k := 7) (ks_x hA) (by decide) (by decide) hxw lf_Ls_43 (by decide +kernel) ?_
    refine pw_iload_n (k4 := 1) rfl (by decide +kernel) ?_
    refine pq_callV (ν := m_Wo_isWorn) (d' := 1) (av := [_]) (c := 9) (by decide +kernel) lm_Ls_154 ok_Wo_isWorn (show _ = some 1 by decide +kernel) (ks_w hA hw) rfl (by decide) (by omega) (Nat.le_of_ble_eq_true rfl) (ct_Wo_isWorn hA hw ht hwt hn j hj) ?_
    rintro _ _ ⟨rfl, rfl⟩
    refine pn_ifB_ne (off := 5) (tgt := 24) (by decide +kernel) (by decide +kernel) (fun z19 => ?_) (fun z19 => ?_)
    · refine pw_aload_n (k4 := 0) rfl (by decide +kernel) ?_
      refine pq_getP (c := 10) (k := 11) (ks_x hA) (by decide) (by decide) (kp_x_history hA) lf_Ls_56 (by decide +kernel) ?_
      refine pw_aload_n (k4 := 0) rfl (by decide +kernel) ?_
      refine pq_getP (c := 10) (k := 7) (ks_x hA) (by decide) (by decide) hxw lf_Ls_43 (by decide +kernel) ?_
      refine pq_callV (ν := m_Hi_note) (d' := 1) (av := [_]) (c := 1) (by decide +kernel) lm_Ls_227 ok_Hi_note (show _ = some 1 by decide +kernel) (ks_hi hA) rfl (by decide) (by omega) (Nat.le_of_ble_eq_true rfl) (ct_Hi_note hA hw hnx hnl hsz hsl) ?_
      rintro _ _ ⟨rfl, rfl⟩
      refine pw_aload_n (k4 := 0) rfl (by decide +kernel) ?_
      refine pq_getP (c := 10) (k := 7) (ks_x hA) (by decide) (by decide) hxw lf_Ls_43 (by decide +kernel) ?_
      refine pw_iload_n (k4 := 1) rfl (by decide +kernel) ?_
      refine pq_callV (ν := m_Wo_takeOff) (d' := 1) (av := [_]) (c := 9) (by decide +kernel) lm_Ls_240 ok_Wo_takeOff (show _ = some 1 by decide +kernel) (ks_w hA hw) rfl (by decide) (by omega) (Nat.le_of_ble_eq_true rfl) (ct_Wo_takeOff hA hw ht hwt (tOK_cg (xNote_lo (by omega)) hn) j hj) ?_
      rintro _ _ ⟨rfl, rfl⟩
      refine pw_iconst (n := 1) (v := 1) (by decide) (by decide +kernel) ?_
      exact pq_zret rfl (by decide) (by decide +kernel) ⟨fun _ => ⟨rfl, by rw [ixn_nI (by omega), xNote_lo (show w + 4 < 80 by omega), xNote_lo (show w + 3 < 80 by omega), xNote_lo (show t < 80 by omega)]⟩, fun h => absurd ⟨z8, by rw [ixn_nI (by omega)]; exact z19⟩ h⟩
    · refine pw_iconst (n := 0) (v := 0) (by decide) (by decide +kernel) ?_
      exact pq_zret rfl (by decide) (by decide +kernel) ⟨fun h => absurd (by have e := h.2; rwa [ixn_nI (by omega)] at e) z19, fun _ => ⟨rfl, rfl⟩⟩

def rPay (I : Nat → Nat → Int32) (P : Nat → Nat → Option Nat) (t w ns nx sz : Nat) (v to : Int32) : Option Value → pM → Prop := fun r M => r = some (.int v) ∧ ∃ f L', M = ((if v = -2 then aU I 61 f else xHand (xNote (aU I 61 f) w nx sz) t w v to ns), L', P)

theorem ct_Ls_pay {sh : List pSh} {I : Nat → Nat → Int32} {L : Nat → Nat → Int64} {P : Nat → Nat → Option Nat} (hA : kA sh P) {w t : Nat} (hw : w = 62 ∨ w = 68 ∨ w = 74) (ht : t = 3 ∨ t = 30) (hwt : P w 0 = some t) (hxt : P 1 2 = some t) (hxw : P 1 7 = some w) {np ns nd : Nat} (hn : tOK I t np ns nd) (hl : lOK I t) {nx sz : Nat} (hnx : I 80 1 = nI nx) (hnl : nx < 20) (hsz : I 80 0 = nI sz) (hsl : sz ≤ 20) (p to q : Int32) : pCn m_Ls_pay 5 [.ref 1, .int p, .int to, .int q] sh (I, L, P) (rIf (xHasP I t p ∧ xHasP I t to ∧ p ≠ to ∧ xPrice q) (rPay I P t w ns nx sz (xFor I t w ns p (ixn q)) to) (rI (-1) (I, L, P))) := by
  refine pCn_of (by decide +kernel) (Nat.le_of_ble_eq_true rfl) ?_
  have h16 := hn.2.2.2.1
  have h5 := hn.2.1
  have h8 := hn.2.2.2.2.2
  refine pw_aload_n (k4 := 0) rfl (by decide +kernel) ?_
  refine pq_getP (c := 10) (k := 2) (ks_x hA) (by decide) (by decide) hxt lf_Ls_18 (by decide +kernel) ?_
  refine pw_iload_n (k4 := 1) rfl (by decide +kernel) ?_
  refine pq_callV (ν := m_Ta_hasPerson) (d' := 0) (av := [_]) (c := 7) (by decide +kernel) lm_Ls_162 ok_Ta_hasPerson (show _ = some 1 by decide +kernel) (ks_t hA ht) rfl (by decide) (by omega) (Nat.le_of_ble_eq_true rfl) (ct_Ta_hasPerson hA ht _) ?_
  rintro _ _ ⟨rfl, rfl⟩
  refine pn_ifB_eq (off := 26) (tgt := 34) (by decide +kernel) (by decide +kernel) (fun z8 => ?_) (fun z8 => ?_)
  · refine pw_iconst (n := -1) (v := -1) (by decide) (by decide +kernel) ?_
    exact pq_iret rfl (by decide +kernel) ⟨fun h => absurd h.1 z8, fun _ => ⟨rfl, rfl⟩⟩
  · refine pw_aload_n (k4 := 0) rfl (by decide +kernel) ?_
    refine pq_getP (c := 10) (k := 2) (ks_x hA) (by decide) (by decide) hxt lf_Ls_18 (by decide +kernel) ?_
    refine pw_iload_n (k4 := 2) rfl (by decide +kernel) ?_
    refine pq_callV (ν := m_Ta_hasPerson) (d' := 0) (av := [_]) (c := 7) (by decide +kernel) lm_Ls_162 ok_Ta_hasPerson (show _ = some 1 by decide +kernel) (ks_t hA ht) rfl (by decide) (by omega) (Nat.le_of_ble_eq_true rfl) (ct_Ta_hasPerson hA ht _) ?_
    rintro _ _ ⟨rfl, rfl⟩
    refine pn_ifB_eq (off := 15) (tgt := 34) (by decide +kernel) (by decide +kernel) (fun z19 => ?_) (fun z19 => ?_)
    · refine pw_iconst (n := -1) (v := -1) (by decide) (by decide +kernel) ?_
      exact pq_iret rfl (by decide +kernel) ⟨fun h => absurd h.2.1 z19, fun _ => ⟨rfl, rfl⟩⟩
    · refine pw_iload_n (k4 := 1) rfl (by decide +kernel) ?_
      refine pw_iload_n (k4 := 2) rfl (by decide +kernel) ?_
      refine pw_icmp_eq (off := 10) (tgt := 34) (by decide +kernel) (by decide +kernel) (fun z24 => ?_) (fun z24 => ?_)
      · refine pw_iconst (n := -1) (v := -1) (by decide) (by decide +kernel) ?_
        exact pq_iret rfl (by decide +kernel) ⟨fun h => absurd z24 h.2.2.1, fun _ => ⟨rfl, rfl⟩⟩
      · refine pw_iload_n (k4 := 3) rfl (by decide +kernel) ?_
        refine pq_callS (ν := m_Ls_isPrice) (d' := 0) (av := [_]) (by decide +kernel) lm_Ls_221 ok_Ls_isPrice (show _ = some 1 by decide +kernel) (by omega) (Nat.le_of_ble_eq_true rfl) (ct_Ls_isPrice _) ?_
        rintro _ _ ⟨rfl, rfl⟩
        refine pn_ifB_ne (off := 5) (tgt := 36) (by decide +kernel) (by decide +kernel) (fun z31 => ?_) (fun z31 => ?_)
        · obtain ⟨n, hn1, hn2, rfl⟩ := xPrice_n z31
          refine pw_aload_n (k4 := 0) rfl (by decide +kernel) ?_
          refine pq_getP (c := 10) (k := 7) (ks_x hA) (by decide) (by decide) hxw lf_Ls_43 (by decide +kernel) ?_
          refine pw_iload_n (k4 := 1) rfl (by decide +kernel) ?_
          refine pw_iload_n (k4 := 3) rfl (by decide +kernel) ?_
          refine pq_callV (ν := m_Wo_shoesFor) (d' := 4) (av := [_, _]) (c := 9) (by decide +kernel) lm_Ls_224 ok_Wo_shoesFor (show _ = some 2 by decide +kernel) (ks_w hA hw) rfl (by decide) (by omega) (Nat.le_of_ble_eq_true rfl) (ct_Wo_shoesFor hA hw ht hwt hn hl _ n hn1 hn2) ?_
          rintro _ _ ⟨rfl, f, L', rfl⟩
          refine pq_istore (i := 4) (Nat.le_of_ble_eq_true rfl) rfl (by decide +kernel) ?_
          refine pw_iload (i := 4) rfl (by decide +kernel) ?_
          refine pw_bipush (n := -2) (v := -2) (by decide) (by decide +kernel) ?_
          refine pw_icmp_eq (off := 24) (tgt := 75) (by decide +kernel) (by decide +kernel) (fun z51 => ?_) (fun z51 => ?_)
          · refine pw_iload (i := 4) rfl (by decide +kernel) ?_
            exact pq_iret rfl (by decide +kernel) ⟨fun _ => ⟨congrArg (fun z => some (Value.int z)) (by rw [ixn_nI (by omega)]), f, L', by rw [ixn_nI (by omega), if_pos z51]⟩, fun h => absurd ⟨z8, z19, z24, z31⟩ h⟩
          · refine pw_aload_n (k4 := 0) rfl (by decide +kernel) ?_
            refine pq_getP (c := 10) (k := 11) (ks_x hA) (by decide) (by decide) (kp_x_history hA) lf_Ls_56 (by decide +kernel) ?_
            refine pw_aload_n (k4 := 0) rfl (by decide +kernel) ?_
            refine pq_getP (c := 10) (k := 7) (ks_x hA) (by decide) (by decide) hxw lf_Ls_43 (by decide +kernel) ?_
            refine pq_callV (ν := m_Hi_note) (d' := 1) (av := [_]) (c := 1) (by decide +kernel) lm_Ls_227 ok_Hi_note (show _ = some 1 by decide +kernel) (ks_hi hA) rfl (by decide) (by omega) (Nat.le_of_ble_eq_true rfl) (ct_Hi_note hA hw (by rw [aU_ne (by decide)]; exact hnx) hnl (by rw [aU_ne (by decide)]; exact hsz) hsl) ?_
            rintro _ _ ⟨rfl, rfl⟩
            refine pw_aload_n (k4 := 0) rfl (by decide +kernel) ?_
            refine pq_getP (c := 10) (k := 7) (ks_x hA) (by decide) (by decide) hxw lf_Ls_43 (by decide +kernel) ?_
            refine pw_iload (i := 4) rfl (by decide +kernel) ?_
            refine pw_iload_n (k4 := 2) rfl (by decide +kernel) ?_
            refine pq_callV (ν := m_Wo_handOver) (d' := 3) (av := [_, _]) (c := 9) (by decide +kernel) lm_Ls_230 ok_Wo_handOver (show _ = some 2 by decide +kernel) (ks_w hA hw) rfl (by decide) (by omega) (Nat.le_of_ble_eq_true rfl) (ct_Wo_handOver hA hw ht hwt (tOK_cg ((xNote_lo (by omega)).trans (aU_ne (by omega))) hn) _ _) ?_
            rintro _ _ ⟨rfl, rfl⟩
            refine pw_iload (i := 4) rfl (by decide +kernel) ?_
            exact pq_iret rfl (by decide +kernel) ⟨fun _ => ⟨congrArg (fun z => some (Value.int z)) (by rw [ixn_nI (by omega)]), f, L', by rw [ixn_nI (by omega), if_neg z51]⟩, fun h => absurd ⟨z8, z19, z24, z31⟩ h⟩
        · refine pw_iconst (n := -1) (v := -1) (by decide) (by decide +kernel) ?_
          exact pq_iret rfl (by decide +kernel) ⟨fun h => absurd h.2.2.2 z31, fun _ => ⟨rfl, rfl⟩⟩

theorem xDay_ne {I : Nat → Nat → Int32} {t w np ns nd a : Nat} (h : a < w ∨ w + 6 ≤ a) : xDay I t w np ns nd a = I a := by
  unfold xDay
  dsimp only
  rw [sI_ne (by omega)]
  have h1 : (if I w 2 = 0 then I else xWalk I t w (2 * np)) a = I a := by
    split
    · rfl
    · exact xWalk_ne (by omega) (by omega) (by omega) _
  split
  · exact h1
  · rw [xDebts_ne (by omega) (by omega) (by omega)]; exact h1
def xDays (I : Nat → Nat → Int32) (t w np ns nd : Nat) : Nat → Nat → Nat → Int32
  | 0 => I
  | k + 1 => xDay (xDays I t w np ns nd k) t w np ns nd
theorem xDays_ne {I : Nat → Nat → Int32} {t w np ns nd a : Nat} (h : a < w ∨ w + 6 ≤ a) : ∀ n, xDays I t w np ns nd n a = I a
  | 0 => rfl
  | n + 1 => by unfold xDays; rw [xDay_ne h]; exact xDays_ne h n
theorem dOK_cg {I J : Nat → Nat → Int32} {t nd : Nat} (h : J (t + 13) = I (t + 13)) (hd : dOK I t nd) : dOK J t nd := by
  intro k hk
  rw [h]
  exact hd k hk
def rDs (I : Nat → Nat → Int32) (P : Nat → Nat → Option Nat) (t w np ns nd n : Nat) : Option Value → pM → Prop := fun r M => r = some (.int (xDays I t w np ns nd n w 1)) ∧ ∃ I' L', M = (I', L', P) ∧ o61 I' (if n = 0 then I else sI (sI (xDays I t w np ns nd n) 80 0 0) 80 1 0)

theorem ct_Ls_days {sh : List pSh} {I : Nat → Nat → Int32} {L : Nat → Nat → Int64} {P : Nat → Nat → Option Nat} (hA : kA sh P) {w t : Nat} (hw : w = 62 ∨ w = 68 ∨ w = 74) (ht : t = 3 ∨ t = 30) (hwt : P w 0 = some t) (hxt : P 1 2 = some t) (hxw : P 1 7 = some w) {np ns nd : Nat} (hn : tOK I t np ns nd) (hl : lOK I t) (hd : dOK I t nd) (q : Int32) : pCn m_Ls_days 6 [.ref 1, .int q] sh (I, L, P) (rIf (0 ≤ q ∧ q ≤ 50 ∧ I w 1 + q ≤ 999) (rDs I P t w np ns nd (ixn q)) (rI (-1) (I, L, P))) := by
  refine pCn_of (by decide +kernel) (Nat.le_of_ble_eq_true rfl) ?_
  have hL : ∀ n, (0 ≤ nI n ∧ nI n ≤ 50 ∧ I w 1 + nI n ≤ 999) → n ≤ 50 → ∀ k, k ≤ n → ∀ (J : Nat → Nat → Int32) (L0 : Nat → Nat → Int64), o61 J (xDays I t w np ns nd k) → pWn m_Ls_days 6 sh (rIf (0 ≤ nI n ∧ nI n ≤ 50 ∧ I w 1 + nI n ≤ 999) (rDs I P t w np ns nd (ixn (nI n))) (rI (-1) (I, L, P))) 29 [some (.ref 1), some (.int (nI n)), some (.int (nI k))] [] (J, L0, P) := fun n hc hn5 => pUpTo n _ (by
    intro k hk ih J L0 hJ
    refine pw_iload_n (k4 := 2) rfl (by decide +kernel) ?_
    refine pw_iload_n (k4 := 1) rfl (by decide +kernel) ?_
    refine pn_icmp_ge (off := 16) (tgt := 47) k n rfl rfl (by omega) (by omega) (by decide +kernel) (by decide +kernel) (fun z31 => ?_) (fun z31 => ?_)
    · obtain rfl : k = n := by omega
      refine pw_iload_n (k4 := 1) rfl (by decide +kernel) ?_
      refine pn_if_le (off := 10) (tgt := 58) k rfl (by omega) (by decide +kernel) (by decide +kernel) (fun z48 => ?_) (fun z48 => ?_)
      · refine pw_aload_n (k4 := 0) rfl (by decide +kernel) ?_
        refine pq_getP (c := 10) (k := 7) (ks_x hA) (by decide) (by decide) hxw lf_Ls_43 (by decide +kernel) ?_
        refine pq_getI (c := 9) (k := 1) (ks_w hA hw) (by decide) (by decide) lf_Ls_214 (by decide +kernel) ?_
        exact pq_iret rfl (by decide +kernel) ⟨fun _ => ⟨congrArg (fun z => some (Value.int z)) (by rw [hJ w (by omega), ixn_nI (by omega)]), J, _, rfl, by rw [ixn_nI (by omega)]; obtain rfl : k = 0 := (by omega); exact hJ⟩, fun h => absurd hc h⟩
      · refine pw_aload_n (k4 := 0) rfl (by decide +kernel) ?_
        refine pq_getP (c := 10) (k := 11) (ks_x hA) (by decide) (by decide) (kp_x_history hA) lf_Ls_56 (by decide +kernel) ?_
        refine pq_callV (ν := m_Hi_clear) (d' := 0) (av := []) (c := 1) (by decide +kernel) lm_Ls_113 ok_Hi_clear (show _ = some 0 by decide +kernel) (ks_hi hA) rfl (by decide) (by omega) (Nat.le_of_ble_eq_true rfl) (ct_Hi_clear hA) ?_
        rintro _ _ ⟨rfl, rfl⟩
        refine pw_aload_n (k4 := 0) rfl (by decide +kernel) ?_
        refine pq_getP (c := 10) (k := 7) (ks_x hA) (by decide) (by decide) hxw lf_Ls_43 (by decide +kernel) ?_
        refine pq_getI (c := 9) (k := 1) (ks_w hA hw) (by decide) (by decide) lf_Ls_214 (by decide +kernel) ?_
        exact pq_iret rfl (by decide +kernel) ⟨fun _ => ⟨congrArg (fun z => some (Value.int z)) (by rw [sI_ne (by omega), sI_ne (by omega), hJ w (by omega), ixn_nI (by omega)]), _, _, rfl, by rw [ixn_nI (by omega), if_neg (by omega)]; exact (hJ.sI (by decide) _ _).sI (by decide) _ _⟩, fun h => absurd hc h⟩
    · refine pw_aload_n (k4 := 0) rfl (by decide +kernel) ?_
      refine pq_getP (c := 10) (k := 7) (ks_x hA) (by decide) (by decide) hxw lf_Ls_43 (by decide +kernel) ?_
      refine pq_callV (ν := m_Wo_passDay) (d' := 5) (av := []) (c := 9) (by decide +kernel) lm_Ls_243 ok_Wo_passDay (show _ = some 0 by decide +kernel) (ks_w hA hw) rfl (by decide) (by omega) (Nat.le_of_ble_eq_true rfl) (ct_Wo_passDay hA hw ht hwt hJ (tOK_cg (xDays_ne (by omega) k) hn) (lOK_cg (xDays_ne (by omega) k) (xDays_ne (by omega) k) hl) (dOK_cg (xDays_ne (by omega) k) hd)) ?_
      rintro _ _ ⟨rfl, I', L', rfl, hJ2⟩
      refine pn_iinc (i := 2) (n := 1) 1 k rfl rfl (by decide) rfl (by decide +kernel) ?_
      refine pw_goto (off := -15) (tgt := 29) (by decide +kernel) (by decide +kernel) ?_
      exact ih (by omega) I' L' hJ2
)
  refine pw_iload_n (k4 := 1) rfl (by decide +kernel) ?_
  refine pw_if_lt (off := 24) (tgt := 25) (by decide +kernel) (by decide +kernel) (fun z1 => ?_) (fun z1 => ?_)
  · refine pw_iconst (n := -1) (v := -1) (by decide) (by decide +kernel) ?_
    exact pq_iret rfl (by decide +kernel) ⟨fun h => absurd z1 (Int32.not_lt.mpr h.1), fun _ => ⟨rfl, rfl⟩⟩
  · refine pw_iload_n (k4 := 1) rfl (by decide +kernel) ?_
    refine pw_bipush (n := 50) (v := 50) (by decide) (by decide +kernel) ?_
    refine pw_icmp_gt (off := 18) (tgt := 25) (by decide +kernel) (by decide +kernel) (fun z7 => ?_) (fun z7 => ?_)
    · refine pw_iconst (n := -1) (v := -1) (by decide) (by decide +kernel) ?_
      exact pq_iret rfl (by decide +kernel) ⟨fun h => absurd z7 (Int32.not_lt.mpr h.2.1), fun _ => ⟨rfl, rfl⟩⟩
    · refine pw_aload_n (k4 := 0) rfl (by decide +kernel) ?_
      refine pq_getP (c := 10) (k := 7) (ks_x hA) (by decide) (by decide) hxw lf_Ls_43 (by decide +kernel) ?_
      refine pq_getI (c := 9) (k := 1) (ks_w hA hw) (by decide) (by decide) lf_Ls_214 (by decide +kernel) ?_
      refine pw_iload_n (k4 := 1) rfl (by decide +kernel) ?_
      refine pw_iadd (by decide +kernel) ?_
      refine pw_sipush (n := 999) (v := 999) (by decide) (by decide +kernel) ?_
      refine pw_icmp_le (off := 5) (tgt := 27) (by decide +kernel) (by decide +kernel) (fun z22 => ?_) (fun z22 => ?_)
      · obtain ⟨n, hn0, rfl⟩ := nI_of z1
        have hc : 0 ≤ nI n ∧ nI n ≤ 50 ∧ I w 1 + nI n ≤ 999 := ⟨Int32.not_lt.mp z1, Int32.not_lt.mp z7, z22⟩
        have hn5 : n ≤ 50 := (nI_leI hn0 (by decide)).mp hc.2.1
        refine pw_iconst (n := 0) (v := 0) (by decide) (by decide +kernel) ?_
        refine pq_istore_n (k4 := 2) (Nat.le_of_ble_eq_true rfl) rfl (by decide +kernel) ?_
        exact hL n hc hn5 0 (Nat.zero_le _) I L (o61.rf I)
      · refine pw_iconst (n := -1) (v := -1) (by decide) (by decide +kernel) ?_
        exact pq_iret rfl (by decide +kernel) ⟨fun h => absurd h.2.2 z22, fun _ => ⟨rfl, rfl⟩⟩
