/-! ===== the class: text ===== -/
/-- what text leaves: Z is the memory behind the reading -/
def rTxt (b : Bool) (Kf I : Nat → Nat → Int32) (L : Nat → Nat → Int64) (P : Nat → Nat → Option Nat) (t0 t1 m0 : Nat) : Option Value → pM → Prop := fun r M => ∃ Z, frL t1 (sI I 1 1 0) Z ∧ (b = false → Z 57 1 = Kf 134 4 ∧ Z 57 2 = Kf 134 5 ∧ r = some (.int (-1)) ∧ M = (sI (sI Z 1 5 (Z 57 1)) 1 6 (Z 57 2), L, (sP (sP P 57 5 t1) 58 3 2))) ∧ (b = true → Z 57 1 = 0 ∧ Z 57 2 = -1 ∧ (∃ pr sr dr rr kr, lnC Kf pr sr dr rr kr ∧ txD Z Kf t1 pr sr dr rr kr) ∧ r = some (.int (nI m0)) ∧ M = (kpX Z t1, L, (sP (sP (sP (sP (sP P 57 5 t1) 58 3 2) 1 2 t1) 1 3 t0) 62 0 t1)))
set_option maxHeartbeats 4000000 in
theorem ct_Ls_text {sh : List pSh} {I : Nat → Nat → Int32} {L : Nat → Nat → Int64} {P : Nat → Nat → Option Nat} (hA : kA sh P) {t0 t1 tp : Nat} (ht1 : t1 = 3 ∨ t1 = 30) (hxt : P 1 2 = some t0) (hxs : P 1 3 = some t1) (htp : I 1 1 = nI tp) (hw60 : ∀ w, w < 25 → I 60 w = nI (rfW (wmN w))) (q : Int32) (Q : Option Value → pM → Prop)
    (hgo : (¬ q < 0 ∧ q ≤ nI tp) → ∃ (n : Nat) (J Je Kf : Nat → Nat → Int32) (m0 : Nat) (b : Bool), q = nI n ∧ n ≤ 700 ∧ (∀ k, k < n → I 2 k = sgB (bT J k) ∧ bT J k < 256) ∧ J 134 6 = nI n ∧ J 134 7 = nI 0 ∧ (J 134 22 = 0 ∧ (∀ p, p < 5 → J 141 (5 + p) < 0) ∧ (∀ r, r < 3 → J 152 (3 + r) = 0)) ∧ lnC J 0 0 0 0 0 ∧ txC m0 (yTok J) Je ∧ txE b Je Kf ∧ ∀ r M, rTxt b Kf I L P t0 t1 m0 r M → Q r M) : pCn m_Ls_text 128 [.ref 1, .int q] sh (I, L, P) (rIf (¬ q < 0 ∧ q ≤ nI tp) Q (rI (-2) (I, L, P))) := by
  refine pCn_of (by decide +kernel) (Nat.le_of_ble_eq_true rfl) ?_
  refine pw_iload_n (k4 := 1) rfl (by decide +kernel) ?_
  refine pw_if_lt (off := 11) (tgt := 12) (by decide +kernel) (by decide +kernel) (fun z1 => ?_) (fun z1 => ?_)
  · have hno : ¬ (¬ q < 0 ∧ q ≤ nI tp) := fun w => w.1 z1
    refine pw_bipush (n := -2) (v := -2) (by decide) (by decide +kernel) ?_
    exact pq_iret rfl (by decide +kernel) ⟨fun w => absurd w hno, fun _ => ⟨rfl, rfl⟩⟩
  · refine pw_iload_n (k4 := 1) rfl (by decide +kernel) ?_
    refine pw_aload_n (k4 := 0) rfl (by decide +kernel) ?_
    refine pq_getI (c := 10) (k := 1) (ks_x hA) (by decide) (by decide) lf_Ls_87 (by decide +kernel) ?_
    refine pn_val (nI tp) htp ?_
    refine pw_icmp_le (off := 6) (tgt := 15) (by decide +kernel) (by decide +kernel) (fun z9 => ?_) (fun z9 => ?_)
    · have hgd : ¬ q < 0 ∧ q ≤ nI tp := ⟨z1, z9⟩
      obtain ⟨n, J, Je, Kf, m0, b, hqn, hn, hb, h6, h7, hj, hlC, hC, hE, hpost⟩ := hgo hgd
      subst hqn
      refine pw_aload_n (k4 := 0) rfl (by decide +kernel) ?_
      refine pw_iconst (n := 0) (v := 0) (by decide) (by decide +kernel) ?_
      refine pq_putI (c := 10) (k := 1) (ks_x hA) (by decide) (by decide) lf_Ls_87 (Or.inl rfl) (by decide +kernel) ?_
      refine pw_aload_n (k4 := 0) rfl (by decide +kernel) ?_
      refine pq_getP (c := 10) (k := 4) (ks_x hA) (by decide) (by decide) (kp_x_scribe hA) lf_Ls_30 (by decide +kernel) ?_
      refine pw_aload_n (k4 := 0) rfl (by decide +kernel) ?_
      refine pq_getP (c := 10) (k := 0) (ks_x hA) (by decide) (by decide) (kp_x_tape hA) lf_Ls_11 (by decide +kernel) ?_
      refine pw_iload_n (k4 := 1) rfl (by decide +kernel) ?_
      refine pw_aload_n (k4 := 0) rfl (by decide +kernel) ?_
      refine pq_getP (c := 10) (k := 3) (ks_x hA) (by decide) (by decide) hxs lf_Ls_22 (by decide +kernel) ?_
      refine pq_callV (ν := m_Sc_write) (d' := 127) (av := [_, _, _]) (c := 4) (by decide +kernel) lm_Ls_94 ok_Sc_write (show _ = some 3 by decide +kernel) (ks_sc hA) rfl (by decide) (by omega) (Nat.le_of_ble_eq_true rfl) (ct_Sc_write hA (J := J) (Je := Je) (Kf := Kf) (m0 := m0) (b := b) hn ht1 (fun k hk => by rw [sI_ne (by decide)]; exact hb k hk) (fun w hw => by rw [sI_ne (by decide)]; exact hw60 w hw) h6 h7 hj hlC hC hE) ?_
      rintro _ _ ⟨Z, rfl, rfl, hF, hZ0, hZ1⟩
      have hA1 : kA sh (sP P 57 5 t1) := kA_sP hA t1 kPs_57
      have hA : kA sh (sP (sP P 57 5 t1) 58 3 2) := kA_sP hA1 2 kPs_58
      have hxt : (sP (sP P 57 5 t1) 58 3 2) 1 2 = some t0 := by rw [sP_o (by decide), sP_o (by decide)]; exact hxt
      have hxs : (sP (sP P 57 5 t1) 58 3 2) 1 3 = some t1 := by rw [sP_o (by decide), sP_o (by decide)]; exact hxs
      refine pq_istore_n (k4 := 2) (Nat.le_of_ble_eq_true rfl) rfl (by decide +kernel) ?_
      refine pw_aload_n (k4 := 0) rfl (by decide +kernel) ?_
      refine pw_aload_n (k4 := 0) rfl (by decide +kernel) ?_
      refine pq_getP (c := 10) (k := 4) (ks_x hA) (by decide) (by decide) (kp_x_scribe hA) lf_Ls_30 (by decide +kernel) ?_
      refine pq_getI (c := 4) (k := 1) (ks_sc hA) (by decide) (by decide) lf_Ls_98 (by decide +kernel) ?_
      refine pq_putI (c := 10) (k := 5) (ks_x hA) (by decide) (by decide) lf_Ls_101 (Or.inl rfl) (by decide +kernel) ?_
      refine pw_aload_n (k4 := 0) rfl (by decide +kernel) ?_
      refine pw_aload_n (k4 := 0) rfl (by decide +kernel) ?_
      refine pq_getP (c := 10) (k := 4) (ks_x hA) (by decide) (by decide) (kp_x_scribe hA) lf_Ls_30 (by decide +kernel) ?_
      refine pq_getI (c := 4) (k := 2) (ks_sc hA) (by decide) (by decide) lf_Ls_104 (by decide +kernel) ?_
      refine pq_putI (c := 10) (k := 6) (ks_x hA) (by decide) (by decide) lf_Ls_34 (Or.inl rfl) (by decide +kernel) ?_
      refine pw_iload_n (k4 := 2) rfl (by decide +kernel) ?_
      refine pw_if_ne (off := 5) (tgt := 65) (by decide +kernel) (by decide +kernel) (fun z60 => ?_) (fun z60 => ?_)
      · have hbt := bI_1 z60
        subst hbt
        obtain ⟨y0, y1, y2, y3⟩ := hZ1 rfl
        refine pw_aload_n (k4 := 0) rfl (by decide +kernel) ?_
        refine pq_getP (c := 10) (k := 2) (ks_x hA) (by decide) (by decide) hxt lf_Ls_18 (by decide +kernel) ?_
        refine pq_astore_n (k4 := 3) (Nat.le_of_ble_eq_true rfl) rfl (by decide +kernel) ?_
        refine pw_aload_n (k4 := 0) rfl (by decide +kernel) ?_
        refine pw_aload_n (k4 := 0) rfl (by decide +kernel) ?_
        refine pq_getP (c := 10) (k := 3) (ks_x hA) (by decide) (by decide) hxs lf_Ls_22 (by decide +kernel) ?_
        refine pq_putP (c := 10) (k := 2) (ks_x hA) (by decide) (by decide) lf_Ls_18 (Or.inl rfl) (by decide +kernel) ?_
        have hA5 : kA sh (sP (sP (sP P 57 5 t1) 58 3 2) 1 2 t1) := kA_sP hA t1 kPs_1t
        refine pw_aload_n (k4 := 0) rfl (by decide +kernel) ?_
        refine pw_aload_n (k4 := 3) rfl (by decide +kernel) ?_
        refine pq_putP (c := 10) (k := 3) (ks_x hA) (by decide) (by decide) lf_Ls_22 (Or.inl rfl) (by decide +kernel) ?_
        have hA4 : kA sh (sP (sP (sP (sP P 57 5 t1) 58 3 2) 1 2 t1) 1 3 t0) := kA_sP (kA_sP hA t1 kPs_1t) t0 kPs_1s
        have hA := hA4
        have hxt : (sP (sP (sP (sP P 57 5 t1) 58 3 2) 1 2 t1) 1 3 t0) 1 2 = some t1 := by rw [sP_k (by decide), sP_at]
        refine pw_aload_n (k4 := 0) rfl (by decide +kernel) ?_
        refine pq_getP (c := 10) (k := 7) (ks_x hA) (by decide) (by decide) (kp_x_world hA) lf_Ls_43 (by decide +kernel) ?_
        refine pw_aload_n (k4 := 0) rfl (by decide +kernel) ?_
        refine pq_getP (c := 10) (k := 2) (ks_x hA) (by decide) (by decide) hxt lf_Ls_18 (by decide +kernel) ?_
        refine pq_callV (ν := m_Wo_begin) (d' := 0) (av := [_]) (c := 9) (by decide +kernel) lm_Ls_107 ok_Wo_begin (show _ = some 1 by decide +kernel) (ks_w hA (Or.inl rfl)) rfl (by decide) (by omega) (Nat.le_of_ble_eq_true rfl) (ct_Wo_begin hA (Or.inl rfl) ht1) ?_
        rintro _ _ ⟨rfl, rfl⟩
        have hA8 : kA sh (sP (sP (sP (sP (sP P 57 5 t1) 58 3 2) 1 2 t1) 1 3 t0) 62 0 t1) := kA_sP hA t1 (kPs_w (Or.inl rfl))
        have hA := hA8
        refine pw_aload_n (k4 := 0) rfl (by decide +kernel) ?_
        refine pq_getP (c := 10) (k := 12) (ks_x hA) (by decide) (by decide) (kp_x_tracks hA) lf_Ls_63 (by decide +kernel) ?_
        refine pq_callV (ν := m_Tr_clear) (d' := 0) (av := []) (c := 8) (by decide +kernel) lm_Ls_110 ok_Tr_clear (show _ = some 0 by decide +kernel) (ks_tr hA) rfl (by decide) (by omega) (Nat.le_of_ble_eq_true rfl) (ct_Tr_clear hA8) ?_
        rintro _ _ ⟨rfl, rfl⟩
        refine pw_aload_n (k4 := 0) rfl (by decide +kernel) ?_
        refine pq_getP (c := 10) (k := 11) (ks_x hA) (by decide) (by decide) (kp_x_history hA) lf_Ls_56 (by decide +kernel) ?_
        refine pq_callV (ν := m_Hi_clear) (d' := 0) (av := []) (c := 1) (by decide +kernel) lm_Ls_113 ok_Hi_clear (show _ = some 0 by decide +kernel) (ks_hi hA) rfl (by decide) (by omega) (Nat.le_of_ble_eq_true rfl) (ct_Hi_clear hA8) ?_
        rintro _ _ ⟨rfl, rfl⟩
        refine pw_aload_n (k4 := 0) rfl (by decide +kernel) ?_
        refine pw_iconst (n := 0) (v := 0) (by decide) (by decide +kernel) ?_
        refine pq_putZ (c := 10) (k := 10) (ks_x hA) (by decide) (by decide) (Or.inl rfl) lf_Ls_114 (Or.inl rfl) (by decide +kernel) ?_
        refine pw_aload_n (k4 := 0) rfl (by decide +kernel) ?_
        refine pq_getP (c := 10) (k := 4) (ks_x hA) (by decide) (by decide) (kp_x_scribe hA) lf_Ls_30 (by decide +kernel) ?_
        refine pq_getI (c := 4) (k := 0) (ks_sc hA) (by decide) (by decide) lf_Ls_118 (by decide +kernel) ?_
        exact pq_iret rfl (by decide +kernel) ⟨fun _ => hpost _ _ ⟨Z, hF, fun w => (by cases w), fun _ => ⟨y1, y2, y3, by rw [← y0]; rfl, rfl⟩⟩, fun w => absurd hgd w⟩
      · have hbf := bI_0 (by simpa using z60)
        subst hbf
        obtain ⟨y1, y2⟩ := hZ0 rfl
        refine pw_iconst (n := -1) (v := -1) (by decide) (by decide +kernel) ?_
        exact pq_iret rfl (by decide +kernel) ⟨fun _ => hpost _ _ ⟨Z, hF, fun _ => ⟨y1, y2, rfl, by rw [show sI Z 1 5 (Z 57 1) 57 2 = Z 57 2 from by rw [sI_ne (by decide)]]⟩, fun w => by cases w⟩, fun w => absurd hgd w⟩
    · have hno : ¬ (¬ q < 0 ∧ q ≤ nI tp) := fun w => z9 w.2
      refine pw_bipush (n := -2) (v := -2) (by decide) (by decide +kernel) ?_
      exact pq_iret rfl (by decide +kernel) ⟨fun w => absurd w hno, fun _ => ⟨rfl, rfl⟩⟩

