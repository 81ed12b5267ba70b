/-! ===== the class: a text is read beside the reference ===== -/
/-- m lines are read from I on, the first one first -/
def txC : Nat → (Nat → Nat → Int32) → (Nat → Nat → Int32) → Prop
  | 0, I, J => J = I
  | m + 1, I, J => ∃ K pr sr dr rr kr, lnC I pr sr dr rr kr ∧ ¬ I 134 8 = 0 ∧ lnR I pr sr dr rr kr true K ∧ txC m K J
theorem txC_snoc : ∀ {m : Nat} {I K J : Nat → Nat → Int32} {pr sr dr rr kr : Nat}, txC m I K → lnC K pr sr dr rr kr → ¬ K 134 8 = 0 → lnR K pr sr dr rr kr true J → txC (m + 1) I J
  | 0, I, K, J, pr, sr, dr, rr, kr, h, h1, h2, h3 => by
    have e : K = I := h
    subst e
    exact ⟨J, pr, sr, dr, rr, kr, h1, h2, h3, rfl⟩
  | m + 1, I, K, J, pr, sr, dr, rr, kr, h, h1, h2, h3 => by
    obtain ⟨K1, a, b, c, d, e, k1, k2, k3, k4⟩ := h
    exact ⟨K1, a, b, c, d, e, k1, k2, k3, txC_snoc k4 h1 h2 h3⟩
theorem txS_C : ∀ {j : Nat} {I J : Nat → Nat → Int32}, txS j I J → txC j I J
  | 0, I, J, h => h
  | j + 1, I, J, h => by
    obtain ⟨K, pr, sr, dr, rr, kr, h1, h2, h3, h4⟩ := h
    exact txC_snoc (txS_C h1) h2 h3 h4
theorem lnC_of {K X : Nat → Nat → Int32} {t a b c d e pr sr dr rr kr : Nat} (h : lnC K a b c d e) (hc : cnE K pr sr dr rr kr) (hd : txD X K t pr sr dr rr kr) : lnC K pr sr dr rr kr := by
  obtain ⟨h1, ⟨h2, h2'⟩, ⟨h3, h3'⟩, ⟨h4, h4'⟩, ⟨h5, h5'⟩, h6, h7, h8⟩ := h
  obtain ⟨c1, c2, c3, c4, c5⟩ := hc
  have b1 := hd.2.1.2.1
  have b2 := hd.2.1.2.2.2.1
  have b3 := hd.2.1.2.2.2.2.2
  have b4 := hd.2.2.2.2.2.2.1.2.1
  have b5 := hd.2.2.2.2.2.2.2.2.2.1
  have e5 : e = kr := (nI_eq (by omega) (by omega)).mp (h6.symm.trans c5)
  exact ⟨h1, ⟨c1, b1⟩, ⟨c2, b2⟩, ⟨c3, b3⟩, ⟨c4, b4⟩, c5, by rw [h7, e5], b5⟩
/-- a draft that has just been cleared -/
theorem txD_0 {I X J : Nat → Nat → Int32} {t : Nat} (ht : t = 3 ∨ t = 30) (hx : ∀ a, t ≤ a → a < t + 25 → X a = taC I t a) (h3 : X 57 3 = 0) (j22 : J 134 22 = 0) (j141 : ∀ p, p < 5 → J 141 (5 + p) < 0) (j152 : ∀ r, r < 3 → J 152 (3 + r) = 0) : txD X J t 0 0 0 0 0 := by
  have e0 : taC I t t = upd (upd (upd (I t) 0 0) 6 0) 12 0 := by
    unfold taC laC swC
    (repeat first | rw [aU_ne (by omega)] | rw [sI_ne (by omega)])
    rw [sI_eq, sI_eq, sI_eq]
  have e5 : taC I t (t + 5) = fil (fun _ => 0) (I (t + 5)) 5 := by
    unfold taC laC swC
    (repeat first | rw [aU_ne (by omega)] | rw [sI_ne (by omega)])
    rw [aU_eq]
  have e15 : taC I t (t + 15) 0 = 0 := by
    unfold taC laC swC
    (repeat first | rw [aU_ne (by omega)] | rw [sI_ne (by omega)])
    rw [sI_rs]
  have e17 : ∀ k, k < 36 → taC I t (t + 17) k = 0 := fun k hk => by
    unfold taC laC swC
    rw [aU_ne (by omega), sI_ne (by omega), sI_ne (by omega), aU_eq, fil_at hk]
  have e19 : taC I t (t + 19) 0 = 0 ∧ taC I t (t + 19) 1 = 0 := by
    unfold taC laC
    rw [aU_ne (by omega)]
    exact ⟨by rw [sI_rd (by decide), sI_rs], sI_rs⟩
  have e24 : ∀ r, r < 3 → taC I t (t + 24) r = 0 := fun r hr => by
    unfold taC laC
    rw [aU_eq, fil_at hr]
  refine ⟨by rw [h3, j22], ⟨by rw [hx t (by omega) (by omega), e0]; rfl, by decide, by rw [hx t (by omega) (by omega), e0]; rfl, by decide, by rw [hx t (by omega) (by omega), e0]; rfl, by decide⟩, fun p hp => absurd hp (Nat.not_lt_zero p), fun p hp => absurd hp (Nat.not_lt_zero p), fun p hp => absurd hp (Nat.not_lt_zero p), fun p hp => Or.inl ⟨j141 p hp, by rw [hx _ (by omega) (by omega), e5, fil_at hp]⟩, ⟨by rw [hx _ (by omega) (by omega)]; exact e15, by decide, fun k hk => absurd hk (Nat.not_lt_zero k), fun a b ha hb _ => by rw [hx _ (by omega) (by omega)]; exact e17 _ (by omega), fun k k' hk => absurd hk (Nat.not_lt_zero k)⟩, by rw [hx _ (by omega) (by omega)]; exact e19.1, by rw [hx _ (by omega) (by omega)]; exact e19.2, by decide, fun r hr => Or.inl ⟨by rw [hx _ (by omega) (by omega)]; exact e24 r hr, j152 (lr r) (lr_3 r hr)⟩⟩
/-- how the reference's text ends: b tells whether it was taken, Kf the memory then -/
def txE (b : Bool) (Je Kf : Nat → Nat → Int32) : Prop := (b = true ∧ Je 134 8 = 0 ∧ Kf = Je) ∨ (b = false ∧ ∃ pr sr dr rr kr, lnC Je pr sr dr rr kr ∧ ¬ Je 134 8 = 0 ∧ lnR Je pr sr dr rr kr false Kf)
theorem tx_next {m pr sr dr rr kr : Nat} {b : Bool} {K Je Kf : Nat → Nat → Int32} (h : txC m K Je) (he : txE b Je Kf) (hc : lnC K pr sr dr rr kr) (hk : ¬ K 134 8 = 0) : ∃ b' K', lnR K pr sr dr rr kr b' K' ∧ ((b' = true ∧ ∃ c, m = c + 1 ∧ txC c K' Je) ∨ (b' = false ∧ b = false ∧ Kf = K')) := by
  cases m with
  | zero =>
    have e : Je = K := h
    subst e
    rcases he with ⟨_, w, _⟩ | ⟨hb, a1, a2, a3, a4, a5, k1, k2, k3⟩
    · exact absurd w hk
    · obtain ⟨rfl, rfl, rfl, rfl, rfl⟩ := lnC_uq hc k1
      exact ⟨false, Kf, k3, Or.inr ⟨rfl, hb, rfl⟩⟩
  | succ c =>
    obtain ⟨K', a1, a2, a3, a4, a5, k1, k2, k3, k4⟩ := h
    obtain ⟨rfl, rfl, rfl, rfl, rfl⟩ := lnC_uq hc k1
    exact ⟨true, K', k3, Or.inl ⟨rfl, c, rfl, k4⟩⟩
theorem tx_end {m : Nat} {b : Bool} {K Je Kf : Nat → Nat → Int32} (h : txC m K Je) (he : txE b Je Kf) (hk : K 134 8 = 0) : m = 0 ∧ b = true ∧ Kf = K := by
  cases m with
  | zero =>
    have e : Je = K := h
    subst e
    rcases he with ⟨hb, _, w⟩ | ⟨hb, a1, a2, a3, a4, a5, k1, k2, k3⟩
    · exact ⟨rfl, hb, w⟩
    · exact absurd hk k2
  | succ c =>
    obtain ⟨K', a1, a2, a3, a4, a5, k1, k2, k3, k4⟩ := h
    exact absurd hk k2
/-- where the class stands when i lines are read -/
def wrI (I0 I K : Nat → Nat → Int32) (n t i pr sr dr rr kr : Nat) : Prop := rdR I K n ∧ I 57 0 = nI i ∧ I 57 1 = 0 ∧ I 57 2 = -1 ∧ txD I K t pr sr dr rr kr ∧ lnC K pr sr dr rr kr ∧ (¬ K 134 8 = 0 → i ≤ ixn (K 134 7)) ∧ frL t I0 I ∧ i ≤ 2 * n + 2
def wrQ (b : Bool) (Kf I : Nat → Nat → Int32) (L : Nat → Nat → Int64) (P : Nat → Nat → Option Nat) (t m0 : Nat) : Option Value → pM → Prop := fun r M => ∃ I', r = some (.int (bI b)) ∧ M = (I', L, P) ∧ frL t I I' ∧ (b = false → I' 57 1 = Kf 134 4 ∧ I' 57 2 = Kf 134 5) ∧ (b = true → I' 57 0 = nI m0 ∧ I' 57 1 = 0 ∧ I' 57 2 = -1 ∧ ∃ pr sr dr rr kr, lnC Kf pr sr dr rr kr ∧ txD I' Kf t pr sr dr rr kr)
theorem mu_pos {K K' : Nat → Nat → Int32} {n q q' i : Nat} (h : muG K' < muG K) (h6 : K 134 6 = nI n) (h6' : K' 134 6 = nI n) (hq : K 134 7 = nI q) (hq' : K' 134 7 = nI q') (hn : n ≤ 700) (hqn : q ≤ n) (hqn' : q' ≤ n) (hk : ¬ K 134 8 = 0) (hi : i ≤ ixn (K 134 7)) (hk' : ¬ K' 134 8 = 0) : i + 1 ≤ ixn (K' 134 7) := by
  unfold muG at h
  rw [h6, h6', hq, hq', ixn_nI (by omega), ixn_nI (by omega), ixn_nI (by omega), if_neg hk, if_neg hk'] at h
  rw [hq, ixn_nI (by omega)] at hi
  rw [hq', ixn_nI (by omega)]
  omega

set_option maxHeartbeats 4000000 in
theorem wr_loop {sh : List pSh} {L : Nat → Nat → Int64} {P : Nat → Nat → Option Nat} (hA : kA sh P) (hrb : P 58 3 = some 2) {n t m0 : Nat} (hn : n ≤ 700) (ht : t = 3 ∨ t = 30) (hst : P 57 5 = some t) {b : Bool} {Je Kf I0 : Nat → Nat → Int32} (hE : txE b Je Kf) : ∀ c, ∀ (i : Nat) (I K : Nat → Nat → Int32) (pr sr dr rr kr : Nat), i + c = m0 → txC c K Je → wrI I0 I K n t i pr sr dr rr kr → pWn m_Sc_write 127 sh (wrQ b Kf I0 L P t m0) 41 [some (.ref 57), some (.ref 2), some (.int (nI n)), some (.ref t)] [] (I, L, P) := by
  refine pDown (fun c => ∀ (i : Nat) (I K : Nat → Nat → Int32) (pr sr dr rr kr : Nat), i + c = m0 → txC c K Je → wrI I0 I K n t i pr sr dr rr kr → pWn m_Sc_write 127 sh (wrQ b Kf I0 L P t m0) 41 [some (.ref 57), some (.ref 2), some (.int (nI n)), some (.ref t)] [] (I, L, P)) ?_
  intro c ih i I K pr sr dr rr kr hic hC hw
  obtain ⟨w1, w2, w3, w4, w5, w6, w7, w8, w9⟩ := hw
  obtain ⟨-, -, ⟨q7, hqn, -, hq7⟩, -, h6, -, -, -⟩ := id w1
  refine pw_aload_n (k4 := 0) rfl (by decide +kernel) ?_
  refine pq_getI (c := 4) (k := 0) (ks_sc hA) (by decide) (by decide) lf_Sc_27 (by decide +kernel) ?_
  refine pn_val (nI (i)) w2 ?_
  refine pw_iload_n (k4 := 2) rfl (by decide +kernel) ?_
  refine pn_icmp_gt (off := 46) (tgt := 92) i n rfl rfl (by omega) (by omega) (by decide +kernel) (by decide +kernel) (fun z46 => ?_) (fun z46 => ?_)
  · have hk : K 134 8 = 0 := Classical.byContradiction fun w => by
      have q1 := w7 w
      rw [hq7, ixn_nI (by omega)] at q1
      omega
    obtain ⟨e1, e2, e3⟩ := tx_end hC hE hk
    subst e2 e3
    refine pw_iconst (n := 1) (v := 1) (by decide) (by decide +kernel) ?_
    exact pq_zret rfl (by decide) (by decide +kernel) ⟨I, rfl, rfl, w8, fun w => (by cases w), fun _ => ⟨by rw [w2, show i = m0 by omega], w3, w4, pr, sr, dr, rr, kr, w6, w5⟩⟩
  · refine pw_aload_n (k4 := 0) rfl (by decide +kernel) ?_
    refine pq_getP (c := 4) (k := 4) (ks_sc hA) (by decide) (by decide) (kp_sc_reader hA) lf_Sc_12 (by decide +kernel) ?_
    refine pq_getI (c := 3) (k := 0) (ks_re hA) (by decide) (by decide) lf_Sc_45 (by decide +kernel) ?_
    refine pw_bipush (n := 40) (v := 40) (by decide) (by decide +kernel) ?_
    refine pw_icmp_eq (off := 34) (tgt := 92) (by decide +kernel) (by decide +kernel) (fun z58 => ?_) (fun z58 => ?_)
    · have hk : K 134 8 = 0 := (tk_40 w1.1).mp z58
      obtain ⟨e1, e2, e3⟩ := tx_end hC hE hk
      subst e2 e3
      refine pw_iconst (n := 1) (v := 1) (by decide) (by decide +kernel) ?_
      exact pq_zret rfl (by decide) (by decide +kernel) ⟨I, rfl, rfl, w8, fun w => (by cases w), fun _ => ⟨by rw [w2, show i = m0 by omega], w3, w4, pr, sr, dr, rr, kr, w6, w5⟩⟩
    · have hk : ¬ K 134 8 = 0 := fun w => z58 ((tk_40 w1.1).mpr w)
      obtain ⟨b', K', hl, hb'⟩ := tx_next hC hE w6 hk
      refine pw_aload_n (k4 := 0) rfl (by decide +kernel) ?_
      refine pq_callV (ν := m_Sc_readLine) (d' := 126) (av := []) (c := 4) (by decide +kernel) lm_Sc_48 ok_Sc_readLine (show _ = some 0 by decide +kernel) (ks_sc hA) rfl (by decide) (by omega) (Nat.le_of_ble_eq_true rfl) (ct_Sc_readLine hA hrb w1 ht hst w3 w6.1 w5 ⟨w6.2.1.1, w6.2.2.1.1, w6.2.2.2.1.1, w6.2.2.2.2.1.1, w6.2.2.2.2.2.1⟩ hl) ?_
      rintro _ _ ⟨I62, b62, rfl, rfl, hF62, hN62, hT62⟩
      refine pw_if_eq (off := 12) (tgt := 77) (by decide +kernel) (by decide +kernel) (fun z65 => ?_) (fun z65 => ?_)
      · obtain ⟨e1, e2⟩ := hN62 (bI_0 z65)
        rcases hb' with ⟨y1, -⟩ | ⟨y1, y2, y3⟩
        · exact absurd (e1.symm.trans y1) (by decide)
        subst y2 y3
        refine pw_iconst (n := 0) (v := 0) (by decide) (by decide +kernel) ?_
        exact pq_zret rfl (by decide) (by decide +kernel) ⟨I62, rfl, rfl, w8.tr hF62, fun _ => ⟨e2.2.1, e2.2.2.1⟩, fun w => by cases w⟩
      · obtain ⟨G, rG, g1, g0, gN, gY⟩ := hT62 (bI_1 z65)
        refine pw_aload_n (k4 := 0) rfl (by decide +kernel) ?_
        refine pw_bipush (n := 27) (v := 27) (by decide) (by decide +kernel) ?_
        refine pq_callV (ν := m_Sc_take) (d' := 3) (av := [_]) (c := 4) (by decide +kernel) lm_Sc_52 ok_Sc_take (show _ = some 1 by decide +kernel) (ks_sc hA) rfl (by decide) (by omega) (Nat.le_of_ble_eq_true rfl) (ct_Sc_take hA hrb rG 27) ?_
        rintro _ _ ⟨I71, b71, rfl, rfl, hA71, hB71, hC71⟩
        refine pw_if_ne (off := 5) (tgt := 79) (by decide +kernel) (by decide +kernel) (fun z74 => ?_) (fun z74 => ?_)
        · obtain ⟨t1, t2, t3⟩ := hA71 (bI_1 z74)
          obtain ⟨y1, y2, pr', sr', dr', rr', kr', y3, y4⟩ := gY ((tk_sc rG.1).mp t1)
          rcases hb' with ⟨-, c1, y5, y6⟩ | ⟨y5, -⟩
          rotate_left
          · exact absurd (y1.symm.trans y5) (by decide)
          refine pw_aload_n (k4 := 0) rfl (by decide +kernel) ?_
          refine pw_dup rfl (by decide +kernel) ?_
          refine pq_getI (c := 4) (k := 0) (ks_sc hA) (by decide) (by decide) lf_Sc_27 (by decide +kernel) ?_
          refine pw_iconst (n := 1) (v := 1) (by decide) (by decide +kernel) ?_
          refine pw_iadd (by decide +kernel) ?_
          refine pq_putI (c := 4) (k := 0) (ks_sc hA) (by decide) (by decide) lf_Sc_27 (Or.inl rfl) (by decide +kernel) ?_
          refine pw_goto (off := -48) (tgt := 41) (by decide +kernel) (by decide +kernel) ?_
          obtain ⟨⟨a1, a2, a3, a4, a5, hC2⟩, hmu⟩ := lnR_ok w6 (y1 ▸ hl)
          have hC3 := lnC_of hC2 y3 y4
          have r2 := y2 I71 t2
          obtain ⟨-, -, ⟨q', hq'n, -, hq'⟩, -, h6', -, -, -⟩ := id r2
          have fX : ∀ a, t ≤ a → a < t + 25 → sI I71 57 0 (I71 57 0 + 1) a = I62 a := fun a _ _ => by rw [sI_ne (by omega), hC71 a (by omega) (by omega)]
          have x0 : I71 57 0 = nI i := by rw [t3, g0.1, w2]
          refine ih c1 y5 (i + 1) _ K' pr' sr' dr' rr' kr' (by omega) y6 ⟨rdR_sX r2 (by decide) _ _, by rw [sI_rs, x0]; exact (nI_succ i).symm, by rw [sI_rd (by decide), t3]; exact g1, by rw [sI_rd (by decide), t3, g0.2]; exact w4, txD_cg fX (by rw [sI_rd (by decide), t3]) (fun _ _ _ => rfl) rfl y4, hC3, fun w => mu_pos hmu h6 h6' hq7 hq' hn hqn hq'n hk (w7 hk) w, ((w8.tr hF62).tr (frL_57 ht hC71)).tr (frL_57 ht (fun a x1 _ => sI_ne x1)), ?_⟩
          have q1 := w7 hk
          rw [hq7, ixn_nI (by omega)] at q1
          omega
        · obtain ⟨t1, t2⟩ := hB71 (bI_0 z74)
          obtain ⟨y1, y2, y3⟩ := gN (fun w => t1 ((tk_sc rG.1).mpr w))
          rcases hb' with ⟨y5, -⟩ | ⟨-, y5, y6⟩
          · exact absurd (y1.symm.trans y5) (by decide)
          subst y5 y6
          refine pw_iconst (n := 0) (v := 0) (by decide) (by decide +kernel) ?_
          exact pq_zret rfl (by decide) (by decide +kernel) ⟨I71, rfl, rfl, (w8.tr hF62).tr (frL_57 ht hC71), fun _ => ⟨by rw [t2, (scRf_57 rG 1).1]; exact y2.symm, by rw [t2, (scRf_57 rG 1).2]; exact y3.symm⟩, fun w => by cases w⟩

theorem taC_o {I : Nat → Nat → Int32} {t a : Nat} (h : a < t ∨ t + 26 < a) : taC I t a = I a := by
  unfold taC laC swC
  (repeat first | rw [aU_ne (by omega)] | rw [sI_ne (by omega)])
theorem taC_22 {I : Nat → Nat → Int32} {t a : Nat} (h : a = t + 22 ∨ a = t + 23) : taC I t a = I a := by
  unfold taC laC swC
  (repeat first | rw [aU_ne (by omega)] | rw [sI_ne (by omega)])
set_option maxHeartbeats 4000000 in
theorem ct_Sc_write {sh : List pSh} {I : Nat → Nat → Int32} {L : Nat → Nat → Int64} {P : Nat → Nat → Option Nat} (hA : kA sh P) {J Je Kf : Nat → Nat → Int32} {n t m0 : Nat} {b : Bool} (hn : n ≤ 700) (ht : t = 3 ∨ t = 30) (hb : ∀ k, k < n → I 2 k = sgB (bT J k) ∧ bT J k < 256) (hw60 : ∀ w, w < 25 → I 60 w = nI (rfW (wmN w))) (h6 : J 134 6 = nI n) (h7 : J 134 7 = nI 0) (hj : J 134 22 = 0 ∧ (∀ p, p < 5 → J 141 (5 + p) < 0) ∧ (∀ r, r < 3 → J 152 (3 + r) = 0)) (hlC : lnC J 0 0 0 0 0) (hC : txC m0 (yTok J) Je) (hE : txE b Je Kf) : pCn m_Sc_write 127 [.ref 57, .ref 2, .int (nI n), .ref t] sh (I, L, P) (wrQ b Kf I L (sP (sP P 57 5 t) 58 3 2) t m0) := by
  refine pCn_of (by decide +kernel) (Nat.le_of_ble_eq_true rfl) ?_
  have hA1 : kA sh (sP P 57 5 t) := kA_sP hA t kPs_57
  have hA2 : kA sh (sP (sP P 57 5 t) 58 3 2) := kA_sP hA1 2 kPs_58
  have hst : sP P 57 5 t 57 5 = some t := sP_at
  have hz : ∀ a, a ≠ 57 → ((a < t ∨ t + 26 < a) → (sI (sI (sI (sI (taC I t) 57 0 0) 57 3 0) 57 1 0) 57 2 (-1)) a = I a) ∧ (sI (sI (sI (sI (taC I t) 57 0 0) 57 3 0) 57 1 0) 57 2 (-1)) a = taC I t a := fun a ha => by
    have e : (sI (sI (sI (sI (taC I t) 57 0 0) 57 3 0) 57 1 0) 57 2 (-1)) a = taC I t a := by rw [sI_ne ha, sI_ne ha, sI_ne ha, sI_ne ha]
    exact ⟨fun w => by rw [e]; exact taC_o w, e⟩
  refine pw_aload_n (k4 := 0) rfl (by decide +kernel) ?_
  refine pw_aload_n (k4 := 3) rfl (by decide +kernel) ?_
  refine pq_putP (c := 4) (k := 5) (ks_sc hA) (by decide) (by decide) lf_Sc_18 (Or.inl rfl) (by decide +kernel) ?_
  refine pw_aload_n (k4 := 0) rfl (by decide +kernel) ?_
  refine pq_getP (c := 4) (k := 5) (ks_sc hA) (by decide) (by decide) hst lf_Sc_18 (by decide +kernel) ?_
  have hA := hA1
  refine pq_callV (ν := m_Ta_clear) (d' := 1) (av := []) (c := 7) (by decide +kernel) lm_Sc_22 ok_Ta_clear (show _ = some 0 by decide +kernel) (ks_t hA ht) rfl (by decide) (by omega) (Nat.le_of_ble_eq_true rfl) (ct_Ta_clear hA1 ht) ?_
  rintro _ _ ⟨rfl, rfl⟩
  refine pw_aload_n (k4 := 0) rfl (by decide +kernel) ?_
  refine pw_iconst (n := 0) (v := 0) (by decide) (by decide +kernel) ?_
  refine pq_putI (c := 4) (k := 0) (ks_sc hA) (by decide) (by decide) lf_Sc_27 (Or.inl rfl) (by decide +kernel) ?_
  refine pw_aload_n (k4 := 0) rfl (by decide +kernel) ?_
  refine pw_iconst (n := 0) (v := 0) (by decide) (by decide +kernel) ?_
  refine pq_putZ (c := 4) (k := 3) (ks_sc hA) (by decide) (by decide) (Or.inl rfl) lf_Sc_31 (Or.inl rfl) (by decide +kernel) ?_
  refine pw_aload_n (k4 := 0) rfl (by decide +kernel) ?_
  refine pw_iconst (n := 0) (v := 0) (by decide) (by decide +kernel) ?_
  refine pq_putI (c := 4) (k := 1) (ks_sc hA) (by decide) (by decide) lf_Sc_35 (Or.inl rfl) (by decide +kernel) ?_
  refine pw_aload_n (k4 := 0) rfl (by decide +kernel) ?_
  refine pw_iconst (n := -1) (v := -1) (by decide) (by decide +kernel) ?_
  refine pq_putI (c := 4) (k := 2) (ks_sc hA) (by decide) (by decide) lf_Sc_38 (Or.inl rfl) (by decide +kernel) ?_
  refine pw_aload_n (k4 := 0) rfl (by decide +kernel) ?_
  refine pq_getP (c := 4) (k := 4) (ks_sc hA) (by decide) (by decide) (kp_sc_reader hA) lf_Sc_12 (by decide +kernel) ?_
  refine pw_aload_n (k4 := 1) rfl (by decide +kernel) ?_
  refine pw_iload_n (k4 := 2) rfl (by decide +kernel) ?_
  refine pq_callV (ν := m_Re_begin) (d' := 3) (av := [_, _]) (c := 3) (by decide +kernel) lm_Sc_41 ok_Re_begin (show _ = some 2 by decide +kernel) (ks_re hA) rfl (by decide) (by omega) (Nat.le_of_ble_eq_true rfl) (ct_Re_begin hA1 (J := J) hn (fun k hk => by rw [(hz 2 (by decide)).1 (by omega)]; exact hb k hk) (fun w hw => by rw [(hz 60 (by decide)).1 (by omega)]; exact hw60 w hw) h6 h7) ?_
  rintro _ _ ⟨rfl, I38, rfl, r38, f38⟩
  have hq : J 134 22 = 0 ∧ (∀ p, p < 5 → J 141 (5 + p) < 0) ∧ (∀ r, r < 3 → J 152 (3 + r) = 0) := hj
  have pf := prF_tok J
  have hdr : txD I38 (yTok J) t 0 0 0 0 0 := txD_0 ht (I := I) (fun a a1 a2 => by rw [f38 a (by omega)]; exact (hz a (by omega)).2) (by rw [f38 57 (by decide)]; rfl) (by rw [pf.2 22 (by decide)]; exact hq.1) (fun p hp => by rw [pf.1 141 (by decide)]; exact hq.2.1 p hp) (fun r hr => by rw [pf.1 152 (by decide)]; exact hq.2.2 r hr)
  refine wr_loop hA2 sP_at hn ht (by rw [sP_o (by decide), sP_at]) hE m0 0 I38 (yTok J) 0 0 0 0 0 (by omega) hC ⟨r38, by rw [f38 57 (by decide)]; rfl, by rw [f38 57 (by decide)]; rfl, by rw [f38 57 (by decide)]; rfl, hdr, lnC_tok hlC, fun _ => Nat.zero_le _, ⟨fun a a1 a2 a3 => by rw [f38 a a2]; exact (hz a a1).1 a3, lOK_e (by rw [f38 _ (by omega), (hz _ (by omega)).2]; exact taC_22 (Or.inl rfl)) (by rw [f38 _ (by omega), (hz _ (by omega)).2]; exact taC_22 (Or.inr rfl))⟩, by omega⟩

