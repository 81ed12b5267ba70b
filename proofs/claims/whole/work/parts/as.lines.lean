/-! ===== the class: the lines of a text beside the reference ===== -/
def frE (X E : Nat → Nat → Int32) : Prop := ∀ a, a ≠ 57 → a ≠ 58 → X a = E a
def frO (t : Nat) (I I' : Nat → Nat → Int32) : Prop := ∀ a, a ≠ 57 → a ≠ 58 → (a < t ∨ t + 26 < a) → I' a = I a
theorem frE.rf (I : Nat → Nat → Int32) : frE I I := fun _ _ _ => rfl
theorem frO.rf (t : Nat) (I : Nat → Nat → Int32) : frO t I I := fun _ _ _ _ => rfl
theorem frE.st {X E : Nat → Nat → Int32} (h : frE X E) {b k : Nat} {v : Int32} : frE (sI X b k v) (sI E b k v) := by
  intro a h1 h2
  by_cases e : a = b
  · subst e
    funext j
    by_cases f : j = k
    · subst f; rw [sI_rs, sI_rs]
    · rw [sI_rd f, sI_rd f, h a h1 h2]
  · rw [sI_ne e, sI_ne e, h a h1 h2]
theorem frO.st {t : Nat} {I I' : Nat → Nat → Int32} (h : frO t I I') {b k : Nat} {v : Int32} (hb : t ≤ b ∧ b ≤ t + 26) : frO t I (sI I' b k v) := by
  intro a h1 h2 h3
  rw [sI_ne (by omega)]
  exact h a h1 h2 h3
/-- the class has refused as X says -/
def scF (X : Bool × (Nat → Nat → Int32)) (I' : Nat → Nat → Int32) : Prop := X.1 = false ∧ I' 57 1 = X.2 134 4 ∧ I' 57 2 = X.2 134 5 ∧ ¬ X.2 134 4 = 0
theorem scF.cg {X : Bool × (Nat → Nat → Int32)} {I I' : Nat → Nat → Int32} (h : scF X I) (e : I' 57 = I 57) : scF X I' := by unfold scF; rw [e]; exact h
def lnQ (X : Bool × (Nat → Nat → Int32)) (T : (Nat → Nat → Int32) → (Nat → Nat → Int32) → Prop) (I : Nat → Nat → Int32) (L : Nat → Nat → Int64) (P : Nat → Nat → Option Nat) (n t : Nat) : Option Value → pM → Prop := fun r M => ∃ I', r = some (.int (bI X.1)) ∧ M = (I', L, P) ∧ frO t I I' ∧ (X.1 = true → rdR I' X.2 n ∧ T I' X.2) ∧ (X.1 = false → scF X I')
theorem lnQ_f {X : Bool × (Nat → Nat → Int32)} {T : (Nat → Nat → Int32) → (Nat → Nat → Int32) → Prop} {I I' : Nat → Nat → Int32} {L : Nat → Nat → Int64} {P : Nat → Nat → Option Nat} {n t : Nat} (h : scF X I') (ho : frO t I I') : lnQ X T I L P n t (some (.int 0)) (I', L, P) := ⟨I', by rw [h.1]; rfl, rfl, ho, fun q => (by rw [h.1] at q; cases q), fun _ => h⟩
theorem lnQ_r {X : Bool × (Nat → Nat → Int32)} {T : (Nat → Nat → Int32) → (Nat → Nat → Int32) → Prop} {I I' G : Nat → Nat → Int32} {L : Nat → Nat → Int64} {P : Nat → Nat → Option Nat} {n t : Nat} {k : Int32} {p : Int32} (hX : X = (false, yWr (sI G 134 10 p) k)) (hp : I' 58 2 = p) (hk : ¬ k = 0) (ho : frO t I I') : lnQ X T I L P n t (some (.int 0)) (scRf I' k, L, P) := by
  refine lnQ_f ?_ ?_
  · rw [hX]
    refine ⟨rfl, ?_, ?_, hk⟩
    · show sI (sI I' 57 1 k) 57 2 (I' 58 2) 57 1 = k
      rw [sI_rd (by decide), sI_rs]
    · show sI (sI I' 57 1 k) 57 2 (I' 58 2) 57 2 = sI G 134 10 p 134 10
      rw [sI_rs, sI_rs]
      exact hp
  · intro a h1 h2 h3
    unfold scRf
    rw [sI_ne h1, sI_ne h1]
    exact ho a h1 h2 h3
theorem sI_self {I : Nat → Nat → Int32} {a k : Nat} : sI I a k (I a k) = I := by
  funext b
  by_cases e : b = a
  · subst e
    funext j
    by_cases f : j = k
    · subst f; rw [sI_rs]
    · rw [sI_rd f]
  · rw [sI_ne e]
theorem lnQ_w {X : Bool × (Nat → Nat → Int32)} {T : (Nat → Nat → Int32) → (Nat → Nat → Int32) → Prop} {I I' G : Nat → Nat → Int32} {L : Nat → Nat → Int64} {P : Nat → Nat → Option Nat} {n t : Nat} {k : Int32} (hX : X = (false, yWr G k)) (hr : rdR I' G n) (hk : ¬ k = 0) (ho : frO t I I') : lnQ X T I L P n t (some (.int 0)) (scRf I' k, L, P) :=
  lnQ_r (G := G) (p := G 134 10) (by rw [sI_self]; exact hX) hr.2.1 hk ho
theorem yB_q {q : Bool × (Nat → Nat → Int32)} {f : (Nat → Nat → Int32) → Bool × (Nat → Nat → Int32)} (h : q.1 = false) : yB q f = q := by unfold yB; rw [if_neg (by rw [h]; decide)]
theorem num_pf {I K : Nat → Nat → Int32} {lo hi : Int32} (h : yNum I lo hi = (true, K)) : prF K I := by
  unfold yNum at h
  split at h
  · cases h
  · split at h
    · cases h
    · cases h
      exact (prF_tok _).tr ((prF.rf I).set (by decide) _)
theorem pick_pf {I K : Nat → Nat → Int32} {lo hi : Int32} (h : yPick I lo hi = (true, K)) : prF K I := by
  unfold yPick at h
  split at h
  · cases h
  · split at h
    · cases h
    · split at h
      · cases h
      · cases h
        exact (prF_tok I).set (by decide) _
theorem rdR_sX {X J : Nat → Nat → Int32} {n : Nat} (h : rdR X J n) {a : Nat} (ha : a ≠ 58 ∧ a ≠ 2 ∧ a ≠ 60) (k : Nat) (v : Int32) : rdR (sI X a k v) J n := rdR_X h (sI_ne (Ne.symm ha.1)) (sI_ne (Ne.symm ha.2.1)) (sI_ne (Ne.symm ha.2.2))
theorem rdR_sJ {X J : Nat → Nat → Int32} {n : Nat} (h : rdR X J n) {a : Nat} (ha : a ≠ 134 ∧ a ≠ 135) (k : Nat) (v : Int32) : rdR X (sI J a k v) n := rdR_J h (fun j _ => by rw [sI_ne (Ne.symm ha.1)]) (sI_ne (Ne.symm ha.2))
theorem rdR_sJ4 {X J : Nat → Nat → Int32} {n : Nat} (h : rdR X J n) {k : Nat} (hk : k ∉ [6, 7, 8, 9, 10]) (v : Int32) : rdR X (sI J 134 k v) n := rdR_J h (fun j hj => sI_rd (fun e => hk (e ▸ hj))) (sI_ne (by decide))
theorem lnQ_t {X : Bool × (Nat → Nat → Int32)} {T : (Nat → Nat → Int32) → (Nat → Nat → Int32) → Prop} {I I' G : Nat → Nat → Int32} {L : Nat → Nat → Int64} {P : Nat → Nat → Option Nat} {n t : Nat} (hX : X = (true, G)) (hr : rdR I' G n) (ho : frO t I I') (hT : T I' G) : lnQ X T I L P n t (some (.int 1)) (I', L, P) := ⟨I', by rw [hX]; rfl, rfl, ho, fun _ => by rw [hX]; exact ⟨hr, hT⟩, fun q => by rw [hX] at q; cases q⟩
/-- what a person's line has changed -/
def tPe (I : Nat → Nat → Int32) (t pr : Nat) (I' J' : Nat → Nat → Int32) : Prop := I' 57 = I 57 ∧ frE I' (sI (sI (sI (sI (sI I (t + 1) pr (J' 137 (5 + pr))) (t + 2) pr (J' 138 (5 + pr))) (t + 3) pr (J' 139 (5 + pr))) (t + 4) pr (J' 140 (5 + pr))) t 0 (nI (pr + 1)))
set_option maxHeartbeats 4000000 in
theorem ct_Sc_readPerson {sh : List pSh} {I : Nat → Nat → Int32} {L : Nat → Nat → Int64} {P : Nat → Nat → Option Nat} (hA : kA sh P) (hrb : P 58 3 = some 2) {J : Nat → Nat → Int32} {n : Nat} (hr : rdR I J n) {t : Nat} (ht : t = 3 ∨ t = 30) (hst : P 57 5 = some t) (h0 : I 57 1 = 0) {pr sr dr : Nat} (hn : tOK I t pr sr dr) (hnm : ∀ p, p < pr → I (t + 1) p = J 137 (5 + p)) : pCn m_Sc_readPerson 4 [.ref 57] sh (I, L, P) (lnQ (yPL pr J) (tPe I t pr) I L P n t) := by
  refine pCn_of (by decide +kernel) (Nat.le_of_ble_eq_true rfl) ?_
  obtain ⟨X, hX⟩ : ∃ X, X = yPL pr J := ⟨_, rfl⟩
  rw [← hX]
  unfold yPL at hX
  have fe0 : frE I I := frE.rf I
  have fo0 : frO t I I := frO.rf t I
  have hz0 : I 57 = I 57 := rfl
  have h5 := hn.2.1
  refine pw_aload_n (k4 := 0) rfl (by decide +kernel) ?_
  refine pq_getP (c := 4) (k := 5) (ks_sc hA) (by decide) (by decide) hst lf_Sc_18 (by decide +kernel) ?_
  refine pq_getI (c := 7) (k := 0) (ks_t hA ht) (by decide) (by decide) lf_Sc_97 (by decide +kernel) ?_
  refine pn_val (nI (pr)) (hn.1) ?_
  refine pq_istore_n (k4 := 1) (Nat.le_of_ble_eq_true rfl) rfl (by decide +kernel) ?_
  refine pw_iload_n (k4 := 1) rfl (by decide +kernel) ?_
  refine pw_iconst (n := 5) (v := 5) (by decide) (by decide +kernel) ?_
  refine pn_icmp_lt (off := 9) (tgt := 19) pr 5 rfl rfl (by omega) (by omega) (by decide +kernel) (by decide +kernel) (fun z10 => ?_) (fun z10 => ?_)
  · rw [if_neg (by omega)] at hX
    refine pw_aload_n (k4 := 0) rfl (by decide +kernel) ?_
    refine pq_getP (c := 4) (k := 4) (ks_sc hA) (by decide) (by decide) (kp_sc_reader hA) lf_Sc_12 (by decide +kernel) ?_
    refine pq_callV (ν := m_Re_advance) (d' := 2) (av := []) (c := 3) (by decide +kernel) lm_Sc_62 ok_Re_advance (show _ = some 0 by decide +kernel) (ks_re hA) rfl (by decide) (by omega) (Nat.le_of_ble_eq_true rfl) (gt_advance hA hrb hr) ?_
    rintro _ _ ⟨rfl, I23, rfl, hr23, hf23⟩
    have pf23 : prF (yTok J) J := prF_tok _
    generalize yTok J = G23 at hX hr23 pf23
    try dsimp only at hX
    have fe23 : frE I23 (I) := fun a h1 h2 => (hf23 a h2).trans (fe0 a h1 h2)
    have fo23 : frO t I I23 := fun a h1 h2 h3 => (hf23 a h2).trans (fo0 a h1 h2 h3)
    have hz23 : I23 57 = I 57 := (hf23 57 (by decide)).trans hz0
    refine pw_aload_n (k4 := 0) rfl (by decide +kernel) ?_
    refine pq_getP (c := 4) (k := 4) (ks_sc hA) (by decide) (by decide) (kp_sc_reader hA) lf_Sc_12 (by decide +kernel) ?_
    refine pq_getI (c := 3) (k := 0) (ks_re hA) (by decide) (by decide) lf_Sc_45 (by decide +kernel) ?_
    refine pw_bipush (n := 25) (v := 25) (by decide) (by decide +kernel) ?_
    refine pw_icmp_eq (off := 9) (tgt := 44) (by decide +kernel) (by decide +kernel) (fun z35 => ?_) (fun z35 => ?_)
    · have hk35 : G23 134 8 = 2 := (tk_25 hr23.1).mp z35
      rw [if_neg (fun w => w hk35)] at hX
      refine pw_aload_n (k4 := 0) rfl (by decide +kernel) ?_
      refine pq_getP (c := 4) (k := 5) (ks_sc hA) (by decide) (by decide) hst lf_Sc_18 (by decide +kernel) ?_
      refine pw_aload_n (k4 := 0) rfl (by decide +kernel) ?_
      refine pq_getP (c := 4) (k := 4) (ks_sc hA) (by decide) (by decide) (kp_sc_reader hA) lf_Sc_12 (by decide +kernel) ?_
      refine pq_getI (c := 3) (k := 1) (ks_re hA) (by decide) (by decide) lf_Sc_86 (by decide +kernel) ?_
      have eT : I23 t = I t := by rw [fe23 t (by omega) (by omega)]
      have eN : I23 (t + 1) = I (t + 1) := by rw [fe23 (t + 1) (by omega) (by omega)]
      have eG : G23 137 = J 137 := pf23.1 137 (by decide)
      have hv : fFind (I23 (t + 1)) (I23 58 1) pr 0 = fFind (fun k => G23 137 (5 + k)) (G23 134 9) pr 0 := by rw [tk_wd hr23.1 hk35, eN, eG]; exact fFind_cg pr 0 (fun j _ hj => hnm j (by omega))
      refine pq_callV (ν := m_Ta_personNamed) (d' := 0) (av := [_]) (c := 7) (by decide +kernel) lm_Sc_93 ok_Ta_personNamed (show _ = some 1 by decide +kernel) (ks_t hA ht) rfl (by decide) (by omega) (Nat.le_of_ble_eq_true rfl) (ct_Ta_personNamed hA ht (np := pr) (ns := sr) (nd := dr) (by unfold tOK; rw [eT]; exact hn) _) ?_
      rintro _ _ ⟨rfl, rfl⟩
      refine pw_if_lt (off := 9) (tgt := 67) (by decide +kernel) (by decide +kernel) (fun z58 => ?_) (fun z58 => ?_)
      · rw [hv] at z58
        rw [if_neg (fun w => w z58)] at hX
        have e137 : G23 134 9 = I23 58 1 := (tk_wd hr23.1 hk35).symm
        refine pw_aload_n (k4 := 0) rfl (by decide +kernel) ?_
        refine pq_getP (c := 4) (k := 5) (ks_sc hA) (by decide) (by decide) hst lf_Sc_18 (by decide +kernel) ?_
        refine pq_getP (c := 7) (k := 1) (ks_t hA ht) (by decide) (by decide) (kp_t_name hA ht) lf_Sc_100 (by decide +kernel) ?_
        refine pw_iload_n (k4 := 1) rfl (by decide +kernel) ?_
        refine pw_aload_n (k4 := 0) rfl (by decide +kernel) ?_
        refine pq_getP (c := 4) (k := 4) (ks_sc hA) (by decide) (by decide) (kp_sc_reader hA) lf_Sc_12 (by decide +kernel) ?_
        refine pq_getI (c := 3) (k := 1) (ks_re hA) (by decide) (by decide) lf_Sc_86 (by decide +kernel) ?_
        refine pq_iast pr rfl (by omega) (by decide) (ks_t_name hA ht) (by decide +kernel) ?_
        obtain ⟨I82, hI82⟩ : ∃ Z, Z = sI I23 (t + 1) pr (I23 58 1) := ⟨_, rfl⟩
        rw [← hI82]
        have fe82 : frE I82 (sI (I) (t + 1) pr (I23 58 1)) := by rw [hI82]; exact fe23.st
        have fo82 : frO t I I82 := by rw [hI82]; exact fo23.st (by omega)
        have e57_82 : I82 57 = I23 57 := by rw [hI82, sI_ne (by omega)]
        have hz82 : I82 57 = I 57 := e57_82.trans hz23
        have hr82 : rdR I82 G23 n := by rw [hI82]; exact rdR_sX hr23 (by omega) _ _
        obtain ⟨H82_0, hH82_0⟩ : ∃ Z, Z = sI G23 137 (5 + pr) (G23 134 9) := ⟨_, rfl⟩
        rw [← hH82_0] at hX
        have hrH82_0 : rdR I82 H82_0 n := by rw [hH82_0]; exact rdR_sJ hr82 (by decide) _ _
        have x82n0_0 : H82_0 137 (5 + pr) = G23 134 9 := by rw [hH82_0, sI_rs]
        refine pw_aload_n (k4 := 0) rfl (by decide +kernel) ?_
        refine pq_getP (c := 4) (k := 4) (ks_sc hA) (by decide) (by decide) (kp_sc_reader hA) lf_Sc_12 (by decide +kernel) ?_
        refine pq_callV (ν := m_Re_advance) (d' := 2) (av := []) (c := 3) (by decide +kernel) lm_Sc_62 ok_Re_advance (show _ = some 0 by decide +kernel) (ks_re hA) rfl (by decide) (by omega) (Nat.le_of_ble_eq_true rfl) (gt_advance hA hrb hrH82_0) ?_
        rintro _ _ ⟨rfl, I87, rfl, hr87, hf87⟩
        have pf87 : prF (yTok H82_0) H82_0 := prF_tok _
        generalize yTok H82_0 = G87 at hX hr87 pf87
        try dsimp only at hX
        have fe87 : frE I87 (sI (I) (t + 1) pr (I23 58 1)) := fun a h1 h2 => (hf87 a h2).trans (fe82 a h1 h2)
        have fo87 : frO t I I87 := fun a h1 h2 h3 => (hf87 a h2).trans (fo82 a h1 h2 h3)
        have hz87 : I87 57 = I 57 := (hf87 57 (by decide)).trans hz82
        have x82n0_87 : G87 137 (5 + pr) = G23 134 9 := by rw [pf87.1 137 (by decide)]; exact x82n0_0
        refine pw_aload_n (k4 := 0) rfl (by decide +kernel) ?_
        refine pq_getP (c := 4) (k := 5) (ks_sc hA) (by decide) (by decide) hst lf_Sc_18 (by decide +kernel) ?_
        refine pq_getP (c := 7) (k := 2) (ks_t hA ht) (by decide) (by decide) (kp_t_foot hA ht) lf_Sc_104 (by decide +kernel) ?_
        refine pw_iload_n (k4 := 1) rfl (by decide +kernel) ?_
        refine pw_aload_n (k4 := 0) rfl (by decide +kernel) ?_
        refine pw_iconst (n := 1) (v := 1) (by decide) (by decide +kernel) ?_
        refine pw_bipush (n := 20) (v := 20) (by decide) (by decide +kernel) ?_
        refine pq_callV (ν := m_Sc_takeNumber) (d' := 3) (av := [_, _]) (c := 4) (by decide +kernel) lm_Sc_107 ok_Sc_takeNumber (show _ = some 2 by decide +kernel) (ks_sc hA) rfl (by decide) (by omega) (Nat.le_of_ble_eq_true rfl) (gt_takeNumber hA hrb hr87 1 20 (by decide) (by decide)) ?_
        rintro _ _ ⟨I102, v102, rfl, rfl, hs102, hv102, hw102⟩
        have fe102 : frE I102 (sI (I) (t + 1) pr (I23 58 1)) := fun a h1 h2 => (hs102.2.2 a h1 h2).trans (fe87 a h1 h2)
        have fo102 : frO t I I102 := fun a h1 h2 h3 => (hs102.2.2 a h1 h2).trans (fo87 a h1 h2 h3)
        refine pq_iast pr rfl (by omega) (by decide) (ks_t_foot hA ht) (by decide +kernel) ?_
        obtain ⟨I105, hI105⟩ : ∃ Z, Z = sI I102 (t + 2) pr (v102) := ⟨_, rfl⟩
        rw [← hI105]
        have fe105 : frE I105 (sI (sI (I) (t + 1) pr (I23 58 1)) (t + 2) pr (v102)) := by rw [hI105]; exact fe102.st
        have fo105 : frO t I I105 := by rw [hI105]; exact fo102.st (by omega)
        have e57_105 : I105 57 = I102 57 := by rw [hI105, sI_ne (by omega)]
        refine pw_aload_n (k4 := 0) rfl (by decide +kernel) ?_
        refine pq_getI (c := 4) (k := 1) (ks_sc hA) (by decide) (by decide) lf_Sc_35 (by decide +kernel) ?_
        refine pw_if_ne (off := 19) (tgt := 129) (by decide +kernel) (by decide +kernel) (fun z110 => ?_) (fun z110 => ?_)
        · have hb102 : (I102 57 1 = 0 ↔ (yNum G87 (nI 1) (nI 20)).1 = true) := sbR_in hs102 (by rw [hz87]; exact h0)
          have hq102 : (yNum G87 (nI 1) (nI 20)).1 = false := by
            cases e : (yNum G87 (nI 1) (nI 20)).1 with
            | false => rfl
            | true => exact absurd (hb102.mpr e) (by rw [← e57_105]; exact z110)
          have hXf102 : X = yNum G87 (nI 1) (nI 20) := by rw [hX]; exact yB_q hq102
          have ff102 : scF X I102 := by rw [hXf102]; exact ⟨hq102, hs102.2.1 hq102⟩
          have fc102 : scF X I105 := ff102.cg e57_105
          refine pw_aload_n (k4 := 0) rfl (by decide +kernel) ?_
          refine pq_getI (c := 4) (k := 1) (ks_sc hA) (by decide) (by decide) lf_Sc_35 (by decide +kernel) ?_
          refine pw_if_ne (off := 19) (tgt := 152) (by decide +kernel) (by decide +kernel) (fun z133 => ?_) (fun z133 => ?_)
          · refine pw_aload_n (k4 := 0) rfl (by decide +kernel) ?_
            refine pq_getP (c := 4) (k := 5) (ks_sc hA) (by decide) (by decide) hst lf_Sc_18 (by decide +kernel) ?_
            refine pw_dup rfl (by decide +kernel) ?_
            refine pq_getI (c := 7) (k := 0) (ks_t hA ht) (by decide) (by decide) lf_Sc_97 (by decide +kernel) ?_
            refine pn_val (nI (pr)) (by rw [fe105 t (by omega) (by omega)]; (repeat rw [sI_ne (by omega)]); exact hn.1) ?_
            refine pw_iconst (n := 1) (v := 1) (by decide) (by decide +kernel) ?_
            refine pn_iadd pr 1 rfl rfl (by decide +kernel) ?_
            refine pq_putI (c := 7) (k := 0) (ks_t hA ht) (by decide) (by decide) lf_Sc_97 (Or.inl rfl) (by decide +kernel) ?_
            obtain ⟨I162, hI162⟩ : ∃ Z, Z = sI I105 t 0 (nI (pr + 1)) := ⟨_, rfl⟩
            rw [← hI162]
            have fe162 : frE I162 (sI (sI (sI (I) (t + 1) pr (I23 58 1)) (t + 2) pr (v102)) t 0 (nI (pr + 1))) := by rw [hI162]; exact fe105.st
            have fo162 : frO t I I162 := by rw [hI162]; exact fo105.st (by omega)
            have e57_162 : I162 57 = I105 57 := by rw [hI162, sI_ne (by omega)]
            have ff162 : scF X I162 := fc102.cg e57_162
            refine pw_aload_n (k4 := 0) rfl (by decide +kernel) ?_
            refine pq_getI (c := 4) (k := 1) (ks_sc hA) (by decide) (by decide) lf_Sc_35 (by decide +kernel) ?_
            refine pw_if_ne (off := 7) (tgt := 176) (by decide +kernel) (by decide +kernel) (fun z169 => ?_) (fun z169 => ?_)
            · refine pw_iconst (n := 0) (v := 0) (by decide) (by decide +kernel) ?_
              exact pq_zret rfl (by decide) (by decide +kernel) (lnQ_f ff162 fo162)
            · exact absurd z169 (by rw [ff162.2.1]; exact ff162.2.2.2)
          · exact absurd z133 (by rw [fc102.2.1]; exact fc102.2.2.2)
        · have hb102 : (I102 57 1 = 0 ↔ (yNum G87 (nI 1) (nI 20)).1 = true) := sbR_in hs102 (by rw [hz87]; exact h0)
          have hq102 : (yNum G87 (nI 1) (nI 20)).1 = true := hb102.mp (by rw [← e57_105]; exact z110)
          obtain ⟨K102, hK102⟩ : ∃ K, yNum G87 (nI 1) (nI 20) = (true, K) := ⟨_, Prod.ext hq102 rfl⟩
          rw [show yNum G87 1 20 = (true, K102) from hK102, yB_t] at hX
          try dsimp only at hX
          have pf102 : prF K102 G87 := num_pf hK102
          have hr102 : rdR I102 K102 n := by have := (hs102.1 hq102).1; rw [hK102] at this; exact this
          have hz102 : I102 57 = I 57 := (hs102.1 hq102).2.trans hz87
          have hu102 : v102 = K102 134 11 := by have := hv102 hq102; rw [hK102] at this; exact this
          have x82n0_102 : K102 137 (5 + pr) = G23 134 9 := by rw [pf102.1 137 (by decide)]; exact x82n0_87
          have hzc102 : I105 57 = I 57 := e57_105.trans hz102
          have hrc102 : rdR I105 K102 n := by rw [hI105]; exact rdR_sX (hr102) (by omega) _ _
          obtain ⟨H102_0, hH102_0⟩ : ∃ Z, Z = sI K102 138 (5 + pr) (K102 134 11) := ⟨_, rfl⟩
          rw [← hH102_0] at hX
          have hrH102_0 : rdR I105 H102_0 n := by rw [hH102_0]; exact rdR_sJ hrc102 (by decide) _ _
          have x82n0_102g0 : H102_0 137 (5 + pr) = G23 134 9 := by rw [hH102_0, sI_ne (by decide)]; exact x82n0_102
          have x102n0_0 : H102_0 138 (5 + pr) = K102 134 11 := by rw [hH102_0, sI_rs]
          refine pw_aload_n (k4 := 0) rfl (by decide +kernel) ?_
          refine pq_getP (c := 4) (k := 5) (ks_sc hA) (by decide) (by decide) hst lf_Sc_18 (by decide +kernel) ?_
          refine pq_getP (c := 7) (k := 3) (ks_t hA ht) (by decide) (by decide) (kp_t_steps hA ht) lf_Sc_110 (by decide +kernel) ?_
          refine pw_iload_n (k4 := 1) rfl (by decide +kernel) ?_
          refine pw_aload_n (k4 := 0) rfl (by decide +kernel) ?_
          refine pw_iconst (n := 0) (v := 0) (by decide) (by decide +kernel) ?_
          refine pw_bipush (n := 99) (v := 99) (by decide) (by decide +kernel) ?_
          refine pq_callV (ν := m_Sc_takeNumber) (d' := 3) (av := [_, _]) (c := 4) (by decide +kernel) lm_Sc_107 ok_Sc_takeNumber (show _ = some 2 by decide +kernel) (ks_sc hA) rfl (by decide) (by omega) (Nat.le_of_ble_eq_true rfl) (gt_takeNumber hA hrb hrH102_0 0 99 (by decide) (by decide)) ?_
          rintro _ _ ⟨I125, v125, rfl, rfl, hs125, hv125, hw125⟩
          have fe125 : frE I125 (sI (sI (I) (t + 1) pr (I23 58 1)) (t + 2) pr (v102)) := fun a h1 h2 => (hs125.2.2 a h1 h2).trans (fe105 a h1 h2)
          have fo125 : frO t I I125 := fun a h1 h2 h3 => (hs125.2.2 a h1 h2).trans (fo105 a h1 h2 h3)
          refine pq_iast pr rfl (by omega) (by decide) (ks_t_steps hA ht) (by decide +kernel) ?_
          obtain ⟨I128, hI128⟩ : ∃ Z, Z = sI I125 (t + 3) pr (v125) := ⟨_, rfl⟩
          rw [← hI128]
          have fe128 : frE I128 (sI (sI (sI (I) (t + 1) pr (I23 58 1)) (t + 2) pr (v102)) (t + 3) pr (v125)) := by rw [hI128]; exact fe125.st
          have fo128 : frO t I I128 := by rw [hI128]; exact fo125.st (by omega)
          have e57_128 : I128 57 = I125 57 := by rw [hI128, sI_ne (by omega)]
          refine pw_aload_n (k4 := 0) rfl (by decide +kernel) ?_
          refine pq_getI (c := 4) (k := 1) (ks_sc hA) (by decide) (by decide) lf_Sc_35 (by decide +kernel) ?_
          refine pw_if_ne (off := 19) (tgt := 152) (by decide +kernel) (by decide +kernel) (fun z133 => ?_) (fun z133 => ?_)
          · have hb125 : (I125 57 1 = 0 ↔ (yNum H102_0 (nI 0) (nI 99)).1 = true) := sbR_in hs125 (by rw [hzc102]; exact h0)
            have hq125 : (yNum H102_0 (nI 0) (nI 99)).1 = false := by
              cases e : (yNum H102_0 (nI 0) (nI 99)).1 with
              | false => rfl
              | true => exact absurd (hb125.mpr e) (by rw [← e57_128]; exact z133)
            have hXf125 : X = yNum H102_0 (nI 0) (nI 99) := by rw [hX]; exact yB_q hq125
            have ff125 : scF X I125 := by rw [hXf125]; exact ⟨hq125, hs125.2.1 hq125⟩
            have fc125 : scF X I128 := ff125.cg e57_128
            refine pw_aload_n (k4 := 0) rfl (by decide +kernel) ?_
            refine pq_getP (c := 4) (k := 5) (ks_sc hA) (by decide) (by decide) hst lf_Sc_18 (by decide +kernel) ?_
            refine pw_dup rfl (by decide +kernel) ?_
            refine pq_getI (c := 7) (k := 0) (ks_t hA ht) (by decide) (by decide) lf_Sc_97 (by decide +kernel) ?_
            refine pn_val (nI (pr)) (by rw [fe128 t (by omega) (by omega)]; (repeat rw [sI_ne (by omega)]); exact hn.1) ?_
            refine pw_iconst (n := 1) (v := 1) (by decide) (by decide +kernel) ?_
            refine pn_iadd pr 1 rfl rfl (by decide +kernel) ?_
            refine pq_putI (c := 7) (k := 0) (ks_t hA ht) (by decide) (by decide) lf_Sc_97 (Or.inl rfl) (by decide +kernel) ?_
            obtain ⟨I162, hI162⟩ : ∃ Z, Z = sI I128 t 0 (nI (pr + 1)) := ⟨_, rfl⟩
            rw [← hI162]
            have fe162 : frE I162 (sI (sI (sI (sI (I) (t + 1) pr (I23 58 1)) (t + 2) pr (v102)) (t + 3) pr (v125)) t 0 (nI (pr + 1))) := by rw [hI162]; exact fe128.st
            have fo162 : frO t I I162 := by rw [hI162]; exact fo128.st (by omega)
            have e57_162 : I162 57 = I128 57 := by rw [hI162, sI_ne (by omega)]
            have ff162 : scF X I162 := fc125.cg e57_162
            refine pw_aload_n (k4 := 0) rfl (by decide +kernel) ?_
            refine pq_getI (c := 4) (k := 1) (ks_sc hA) (by decide) (by decide) lf_Sc_35 (by decide +kernel) ?_
            refine pw_if_ne (off := 7) (tgt := 176) (by decide +kernel) (by decide +kernel) (fun z169 => ?_) (fun z169 => ?_)
            · refine pw_iconst (n := 0) (v := 0) (by decide) (by decide +kernel) ?_
              exact pq_zret rfl (by decide) (by decide +kernel) (lnQ_f ff162 fo162)
            · exact absurd z169 (by rw [ff162.2.1]; exact ff162.2.2.2)
          · have hb125 : (I125 57 1 = 0 ↔ (yNum H102_0 (nI 0) (nI 99)).1 = true) := sbR_in hs125 (by rw [hzc102]; exact h0)
            have hq125 : (yNum H102_0 (nI 0) (nI 99)).1 = true := hb125.mp (by rw [← e57_128]; exact z133)
            obtain ⟨K125, hK125⟩ : ∃ K, yNum H102_0 (nI 0) (nI 99) = (true, K) := ⟨_, Prod.ext hq125 rfl⟩
            rw [show yNum H102_0 0 99 = (true, K125) from hK125, yB_t] at hX
            try dsimp only at hX
            have pf125 : prF K125 H102_0 := num_pf hK125
            have hr125 : rdR I125 K125 n := by have := (hs125.1 hq125).1; rw [hK125] at this; exact this
            have hz125 : I125 57 = I 57 := (hs125.1 hq125).2.trans hzc102
            have hu125 : v125 = K125 134 11 := by have := hv125 hq125; rw [hK125] at this; exact this
            have x82n0_125 : K125 137 (5 + pr) = G23 134 9 := by rw [pf125.1 137 (by decide)]; exact x82n0_102g0
            have x102n0_125 : K125 138 (5 + pr) = K102 134 11 := by rw [pf125.1 138 (by decide)]; exact x102n0_0
            have hzc125 : I128 57 = I 57 := e57_128.trans hz125
            have hrc125 : rdR I128 K125 n := by rw [hI128]; exact rdR_sX (hr125) (by omega) _ _
            obtain ⟨H125_0, hH125_0⟩ : ∃ Z, Z = sI K125 139 (5 + pr) (K125 134 11) := ⟨_, rfl⟩
            rw [← hH125_0] at hX
            have hrH125_0 : rdR I128 H125_0 n := by rw [hH125_0]; exact rdR_sJ hrc125 (by decide) _ _
            have x82n0_125g0 : H125_0 137 (5 + pr) = G23 134 9 := by rw [hH125_0, sI_ne (by decide)]; exact x82n0_125
            have x102n0_125g0 : H125_0 138 (5 + pr) = K102 134 11 := by rw [hH125_0, sI_ne (by decide)]; exact x102n0_125
            have x125n0_0 : H125_0 139 (5 + pr) = K125 134 11 := by rw [hH125_0, sI_rs]
            refine pw_aload_n (k4 := 0) rfl (by decide +kernel) ?_
            refine pq_getP (c := 4) (k := 5) (ks_sc hA) (by decide) (by decide) hst lf_Sc_18 (by decide +kernel) ?_
            refine pq_getP (c := 7) (k := 4) (ks_t hA ht) (by decide) (by decide) (kp_t_fare hA ht) lf_Sc_113 (by decide +kernel) ?_
            refine pw_iload_n (k4 := 1) rfl (by decide +kernel) ?_
            refine pw_aload_n (k4 := 0) rfl (by decide +kernel) ?_
            refine pw_iconst (n := 0) (v := 0) (by decide) (by decide +kernel) ?_
            refine pw_bipush (n := 99) (v := 99) (by decide) (by decide +kernel) ?_
            refine pq_callV (ν := m_Sc_takeNumber) (d' := 3) (av := [_, _]) (c := 4) (by decide +kernel) lm_Sc_107 ok_Sc_takeNumber (show _ = some 2 by decide +kernel) (ks_sc hA) rfl (by decide) (by omega) (Nat.le_of_ble_eq_true rfl) (gt_takeNumber hA hrb hrH125_0 0 99 (by decide) (by decide)) ?_
            rintro _ _ ⟨I148, v148, rfl, rfl, hs148, hv148, hw148⟩
            have fe148 : frE I148 (sI (sI (sI (I) (t + 1) pr (I23 58 1)) (t + 2) pr (v102)) (t + 3) pr (v125)) := fun a h1 h2 => (hs148.2.2 a h1 h2).trans (fe128 a h1 h2)
            have fo148 : frO t I I148 := fun a h1 h2 h3 => (hs148.2.2 a h1 h2).trans (fo128 a h1 h2 h3)
            refine pq_iast pr rfl (by omega) (by decide) (ks_t_fare hA ht) (by decide +kernel) ?_
            obtain ⟨I151, hI151⟩ : ∃ Z, Z = sI I148 (t + 4) pr (v148) := ⟨_, rfl⟩
            rw [← hI151]
            have fe151 : frE I151 (sI (sI (sI (sI (I) (t + 1) pr (I23 58 1)) (t + 2) pr (v102)) (t + 3) pr (v125)) (t + 4) pr (v148)) := by rw [hI151]; exact fe148.st
            have fo151 : frO t I I151 := by rw [hI151]; exact fo148.st (by omega)
            have e57_151 : I151 57 = I148 57 := by rw [hI151, sI_ne (by omega)]
            refine pw_aload_n (k4 := 0) rfl (by decide +kernel) ?_
            refine pq_getP (c := 4) (k := 5) (ks_sc hA) (by decide) (by decide) hst lf_Sc_18 (by decide +kernel) ?_
            refine pw_dup rfl (by decide +kernel) ?_
            refine pq_getI (c := 7) (k := 0) (ks_t hA ht) (by decide) (by decide) lf_Sc_97 (by decide +kernel) ?_
            refine pn_val (nI (pr)) (by rw [fe151 t (by omega) (by omega)]; (repeat rw [sI_ne (by omega)]); exact hn.1) ?_
            refine pw_iconst (n := 1) (v := 1) (by decide) (by decide +kernel) ?_
            refine pn_iadd pr 1 rfl rfl (by decide +kernel) ?_
            refine pq_putI (c := 7) (k := 0) (ks_t hA ht) (by decide) (by decide) lf_Sc_97 (Or.inl rfl) (by decide +kernel) ?_
            obtain ⟨I162, hI162⟩ : ∃ Z, Z = sI I151 t 0 (nI (pr + 1)) := ⟨_, rfl⟩
            rw [← hI162]
            have fe162 : frE I162 (sI (sI (sI (sI (sI (I) (t + 1) pr (I23 58 1)) (t + 2) pr (v102)) (t + 3) pr (v125)) (t + 4) pr (v148)) t 0 (nI (pr + 1))) := by rw [hI162]; exact fe151.st
            have fo162 : frO t I I162 := by rw [hI162]; exact fo151.st (by omega)
            have e57_162 : I162 57 = I151 57 := by rw [hI162, sI_ne (by omega)]
            refine pw_aload_n (k4 := 0) rfl (by decide +kernel) ?_
            refine pq_getI (c := 4) (k := 1) (ks_sc hA) (by decide) (by decide) lf_Sc_35 (by decide +kernel) ?_
            refine pw_if_ne (off := 7) (tgt := 176) (by decide +kernel) (by decide +kernel) (fun z169 => ?_) (fun z169 => ?_)
            · have hb148 : (I148 57 1 = 0 ↔ (yNum H125_0 (nI 0) (nI 99)).1 = true) := sbR_in hs148 (by rw [hzc125]; exact h0)
              have hq148 : (yNum H125_0 (nI 0) (nI 99)).1 = false := by
                cases e : (yNum H125_0 (nI 0) (nI 99)).1 with
                | false => rfl
                | true => exact absurd (hb148.mpr e) (by rw [← (e57_162.trans e57_151)]; exact z169)
              have hXf148 : X = yNum H125_0 (nI 0) (nI 99) := by rw [hX]; exact yB_q hq148
              have ff148 : scF X I148 := by rw [hXf148]; exact ⟨hq148, hs148.2.1 hq148⟩
              have fc148 : scF X I162 := ff148.cg (e57_162.trans e57_151)
              refine pw_iconst (n := 0) (v := 0) (by decide) (by decide +kernel) ?_
              exact pq_zret rfl (by decide) (by decide +kernel) (lnQ_f fc148 fo162)
            · have hb148 : (I148 57 1 = 0 ↔ (yNum H125_0 (nI 0) (nI 99)).1 = true) := sbR_in hs148 (by rw [hzc125]; exact h0)
              have hq148 : (yNum H125_0 (nI 0) (nI 99)).1 = true := hb148.mp (by rw [← (e57_162.trans e57_151)]; exact z169)
              obtain ⟨K148, hK148⟩ : ∃ K, yNum H125_0 (nI 0) (nI 99) = (true, K) := ⟨_, Prod.ext hq148 rfl⟩
              rw [show yNum H125_0 0 99 = (true, K148) from hK148, yB_t] at hX
              try dsimp only at hX
              have pf148 : prF K148 H125_0 := num_pf hK148
              have hr148 : rdR I148 K148 n := by have := (hs148.1 hq148).1; rw [hK148] at this; exact this
              have hz148 : I148 57 = I 57 := (hs148.1 hq148).2.trans hzc125
              have hu148 : v148 = K148 134 11 := by have := hv148 hq148; rw [hK148] at this; exact this
              have x82n0_148 : K148 137 (5 + pr) = G23 134 9 := by rw [pf148.1 137 (by decide)]; exact x82n0_125g0
              have x102n0_148 : K148 138 (5 + pr) = K102 134 11 := by rw [pf148.1 138 (by decide)]; exact x102n0_125g0
              have x125n0_148 : K148 139 (5 + pr) = K125 134 11 := by rw [pf148.1 139 (by decide)]; exact x125n0_0
              have hzc148 : I162 57 = I 57 := (e57_162.trans e57_151).trans hz148
              have hrc148 : rdR I162 K148 n := by rw [hI162, hI151]; exact rdR_sX (rdR_sX (hr148) (by omega) _ _) (by omega) _ _
              obtain ⟨H148_0, hH148_0⟩ : ∃ Z, Z = sI K148 140 (5 + pr) (K148 134 11) := ⟨_, rfl⟩
              rw [← hH148_0] at hX
              have hrH148_0 : rdR I162 H148_0 n := by rw [hH148_0]; exact rdR_sJ hrc148 (by decide) _ _
              have x82n0_148g0 : H148_0 137 (5 + pr) = G23 134 9 := by rw [hH148_0, sI_ne (by decide)]; exact x82n0_148
              have x102n0_148g0 : H148_0 138 (5 + pr) = K102 134 11 := by rw [hH148_0, sI_ne (by decide)]; exact x102n0_148
              have x125n0_148g0 : H148_0 139 (5 + pr) = K125 134 11 := by rw [hH148_0, sI_ne (by decide)]; exact x125n0_148
              have x148n0_0 : H148_0 140 (5 + pr) = K148 134 11 := by rw [hH148_0, sI_rs]
              refine pw_iconst (n := 1) (v := 1) (by decide) (by decide +kernel) ?_
              refine pw_goto (off := 4) (tgt := 177) (by decide +kernel) (by decide +kernel) ?_
              exact pq_zret rfl (by decide) (by decide +kernel) (lnQ_t hX (rdR_sJ4 hrH148_0 (by decide) _) fo162 ⟨hzc148, by rw [show sI H148_0 134 17 (nI (pr + 1)) 137 (5 + pr) = _ from (congrFun (sI_ne (by decide)) _).trans (x82n0_148g0.trans e137), show sI H148_0 134 17 (nI (pr + 1)) 138 (5 + pr) = _ from (congrFun (sI_ne (by decide)) _).trans (x102n0_148g0.trans hu102.symm), show sI H148_0 134 17 (nI (pr + 1)) 139 (5 + pr) = _ from (congrFun (sI_ne (by decide)) _).trans (x125n0_148g0.trans hu125.symm), show sI H148_0 134 17 (nI (pr + 1)) 140 (5 + pr) = _ from (congrFun (sI_ne (by decide)) _).trans (x148n0_0.trans hu148.symm)]; exact fe162⟩)
      · rw [hv] at z58
        rw [if_pos z58] at hX
        refine pw_aload_n (k4 := 0) rfl (by decide +kernel) ?_
        refine pw_iconst (n := 3) (v := 3) (by decide) (by decide +kernel) ?_
        refine pq_callV (ν := m_Sc_refuse) (d' := 0) (av := [_]) (c := 4) (by decide +kernel) lm_Sc_59 ok_Sc_refuse (show _ = some 1 by decide +kernel) (ks_sc hA) rfl (by decide) (by omega) (Nat.le_of_ble_eq_true rfl) (ct_Sc_refuse hA _) ?_
        rintro _ _ ⟨rfl, rfl⟩
        exact pq_zret rfl (Or.inl rfl) (by decide +kernel) (lnQ_w hX hr23 (by decide) fo23)
    · rw [if_pos (fun w => z35 ((tk_25 hr23.1).mpr w))] at hX
      refine pw_aload_n (k4 := 0) rfl (by decide +kernel) ?_
      refine pw_iconst (n := 1) (v := 1) (by decide) (by decide +kernel) ?_
      refine pq_callV (ν := m_Sc_refuse) (d' := 0) (av := [_]) (c := 4) (by decide +kernel) lm_Sc_59 ok_Sc_refuse (show _ = some 1 by decide +kernel) (ks_sc hA) rfl (by decide) (by omega) (Nat.le_of_ble_eq_true rfl) (ct_Sc_refuse hA _) ?_
      rintro _ _ ⟨rfl, rfl⟩
      exact pq_zret rfl (Or.inl rfl) (by decide +kernel) (lnQ_w hX hr23 (by decide) fo23)
  · rw [if_pos (by have := hn.2.1; omega)] at hX
    refine pw_aload_n (k4 := 0) rfl (by decide +kernel) ?_
    refine pw_iconst (n := 2) (v := 2) (by decide) (by decide +kernel) ?_
    refine pq_callV (ν := m_Sc_refuse) (d' := 0) (av := [_]) (c := 4) (by decide +kernel) lm_Sc_59 ok_Sc_refuse (show _ = some 1 by decide +kernel) (ks_sc hA) rfl (by decide) (by omega) (Nat.le_of_ble_eq_true rfl) (ct_Sc_refuse hA _) ?_
    rintro _ _ ⟨rfl, rfl⟩
    exact pq_zret rfl (Or.inl rfl) (by decide +kernel) (lnQ_w hX hr (by decide) fo0)

