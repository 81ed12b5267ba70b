/-! ===== the class: the lines of a text beside the reference ===== -/
def frE (X E : Nat → Nat → Int32) : Prop := ∀ a, a ≠ 57 → a ≠ 58 → X a = E a
def frO (t : Nat) (I I' : Nat → Nat → Int32) : Prop := ∀ a, a ≠ 57 → a ≠ 58 → (a < t ∨ t + 17 < a) → I' a = I a
theorem frE.rf (I : Nat → Nat → Int32) : frE I I := fun _ _ _ => rfl
theorem frO.rf (t : Nat) (I : Nat → Nat → Int32) : frO t I I := fun _ _ _ _ => rfl
theorem frE.st {X E : Nat → Nat → Int32} (h : frE X E) {b k : Nat} {v : Int32} : frE (sI X b k v) (sI E b k v) := by
  intro a h1 h2
  by_cases e : a = b
  · subst e
    funext j
    by_cases f : j = k
    · subst f; rw [sI_rs, sI_rs]
    · rw [sI_rd f, sI_rd f, h a h1 h2]
  · rw [sI_ne e, sI_ne e, h a h1 h2]
theorem frO.st {t : Nat} {I I' : Nat → Nat → Int32} (h : frO t I I') {b k : Nat} {v : Int32} (hb : t ≤ b ∧ b ≤ t + 17) : frO t I (sI I' b k v) := by
  intro a h1 h2 h3
  rw [sI_ne (by omega)]
  exact h a h1 h2 h3
/-- the class has refused as X says -/
def scF (X : Bool × (Nat → Nat → Int32)) (I' : Nat → Nat → Int32) : Prop := X.1 = false ∧ I' 57 1 = X.2 134 4 ∧ I' 57 2 = X.2 134 5 ∧ ¬ X.2 134 4 = 0
theorem scF.cg {X : Bool × (Nat → Nat → Int32)} {I I' : Nat → Nat → Int32} (h : scF X I) (e : I' 57 = I 57) : scF X I' := by unfold scF; rw [e]; exact h
def lnQ (X : Bool × (Nat → Nat → Int32)) (T : (Nat → Nat → Int32) → (Nat → Nat → Int32) → Prop) (I : Nat → Nat → Int32) (L : Nat → Nat → Int64) (P : Nat → Nat → Option Nat) (n t : Nat) : Option Value → pM → Prop := fun r M => ∃ I', r = some (.int (bI X.1)) ∧ M = (I', L, P) ∧ frO t I I' ∧ (X.1 = true → rdR I' X.2 n ∧ T I' X.2) ∧ (X.1 = false → scF X I')
theorem lnQ_f {X : Bool × (Nat → Nat → Int32)} {T : (Nat → Nat → Int32) → (Nat → Nat → Int32) → Prop} {I I' : Nat → Nat → Int32} {L : Nat → Nat → Int64} {P : Nat → Nat → Option Nat} {n t : Nat} (h : scF X I') (ho : frO t I I') : lnQ X T I L P n t (some (.int 0)) (I', L, P) := ⟨I', by rw [h.1]; rfl, rfl, ho, fun q => (by rw [h.1] at q; cases q), fun _ => h⟩
theorem lnQ_r {X : Bool × (Nat → Nat → Int32)} {T : (Nat → Nat → Int32) → (Nat → Nat → Int32) → Prop} {I I' G : Nat → Nat → Int32} {L : Nat → Nat → Int64} {P : Nat → Nat → Option Nat} {n t : Nat} {k : Int32} {p : Int32} (hX : X = (false, yWr (sI G 134 10 p) k)) (hp : I' 58 2 = p) (hk : ¬ k = 0) (ho : frO t I I') : lnQ X T I L P n t (some (.int 0)) (scRf I' k, L, P) := by
  refine lnQ_f ?_ ?_
  · rw [hX]
    refine ⟨rfl, ?_, ?_, hk⟩
    · show sI (sI I' 57 1 k) 57 2 (I' 58 2) 57 1 = k
      rw [sI_rd (by decide), sI_rs]
    · show sI (sI I' 57 1 k) 57 2 (I' 58 2) 57 2 = sI G 134 10 p 134 10
      rw [sI_rs, sI_rs]
      exact hp
  · intro a h1 h2 h3
    unfold scRf
    rw [sI_ne h1, sI_ne h1]
    exact ho a h1 h2 h3
theorem sI_self {I : Nat → Nat → Int32} {a k : Nat} : sI I a k (I a k) = I := by
  funext b
  by_cases e : b = a
  · subst e
    funext j
    by_cases f : j = k
    · subst f; rw [sI_rs]
    · rw [sI_rd f]
  · rw [sI_ne e]
theorem lnQ_w {X : Bool × (Nat → Nat → Int32)} {T : (Nat → Nat → Int32) → (Nat → Nat → Int32) → Prop} {I I' G : Nat → Nat → Int32} {L : Nat → Nat → Int64} {P : Nat → Nat → Option Nat} {n t : Nat} {k : Int32} (hX : X = (false, yWr G k)) (hr : rdR I' G n) (hk : ¬ k = 0) (ho : frO t I I') : lnQ X T I L P n t (some (.int 0)) (scRf I' k, L, P) :=
  lnQ_r (G := G) (p := G 134 10) (by rw [sI_self]; exact hX) hr.2.1 hk ho
theorem yB_q {q : Bool × (Nat → Nat → Int32)} {f : (Nat → Nat → Int32) → Bool × (Nat → Nat → Int32)} (h : q.1 = false) : yB q f = q := by unfold yB; rw [if_neg (by rw [h]; decide)]
theorem num_pf {I K : Nat → Nat → Int32} {lo hi : Int32} (h : yNum I lo hi = (true, K)) : prF K I := by
  unfold yNum at h
  split at h
  · cases h
  · split at h
    · cases h
    · cases h
      exact (prF_tok _).tr ((prF.rf I).set (by decide) _)
theorem pick_pf {I K : Nat → Nat → Int32} {lo hi : Int32} (h : yPick I lo hi = (true, K)) : prF K I := by
  unfold yPick at h
  split at h
  · cases h
  · split at h
    · cases h
    · split at h
      · cases h
      · cases h
        exact (prF_tok I).set (by decide) _
theorem rdR_sX {X J : Nat → Nat → Int32} {n : Nat} (h : rdR X J n) {a : Nat} (ha : a ≠ 58 ∧ a ≠ 2 ∧ a ≠ 60) (k : Nat) (v : Int32) : rdR (sI X a k v) J n := rdR_X h (sI_ne (Ne.symm ha.1)) (sI_ne (Ne.symm ha.2.1)) (sI_ne (Ne.symm ha.2.2))
theorem rdR_sJ {X J : Nat → Nat → Int32} {n : Nat} (h : rdR X J n) {a : Nat} (ha : a ≠ 134 ∧ a ≠ 135) (k : Nat) (v : Int32) : rdR X (sI J a k v) n := rdR_J h (fun j _ => by rw [sI_ne (Ne.symm ha.1)]) (sI_ne (Ne.symm ha.2))
theorem rdR_sJ4 {X J : Nat → Nat → Int32} {n : Nat} (h : rdR X J n) {k : Nat} (hk : k ∉ [6, 7, 8, 9, 10]) (v : Int32) : rdR X (sI J 134 k v) n := rdR_J h (fun j hj => sI_rd (fun e => hk (e ▸ hj))) (sI_ne (by decide))
theorem lnQ_t {X : Bool × (Nat → Nat → Int32)} {T : (Nat → Nat → Int32) → (Nat → Nat → Int32) → Prop} {I I' G : Nat → Nat → Int32} {L : Nat → Nat → Int64} {P : Nat → Nat → Option Nat} {n t : Nat} (hX : X = (true, G)) (hr : rdR I' G n) (ho : frO t I I') (hT : T I' G) : lnQ X T I L P n t (some (.int 1)) (I', L, P) := ⟨I', by rw [hX]; rfl, rfl, ho, fun _ => by rw [hX]; exact ⟨hr, hT⟩, fun q => by rw [hX] at q; cases q⟩
/-- what a person's line has changed -/
def tPe (I : Nat → Nat → Int32) (t pr : Nat) (I' J' : Nat → Nat → Int32) : Prop := I' 57 = I 57 ∧ frE I' (sI (sI (sI (sI (sI I (t + 1) pr (J' 137 (5 + pr))) (t + 2) pr (J' 138 (5 + pr))) (t + 3) pr (J' 139 (5 + pr))) (t + 4) pr (J' 140 (5 + pr))) t 0 (nI (pr + 1)))
set_option maxHeartbeats 4000000 in
theorem ct_Sc_readPerson {sh : List pSh} {I : Nat → Nat → Int32} {L : Nat → Nat → Int64} {P : Nat → Nat → Option Nat} (hA : kA sh P) (hrb : P 58 3 = some 2) {J : Nat → Nat → Int32} {n : Nat} (hr : rdR I J n) {t : Nat} (ht : t = 3 ∨ t = 30) (hst : P 57 5 = some t) (h0 : I 57 1 = 0) {pr sr dr : Nat} (hn : tOK I t pr sr dr) (hnm : ∀ p, p < pr → I (t + 1) p = J 137 (5 + p)) : pCn m_Sc_readPerson 4 [.ref 57] sh (I, L, P) (lnQ (yPL pr J) (tPe I t pr) I L P n t) := by
  refine pCn_of (by decide +kernel) (Nat.le_of_ble_eq_true rfl) ?_
  obtain ⟨X, hX⟩ : ∃ X, X = yPL pr J := ⟨_, rfl⟩
  rw [← hX]
  unfold yPL at hX
  have fe0 : frE I I := frE.rf I
  have fo0 : frO t I I := frO.rf t I
  have hz0 : I 57 = I 57 := rfl
  have hc0 : J 137 = J 137 := rfl
  have h5 := hn.2.1
  refine pw_aload_n (k4 := 0) rfl (by decide +kernel) ?_
  refine pq_getP (c := 4) (k := 5) (ks_sc hA) (by decide) (by decide) hst lf_Sc_18 (by decide +kernel) ?_
  refine pq_getI (c := 7) (k := 0) (ks_t hA ht) (by decide) (by decide) lf_Sc_97 (by decide +kernel) ?_
  refine pn_val (nI (pr)) (hn.1) ?_
  refine pq_istore_n (k4 := 1) (Nat.le_of_ble_eq_true rfl) rfl (by decide +kernel) ?_
  refine pw_iload_n (k4 := 1) rfl (by decide +kernel) ?_
  refine pw_iconst (n := 5) (v := 5) (by decide) (by decide +kernel) ?_
  refine pn_icmp_lt (off := 9) (tgt := 19) pr 5 rfl rfl (by omega) (by omega) (by decide +kernel) (by decide +kernel) (fun z10 => ?_) (fun z10 => ?_)
  · rw [if_neg (by omega)] at hX
    refine pw_aload_n (k4 := 0) rfl (by decide +kernel) ?_
    refine pq_getP (c := 4) (k := 4) (ks_sc hA) (by decide) (by decide) (kp_sc_reader hA) lf_Sc_12 (by decide +kernel) ?_
    refine pq_callV (ν := m_Re_advance) (d' := 2) (av := []) (c := 3) (by decide +kernel) lm_Sc_62 ok_Re_advance (show _ = some 0 by decide +kernel) (ks_re hA) rfl (by decide) (by omega) (Nat.le_of_ble_eq_true rfl) (gt_advance hA hrb hr) ?_
    rintro _ _ ⟨rfl, I23, rfl, hr23, hf23⟩
    have pf23 : prF (yTok J) J := prF_tok _
    generalize yTok J = G23 at hX hr23 pf23
    try dsimp only at hX
    have fe23 : frE I23 (I) := fun a h1 h2 => (hf23 a h2).trans (fe0 a h1 h2)
    have fo23 : frO t I I23 := fun a h1 h2 h3 => (hf23 a h2).trans (fo0 a h1 h2 h3)
    have hz23 : I23 57 = I 57 := (hf23 57 (by decide)).trans hz0
    have c23 : G23 137 = J 137 := (pf23.1 137 (by decide)).trans hc0
    refine pw_aload_n (k4 := 0) rfl (by decide +kernel) ?_
    refine pq_getP (c := 4) (k := 4) (ks_sc hA) (by decide) (by decide) (kp_sc_reader hA) lf_Sc_12 (by decide +kernel) ?_
    refine pq_getI (c := 3) (k := 0) (ks_re hA) (by decide) (by decide) lf_Sc_45 (by decide +kernel) ?_
    refine pw_bipush (n := 25) (v := 25) (by decide) (by decide +kernel) ?_
    refine pw_icmp_eq (off := 9) (tgt := 44) (by decide +kernel) (by decide +kernel) (fun z35 => ?_) (fun z35 => ?_)
    · have hk35 : G23 134 8 = 2 := (tk_25 hr23.1).mp z35
      rw [if_neg (fun w => w hk35)] at hX
      refine pw_aload_n (k4 := 0) rfl (by decide +kernel) ?_
      refine pq_getP (c := 4) (k := 5) (ks_sc hA) (by decide) (by decide) hst lf_Sc_18 (by decide +kernel) ?_
      refine pw_aload_n (k4 := 0) rfl (by decide +kernel) ?_
      refine pq_getP (c := 4) (k := 4) (ks_sc hA) (by decide) (by decide) (kp_sc_reader hA) lf_Sc_12 (by decide +kernel) ?_
      refine pq_getI (c := 3) (k := 1) (ks_re hA) (by decide) (by decide) lf_Sc_86 (by decide +kernel) ?_
      have eT : I23 t = I t := by rw [fe23 t (by omega) (by omega)]
      have eN : I23 (t + 1) = I (t + 1) := by rw [fe23 (t + 1) (by omega) (by omega)]
      have eG : G23 137 = J 137 := pf23.1 137 (by decide)
      have hv : fFind (I23 (t + 1)) (I23 58 1) pr 0 = fFind (fun k => G23 137 (5 + k)) (G23 134 9) pr 0 := by rw [tk_wd hr23.1 hk35, eN, eG]; exact fFind_cg pr 0 (fun j _ hj => hnm j (by omega))
      refine pq_callV (ν := m_Ta_personNamed) (d' := 0) (av := [_]) (c := 7) (by decide +kernel) lm_Sc_93 ok_Ta_personNamed (show _ = some 1 by decide +kernel) (ks_t hA ht) rfl (by decide) (by omega) (Nat.le_of_ble_eq_true rfl) (ct_Ta_personNamed hA ht (np := pr) (ns := sr) (nd := dr) (by unfold tOK; rw [eT]; exact hn) _) ?_
      rintro _ _ ⟨rfl, rfl⟩
      refine pw_if_lt (off := 9) (tgt := 67) (by decide +kernel) (by decide +kernel) (fun z58 => ?_) (fun z58 => ?_)
      · rw [hv] at z58
        rw [if_neg (fun w => w z58)] at hX
        have e137 : G23 134 9 = I23 58 1 := (tk_wd hr23.1 hk35).symm
        refine pw_aload_n (k4 := 0) rfl (by decide +kernel) ?_
        refine pq_getP (c := 4) (k := 5) (ks_sc hA) (by decide) (by decide) hst lf_Sc_18 (by decide +kernel) ?_
        refine pq_getP (c := 7) (k := 1) (ks_t hA ht) (by decide) (by decide) (kp_t_name hA ht) lf_Sc_100 (by decide +kernel) ?_
        refine pw_iload_n (k4 := 1) rfl (by decide +kernel) ?_
        refine pw_aload_n (k4 := 0) rfl (by decide +kernel) ?_
        refine pq_getP (c := 4) (k := 4) (ks_sc hA) (by decide) (by decide) (kp_sc_reader hA) lf_Sc_12 (by decide +kernel) ?_
        refine pq_getI (c := 3) (k := 1) (ks_re hA) (by decide) (by decide) lf_Sc_86 (by decide +kernel) ?_
        refine pq_iast pr rfl (by omega) (by decide) (ks_t_name hA ht) (by decide +kernel) ?_
        obtain ⟨I82, hI82⟩ : ∃ Z, Z = sI I23 (t + 1) pr (I23 58 1) := ⟨_, rfl⟩
        rw [← hI82]
        have fe82 : frE I82 (sI (I) (t + 1) pr (I23 58 1)) := by rw [hI82]; exact fe23.st
        have fo82 : frO t I I82 := by rw [hI82]; exact fo23.st (by omega)
        have e57_82 : I82 57 = I23 57 := by rw [hI82, sI_ne (by omega)]
        have hz82 : I82 57 = I 57 := e57_82.trans hz23
        have hr82 : rdR I82 G23 n := by rw [hI82]; exact rdR_sX hr23 (by omega) _ _
        obtain ⟨H82_0, hH82_0⟩ : ∃ Z, Z = sI G23 137 (5 + pr) (G23 134 9) := ⟨_, rfl⟩
        rw [← hH82_0] at hX
        have hrH82_0 : rdR I82 H82_0 n := by rw [hH82_0]; exact rdR_sJ hr82 (by decide) _ _
        have x82n0_0 : H82_0 137 (5 + pr) = G23 134 9 := by rw [hH82_0, sI_rs]
        refine pw_aload_n (k4 := 0) rfl (by decide +kernel) ?_
        refine pq_getP (c := 4) (k := 4) (ks_sc hA) (by decide) (by decide) (kp_sc_reader hA) lf_Sc_12 (by decide +kernel) ?_
        refine pq_callV (ν := m_Re_advance) (d' := 2) (av := []) (c := 3) (by decide +kernel) lm_Sc_62 ok_Re_advance (show _ = some 0 by decide +kernel) (ks_re hA) rfl (by decide) (by omega) (Nat.le_of_ble_eq_true rfl) (gt_advance hA hrb hrH82_0) ?_
        rintro _ _ ⟨rfl, I87, rfl, hr87, hf87⟩
        have pf87 : prF (yTok H82_0) H82_0 := prF_tok _
        generalize yTok H82_0 = G87 at hX hr87 pf87
        try dsimp only at hX
        have fe87 : frE I87 (sI (I) (t + 1) pr (I23 58 1)) := fun a h1 h2 => (hf87 a h2).trans (fe82 a h1 h2)
        have fo87 : frO t I I87 := fun a h1 h2 h3 => (hf87 a h2).trans (fo82 a h1 h2 h3)
        have hz87 : I87 57 = I 57 := (hf87 57 (by decide)).trans hz82
        have x82n0_87 : G87 137 (5 + pr) = G23 134 9 := by rw [pf87.1 137 (by decide)]; exact x82n0_0
        refine pw_aload_n (k4 := 0) rfl (by decide +kernel) ?_
        refine pq_getP (c := 4) (k := 5) (ks_sc hA) (by decide) (by decide) hst lf_Sc_18 (by decide +kernel) ?_
        refine pq_getP (c := 7) (k := 2) (ks_t hA ht) (by decide) (by decide) (kp_t_foot hA ht) lf_Sc_104 (by decide +kernel) ?_
        refine pw_iload_n (k4 := 1) rfl (by decide +kernel) ?_
        refine pw_aload_n (k4 := 0) rfl (by decide +kernel) ?_
        refine pw_iconst (n := 1) (v := 1) (by decide) (by decide +kernel) ?_
        refine pw_bipush (n := 20) (v := 20) (by decide) (by decide +kernel) ?_
        refine pq_callV (ν := m_Sc_takeNumber) (d' := 3) (av := [_, _]) (c := 4) (by decide +kernel) lm_Sc_107 ok_Sc_takeNumber (show _ = some 2 by decide +kernel) (ks_sc hA) rfl (by decide) (by omega) (Nat.le_of_ble_eq_true rfl) (gt_takeNumber hA hrb hr87 1 20 (by decide) (by decide)) ?_
        rintro _ _ ⟨I102, v102, rfl, rfl, hs102, hv102, hw102⟩
        have fe102 : frE I102 (sI (I) (t + 1) pr (I23 58 1)) := fun a h1 h2 => (hs102.2.2 a h1 h2).trans (fe87 a h1 h2)
        have fo102 : frO t I I102 := fun a h1 h2 h3 => (hs102.2.2 a h1 h2).trans (fo87 a h1 h2 h3)
        refine pq_iast pr rfl (by omega) (by decide) (ks_t_foot hA ht) (by decide +kernel) ?_
        obtain ⟨I105, hI105⟩ : ∃ Z, Z = sI I102 (t + 2) pr (v102) := ⟨_, rfl⟩
        rw [← hI105]
        have fe105 : frE I105 (sI (sI (I) (t + 1) pr (I23 58 1)) (t + 2) pr (v102)) := by rw [hI105]; exact fe102.st
        have fo105 : frO t I I105 := by rw [hI105]; exact fo102.st (by omega)
        have e57_105 : I105 57 = I102 57 := by rw [hI105, sI_ne (by omega)]
        refine pw_aload_n (k4 := 0) rfl (by decide +kernel) ?_
        refine pq_getI (c := 4) (k := 1) (ks_sc hA) (by decide) (by decide) lf_Sc_35 (by decide +kernel) ?_
        refine pw_if_ne (off := 19) (tgt := 129) (by decide +kernel) (by decide +kernel) (fun z110 => ?_) (fun z110 => ?_)
        · have hb102 : (I102 57 1 = 0 ↔ (yNum G87 (nI 1) (nI 20)).1 = true) := sbR_in hs102 (by rw [hz87]; exact h0)
          have hq102 : (yNum G87 (nI 1) (nI 20)).1 = false := by
            cases e : (yNum G87 (nI 1) (nI 20)).1 with
            | false => rfl
            | true => exact absurd (hb102.mpr e) (by rw [← e57_105]; exact z110)
          have hXf102 : X = yNum G87 (nI 1) (nI 20) := by rw [hX]; exact yB_q hq102
          have ff102 : scF X I102 := by rw [hXf102]; exact ⟨hq102, hs102.2.1 hq102⟩
          have fc102 : scF X I105 := ff102.cg e57_105
          refine pw_aload_n (k4 := 0) rfl (by decide +kernel) ?_
          refine pq_getI (c := 4) (k := 1) (ks_sc hA) (by decide) (by decide) lf_Sc_35 (by decide +kernel) ?_
          refine pw_if_ne (off := 19) (tgt := 152) (by decide +kernel) (by decide +kernel) (fun z133 => ?_) (fun z133 => ?_)
          · refine pw_aload_n (k4 := 0) rfl (by decide +kernel) ?_
            refine pq_getP (c := 4) (k := 5) (ks_sc hA) (by decide) (by decide) hst lf_Sc_18 (by decide +kernel) ?_
            refine pw_dup rfl (by decide +kernel) ?_
            refine pq_getI (c := 7) (k := 0) (ks_t hA ht) (by decide) (by decide) lf_Sc_97 (by decide +kernel) ?_
            refine pn_val (nI (pr)) (by rw [fe105 t (by omega) (by omega)]; (repeat rw [sI_ne (by omega)]); exact hn.1) ?_
            refine pw_iconst (n := 1) (v := 1) (by decide) (by decide +kernel) ?_
            refine pn_iadd pr 1 rfl rfl (by decide +kernel) ?_
            refine pq_putI (c := 7) (k := 0) (ks_t hA ht) (by decide) (by decide) lf_Sc_97 (Or.inl rfl) (by decide +kernel) ?_
            obtain ⟨I162, hI162⟩ : ∃ Z, Z = sI I105 t 0 (nI (pr + 1)) := ⟨_, rfl⟩
            rw [← hI162]
            have fe162 : frE I162 (sI (sI (sI (I) (t + 1) pr (I23 58 1)) (t + 2) pr (v102)) t 0 (nI (pr + 1))) := by rw [hI162]; exact fe105.st
            have fo162 : frO t I I162 := by rw [hI162]; exact fo105.st (by omega)
            have e57_162 : I162 57 = I105 57 := by rw [hI162, sI_ne (by omega)]
            have ff162 : scF X I162 := fc102.cg e57_162
            refine pw_aload_n (k4 := 0) rfl (by decide +kernel) ?_
            refine pq_getI (c := 4) (k := 1) (ks_sc hA) (by decide) (by decide) lf_Sc_35 (by decide +kernel) ?_
            refine pw_if_ne (off := 7) (tgt := 176) (by decide +kernel) (by decide +kernel) (fun z169 => ?_) (fun z169 => ?_)
            · refine pw_iconst (n := 0) (v := 0) (by decide) (by decide +kernel) ?_
              exact pq_zret rfl (by decide) (by decide +kernel) (lnQ_f ff162 fo162)
            · exact absurd z169 (by rw [ff162.2.1]; exact ff162.2.2.2)
          · exact absurd z133 (by rw [fc102.2.1]; exact fc102.2.2.2)
        · have hb102 : (I102 57 1 = 0 ↔ (yNum G87 (nI 1) (nI 20)).1 = true) := sbR_in hs102 (by rw [hz87]; exact h0)
          have hq102 : (yNum G87 (nI 1) (nI 20)).1 = true := hb102.mp (by rw [← e57_105]; exact z110)
          obtain ⟨K102, hK102⟩ : ∃ K, yNum G87 (nI 1) (nI 20) = (true, K) := ⟨_, Prod.ext hq102 rfl⟩
          rw [show yNum G87 1 20 = (true, K102) from hK102, yB_t] at hX
          try dsimp only at hX
          have pf102 : prF K102 G87 := num_pf hK102
          have hr102 : rdR I102 K102 n := by have := (hs102.1 hq102).1; rw [hK102] at this; exact this
          have hz102 : I102 57 = I 57 := (hs102.1 hq102).2.trans hz87
          have hu102 : v102 = K102 134 11 := by have := hv102 hq102; rw [hK102] at this; exact this
          have x82n0_102 : K102 137 (5 + pr) = G23 134 9 := by rw [pf102.1 137 (by decide)]; exact x82n0_87
          have hzc102 : I105 57 = I 57 := e57_105.trans hz102
          have hrc102 : rdR I105 K102 n := by rw [hI105]; exact rdR_sX (hr102) (by omega) _ _
          obtain ⟨H102_0, hH102_0⟩ : ∃ Z, Z = sI K102 138 (5 + pr) (K102 134 11) := ⟨_, rfl⟩
          rw [← hH102_0] at hX
          have hrH102_0 : rdR I105 H102_0 n := by rw [hH102_0]; exact rdR_sJ hrc102 (by decide) _ _
          have x82n0_102g0 : H102_0 137 (5 + pr) = G23 134 9 := by rw [hH102_0, sI_ne (by decide)]; exact x82n0_102
          have x102n0_0 : H102_0 138 (5 + pr) = K102 134 11 := by rw [hH102_0, sI_rs]
          refine pw_aload_n (k4 := 0) rfl (by decide +kernel) ?_
          refine pq_getP (c := 4) (k := 5) (ks_sc hA) (by decide) (by decide) hst lf_Sc_18 (by decide +kernel) ?_
          refine pq_getP (c := 7) (k := 3) (ks_t hA ht) (by decide) (by decide) (kp_t_steps hA ht) lf_Sc_110 (by decide +kernel) ?_
          refine pw_iload_n (k4 := 1) rfl (by decide +kernel) ?_
          refine pw_aload_n (k4 := 0) rfl (by decide +kernel) ?_
          refine pw_iconst (n := 0) (v := 0) (by decide) (by decide +kernel) ?_
          refine pw_bipush (n := 99) (v := 99) (by decide) (by decide +kernel) ?_
          refine pq_callV (ν := m_Sc_takeNumber) (d' := 3) (av := [_, _]) (c := 4) (by decide +kernel) lm_Sc_107 ok_Sc_takeNumber (show _ = some 2 by decide +kernel) (ks_sc hA) rfl (by decide) (by omega) (Nat.le_of_ble_eq_true rfl) (gt_takeNumber hA hrb hrH102_0 0 99 (by decide) (by decide)) ?_
          rintro _ _ ⟨I125, v125, rfl, rfl, hs125, hv125, hw125⟩
          have fe125 : frE I125 (sI (sI (I) (t + 1) pr (I23 58 1)) (t + 2) pr (v102)) := fun a h1 h2 => (hs125.2.2 a h1 h2).trans (fe105 a h1 h2)
          have fo125 : frO t I I125 := fun a h1 h2 h3 => (hs125.2.2 a h1 h2).trans (fo105 a h1 h2 h3)
          refine pq_iast pr rfl (by omega) (by decide) (ks_t_steps hA ht) (by decide +kernel) ?_
          obtain ⟨I128, hI128⟩ : ∃ Z, Z = sI I125 (t + 3) pr (v125) := ⟨_, rfl⟩
          rw [← hI128]
          have fe128 : frE I128 (sI (sI (sI (I) (t + 1) pr (I23 58 1)) (t + 2) pr (v102)) (t + 3) pr (v125)) := by rw [hI128]; exact fe125.st
          have fo128 : frO t I I128 := by rw [hI128]; exact fo125.st (by omega)
          have e57_128 : I128 57 = I125 57 := by rw [hI128, sI_ne (by omega)]
          refine pw_aload_n (k4 := 0) rfl (by decide +kernel) ?_
          refine pq_getI (c := 4) (k := 1) (ks_sc hA) (by decide) (by decide) lf_Sc_35 (by decide +kernel) ?_
          refine pw_if_ne (off := 19) (tgt := 152) (by decide +kernel) (by decide +kernel) (fun z133 => ?_) (fun z133 => ?_)
          · have hb125 : (I125 57 1 = 0 ↔ (yNum H102_0 (nI 0) (nI 99)).1 = true) := sbR_in hs125 (by rw [hzc102]; exact h0)
            have hq125 : (yNum H102_0 (nI 0) (nI 99)).1 = false := by
              cases e : (yNum H102_0 (nI 0) (nI 99)).1 with
              | false => rfl
              | true => exact absurd (hb125.mpr e) (by rw [← e57_128]; exact z133)
            have hXf125 : X = yNum H102_0 (nI 0) (nI 99) := by rw [hX]; exact yB_q hq125
            have ff125 : scF X I125 := by rw [hXf125]; exact ⟨hq125, hs125.2.1 hq125⟩
            have fc125 : scF X I128 := ff125.cg e57_128
            refine pw_aload_n (k4 := 0) rfl (by decide +kernel) ?_
            refine pq_getP (c := 4) (k := 5) (ks_sc hA) (by decide) (by decide) hst lf_Sc_18 (by decide +kernel) ?_
            refine pw_dup rfl (by decide +kernel) ?_
            refine pq_getI (c := 7) (k := 0) (ks_t hA ht) (by decide) (by decide) lf_Sc_97 (by decide +kernel) ?_
            refine pn_val (nI (pr)) (by rw [fe128 t (by omega) (by omega)]; (repeat rw [sI_ne (by omega)]); exact hn.1) ?_
            refine pw_iconst (n := 1) (v := 1) (by decide) (by decide +kernel) ?_
            refine pn_iadd pr 1 rfl rfl (by decide +kernel) ?_
            refine pq_putI (c := 7) (k := 0) (ks_t hA ht) (by decide) (by decide) lf_Sc_97 (Or.inl rfl) (by decide +kernel) ?_
            obtain ⟨I162, hI162⟩ : ∃ Z, Z = sI I128 t 0 (nI (pr + 1)) := ⟨_, rfl⟩
            rw [← hI162]
            have fe162 : frE I162 (sI (sI (sI (sI (I) (t + 1) pr (I23 58 1)) (t + 2) pr (v102)) (t + 3) pr (v125)) t 0 (nI (pr + 1))) := by rw [hI162]; exact fe128.st
            have fo162 : frO t I I162 := by rw [hI162]; exact fo128.st (by omega)
            have e57_162 : I162 57 = I128 57 := by rw [hI162, sI_ne (by omega)]
            have ff162 : scF X I162 := fc125.cg e57_162
            refine pw_aload_n (k4 := 0) rfl (by decide +kernel) ?_
            refine pq_getI (c := 4) (k := 1) (ks_sc hA) (by decide) (by decide) lf_Sc_35 (by decide +kernel) ?_
            refine pw_if_ne (off := 7) (tgt := 176) (by decide +kernel) (by decide +kernel) (fun z169 => ?_) (fun z169 => ?_)
            · refine pw_iconst (n := 0) (v := 0) (by decide) (by decide +kernel) ?_
              exact pq_zret rfl (by decide) (by decide +kernel) (lnQ_f ff162 fo162)
            · exact absurd z169 (by rw [ff162.2.1]; exact ff162.2.2.2)
          · have hb125 : (I125 57 1 = 0 ↔ (yNum H102_0 (nI 0) (nI 99)).1 = true) := sbR_in hs125 (by rw [hzc102]; exact h0)
            have hq125 : (yNum H102_0 (nI 0) (nI 99)).1 = true := hb125.mp (by rw [← e57_128]; exact z133)
            obtain ⟨K125, hK125⟩ : ∃ K, yNum H102_0 (nI 0) (nI 99) = (true, K) := ⟨_, Prod.ext hq125 rfl⟩
            rw [show yNum H102_0 0 99 = (true, K125) from hK125, yB_t] at hX
            try dsimp only at hX
            have pf125 : prF K125 H102_0 := num_pf hK125
            have hr125 : rdR I125 K125 n := by have := (hs125.1 hq125).1; rw [hK125] at this; exact this
            have hz125 : I125 57 = I 57 := (hs125.1 hq125).2.trans hzc102
            have hu125 : v125 = K125 134 11 := by have := hv125 hq125; rw [hK125] at this; exact this
            have x82n0_125 : K125 137 (5 + pr) = G23 134 9 := by rw [pf125.1 137 (by decide)]; exact x82n0_102g0
            have x102n0_125 : K125 138 (5 + pr) = K102 134 11 := by rw [pf125.1 138 (by decide)]; exact x102n0_0
            have hzc125 : I128 57 = I 57 := e57_128.trans hz125
            have hrc125 : rdR I128 K125 n := by rw [hI128]; exact rdR_sX (hr125) (by omega) _ _
            obtain ⟨H125_0, hH125_0⟩ : ∃ Z, Z = sI K125 139 (5 + pr) (K125 134 11) := ⟨_, rfl⟩
            rw [← hH125_0] at hX
            have hrH125_0 : rdR I128 H125_0 n := by rw [hH125_0]; exact rdR_sJ hrc125 (by decide) _ _
            have x82n0_125g0 : H125_0 137 (5 + pr) = G23 134 9 := by rw [hH125_0, sI_ne (by decide)]; exact x82n0_125
            have x102n0_125g0 : H125_0 138 (5 + pr) = K102 134 11 := by rw [hH125_0, sI_ne (by decide)]; exact x102n0_125
            have x125n0_0 : H125_0 139 (5 + pr) = K125 134 11 := by rw [hH125_0, sI_rs]
            refine pw_aload_n (k4 := 0) rfl (by decide +kernel) ?_
            refine pq_getP (c := 4) (k := 5) (ks_sc hA) (by decide) (by decide) hst lf_Sc_18 (by decide +kernel) ?_
            refine pq_getP (c := 7) (k := 4) (ks_t hA ht) (by decide) (by decide) (kp_t_fare hA ht) lf_Sc_113 (by decide +kernel) ?_
            refine pw_iload_n (k4 := 1) rfl (by decide +kernel) ?_
            refine pw_aload_n (k4 := 0) rfl (by decide +kernel) ?_
            refine pw_iconst (n := 0) (v := 0) (by decide) (by decide +kernel) ?_
            refine pw_bipush (n := 99) (v := 99) (by decide) (by decide +kernel) ?_
            refine pq_callV (ν := m_Sc_takeNumber) (d' := 3) (av := [_, _]) (c := 4) (by decide +kernel) lm_Sc_107 ok_Sc_takeNumber (show _ = some 2 by decide +kernel) (ks_sc hA) rfl (by decide) (by omega) (Nat.le_of_ble_eq_true rfl) (gt_takeNumber hA hrb hrH125_0 0 99 (by decide) (by decide)) ?_
            rintro _ _ ⟨I148, v148, rfl, rfl, hs148, hv148, hw148⟩
            have fe148 : frE I148 (sI (sI (sI (I) (t + 1) pr (I23 58 1)) (t + 2) pr (v102)) (t + 3) pr (v125)) := fun a h1 h2 => (hs148.2.2 a h1 h2).trans (fe128 a h1 h2)
            have fo148 : frO t I I148 := fun a h1 h2 h3 => (hs148.2.2 a h1 h2).trans (fo128 a h1 h2 h3)
            refine pq_iast pr rfl (by omega) (by decide) (ks_t_fare hA ht) (by decide +kernel) ?_
            obtain ⟨I151, hI151⟩ : ∃ Z, Z = sI I148 (t + 4) pr (v148) := ⟨_, rfl⟩
            rw [← hI151]
            have fe151 : frE I151 (sI (sI (sI (sI (I) (t + 1) pr (I23 58 1)) (t + 2) pr (v102)) (t + 3) pr (v125)) (t + 4) pr (v148)) := by rw [hI151]; exact fe148.st
            have fo151 : frO t I I151 := by rw [hI151]; exact fo148.st (by omega)
            have e57_151 : I151 57 = I148 57 := by rw [hI151, sI_ne (by omega)]
            refine pw_aload_n (k4 := 0) rfl (by decide +kernel) ?_
            refine pq_getP (c := 4) (k := 5) (ks_sc hA) (by decide) (by decide) hst lf_Sc_18 (by decide +kernel) ?_
            refine pw_dup rfl (by decide +kernel) ?_
            refine pq_getI (c := 7) (k := 0) (ks_t hA ht) (by decide) (by decide) lf_Sc_97 (by decide +kernel) ?_
            refine pn_val (nI (pr)) (by rw [fe151 t (by omega) (by omega)]; (repeat rw [sI_ne (by omega)]); exact hn.1) ?_
            refine pw_iconst (n := 1) (v := 1) (by decide) (by decide +kernel) ?_
            refine pn_iadd pr 1 rfl rfl (by decide +kernel) ?_
            refine pq_putI (c := 7) (k := 0) (ks_t hA ht) (by decide) (by decide) lf_Sc_97 (Or.inl rfl) (by decide +kernel) ?_
            obtain ⟨I162, hI162⟩ : ∃ Z, Z = sI I151 t 0 (nI (pr + 1)) := ⟨_, rfl⟩
            rw [← hI162]
            have fe162 : frE I162 (sI (sI (sI (sI (sI (I) (t + 1) pr (I23 58 1)) (t + 2) pr (v102)) (t + 3) pr (v125)) (t + 4) pr (v148)) t 0 (nI (pr + 1))) := by rw [hI162]; exact fe151.st
            have fo162 : frO t I I162 := by rw [hI162]; exact fo151.st (by omega)
            have e57_162 : I162 57 = I151 57 := by rw [hI162, sI_ne (by omega)]
            refine pw_aload_n (k4 := 0) rfl (by decide +kernel) ?_
            refine pq_getI (c := 4) (k := 1) (ks_sc hA) (by decide) (by decide) lf_Sc_35 (by decide +kernel) ?_
            refine pw_if_ne (off := 7) (tgt := 176) (by decide +kernel) (by decide +kernel) (fun z169 => ?_) (fun z169 => ?_)
            · have hb148 : (I148 57 1 = 0 ↔ (yNum H125_0 (nI 0) (nI 99)).1 = true) := sbR_in hs148 (by rw [hzc125]; exact h0)
              have hq148 : (yNum H125_0 (nI 0) (nI 99)).1 = false := by
                cases e : (yNum H125_0 (nI 0) (nI 99)).1 with
                | false => rfl
                | true => exact absurd (hb148.mpr e) (by rw [← (e57_162.trans e57_151)]; exact z169)
              have hXf148 : X = yNum H125_0 (nI 0) (nI 99) := by rw [hX]; exact yB_q hq148
              have ff148 : scF X I148 := by rw [hXf148]; exact ⟨hq148, hs148.2.1 hq148⟩
              have fc148 : scF X I162 := ff148.cg (e57_162.trans e57_151)
              refine pw_iconst (n := 0) (v := 0) (by decide) (by decide +kernel) ?_
              exact pq_zret rfl (by decide) (by decide +kernel) (lnQ_f fc148 fo162)
            · have hb148 : (I148 57 1 = 0 ↔ (yNum H125_0 (nI 0) (nI 99)).1 = true) := sbR_in hs148 (by rw [hzc125]; exact h0)
              have hq148 : (yNum H125_0 (nI 0) (nI 99)).1 = true := hb148.mp (by rw [← (e57_162.trans e57_151)]; exact z169)
              obtain ⟨K148, hK148⟩ : ∃ K, yNum H125_0 (nI 0) (nI 99) = (true, K) := ⟨_, Prod.ext hq148 rfl⟩
              rw [show yNum H125_0 0 99 = (true, K148) from hK148, yB_t] at hX
              try dsimp only at hX
              have pf148 : prF K148 H125_0 := num_pf hK148
              have hr148 : rdR I148 K148 n := by have := (hs148.1 hq148).1; rw [hK148] at this; exact this
              have hz148 : I148 57 = I 57 := (hs148.1 hq148).2.trans hzc125
              have hu148 : v148 = K148 134 11 := by have := hv148 hq148; rw [hK148] at this; exact this
              have x82n0_148 : K148 137 (5 + pr) = G23 134 9 := by rw [pf148.1 137 (by decide)]; exact x82n0_125g0
              have x102n0_148 : K148 138 (5 + pr) = K102 134 11 := by rw [pf148.1 138 (by decide)]; exact x102n0_125g0
              have x125n0_148 : K148 139 (5 + pr) = K125 134 11 := by rw [pf148.1 139 (by decide)]; exact x125n0_0
              have hzc148 : I162 57 = I 57 := (e57_162.trans e57_151).trans hz148
              have hrc148 : rdR I162 K148 n := by rw [hI162, hI151]; exact rdR_sX (rdR_sX (hr148) (by omega) _ _) (by omega) _ _
              obtain ⟨H148_0, hH148_0⟩ : ∃ Z, Z = sI K148 140 (5 + pr) (K148 134 11) := ⟨_, rfl⟩
              rw [← hH148_0] at hX
              have hrH148_0 : rdR I162 H148_0 n := by rw [hH148_0]; exact rdR_sJ hrc148 (by decide) _ _
              have x82n0_148g0 : H148_0 137 (5 + pr) = G23 134 9 := by rw [hH148_0, sI_ne (by decide)]; exact x82n0_148
              have x102n0_148g0 : H148_0 138 (5 + pr) = K102 134 11 := by rw [hH148_0, sI_ne (by decide)]; exact x102n0_148
              have x125n0_148g0 : H148_0 139 (5 + pr) = K125 134 11 := by rw [hH148_0, sI_ne (by decide)]; exact x125n0_148
              have x148n0_0 : H148_0 140 (5 + pr) = K148 134 11 := by rw [hH148_0, sI_rs]
              refine pw_iconst (n := 1) (v := 1) (by decide) (by decide +kernel) ?_
              refine pw_goto (off := 4) (tgt := 177) (by decide +kernel) (by decide +kernel) ?_
              exact pq_zret rfl (by decide) (by decide +kernel) (lnQ_t hX (rdR_sJ4 hrH148_0 (by decide) _) fo162 ⟨hzc148, by rw [show sI H148_0 134 17 (nI (pr + 1)) 137 (5 + pr) = _ from (congrFun (sI_ne (by decide)) _).trans (x82n0_148g0.trans e137), show sI H148_0 134 17 (nI (pr + 1)) 138 (5 + pr) = _ from (congrFun (sI_ne (by decide)) _).trans (x102n0_148g0.trans hu102.symm), show sI H148_0 134 17 (nI (pr + 1)) 139 (5 + pr) = _ from (congrFun (sI_ne (by decide)) _).trans (x125n0_148g0.trans hu125.symm), show sI H148_0 134 17 (nI (pr + 1)) 140 (5 + pr) = _ from (congrFun (sI_ne (by decide)) _).trans (x148n0_0.trans hu148.symm)]; exact fe162⟩)
      · rw [hv] at z58
        rw [if_pos z58] at hX
        refine pw_aload_n (k4 := 0) rfl (by decide +kernel) ?_
        refine pw_iconst (n := 3) (v := 3) (by decide) (by decide +kernel) ?_
        refine pq_callV (ν := m_Sc_refuse) (d' := 0) (av := [_]) (c := 4) (by decide +kernel) lm_Sc_59 ok_Sc_refuse (show _ = some 1 by decide +kernel) (ks_sc hA) rfl (by decide) (by omega) (Nat.le_of_ble_eq_true rfl) (ct_Sc_refuse hA _) ?_
        rintro _ _ ⟨rfl, rfl⟩
        exact pq_zret rfl (Or.inl rfl) (by decide +kernel) (lnQ_w hX hr23 (by decide) fo23)
    · rw [if_pos (fun w => z35 ((tk_25 hr23.1).mpr w))] at hX
      refine pw_aload_n (k4 := 0) rfl (by decide +kernel) ?_
      refine pw_iconst (n := 1) (v := 1) (by decide) (by decide +kernel) ?_
      refine pq_callV (ν := m_Sc_refuse) (d' := 0) (av := [_]) (c := 4) (by decide +kernel) lm_Sc_59 ok_Sc_refuse (show _ = some 1 by decide +kernel) (ks_sc hA) rfl (by decide) (by omega) (Nat.le_of_ble_eq_true rfl) (ct_Sc_refuse hA _) ?_
      rintro _ _ ⟨rfl, rfl⟩
      exact pq_zret rfl (Or.inl rfl) (by decide +kernel) (lnQ_w hX hr23 (by decide) fo23)
  · rw [if_pos (by have := hn.2.1; omega)] at hX
    refine pw_aload_n (k4 := 0) rfl (by decide +kernel) ?_
    refine pw_iconst (n := 2) (v := 2) (by decide) (by decide +kernel) ?_
    refine pq_callV (ν := m_Sc_refuse) (d' := 0) (av := [_]) (c := 4) (by decide +kernel) lm_Sc_59 ok_Sc_refuse (show _ = some 1 by decide +kernel) (ks_sc hA) rfl (by decide) (by omega) (Nat.le_of_ble_eq_true rfl) (ct_Sc_refuse hA _) ?_
    rintro _ _ ⟨rfl, rfl⟩
    exact pq_zret rfl (Or.inl rfl) (by decide +kernel) (lnQ_w hX hr (by decide) fo0)

theorem tk_word {kx vx kd wh : Int32} (h : tkT kx vx kd wh) {i : Nat} (hi : i < 25) : kx = nI (wmN i) ↔ (kd = 1 ∧ wh = nI i) := by
  have hk := tk_key h
  have m := wmN_in i hi
  constructor
  · intro e
    have q := hk.1.mp (by rw [e]; exact ⟨nI_pos (by omega), by rw [show (25 : Int32) = nI 25 from rfl, nI_ltI (by omega) (by decide)]; exact m.1⟩)
    obtain ⟨j, h1, h2, h3⟩ := hk.2 q
    have m2 := wmN_in j h1
    rw [e, nI_eq (by omega) (by omega)] at h2
    have : j = i := by rw [← m2.2, ← h2, m.2]
    rw [← this]
    exact ⟨q, h3⟩
  · rintro ⟨q, e⟩
    obtain ⟨j, h1, h2, h3⟩ := hk.2 q
    rw [e, nI_eq (by omega) (by omega)] at h3
    rw [h2, h3]
/-- what a shoe's line has changed -/
def tSh (I : Nat → Nat → Int32) (t sr : Nat) (I' J' : Nat → Nat → Int32) : Prop := I' 57 = I 57 ∧ frE I' (sI (sI (sI (sI (sI (sI I (t + 6) sr (J' 142 (16 + sr))) (t + 7) sr (J' 143 (16 + sr))) (t + 8) sr (J' 144 (16 + sr))) (t + 9) sr (J' 145 (16 + sr))) (t + 10) sr (J' 146 (16 + sr))) t 6 (nI (sr + 1)))
def tDb (I : Nat → Nat → Int32) (t dr : Nat) (I' J' : Nat → Nat → Int32) : Prop := I' 57 = I 57 ∧ frE I' (sI (sI (sI (sI (sI I (t + 11) dr (J' 147 (8 + dr))) (t + 12) dr (J' 148 (8 + dr))) (t + 13) dr (J' 149 (8 + dr))) (t + 14) dr (J' 150 (8 + dr))) t 12 (nI (dr + 1)))
/-- the claims told so far -/
def dC (X J : Nat → Nat → Int32) (t : Nat) : Prop := ∀ p, p < 5 → (J 141 (5 + p) < 0 ∧ X (t + 5) p = 0) ∨ ∃ c, 1 ≤ c ∧ c ≤ 9 ∧ J 141 (5 + p) = nI c ∧ X (t + 5) p = nI c
def tCl (I : Nat → Nat → Int32) (t pr : Nat) (I' J' : Nat → Nat → Int32) : Prop := I' 57 = I 57 ∧ ∃ p, p < pr ∧ frE I' (sI I (t + 5) p (J' 141 (5 + p)))
set_option maxHeartbeats 4000000 in
theorem ct_Sc_readShoe {sh : List pSh} {I : Nat → Nat → Int32} {L : Nat → Nat → Int64} {P : Nat → Nat → Option Nat} (hA : kA sh P) (hrb : P 58 3 = some 2) {J : Nat → Nat → Int32} {n : Nat} (hr : rdR I J n) {t : Nat} (ht : t = 3 ∨ t = 30) (hst : P 57 5 = some t) (h0 : I 57 1 = 0) {pr sr dr : Nat} (hn : tOK I t pr sr dr) (hnm : ∀ p, p < pr → I (t + 1) p = J 137 (5 + p)) : pCn m_Sc_readShoe 4 [.ref 57] sh (I, L, P) (lnQ (ySL pr sr J) (tSh I t sr) I L P n t) := by
  refine pCn_of (by decide +kernel) (Nat.le_of_ble_eq_true rfl) ?_
  obtain ⟨X, hX⟩ : ∃ X, X = ySL pr sr J := ⟨_, rfl⟩
  rw [← hX]
  unfold ySL at hX
  have fe0 : frE I I := frE.rf I
  have fo0 : frO t I I := frO.rf t I
  have hz0 : I 57 = I 57 := rfl
  have hc0 : J 137 = J 137 := rfl
  have h5 := hn.2.1
  have h16 := hn.2.2.2.1
  refine pw_aload_n (k4 := 0) rfl (by decide +kernel) ?_
  refine pq_getP (c := 4) (k := 5) (ks_sc hA) (by decide) (by decide) hst lf_Sc_18 (by decide +kernel) ?_
  refine pq_getI (c := 7) (k := 6) (ks_t hA ht) (by decide) (by decide) lf_Sc_116 (by decide +kernel) ?_
  refine pn_val (nI (sr)) (hn.2.2.1) ?_
  refine pq_istore_n (k4 := 1) (Nat.le_of_ble_eq_true rfl) rfl (by decide +kernel) ?_
  refine pw_iload_n (k4 := 1) rfl (by decide +kernel) ?_
  refine pw_bipush (n := 16) (v := 16) (by decide) (by decide +kernel) ?_
  refine pn_icmp_lt (off := 9) (tgt := 20) sr 16 rfl rfl (by omega) (by omega) (by decide +kernel) (by decide +kernel) (fun z11 => ?_) (fun z11 => ?_)
  · rw [if_neg (by omega)] at hX
    refine pw_aload_n (k4 := 0) rfl (by decide +kernel) ?_
    refine pq_getP (c := 4) (k := 4) (ks_sc hA) (by decide) (by decide) (kp_sc_reader hA) lf_Sc_12 (by decide +kernel) ?_
    refine pq_callV (ν := m_Re_advance) (d' := 2) (av := []) (c := 3) (by decide +kernel) lm_Sc_62 ok_Re_advance (show _ = some 0 by decide +kernel) (ks_re hA) rfl (by decide) (by omega) (Nat.le_of_ble_eq_true rfl) (gt_advance hA hrb hr) ?_
    rintro _ _ ⟨rfl, I24, rfl, hr24, hf24⟩
    have pf24 : prF (yTok J) J := prF_tok _
    generalize yTok J = G24 at hX hr24 pf24
    try dsimp only at hX
    have fe24 : frE I24 (I) := fun a h1 h2 => (hf24 a h2).trans (fe0 a h1 h2)
    have fo24 : frO t I I24 := fun a h1 h2 h3 => (hf24 a h2).trans (fo0 a h1 h2 h3)
    have hz24 : I24 57 = I 57 := (hf24 57 (by decide)).trans hz0
    have c24 : G24 137 = J 137 := (pf24.1 137 (by decide)).trans hc0
    refine pw_aload_n (k4 := 0) rfl (by decide +kernel) ?_
    refine pq_getP (c := 4) (k := 5) (ks_sc hA) (by decide) (by decide) hst lf_Sc_18 (by decide +kernel) ?_
    refine pq_getP (c := 7) (k := 7) (ks_t hA ht) (by decide) (by decide) (kp_t_side hA ht) lf_Sc_119 (by decide +kernel) ?_
    refine pw_iload_n (k4 := 1) rfl (by decide +kernel) ?_
    refine pw_aload_n (k4 := 0) rfl (by decide +kernel) ?_
    refine pw_bipush (n := 7) (v := 7) (by decide) (by decide +kernel) ?_
    refine pw_bipush (n := 8) (v := 8) (by decide) (by decide +kernel) ?_
    refine pq_callV (ν := m_Sc_takeOneOf) (d' := 3) (av := [_, _]) (c := 4) (by decide +kernel) lm_Sc_122 ok_Sc_takeOneOf (show _ = some 2 by decide +kernel) (ks_sc hA) rfl (by decide) (by omega) (Nat.le_of_ble_eq_true rfl) (ct_Sc_takeOneOf hA hrb hr24 7 8 (by decide) (by decide)) ?_
    rintro _ _ ⟨I40, v40, rfl, rfl, hs40, hv40, hw40⟩
    have fe40 : frE I40 (I) := fun a h1 h2 => (hs40.2.2 a h1 h2).trans (fe24 a h1 h2)
    have fo40 : frO t I I40 := fun a h1 h2 h3 => (hs40.2.2 a h1 h2).trans (fo24 a h1 h2 h3)
    refine pq_iast sr rfl (by omega) (by decide) (ks_t_side hA ht) (by decide +kernel) ?_
    obtain ⟨I43, hI43⟩ : ∃ Z, Z = sI I40 (t + 6) sr (v40) := ⟨_, rfl⟩
    rw [← hI43]
    have fe43 : frE I43 (sI (I) (t + 6) sr (v40)) := by rw [hI43]; exact fe40.st
    have fo43 : frO t I I43 := by rw [hI43]; exact fo40.st (by omega)
    have e57_43 : I43 57 = I40 57 := by rw [hI43, sI_ne (by omega)]
    refine pw_aload_n (k4 := 0) rfl (by decide +kernel) ?_
    refine pq_getI (c := 4) (k := 1) (ks_sc hA) (by decide) (by decide) lf_Sc_35 (by decide +kernel) ?_
    refine pw_if_ne (off := 19) (tgt := 67) (by decide +kernel) (by decide +kernel) (fun z48 => ?_) (fun z48 => ?_)
    · have hb40 : (I40 57 1 = 0 ↔ (yPick G24 (nI 7) (nI 8)).1 = true) := sbR_in hs40 (by rw [hz24]; exact h0)
      have hq40 : (yPick G24 (nI 7) (nI 8)).1 = false := by
        cases e : (yPick G24 (nI 7) (nI 8)).1 with
        | false => rfl
        | true => exact absurd (hb40.mpr e) (by rw [← e57_43]; exact z48)
      have hXf40 : X = yPick G24 (nI 7) (nI 8) := by rw [hX]; exact yB_q hq40
      have ff40 : scF X I40 := by rw [hXf40]; exact ⟨hq40, hs40.2.1 hq40⟩
      have fc40 : scF X I43 := ff40.cg e57_43
      refine pw_aload_n (k4 := 0) rfl (by decide +kernel) ?_
      refine pq_getI (c := 4) (k := 1) (ks_sc hA) (by decide) (by decide) lf_Sc_35 (by decide +kernel) ?_
      refine pw_if_ne (off := 19) (tgt := 90) (by decide +kernel) (by decide +kernel) (fun z71 => ?_) (fun z71 => ?_)
      · refine pw_aload_n (k4 := 0) rfl (by decide +kernel) ?_
        refine pq_getI (c := 4) (k := 1) (ks_sc hA) (by decide) (by decide) lf_Sc_35 (by decide +kernel) ?_
        refine pw_if_ne (off := 20) (tgt := 114) (by decide +kernel) (by decide +kernel) (fun z94 => ?_) (fun z94 => ?_)
        · refine pw_aload_n (k4 := 0) rfl (by decide +kernel) ?_
          refine pq_getI (c := 4) (k := 1) (ks_sc hA) (by decide) (by decide) lf_Sc_35 (by decide +kernel) ?_
          refine pw_if_ne (off := 32) (tgt := 150) (by decide +kernel) (by decide +kernel) (fun z118 => ?_) (fun z118 => ?_)
          · refine pw_aload_n (k4 := 0) rfl (by decide +kernel) ?_
            refine pq_getI (c := 4) (k := 1) (ks_sc hA) (by decide) (by decide) lf_Sc_35 (by decide +kernel) ?_
            refine pw_if_eq (off := 5) (tgt := 159) (by decide +kernel) (by decide +kernel) (fun z154 => ?_) (fun z154 => ?_)
            · exact absurd z154 (by rw [fc40.2.1]; exact fc40.2.2.2)
            · refine pw_iconst (n := 0) (v := 0) (by decide) (by decide +kernel) ?_
              exact pq_zret rfl (by decide) (by decide +kernel) (lnQ_f fc40 fo43)
          · exact absurd z118 (by rw [fc40.2.1]; exact fc40.2.2.2)
        · exact absurd z94 (by rw [fc40.2.1]; exact fc40.2.2.2)
      · exact absurd z71 (by rw [fc40.2.1]; exact fc40.2.2.2)
    · have hb40 : (I40 57 1 = 0 ↔ (yPick G24 (nI 7) (nI 8)).1 = true) := sbR_in hs40 (by rw [hz24]; exact h0)
      have hq40 : (yPick G24 (nI 7) (nI 8)).1 = true := hb40.mp (by rw [← e57_43]; exact z48)
      obtain ⟨K40, hK40⟩ : ∃ K, yPick G24 (nI 7) (nI 8) = (true, K) := ⟨_, Prod.ext hq40 rfl⟩
      rw [show yPick G24 7 8 = (true, K40) from hK40, yB_t] at hX
      try dsimp only at hX
      have pf40 : prF K40 G24 := pick_pf hK40
      have hr40 : rdR I40 K40 n := by have := (hs40.1 hq40).1; rw [hK40] at this; exact this
      have hz40 : I40 57 = I 57 := (hs40.1 hq40).2.trans hz24
      have hu40 : v40 = K40 134 11 := by have := hv40 hq40; rw [hK40] at this; exact this
      have c40 : K40 137 = J 137 := (pf40.1 137 (by decide)).trans c24
      have hzc40 : I43 57 = I 57 := e57_43.trans hz40
      have hrc40 : rdR I43 K40 n := by rw [hI43]; exact rdR_sX (hr40) (by omega) _ _
      obtain ⟨H40_0, hH40_0⟩ : ∃ Z, Z = sI K40 142 (16 + sr) (K40 134 11) := ⟨_, rfl⟩
      rw [← hH40_0] at hX
      have hrH40_0 : rdR I43 H40_0 n := by rw [hH40_0]; exact rdR_sJ hrc40 (by decide) _ _
      have c40g0 : H40_0 137 = J 137 := by rw [hH40_0, sI_ne (by decide)]; exact c40
      have x40n0_0 : H40_0 142 (16 + sr) = K40 134 11 := by rw [hH40_0, sI_rs]
      refine pw_aload_n (k4 := 0) rfl (by decide +kernel) ?_
      refine pq_getP (c := 4) (k := 5) (ks_sc hA) (by decide) (by decide) hst lf_Sc_18 (by decide +kernel) ?_
      refine pq_getP (c := 7) (k := 8) (ks_t hA ht) (by decide) (by decide) (kp_t_size hA ht) lf_Sc_125 (by decide +kernel) ?_
      refine pw_iload_n (k4 := 1) rfl (by decide +kernel) ?_
      refine pw_aload_n (k4 := 0) rfl (by decide +kernel) ?_
      refine pw_iconst (n := 1) (v := 1) (by decide) (by decide +kernel) ?_
      refine pw_bipush (n := 20) (v := 20) (by decide) (by decide +kernel) ?_
      refine pq_callV (ν := m_Sc_takeNumber) (d' := 3) (av := [_, _]) (c := 4) (by decide +kernel) lm_Sc_107 ok_Sc_takeNumber (show _ = some 2 by decide +kernel) (ks_sc hA) rfl (by decide) (by omega) (Nat.le_of_ble_eq_true rfl) (gt_takeNumber hA hrb hrH40_0 1 20 (by decide) (by decide)) ?_
      rintro _ _ ⟨I63, v63, rfl, rfl, hs63, hv63, hw63⟩
      have fe63 : frE I63 (sI (I) (t + 6) sr (v40)) := fun a h1 h2 => (hs63.2.2 a h1 h2).trans (fe43 a h1 h2)
      have fo63 : frO t I I63 := fun a h1 h2 h3 => (hs63.2.2 a h1 h2).trans (fo43 a h1 h2 h3)
      refine pq_iast sr rfl (by omega) (by decide) (ks_t_size hA ht) (by decide +kernel) ?_
      obtain ⟨I66, hI66⟩ : ∃ Z, Z = sI I63 (t + 7) sr (v63) := ⟨_, rfl⟩
      rw [← hI66]
      have fe66 : frE I66 (sI (sI (I) (t + 6) sr (v40)) (t + 7) sr (v63)) := by rw [hI66]; exact fe63.st
      have fo66 : frO t I I66 := by rw [hI66]; exact fo63.st (by omega)
      have e57_66 : I66 57 = I63 57 := by rw [hI66, sI_ne (by omega)]
      refine pw_aload_n (k4 := 0) rfl (by decide +kernel) ?_
      refine pq_getI (c := 4) (k := 1) (ks_sc hA) (by decide) (by decide) lf_Sc_35 (by decide +kernel) ?_
      refine pw_if_ne (off := 19) (tgt := 90) (by decide +kernel) (by decide +kernel) (fun z71 => ?_) (fun z71 => ?_)
      · have hb63 : (I63 57 1 = 0 ↔ (yNum H40_0 (nI 1) (nI 20)).1 = true) := sbR_in hs63 (by rw [hzc40]; exact h0)
        have hq63 : (yNum H40_0 (nI 1) (nI 20)).1 = false := by
          cases e : (yNum H40_0 (nI 1) (nI 20)).1 with
          | false => rfl
          | true => exact absurd (hb63.mpr e) (by rw [← e57_66]; exact z71)
        have hXf63 : X = yNum H40_0 (nI 1) (nI 20) := by rw [hX]; exact yB_q hq63
        have ff63 : scF X I63 := by rw [hXf63]; exact ⟨hq63, hs63.2.1 hq63⟩
        have fc63 : scF X I66 := ff63.cg e57_66
        refine pw_aload_n (k4 := 0) rfl (by decide +kernel) ?_
        refine pq_getI (c := 4) (k := 1) (ks_sc hA) (by decide) (by decide) lf_Sc_35 (by decide +kernel) ?_
        refine pw_if_ne (off := 20) (tgt := 114) (by decide +kernel) (by decide +kernel) (fun z94 => ?_) (fun z94 => ?_)
        · refine pw_aload_n (k4 := 0) rfl (by decide +kernel) ?_
          refine pq_getI (c := 4) (k := 1) (ks_sc hA) (by decide) (by decide) lf_Sc_35 (by decide +kernel) ?_
          refine pw_if_ne (off := 32) (tgt := 150) (by decide +kernel) (by decide +kernel) (fun z118 => ?_) (fun z118 => ?_)
          · refine pw_aload_n (k4 := 0) rfl (by decide +kernel) ?_
            refine pq_getI (c := 4) (k := 1) (ks_sc hA) (by decide) (by decide) lf_Sc_35 (by decide +kernel) ?_
            refine pw_if_eq (off := 5) (tgt := 159) (by decide +kernel) (by decide +kernel) (fun z154 => ?_) (fun z154 => ?_)
            · exact absurd z154 (by rw [fc63.2.1]; exact fc63.2.2.2)
            · refine pw_iconst (n := 0) (v := 0) (by decide) (by decide +kernel) ?_
              exact pq_zret rfl (by decide) (by decide +kernel) (lnQ_f fc63 fo66)
          · exact absurd z118 (by rw [fc63.2.1]; exact fc63.2.2.2)
        · exact absurd z94 (by rw [fc63.2.1]; exact fc63.2.2.2)
      · have hb63 : (I63 57 1 = 0 ↔ (yNum H40_0 (nI 1) (nI 20)).1 = true) := sbR_in hs63 (by rw [hzc40]; exact h0)
        have hq63 : (yNum H40_0 (nI 1) (nI 20)).1 = true := hb63.mp (by rw [← e57_66]; exact z71)
        obtain ⟨K63, hK63⟩ : ∃ K, yNum H40_0 (nI 1) (nI 20) = (true, K) := ⟨_, Prod.ext hq63 rfl⟩
        rw [show yNum H40_0 1 20 = (true, K63) from hK63, yB_t] at hX
        try dsimp only at hX
        have pf63 : prF K63 H40_0 := num_pf hK63
        have hr63 : rdR I63 K63 n := by have := (hs63.1 hq63).1; rw [hK63] at this; exact this
        have hz63 : I63 57 = I 57 := (hs63.1 hq63).2.trans hzc40
        have hu63 : v63 = K63 134 11 := by have := hv63 hq63; rw [hK63] at this; exact this
        have c63 : K63 137 = J 137 := (pf63.1 137 (by decide)).trans c40g0
        have x40n0_63 : K63 142 (16 + sr) = K40 134 11 := by rw [pf63.1 142 (by decide)]; exact x40n0_0
        have hzc63 : I66 57 = I 57 := e57_66.trans hz63
        have hrc63 : rdR I66 K63 n := by rw [hI66]; exact rdR_sX (hr63) (by omega) _ _
        obtain ⟨H63_0, hH63_0⟩ : ∃ Z, Z = sI K63 143 (16 + sr) (K63 134 11) := ⟨_, rfl⟩
        rw [← hH63_0] at hX
        have hrH63_0 : rdR I66 H63_0 n := by rw [hH63_0]; exact rdR_sJ hrc63 (by decide) _ _
        have c63g0 : H63_0 137 = J 137 := by rw [hH63_0, sI_ne (by decide)]; exact c63
        have x40n0_63g0 : H63_0 142 (16 + sr) = K40 134 11 := by rw [hH63_0, sI_ne (by decide)]; exact x40n0_63
        have x63n0_0 : H63_0 143 (16 + sr) = K63 134 11 := by rw [hH63_0, sI_rs]
        refine pw_aload_n (k4 := 0) rfl (by decide +kernel) ?_
        refine pq_getP (c := 4) (k := 5) (ks_sc hA) (by decide) (by decide) hst lf_Sc_18 (by decide +kernel) ?_
        refine pq_getP (c := 7) (k := 9) (ks_t hA ht) (by decide) (by decide) (kp_t_used hA ht) lf_Sc_128 (by decide +kernel) ?_
        refine pw_iload_n (k4 := 1) rfl (by decide +kernel) ?_
        refine pw_aload_n (k4 := 0) rfl (by decide +kernel) ?_
        refine pw_iconst (n := 0) (v := 0) (by decide) (by decide +kernel) ?_
        refine pw_bipush (n := 49) (v := 49) (by decide) (by decide +kernel) ?_
        refine pq_callV (ν := m_Sc_takeNumber) (d' := 3) (av := [_, _]) (c := 4) (by decide +kernel) lm_Sc_107 ok_Sc_takeNumber (show _ = some 2 by decide +kernel) (ks_sc hA) rfl (by decide) (by omega) (Nat.le_of_ble_eq_true rfl) (gt_takeNumber hA hrb hrH63_0 0 49 (by decide) (by decide)) ?_
        rintro _ _ ⟨I86, v86, rfl, rfl, hs86, hv86, hw86⟩
        have fe86 : frE I86 (sI (sI (I) (t + 6) sr (v40)) (t + 7) sr (v63)) := fun a h1 h2 => (hs86.2.2 a h1 h2).trans (fe66 a h1 h2)
        have fo86 : frO t I I86 := fun a h1 h2 h3 => (hs86.2.2 a h1 h2).trans (fo66 a h1 h2 h3)
        refine pq_iast sr rfl (by omega) (by decide) (ks_t_used hA ht) (by decide +kernel) ?_
        obtain ⟨I89, hI89⟩ : ∃ Z, Z = sI I86 (t + 8) sr (v86) := ⟨_, rfl⟩
        rw [← hI89]
        have fe89 : frE I89 (sI (sI (sI (I) (t + 6) sr (v40)) (t + 7) sr (v63)) (t + 8) sr (v86)) := by rw [hI89]; exact fe86.st
        have fo89 : frO t I I89 := by rw [hI89]; exact fo86.st (by omega)
        have e57_89 : I89 57 = I86 57 := by rw [hI89, sI_ne (by omega)]
        refine pw_aload_n (k4 := 0) rfl (by decide +kernel) ?_
        refine pq_getI (c := 4) (k := 1) (ks_sc hA) (by decide) (by decide) lf_Sc_35 (by decide +kernel) ?_
        refine pw_if_ne (off := 20) (tgt := 114) (by decide +kernel) (by decide +kernel) (fun z94 => ?_) (fun z94 => ?_)
        · have hb86 : (I86 57 1 = 0 ↔ (yNum H63_0 (nI 0) (nI 49)).1 = true) := sbR_in hs86 (by rw [hzc63]; exact h0)
          have hq86 : (yNum H63_0 (nI 0) (nI 49)).1 = false := by
            cases e : (yNum H63_0 (nI 0) (nI 49)).1 with
            | false => rfl
            | true => exact absurd (hb86.mpr e) (by rw [← e57_89]; exact z94)
          have hXf86 : X = yNum H63_0 (nI 0) (nI 49) := by rw [hX]; exact yB_q hq86
          have ff86 : scF X I86 := by rw [hXf86]; exact ⟨hq86, hs86.2.1 hq86⟩
          have fc86 : scF X I89 := ff86.cg e57_89
          refine pw_aload_n (k4 := 0) rfl (by decide +kernel) ?_
          refine pq_getI (c := 4) (k := 1) (ks_sc hA) (by decide) (by decide) lf_Sc_35 (by decide +kernel) ?_
          refine pw_if_ne (off := 32) (tgt := 150) (by decide +kernel) (by decide +kernel) (fun z118 => ?_) (fun z118 => ?_)
          · refine pw_aload_n (k4 := 0) rfl (by decide +kernel) ?_
            refine pq_getI (c := 4) (k := 1) (ks_sc hA) (by decide) (by decide) lf_Sc_35 (by decide +kernel) ?_
            refine pw_if_eq (off := 5) (tgt := 159) (by decide +kernel) (by decide +kernel) (fun z154 => ?_) (fun z154 => ?_)
            · exact absurd z154 (by rw [fc86.2.1]; exact fc86.2.2.2)
            · refine pw_iconst (n := 0) (v := 0) (by decide) (by decide +kernel) ?_
              exact pq_zret rfl (by decide) (by decide +kernel) (lnQ_f fc86 fo89)
          · exact absurd z118 (by rw [fc86.2.1]; exact fc86.2.2.2)
        · have hb86 : (I86 57 1 = 0 ↔ (yNum H63_0 (nI 0) (nI 49)).1 = true) := sbR_in hs86 (by rw [hzc63]; exact h0)
          have hq86 : (yNum H63_0 (nI 0) (nI 49)).1 = true := hb86.mp (by rw [← e57_89]; exact z94)
          obtain ⟨K86, hK86⟩ : ∃ K, yNum H63_0 (nI 0) (nI 49) = (true, K) := ⟨_, Prod.ext hq86 rfl⟩
          rw [show yNum H63_0 0 49 = (true, K86) from hK86, yB_t] at hX
          try dsimp only at hX
          have pf86 : prF K86 H63_0 := num_pf hK86
          have hr86 : rdR I86 K86 n := by have := (hs86.1 hq86).1; rw [hK86] at this; exact this
          have hz86 : I86 57 = I 57 := (hs86.1 hq86).2.trans hzc63
          have hu86 : v86 = K86 134 11 := by have := hv86 hq86; rw [hK86] at this; exact this
          have c86 : K86 137 = J 137 := (pf86.1 137 (by decide)).trans c63g0
          have x40n0_86 : K86 142 (16 + sr) = K40 134 11 := by rw [pf86.1 142 (by decide)]; exact x40n0_63g0
          have x63n0_86 : K86 143 (16 + sr) = K63 134 11 := by rw [pf86.1 143 (by decide)]; exact x63n0_0
          have hzc86 : I89 57 = I 57 := e57_89.trans hz86
          have hrc86 : rdR I89 K86 n := by rw [hI89]; exact rdR_sX (hr86) (by omega) _ _
          obtain ⟨H86_0, hH86_0⟩ : ∃ Z, Z = sI K86 144 (16 + sr) (K86 134 11) := ⟨_, rfl⟩
          rw [← hH86_0] at hX
          have hrH86_0 : rdR I89 H86_0 n := by rw [hH86_0]; exact rdR_sJ hrc86 (by decide) _ _
          have c86g0 : H86_0 137 = J 137 := by rw [hH86_0, sI_ne (by decide)]; exact c86
          have x40n0_86g0 : H86_0 142 (16 + sr) = K40 134 11 := by rw [hH86_0, sI_ne (by decide)]; exact x40n0_86
          have x63n0_86g0 : H86_0 143 (16 + sr) = K63 134 11 := by rw [hH86_0, sI_ne (by decide)]; exact x63n0_86
          have x86n0_0 : H86_0 144 (16 + sr) = K86 134 11 := by rw [hH86_0, sI_rs]
          refine pw_aload_n (k4 := 0) rfl (by decide +kernel) ?_
          refine pq_getP (c := 4) (k := 5) (ks_sc hA) (by decide) (by decide) hst lf_Sc_18 (by decide +kernel) ?_
          refine pq_getP (c := 7) (k := 10) (ks_t hA ht) (by decide) (by decide) (kp_t_kind hA ht) lf_Sc_131 (by decide +kernel) ?_
          refine pw_iload_n (k4 := 1) rfl (by decide +kernel) ?_
          refine pw_aload_n (k4 := 0) rfl (by decide +kernel) ?_
          refine pw_bipush (n := 9) (v := 9) (by decide) (by decide +kernel) ?_
          refine pw_bipush (n := 11) (v := 11) (by decide) (by decide +kernel) ?_
          refine pq_callV (ν := m_Sc_takeOneOf) (d' := 3) (av := [_, _]) (c := 4) (by decide +kernel) lm_Sc_122 ok_Sc_takeOneOf (show _ = some 2 by decide +kernel) (ks_sc hA) rfl (by decide) (by omega) (Nat.le_of_ble_eq_true rfl) (ct_Sc_takeOneOf hA hrb hrH86_0 9 11 (by decide) (by decide)) ?_
          rintro _ _ ⟨I110, v110, rfl, rfl, hs110, hv110, hw110⟩
          have fe110 : frE I110 (sI (sI (sI (I) (t + 6) sr (v40)) (t + 7) sr (v63)) (t + 8) sr (v86)) := fun a h1 h2 => (hs110.2.2 a h1 h2).trans (fe89 a h1 h2)
          have fo110 : frO t I I110 := fun a h1 h2 h3 => (hs110.2.2 a h1 h2).trans (fo89 a h1 h2 h3)
          refine pq_iast sr rfl (by omega) (by decide) (ks_t_kind hA ht) (by decide +kernel) ?_
          obtain ⟨I113, hI113⟩ : ∃ Z, Z = sI I110 (t + 9) sr (v110) := ⟨_, rfl⟩
          rw [← hI113]
          have fe113 : frE I113 (sI (sI (sI (sI (I) (t + 6) sr (v40)) (t + 7) sr (v63)) (t + 8) sr (v86)) (t + 9) sr (v110)) := by rw [hI113]; exact fe110.st
          have fo113 : frO t I I113 := by rw [hI113]; exact fo110.st (by omega)
          have e57_113 : I113 57 = I110 57 := by rw [hI113, sI_ne (by omega)]
          refine pw_aload_n (k4 := 0) rfl (by decide +kernel) ?_
          refine pq_getI (c := 4) (k := 1) (ks_sc hA) (by decide) (by decide) lf_Sc_35 (by decide +kernel) ?_
          refine pw_if_ne (off := 32) (tgt := 150) (by decide +kernel) (by decide +kernel) (fun z118 => ?_) (fun z118 => ?_)
          · have hb110 : (I110 57 1 = 0 ↔ (yPick H86_0 (nI 9) (nI 11)).1 = true) := sbR_in hs110 (by rw [hzc86]; exact h0)
            have hq110 : (yPick H86_0 (nI 9) (nI 11)).1 = false := by
              cases e : (yPick H86_0 (nI 9) (nI 11)).1 with
              | false => rfl
              | true => exact absurd (hb110.mpr e) (by rw [← e57_113]; exact z118)
            have hXf110 : X = yPick H86_0 (nI 9) (nI 11) := by rw [hX]; exact yB_q hq110
            have ff110 : scF X I110 := by rw [hXf110]; exact ⟨hq110, hs110.2.1 hq110⟩
            have fc110 : scF X I113 := ff110.cg e57_113
            refine pw_aload_n (k4 := 0) rfl (by decide +kernel) ?_
            refine pq_getI (c := 4) (k := 1) (ks_sc hA) (by decide) (by decide) lf_Sc_35 (by decide +kernel) ?_
            refine pw_if_eq (off := 5) (tgt := 159) (by decide +kernel) (by decide +kernel) (fun z154 => ?_) (fun z154 => ?_)
            · exact absurd z154 (by rw [fc110.2.1]; exact fc110.2.2.2)
            · refine pw_iconst (n := 0) (v := 0) (by decide) (by decide +kernel) ?_
              exact pq_zret rfl (by decide) (by decide +kernel) (lnQ_f fc110 fo113)
          · have hb110 : (I110 57 1 = 0 ↔ (yPick H86_0 (nI 9) (nI 11)).1 = true) := sbR_in hs110 (by rw [hzc86]; exact h0)
            have hq110 : (yPick H86_0 (nI 9) (nI 11)).1 = true := hb110.mp (by rw [← e57_113]; exact z118)
            obtain ⟨K110, hK110⟩ : ∃ K, yPick H86_0 (nI 9) (nI 11) = (true, K) := ⟨_, Prod.ext hq110 rfl⟩
            rw [show yPick H86_0 9 11 = (true, K110) from hK110, yB_t] at hX
            try dsimp only at hX
            have pf110 : prF K110 H86_0 := pick_pf hK110
            have hr110 : rdR I110 K110 n := by have := (hs110.1 hq110).1; rw [hK110] at this; exact this
            have hz110 : I110 57 = I 57 := (hs110.1 hq110).2.trans hzc86
            have hu110 : v110 = K110 134 11 := by have := hv110 hq110; rw [hK110] at this; exact this
            have c110 : K110 137 = J 137 := (pf110.1 137 (by decide)).trans c86g0
            have x40n0_110 : K110 142 (16 + sr) = K40 134 11 := by rw [pf110.1 142 (by decide)]; exact x40n0_86g0
            have x63n0_110 : K110 143 (16 + sr) = K63 134 11 := by rw [pf110.1 143 (by decide)]; exact x63n0_86g0
            have x86n0_110 : K110 144 (16 + sr) = K86 134 11 := by rw [pf110.1 144 (by decide)]; exact x86n0_0
            have hzc110 : I113 57 = I 57 := e57_113.trans hz110
            have hrc110 : rdR I113 K110 n := by rw [hI113]; exact rdR_sX (hr110) (by omega) _ _
            refine pw_aload_n (k4 := 0) rfl (by decide +kernel) ?_
            refine pq_getP (c := 4) (k := 5) (ks_sc hA) (by decide) (by decide) hst lf_Sc_18 (by decide +kernel) ?_
            refine pq_getP (c := 7) (k := 11) (ks_t hA ht) (by decide) (by decide) (kp_t_owner hA ht) lf_Sc_133 (by decide +kernel) ?_
            refine pw_iload_n (k4 := 1) rfl (by decide +kernel) ?_
            refine pw_aload_n (k4 := 0) rfl (by decide +kernel) ?_
            refine pq_getP (c := 4) (k := 4) (ks_sc hA) (by decide) (by decide) (kp_sc_reader hA) lf_Sc_12 (by decide +kernel) ?_
            refine pq_getI (c := 3) (k := 0) (ks_re hA) (by decide) (by decide) lf_Sc_45 (by decide +kernel) ?_
            refine pw_bipush (n := 12) (v := 12) (by decide) (by decide +kernel) ?_
            refine pw_icmp_ne (off := 7) (tgt := 145) (by decide +kernel) (by decide +kernel) (fun z138 => ?_) (fun z138 => ?_)
            · have hbk : I113 58 0 = 12 ↔ (K110 134 8 = 1 ∧ K110 134 9 = 12) := tk_word hrc110.1 (i := 12) (by decide)
              rw [if_neg (fun w => z138 (hbk.mpr w))] at hX
              obtain ⟨H138_0, hH138_0⟩ : ∃ Z, Z = sI K110 145 (16 + sr) (K110 134 11) := ⟨_, rfl⟩
              rw [← hH138_0] at hX
              have hrH138_0 : rdR I113 H138_0 n := by rw [hH138_0]; exact rdR_sJ hrc110 (by decide) _ _
              have c138g0 : H138_0 137 = J 137 := by rw [hH138_0, sI_ne (by decide)]; exact c110
              have x40n0_138g0 : H138_0 142 (16 + sr) = K40 134 11 := by rw [hH138_0, sI_ne (by decide)]; exact x40n0_110
              have x63n0_138g0 : H138_0 143 (16 + sr) = K63 134 11 := by rw [hH138_0, sI_ne (by decide)]; exact x63n0_110
              have x86n0_138g0 : H138_0 144 (16 + sr) = K86 134 11 := by rw [hH138_0, sI_ne (by decide)]; exact x86n0_110
              have x138n0_0 : H138_0 145 (16 + sr) = K110 134 11 := by rw [hH138_0, sI_rs]
              refine pw_aload_n (k4 := 0) rfl (by decide +kernel) ?_
              have eT146 : I113 t = I t := by rw [fe113 t (by omega) (by omega)]; (repeat rw [sI_ne (by omega)])
              have eN146 : I113 (t + 1) = I (t + 1) := by rw [fe113 (t + 1) (by omega) (by omega)]; (repeat rw [sI_ne (by omega)])
              have eG146 : H138_0 137 = J 137 := c138g0
              refine pq_callV (ν := m_Sc_lookAtPerson) (d' := 1) (av := []) (c := 4) (by decide +kernel) lm_Sc_136 ok_Sc_lookAtPerson (show _ = some 0 by decide +kernel) (ks_sc hA) rfl (by decide) (by omega) (Nat.le_of_ble_eq_true rfl) (ct_Sc_lookAtPerson hA hrb hrH138_0 ht hst (pr := pr) (sr := sr) (dr := dr) (by unfold tOK; rw [eT146]; exact hn) (fun p hp => by rw [eN146, eG146]; exact hnm p hp)) ?_
              rintro _ _ ⟨I146, v146, rfl, rfl, hT146, hF146⟩
              have fr146 : ∀ a, a ≠ 57 → a ≠ 58 → I146 a = I113 a := by
                cases e : (yPer H138_0 pr).1 with
                | true => intro a _ _; rw [← (hT146 e).1]
                | false => exact (hF146 e).2.2.2
              have fe146 : frE I146 (sI (sI (sI (sI (I) (t + 6) sr (v40)) (t + 7) sr (v63)) (t + 8) sr (v86)) (t + 9) sr (v110)) := fun a h1 h2 => (fr146 a h1 h2).trans (fe113 a h1 h2)
              have fo146 : frO t I I146 := fun a h1 h2 h3 => (fr146 a h1 h2).trans (fo113 a h1 h2 h3)
              refine pq_iast sr rfl (by omega) (by decide) (ks_t_owner hA ht) (by decide +kernel) ?_
              obtain ⟨I149, hI149⟩ : ∃ Z, Z = sI I146 (t + 10) sr (v146) := ⟨_, rfl⟩
              rw [← hI149]
              have fe149 : frE I149 (sI (sI (sI (sI (sI (I) (t + 6) sr (v40)) (t + 7) sr (v63)) (t + 8) sr (v86)) (t + 9) sr (v110)) (t + 10) sr (v146)) := by rw [hI149]; exact fe146.st
              have fo149 : frO t I I149 := by rw [hI149]; exact fo146.st (by omega)
              have e57_149 : I149 57 = I146 57 := by rw [hI149, sI_ne (by omega)]
              refine pw_aload_n (k4 := 0) rfl (by decide +kernel) ?_
              refine pq_getI (c := 4) (k := 1) (ks_sc hA) (by decide) (by decide) lf_Sc_35 (by decide +kernel) ?_
              refine pw_if_eq (off := 5) (tgt := 159) (by decide +kernel) (by decide +kernel) (fun z154 => ?_) (fun z154 => ?_)
              · have hb146 : (I146 57 1 = 0 ↔ (yPer H138_0 pr).1 = true) := by
                  cases e : (yPer H138_0 pr).1 with
                  | true => exact ⟨fun _ => rfl, fun _ => by rw [← (hT146 e).1, hzc110]; exact h0⟩
                  | false => exact ⟨fun w => absurd w (by rw [((hF146 e).2.2.1 e).1]; exact ((hF146 e).2.2.1 e).2.2), fun w => by cases w⟩
                have hq146 : (yPer H138_0 pr).1 = true := hb146.mp (by rw [← e57_149]; exact z154)
                obtain ⟨K146, hK146⟩ : ∃ K, yPer H138_0 pr = (true, K) := ⟨_, Prod.ext hq146 rfl⟩
                obtain ⟨eI146, eK146, j146, lj146, ej146⟩ := hT146 hq146
                rw [show yPer H138_0 pr = (true, sI (yTok H138_0) 134 11 v146) from eK146, yB_t] at hX
                try dsimp only at hX
                have hz146 : I146 57 = I 57 := by rw [← eI146]; exact hzc110
                have hr146 : rdR I146 H138_0 n := by rw [← eI146]; exact hrH138_0
                have hzc146 : I149 57 = I 57 := e57_149.trans hz146
                have hrc146 : rdR I149 H138_0 n := by rw [hI149]; exact rdR_sX (hr146) (by omega) _ _
                refine pw_aload_n (k4 := 0) rfl (by decide +kernel) ?_
                refine pq_getP (c := 4) (k := 4) (ks_sc hA) (by decide) (by decide) (kp_sc_reader hA) lf_Sc_12 (by decide +kernel) ?_
                refine pq_callV (ν := m_Re_advance) (d' := 2) (av := []) (c := 3) (by decide +kernel) lm_Sc_62 ok_Re_advance (show _ = some 0 by decide +kernel) (ks_re hA) rfl (by decide) (by omega) (Nat.le_of_ble_eq_true rfl) (gt_advance hA hrb hrc146) ?_
                rintro _ _ ⟨rfl, I163, rfl, hr163, hf163⟩
                have pf163 : prF (yTok H138_0) H138_0 := prF_tok _
                generalize yTok H138_0 = G163 at hX hr163 pf163
                try dsimp only at hX
                have fe163 : frE I163 (sI (sI (sI (sI (sI (I) (t + 6) sr (v40)) (t + 7) sr (v63)) (t + 8) sr (v86)) (t + 9) sr (v110)) (t + 10) sr (v146)) := fun a h1 h2 => (hf163 a h2).trans (fe149 a h1 h2)
                have fo163 : frO t I I163 := fun a h1 h2 h3 => (hf163 a h2).trans (fo149 a h1 h2 h3)
                have hz163 : I163 57 = I 57 := (hf163 57 (by decide)).trans hzc146
                have c163 : G163 137 = J 137 := (pf163.1 137 (by decide)).trans c138g0
                have x40n0_163 : G163 142 (16 + sr) = K40 134 11 := by rw [pf163.1 142 (by decide)]; exact x40n0_138g0
                have x63n0_163 : G163 143 (16 + sr) = K63 134 11 := by rw [pf163.1 143 (by decide)]; exact x63n0_138g0
                have x86n0_163 : G163 144 (16 + sr) = K86 134 11 := by rw [pf163.1 144 (by decide)]; exact x86n0_138g0
                have x138n0_163 : G163 145 (16 + sr) = K110 134 11 := by rw [pf163.1 145 (by decide)]; exact x138n0_0
                obtain ⟨H163_0, hH163_0⟩ : ∃ Z, Z = sI G163 134 (11) (v146) := ⟨_, rfl⟩
                rw [← hH163_0] at hX
                have hrH163_0 : rdR I163 H163_0 n := by rw [hH163_0]; exact rdR_sJ4 hr163 (by decide) _
                have c163g0 : H163_0 137 = J 137 := by rw [hH163_0, sI_ne (by decide)]; exact c163
                have x40n0_163g0 : H163_0 142 (16 + sr) = K40 134 11 := by rw [hH163_0, sI_ne (by decide)]; exact x40n0_163
                have x63n0_163g0 : H163_0 143 (16 + sr) = K63 134 11 := by rw [hH163_0, sI_ne (by decide)]; exact x63n0_163
                have x86n0_163g0 : H163_0 144 (16 + sr) = K86 134 11 := by rw [hH163_0, sI_ne (by decide)]; exact x86n0_163
                have x138n0_163g0 : H163_0 145 (16 + sr) = K110 134 11 := by rw [hH163_0, sI_ne (by decide)]; exact x138n0_163
                have x163n0_0 : H163_0 134 11 = v146 := by rw [hH163_0, sI_rs]
                obtain ⟨H163_1, hH163_1⟩ : ∃ Z, Z = sI H163_0 146 (16 + sr) (H163_0 134 11) := ⟨_, rfl⟩
                rw [← hH163_1] at hX
                have hrH163_1 : rdR I163 H163_1 n := by rw [hH163_1]; exact rdR_sJ hrH163_0 (by decide) _ _
                have c163g1 : H163_1 137 = J 137 := by rw [hH163_1, sI_ne (by decide)]; exact c163g0
                have x40n0_163g1 : H163_1 142 (16 + sr) = K40 134 11 := by rw [hH163_1, sI_ne (by decide)]; exact x40n0_163g0
                have x63n0_163g1 : H163_1 143 (16 + sr) = K63 134 11 := by rw [hH163_1, sI_ne (by decide)]; exact x63n0_163g0
                have x86n0_163g1 : H163_1 144 (16 + sr) = K86 134 11 := by rw [hH163_1, sI_ne (by decide)]; exact x86n0_163g0
                have x138n0_163g1 : H163_1 145 (16 + sr) = K110 134 11 := by rw [hH163_1, sI_ne (by decide)]; exact x138n0_163g0
                have x163n0_163g1 : H163_1 134 11 = v146 := by rw [hH163_1, sI_ne (by decide)]; exact x163n0_0
                have x163n1_0 : H163_1 146 (16 + sr) = H163_0 134 11 := by rw [hH163_1, sI_rs]
                refine pw_aload_n (k4 := 0) rfl (by decide +kernel) ?_
                refine pq_getP (c := 4) (k := 5) (ks_sc hA) (by decide) (by decide) hst lf_Sc_18 (by decide +kernel) ?_
                refine pw_dup rfl (by decide +kernel) ?_
                refine pq_getI (c := 7) (k := 6) (ks_t hA ht) (by decide) (by decide) lf_Sc_116 (by decide +kernel) ?_
                refine pn_val (nI (sr)) (by rw [fe163 t (by omega) (by omega)]; (repeat rw [sI_ne (by omega)]); exact hn.2.2.1) ?_
                refine pw_iconst (n := 1) (v := 1) (by decide) (by decide +kernel) ?_
                refine pn_iadd sr 1 rfl rfl (by decide +kernel) ?_
                refine pq_putI (c := 7) (k := 6) (ks_t hA ht) (by decide) (by decide) lf_Sc_116 (Or.inl rfl) (by decide +kernel) ?_
                obtain ⟨I176, hI176⟩ : ∃ Z, Z = sI I163 t 6 (nI (sr + 1)) := ⟨_, rfl⟩
                rw [← hI176]
                have fe176 : frE I176 (sI (sI (sI (sI (sI (sI (I) (t + 6) sr (v40)) (t + 7) sr (v63)) (t + 8) sr (v86)) (t + 9) sr (v110)) (t + 10) sr (v146)) t 6 (nI (sr + 1))) := by rw [hI176]; exact fe163.st
                have fo176 : frO t I I176 := by rw [hI176]; exact fo163.st (by omega)
                have e57_176 : I176 57 = I163 57 := by rw [hI176, sI_ne (by omega)]
                have hz176 : I176 57 = I 57 := e57_176.trans hz163
                have hr176 : rdR I176 H163_1 n := by rw [hI176]; exact rdR_sX hrH163_1 (by omega) _ _
                refine pw_iconst (n := 1) (v := 1) (by decide) (by decide +kernel) ?_
                exact pq_zret rfl (by decide) (by decide +kernel) (lnQ_t hX (rdR_sJ4 hr176 (by decide) _) fo176 ⟨hz176, by rw [show sI H163_1 134 18 (nI (sr + 1)) 142 (16 + sr) = _ from (congrFun (sI_ne (by decide)) _).trans (x40n0_163g1.trans hu40.symm), show sI H163_1 134 18 (nI (sr + 1)) 143 (16 + sr) = _ from (congrFun (sI_ne (by decide)) _).trans (x63n0_163g1.trans hu63.symm), show sI H163_1 134 18 (nI (sr + 1)) 144 (16 + sr) = _ from (congrFun (sI_ne (by decide)) _).trans (x86n0_163g1.trans hu86.symm), show sI H163_1 134 18 (nI (sr + 1)) 145 (16 + sr) = _ from (congrFun (sI_ne (by decide)) _).trans (x138n0_163g1.trans hu110.symm), show sI H163_1 134 18 (nI (sr + 1)) 146 (16 + sr) = _ from (congrFun (sI_ne (by decide)) _).trans (x163n1_0.trans x163n0_0)]; exact fe176⟩)
              · have hb146 : (I146 57 1 = 0 ↔ (yPer H138_0 pr).1 = true) := by
                  cases e : (yPer H138_0 pr).1 with
                  | true => exact ⟨fun _ => rfl, fun _ => by rw [← (hT146 e).1, hzc110]; exact h0⟩
                  | false => exact ⟨fun w => absurd w (by rw [((hF146 e).2.2.1 e).1]; exact ((hF146 e).2.2.1 e).2.2), fun w => by cases w⟩
                have hq146 : (yPer H138_0 pr).1 = false := by
                  cases e : (yPer H138_0 pr).1 with
                  | false => rfl
                  | true => exact absurd (hb146.mpr e) (by rw [← e57_149]; exact z154)
                have hXf146 : X = yPer H138_0 pr := by rw [hX]; exact yB_q hq146
                have ff146 : scF X I146 := by rw [hXf146]; exact ⟨hq146, (hF146 hq146).2.2.1 hq146⟩
                have fc146 : scF X I149 := ff146.cg e57_149
                refine pw_iconst (n := 0) (v := 0) (by decide) (by decide +kernel) ?_
                exact pq_zret rfl (by decide) (by decide +kernel) (lnQ_f fc146 fo149)
            · have hbk : I113 58 0 = 12 ↔ (K110 134 8 = 1 ∧ K110 134 9 = 12) := tk_word hrc110.1 (i := 12) (by decide)
              rw [if_pos (hbk.mp z138)] at hX
              obtain ⟨H138_0, hH138_0⟩ : ∃ Z, Z = sI K110 145 (16 + sr) (K110 134 11) := ⟨_, rfl⟩
              rw [← hH138_0] at hX
              have hrH138_0 : rdR I113 H138_0 n := by rw [hH138_0]; exact rdR_sJ hrc110 (by decide) _ _
              have c138g0 : H138_0 137 = J 137 := by rw [hH138_0, sI_ne (by decide)]; exact c110
              have x40n0_138g0 : H138_0 142 (16 + sr) = K40 134 11 := by rw [hH138_0, sI_ne (by decide)]; exact x40n0_110
              have x63n0_138g0 : H138_0 143 (16 + sr) = K63 134 11 := by rw [hH138_0, sI_ne (by decide)]; exact x63n0_110
              have x86n0_138g0 : H138_0 144 (16 + sr) = K86 134 11 := by rw [hH138_0, sI_ne (by decide)]; exact x86n0_110
              have x138n0_0 : H138_0 145 (16 + sr) = K110 134 11 := by rw [hH138_0, sI_rs]
              refine pw_iconst (n := -1) (v := -1) (by decide) (by decide +kernel) ?_
              refine pw_goto (off := 7) (tgt := 149) (by decide +kernel) (by decide +kernel) ?_
              refine pq_iast sr rfl (by omega) (by decide) (ks_t_owner hA ht) (by decide +kernel) ?_
              obtain ⟨I149, hI149⟩ : ∃ Z, Z = sI I113 (t + 10) sr (-1) := ⟨_, rfl⟩
              rw [← hI149]
              have fe149 : frE I149 (sI (sI (sI (sI (sI (I) (t + 6) sr (v40)) (t + 7) sr (v63)) (t + 8) sr (v86)) (t + 9) sr (v110)) (t + 10) sr (-1)) := by rw [hI149]; exact fe113.st
              have fo149 : frO t I I149 := by rw [hI149]; exact fo113.st (by omega)
              have e57_149 : I149 57 = I113 57 := by rw [hI149, sI_ne (by omega)]
              have hz149 : I149 57 = I 57 := e57_149.trans hzc110
              have hr149 : rdR I149 H138_0 n := by rw [hI149]; exact rdR_sX hrH138_0 (by omega) _ _
              refine pw_aload_n (k4 := 0) rfl (by decide +kernel) ?_
              refine pq_getI (c := 4) (k := 1) (ks_sc hA) (by decide) (by decide) lf_Sc_35 (by decide +kernel) ?_
              refine pw_if_eq (off := 5) (tgt := 159) (by decide +kernel) (by decide +kernel) (fun z154 => ?_) (fun z154 => ?_)
              · refine pw_aload_n (k4 := 0) rfl (by decide +kernel) ?_
                refine pq_getP (c := 4) (k := 4) (ks_sc hA) (by decide) (by decide) (kp_sc_reader hA) lf_Sc_12 (by decide +kernel) ?_
                refine pq_callV (ν := m_Re_advance) (d' := 2) (av := []) (c := 3) (by decide +kernel) lm_Sc_62 ok_Re_advance (show _ = some 0 by decide +kernel) (ks_re hA) rfl (by decide) (by omega) (Nat.le_of_ble_eq_true rfl) (gt_advance hA hrb hr149) ?_
                rintro _ _ ⟨rfl, I163, rfl, hr163, hf163⟩
                have pf163 : prF (yTok H138_0) H138_0 := prF_tok _
                generalize yTok H138_0 = G163 at hX hr163 pf163
                try dsimp only at hX
                have fe163 : frE I163 (sI (sI (sI (sI (sI (I) (t + 6) sr (v40)) (t + 7) sr (v63)) (t + 8) sr (v86)) (t + 9) sr (v110)) (t + 10) sr (-1)) := fun a h1 h2 => (hf163 a h2).trans (fe149 a h1 h2)
                have fo163 : frO t I I163 := fun a h1 h2 h3 => (hf163 a h2).trans (fo149 a h1 h2 h3)
                have hz163 : I163 57 = I 57 := (hf163 57 (by decide)).trans hz149
                have c163 : G163 137 = J 137 := (pf163.1 137 (by decide)).trans c138g0
                have x40n0_163 : G163 142 (16 + sr) = K40 134 11 := by rw [pf163.1 142 (by decide)]; exact x40n0_138g0
                have x63n0_163 : G163 143 (16 + sr) = K63 134 11 := by rw [pf163.1 143 (by decide)]; exact x63n0_138g0
                have x86n0_163 : G163 144 (16 + sr) = K86 134 11 := by rw [pf163.1 144 (by decide)]; exact x86n0_138g0
                have x138n0_163 : G163 145 (16 + sr) = K110 134 11 := by rw [pf163.1 145 (by decide)]; exact x138n0_0
                obtain ⟨H163_0, hH163_0⟩ : ∃ Z, Z = sI G163 146 (16 + sr) (-1) := ⟨_, rfl⟩
                rw [← hH163_0] at hX
                have hrH163_0 : rdR I163 H163_0 n := by rw [hH163_0]; exact rdR_sJ hr163 (by decide) _ _
                have c163g0 : H163_0 137 = J 137 := by rw [hH163_0, sI_ne (by decide)]; exact c163
                have x40n0_163g0 : H163_0 142 (16 + sr) = K40 134 11 := by rw [hH163_0, sI_ne (by decide)]; exact x40n0_163
                have x63n0_163g0 : H163_0 143 (16 + sr) = K63 134 11 := by rw [hH163_0, sI_ne (by decide)]; exact x63n0_163
                have x86n0_163g0 : H163_0 144 (16 + sr) = K86 134 11 := by rw [hH163_0, sI_ne (by decide)]; exact x86n0_163
                have x138n0_163g0 : H163_0 145 (16 + sr) = K110 134 11 := by rw [hH163_0, sI_ne (by decide)]; exact x138n0_163
                have x163n0_0 : H163_0 146 (16 + sr) = -1 := by rw [hH163_0, sI_rs]
                refine pw_aload_n (k4 := 0) rfl (by decide +kernel) ?_
                refine pq_getP (c := 4) (k := 5) (ks_sc hA) (by decide) (by decide) hst lf_Sc_18 (by decide +kernel) ?_
                refine pw_dup rfl (by decide +kernel) ?_
                refine pq_getI (c := 7) (k := 6) (ks_t hA ht) (by decide) (by decide) lf_Sc_116 (by decide +kernel) ?_
                refine pn_val (nI (sr)) (by rw [fe163 t (by omega) (by omega)]; (repeat rw [sI_ne (by omega)]); exact hn.2.2.1) ?_
                refine pw_iconst (n := 1) (v := 1) (by decide) (by decide +kernel) ?_
                refine pn_iadd sr 1 rfl rfl (by decide +kernel) ?_
                refine pq_putI (c := 7) (k := 6) (ks_t hA ht) (by decide) (by decide) lf_Sc_116 (Or.inl rfl) (by decide +kernel) ?_
                obtain ⟨I176, hI176⟩ : ∃ Z, Z = sI I163 t 6 (nI (sr + 1)) := ⟨_, rfl⟩
                rw [← hI176]
                have fe176 : frE I176 (sI (sI (sI (sI (sI (sI (I) (t + 6) sr (v40)) (t + 7) sr (v63)) (t + 8) sr (v86)) (t + 9) sr (v110)) (t + 10) sr (-1)) t 6 (nI (sr + 1))) := by rw [hI176]; exact fe163.st
                have fo176 : frO t I I176 := by rw [hI176]; exact fo163.st (by omega)
                have e57_176 : I176 57 = I163 57 := by rw [hI176, sI_ne (by omega)]
                have hz176 : I176 57 = I 57 := e57_176.trans hz163
                have hr176 : rdR I176 H163_0 n := by rw [hI176]; exact rdR_sX hrH163_0 (by omega) _ _
                refine pw_iconst (n := 1) (v := 1) (by decide) (by decide +kernel) ?_
                exact pq_zret rfl (by decide) (by decide +kernel) (lnQ_t hX (rdR_sJ4 hr176 (by decide) _) fo176 ⟨hz176, by rw [show sI H163_0 134 18 (nI (sr + 1)) 142 (16 + sr) = _ from (congrFun (sI_ne (by decide)) _).trans (x40n0_163g0.trans hu40.symm), show sI H163_0 134 18 (nI (sr + 1)) 143 (16 + sr) = _ from (congrFun (sI_ne (by decide)) _).trans (x63n0_163g0.trans hu63.symm), show sI H163_0 134 18 (nI (sr + 1)) 144 (16 + sr) = _ from (congrFun (sI_ne (by decide)) _).trans (x86n0_163g0.trans hu86.symm), show sI H163_0 134 18 (nI (sr + 1)) 145 (16 + sr) = _ from (congrFun (sI_ne (by decide)) _).trans (x138n0_163g0.trans hu110.symm), show sI H163_0 134 18 (nI (sr + 1)) 146 (16 + sr) = _ from (congrFun (sI_ne (by decide)) _).trans (x163n0_0)]; exact fe176⟩)
              · exact absurd (by rw [hz149]; exact h0) z154
  · rw [if_pos (by omega)] at hX
    refine pw_aload_n (k4 := 0) rfl (by decide +kernel) ?_
    refine pw_iconst (n := 2) (v := 2) (by decide) (by decide +kernel) ?_
    refine pq_callV (ν := m_Sc_refuse) (d' := 0) (av := [_]) (c := 4) (by decide +kernel) lm_Sc_59 ok_Sc_refuse (show _ = some 1 by decide +kernel) (ks_sc hA) rfl (by decide) (by omega) (Nat.le_of_ble_eq_true rfl) (ct_Sc_refuse hA _) ?_
    rintro _ _ ⟨rfl, rfl⟩
    exact pq_zret rfl (Or.inl rfl) (by decide +kernel) (lnQ_w hX hr (by decide) fo0)

set_option maxHeartbeats 4000000 in
theorem ct_Sc_readDebt {sh : List pSh} {I : Nat → Nat → Int32} {L : Nat → Nat → Int64} {P : Nat → Nat → Option Nat} (hA : kA sh P) (hrb : P 58 3 = some 2) {J : Nat → Nat → Int32} {n : Nat} (hr : rdR I J n) {t : Nat} (ht : t = 3 ∨ t = 30) (hst : P 57 5 = some t) (h0 : I 57 1 = 0) {pr sr dr : Nat} (hn : tOK I t pr sr dr) (hnm : ∀ p, p < pr → I (t + 1) p = J 137 (5 + p)) : pCn m_Sc_readDebt 4 [.ref 57] sh (I, L, P) (lnQ (yDL pr dr J) (tDb I t dr) I L P n t) := by
  refine pCn_of (by decide +kernel) (Nat.le_of_ble_eq_true rfl) ?_
  obtain ⟨X, hX⟩ : ∃ X, X = yDL pr dr J := ⟨_, rfl⟩
  rw [← hX]
  unfold yDL at hX
  have fe0 : frE I I := frE.rf I
  have fo0 : frO t I I := frO.rf t I
  have hz0 : I 57 = I 57 := rfl
  have hc0 : J 137 = J 137 := rfl
  have h5 := hn.2.1
  have h8 := hn.2.2.2.2.2
  refine pw_aload_n (k4 := 0) rfl (by decide +kernel) ?_
  refine pq_getP (c := 4) (k := 5) (ks_sc hA) (by decide) (by decide) hst lf_Sc_18 (by decide +kernel) ?_
  refine pq_getI (c := 7) (k := 12) (ks_t hA ht) (by decide) (by decide) lf_Sc_140 (by decide +kernel) ?_
  refine pn_val (nI (dr)) (hn.2.2.2.2.1) ?_
  refine pq_istore_n (k4 := 1) (Nat.le_of_ble_eq_true rfl) rfl (by decide +kernel) ?_
  refine pw_iload_n (k4 := 1) rfl (by decide +kernel) ?_
  refine pw_bipush (n := 8) (v := 8) (by decide) (by decide +kernel) ?_
  refine pn_icmp_lt (off := 9) (tgt := 20) dr 8 rfl rfl (by omega) (by omega) (by decide +kernel) (by decide +kernel) (fun z11 => ?_) (fun z11 => ?_)
  · rw [if_neg (by omega)] at hX
    refine pw_aload_n (k4 := 0) rfl (by decide +kernel) ?_
    refine pq_getP (c := 4) (k := 4) (ks_sc hA) (by decide) (by decide) (kp_sc_reader hA) lf_Sc_12 (by decide +kernel) ?_
    refine pq_callV (ν := m_Re_advance) (d' := 2) (av := []) (c := 3) (by decide +kernel) lm_Sc_62 ok_Re_advance (show _ = some 0 by decide +kernel) (ks_re hA) rfl (by decide) (by omega) (Nat.le_of_ble_eq_true rfl) (gt_advance hA hrb hr) ?_
    rintro _ _ ⟨rfl, I24, rfl, hr24, hf24⟩
    have pf24 : prF (yTok J) J := prF_tok _
    generalize yTok J = G24 at hX hr24 pf24
    try dsimp only at hX
    have fe24 : frE I24 (I) := fun a h1 h2 => (hf24 a h2).trans (fe0 a h1 h2)
    have fo24 : frO t I I24 := fun a h1 h2 h3 => (hf24 a h2).trans (fo0 a h1 h2 h3)
    have hz24 : I24 57 = I 57 := (hf24 57 (by decide)).trans hz0
    have c24 : G24 137 = J 137 := (pf24.1 137 (by decide)).trans hc0
    refine pw_aload_n (k4 := 0) rfl (by decide +kernel) ?_
    have eT28 : I24 t = I t := by rw [fe24 t (by omega) (by omega)]; (repeat rw [sI_ne (by omega)])
    have eN28 : I24 (t + 1) = I (t + 1) := by rw [fe24 (t + 1) (by omega) (by omega)]; (repeat rw [sI_ne (by omega)])
    have eG28 : G24 137 = J 137 := c24
    refine pq_callV (ν := m_Sc_lookAtPerson) (d' := 1) (av := []) (c := 4) (by decide +kernel) lm_Sc_136 ok_Sc_lookAtPerson (show _ = some 0 by decide +kernel) (ks_sc hA) rfl (by decide) (by omega) (Nat.le_of_ble_eq_true rfl) (ct_Sc_lookAtPerson hA hrb hr24 ht hst (pr := pr) (sr := sr) (dr := dr) (by unfold tOK; rw [eT28]; exact hn) (fun p hp => by rw [eN28, eG28]; exact hnm p hp)) ?_
    rintro _ _ ⟨I28, v28, rfl, rfl, hT28, hF28⟩
    have fr28 : ∀ a, a ≠ 57 → a ≠ 58 → I28 a = I24 a := by
      cases e : (yPer G24 pr).1 with
      | true => intro a _ _; rw [← (hT28 e).1]
      | false => exact (hF28 e).2.2.2
    have fe28 : frE I28 (I) := fun a h1 h2 => (fr28 a h1 h2).trans (fe24 a h1 h2)
    have fo28 : frO t I I28 := fun a h1 h2 h3 => (fr28 a h1 h2).trans (fo24 a h1 h2 h3)
    refine pq_istore_n (k4 := 2) (Nat.le_of_ble_eq_true rfl) rfl (by decide +kernel) ?_
    refine pw_iload_n (k4 := 2) rfl (by decide +kernel) ?_
    refine pw_if_ge (off := 5) (tgt := 38) (by decide +kernel) (by decide +kernel) (fun z33 => ?_) (fun z33 => ?_)
    · have hq28 : (yPer G24 pr).1 = true := by
        cases e : (yPer G24 pr).1 with
        | true => rfl
        | false => rw [(hF28 e).1] at z33; exact absurd z33 (by decide)
      obtain ⟨K28, hK28⟩ : ∃ K, yPer G24 pr = (true, K) := ⟨_, Prod.ext hq28 rfl⟩
      obtain ⟨eI28, eK28, j28, lj28, ej28⟩ := hT28 hq28
      rw [show yPer G24 pr = (true, sI (yTok G24) 134 11 v28) from eK28, yB_t] at hX
      try dsimp only at hX
      have hz28 : I28 57 = I 57 := by rw [← eI28]; exact hz24
      have hr28 : rdR I28 G24 n := by rw [← eI28]; exact hr24
      refine pw_aload_n (k4 := 0) rfl (by decide +kernel) ?_
      refine pq_getP (c := 4) (k := 4) (ks_sc hA) (by decide) (by decide) (kp_sc_reader hA) lf_Sc_12 (by decide +kernel) ?_
      refine pq_callV (ν := m_Re_advance) (d' := 2) (av := []) (c := 3) (by decide +kernel) lm_Sc_62 ok_Re_advance (show _ = some 0 by decide +kernel) (ks_re hA) rfl (by decide) (by omega) (Nat.le_of_ble_eq_true rfl) (gt_advance hA hrb hr28) ?_
      rintro _ _ ⟨rfl, I42, rfl, hr42, hf42⟩
      have pf42 : prF (yTok G24) G24 := prF_tok _
      generalize yTok G24 = G42 at hX hr42 pf42
      try dsimp only at hX
      have fe42 : frE I42 (I) := fun a h1 h2 => (hf42 a h2).trans (fe28 a h1 h2)
      have fo42 : frO t I I42 := fun a h1 h2 h3 => (hf42 a h2).trans (fo28 a h1 h2 h3)
      have hz42 : I42 57 = I 57 := (hf42 57 (by decide)).trans hz28
      have c42 : G42 137 = J 137 := (pf42.1 137 (by decide)).trans c24
      obtain ⟨H42_0, hH42_0⟩ : ∃ Z, Z = sI G42 134 (11) (v28) := ⟨_, rfl⟩
      rw [← hH42_0] at hX
      have hrH42_0 : rdR I42 H42_0 n := by rw [hH42_0]; exact rdR_sJ4 hr42 (by decide) _
      have c42g0 : H42_0 137 = J 137 := by rw [hH42_0, sI_ne (by decide)]; exact c42
      have x42n0_0 : H42_0 134 11 = v28 := by rw [hH42_0, sI_rs]
      obtain ⟨H42_1, hH42_1⟩ : ∃ Z, Z = sI H42_0 147 (8 + dr) (H42_0 134 11) := ⟨_, rfl⟩
      rw [← hH42_1] at hX
      have hrH42_1 : rdR I42 H42_1 n := by rw [hH42_1]; exact rdR_sJ hrH42_0 (by decide) _ _
      have c42g1 : H42_1 137 = J 137 := by rw [hH42_1, sI_ne (by decide)]; exact c42g0
      have x42n0_42g1 : H42_1 134 11 = v28 := by rw [hH42_1, sI_ne (by decide)]; exact x42n0_0
      have x42n1_0 : H42_1 147 (8 + dr) = H42_0 134 11 := by rw [hH42_1, sI_rs]
      refine pw_aload_n (k4 := 0) rfl (by decide +kernel) ?_
      have eT46 : I42 t = I t := by rw [fe42 t (by omega) (by omega)]; (repeat rw [sI_ne (by omega)])
      have eN46 : I42 (t + 1) = I (t + 1) := by rw [fe42 (t + 1) (by omega) (by omega)]; (repeat rw [sI_ne (by omega)])
      have eG46 : H42_1 137 = J 137 := c42g1
      refine pq_callV (ν := m_Sc_lookAtPerson) (d' := 1) (av := []) (c := 4) (by decide +kernel) lm_Sc_136 ok_Sc_lookAtPerson (show _ = some 0 by decide +kernel) (ks_sc hA) rfl (by decide) (by omega) (Nat.le_of_ble_eq_true rfl) (ct_Sc_lookAtPerson hA hrb hrH42_1 ht hst (pr := pr) (sr := sr) (dr := dr) (by unfold tOK; rw [eT46]; exact hn) (fun p hp => by rw [eN46, eG46]; exact hnm p hp)) ?_
      rintro _ _ ⟨I46, v46, rfl, rfl, hT46, hF46⟩
      have fr46 : ∀ a, a ≠ 57 → a ≠ 58 → I46 a = I42 a := by
        cases e : (yPer H42_1 pr).1 with
        | true => intro a _ _; rw [← (hT46 e).1]
        | false => exact (hF46 e).2.2.2
      have fe46 : frE I46 (I) := fun a h1 h2 => (fr46 a h1 h2).trans (fe42 a h1 h2)
      have fo46 : frO t I I46 := fun a h1 h2 h3 => (fr46 a h1 h2).trans (fo42 a h1 h2 h3)
      refine pq_istore_n (k4 := 3) (Nat.le_of_ble_eq_true rfl) rfl (by decide +kernel) ?_
      refine pw_iload_n (k4 := 3) rfl (by decide +kernel) ?_
      refine pw_if_ge (off := 5) (tgt := 56) (by decide +kernel) (by decide +kernel) (fun z51 => ?_) (fun z51 => ?_)
      · have hq46 : (yPer H42_1 pr).1 = true := by
          cases e : (yPer H42_1 pr).1 with
          | true => rfl
          | false => rw [(hF46 e).1] at z51; exact absurd z51 (by decide)
        obtain ⟨K46, hK46⟩ : ∃ K, yPer H42_1 pr = (true, K) := ⟨_, Prod.ext hq46 rfl⟩
        obtain ⟨eI46, eK46, j46, lj46, ej46⟩ := hT46 hq46
        rw [show yPer H42_1 pr = (true, sI (yTok H42_1) 134 11 v46) from eK46, yB_t] at hX
        try dsimp only at hX
        have hz46 : I46 57 = I 57 := by rw [← eI46]; exact hz42
        have hr46 : rdR I46 H42_1 n := by rw [← eI46]; exact hrH42_1
        refine pw_iload_n (k4 := 3) rfl (by decide +kernel) ?_
        refine pw_iload_n (k4 := 2) rfl (by decide +kernel) ?_
        refine pw_icmp_ne (off := 9) (tgt := 67) (by decide +kernel) (by decide +kernel) (fun z58 => ?_) (fun z58 => ?_)
        · have hc58 : (sI (yTok H42_1) 134 11 v46) 134 11 = (sI (yTok H42_1) 134 11 v46) 147 (8 + dr) ↔ v46 = v28 := by rw [sI_rs, sI_ne (by decide), (prF_tok H42_1).1 147 (by decide), x42n1_0, x42n0_0]
          rw [if_neg (fun w => z58 (hc58.mp w))] at hX
          refine pw_aload_n (k4 := 0) rfl (by decide +kernel) ?_
          refine pq_getP (c := 4) (k := 4) (ks_sc hA) (by decide) (by decide) (kp_sc_reader hA) lf_Sc_12 (by decide +kernel) ?_
          refine pq_callV (ν := m_Re_advance) (d' := 2) (av := []) (c := 3) (by decide +kernel) lm_Sc_62 ok_Re_advance (show _ = some 0 by decide +kernel) (ks_re hA) rfl (by decide) (by omega) (Nat.le_of_ble_eq_true rfl) (gt_advance hA hrb hr46) ?_
          rintro _ _ ⟨rfl, I71, rfl, hr71, hf71⟩
          have pf71 : prF (yTok H42_1) H42_1 := prF_tok _
          generalize yTok H42_1 = G71 at hX hr71 pf71
          try dsimp only at hX
          have fe71 : frE I71 (I) := fun a h1 h2 => (hf71 a h2).trans (fe46 a h1 h2)
          have fo71 : frO t I I71 := fun a h1 h2 h3 => (hf71 a h2).trans (fo46 a h1 h2 h3)
          have hz71 : I71 57 = I 57 := (hf71 57 (by decide)).trans hz46
          have c71 : G71 137 = J 137 := (pf71.1 137 (by decide)).trans c42g1
          have x42n1_71 : G71 147 (8 + dr) = H42_0 134 11 := by rw [pf71.1 147 (by decide)]; exact x42n1_0
          obtain ⟨H71_0, hH71_0⟩ : ∃ Z, Z = sI G71 134 (11) (v46) := ⟨_, rfl⟩
          rw [← hH71_0] at hX
          have hrH71_0 : rdR I71 H71_0 n := by rw [hH71_0]; exact rdR_sJ4 hr71 (by decide) _
          have c71g0 : H71_0 137 = J 137 := by rw [hH71_0, sI_ne (by decide)]; exact c71
          have x42n1_71g0 : H71_0 147 (8 + dr) = H42_0 134 11 := by rw [hH71_0, sI_ne (by decide)]; exact x42n1_71
          have x71n0_0 : H71_0 134 11 = v46 := by rw [hH71_0, sI_rs]
          obtain ⟨H71_1, hH71_1⟩ : ∃ Z, Z = sI H71_0 148 (8 + dr) (H71_0 134 11) := ⟨_, rfl⟩
          rw [← hH71_1] at hX
          have hrH71_1 : rdR I71 H71_1 n := by rw [hH71_1]; exact rdR_sJ hrH71_0 (by decide) _ _
          have c71g1 : H71_1 137 = J 137 := by rw [hH71_1, sI_ne (by decide)]; exact c71g0
          have x42n1_71g1 : H71_1 147 (8 + dr) = H42_0 134 11 := by rw [hH71_1, sI_ne (by decide)]; exact x42n1_71g0
          have x71n0_71g1 : H71_1 134 11 = v46 := by rw [hH71_1, sI_ne (by decide)]; exact x71n0_0
          have x71n1_0 : H71_1 148 (8 + dr) = H71_0 134 11 := by rw [hH71_1, sI_rs]
          refine pw_aload_n (k4 := 0) rfl (by decide +kernel) ?_
          refine pq_getP (c := 4) (k := 5) (ks_sc hA) (by decide) (by decide) hst lf_Sc_18 (by decide +kernel) ?_
          refine pq_getP (c := 7) (k := 13) (ks_t hA ht) (by decide) (by decide) (kp_t_debtor hA ht) lf_Sc_143 (by decide +kernel) ?_
          refine pw_iload_n (k4 := 1) rfl (by decide +kernel) ?_
          refine pw_iload_n (k4 := 2) rfl (by decide +kernel) ?_
          refine pq_iast dr rfl (by omega) (by decide) (ks_t_debtor hA ht) (by decide +kernel) ?_
          obtain ⟨I83, hI83⟩ : ∃ Z, Z = sI I71 (t + 11) dr (v28) := ⟨_, rfl⟩
          rw [← hI83]
          have fe83 : frE I83 (sI (I) (t + 11) dr (v28)) := by rw [hI83]; exact fe71.st
          have fo83 : frO t I I83 := by rw [hI83]; exact fo71.st (by omega)
          have e57_83 : I83 57 = I71 57 := by rw [hI83, sI_ne (by omega)]
          have hz83 : I83 57 = I 57 := e57_83.trans hz71
          have hr83 : rdR I83 H71_1 n := by rw [hI83]; exact rdR_sX hrH71_1 (by omega) _ _
          refine pw_aload_n (k4 := 0) rfl (by decide +kernel) ?_
          refine pq_getP (c := 4) (k := 5) (ks_sc hA) (by decide) (by decide) hst lf_Sc_18 (by decide +kernel) ?_
          refine pq_getP (c := 7) (k := 14) (ks_t hA ht) (by decide) (by decide) (kp_t_creditor hA ht) lf_Sc_146 (by decide +kernel) ?_
          refine pw_iload_n (k4 := 1) rfl (by decide +kernel) ?_
          refine pw_iload_n (k4 := 3) rfl (by decide +kernel) ?_
          refine pq_iast dr rfl (by omega) (by decide) (ks_t_creditor hA ht) (by decide +kernel) ?_
          obtain ⟨I93, hI93⟩ : ∃ Z, Z = sI I83 (t + 12) dr (v46) := ⟨_, rfl⟩
          rw [← hI93]
          have fe93 : frE I93 (sI (sI (I) (t + 11) dr (v28)) (t + 12) dr (v46)) := by rw [hI93]; exact fe83.st
          have fo93 : frO t I I93 := by rw [hI93]; exact fo83.st (by omega)
          have e57_93 : I93 57 = I83 57 := by rw [hI93, sI_ne (by omega)]
          have hz93 : I93 57 = I 57 := e57_93.trans hz83
          have hr93 : rdR I93 H71_1 n := by rw [hI93]; exact rdR_sX hr83 (by omega) _ _
          refine pw_aload_n (k4 := 0) rfl (by decide +kernel) ?_
          refine pq_getP (c := 4) (k := 5) (ks_sc hA) (by decide) (by decide) hst lf_Sc_18 (by decide +kernel) ?_
          refine pq_getP (c := 7) (k := 15) (ks_t hA ht) (by decide) (by decide) (kp_t_owed hA ht) lf_Sc_149 (by decide +kernel) ?_
          refine pw_iload_n (k4 := 1) rfl (by decide +kernel) ?_
          refine pw_aload_n (k4 := 0) rfl (by decide +kernel) ?_
          refine pw_iconst (n := 1) (v := 1) (by decide) (by decide +kernel) ?_
          refine pw_sipush (n := 999) (v := 999) (by decide) (by decide +kernel) ?_
          refine pq_callV (ν := m_Sc_takeNumber) (d' := 3) (av := [_, _]) (c := 4) (by decide +kernel) lm_Sc_107 ok_Sc_takeNumber (show _ = some 2 by decide +kernel) (ks_sc hA) rfl (by decide) (by omega) (Nat.le_of_ble_eq_true rfl) (gt_takeNumber hA hrb hr93 1 999 (by decide) (by decide)) ?_
          rintro _ _ ⟨I107, v107, rfl, rfl, hs107, hv107, hw107⟩
          have fe107 : frE I107 (sI (sI (I) (t + 11) dr (v28)) (t + 12) dr (v46)) := fun a h1 h2 => (hs107.2.2 a h1 h2).trans (fe93 a h1 h2)
          have fo107 : frO t I I107 := fun a h1 h2 h3 => (hs107.2.2 a h1 h2).trans (fo93 a h1 h2 h3)
          refine pq_iast dr rfl (by omega) (by decide) (ks_t_owed hA ht) (by decide +kernel) ?_
          obtain ⟨I110, hI110⟩ : ∃ Z, Z = sI I107 (t + 13) dr (v107) := ⟨_, rfl⟩
          rw [← hI110]
          have fe110 : frE I110 (sI (sI (sI (I) (t + 11) dr (v28)) (t + 12) dr (v46)) (t + 13) dr (v107)) := by rw [hI110]; exact fe107.st
          have fo110 : frO t I I110 := by rw [hI110]; exact fo107.st (by omega)
          have e57_110 : I110 57 = I107 57 := by rw [hI110, sI_ne (by omega)]
          refine pw_aload_n (k4 := 0) rfl (by decide +kernel) ?_
          refine pq_getI (c := 4) (k := 1) (ks_sc hA) (by decide) (by decide) lf_Sc_35 (by decide +kernel) ?_
          refine pw_if_ne (off := 19) (tgt := 134) (by decide +kernel) (by decide +kernel) (fun z115 => ?_) (fun z115 => ?_)
          · have hb107 : (I107 57 1 = 0 ↔ (yNum H71_1 (nI 1) (nI 999)).1 = true) := sbR_in hs107 (by rw [hz93]; exact h0)
            have hq107 : (yNum H71_1 (nI 1) (nI 999)).1 = false := by
              cases e : (yNum H71_1 (nI 1) (nI 999)).1 with
              | false => rfl
              | true => exact absurd (hb107.mpr e) (by rw [← e57_110]; exact z115)
            have hXf107 : X = yNum H71_1 (nI 1) (nI 999) := by rw [hX]; exact yB_q hq107
            have ff107 : scF X I107 := by rw [hXf107]; exact ⟨hq107, hs107.2.1 hq107⟩
            have fc107 : scF X I110 := ff107.cg e57_110
            refine pw_aload_n (k4 := 0) rfl (by decide +kernel) ?_
            refine pq_getP (c := 4) (k := 5) (ks_sc hA) (by decide) (by decide) hst lf_Sc_18 (by decide +kernel) ?_
            refine pw_dup rfl (by decide +kernel) ?_
            refine pq_getI (c := 7) (k := 12) (ks_t hA ht) (by decide) (by decide) lf_Sc_140 (by decide +kernel) ?_
            refine pn_val (nI (dr)) (by rw [fe110 t (by omega) (by omega)]; (repeat rw [sI_ne (by omega)]); exact hn.2.2.2.2.1) ?_
            refine pw_iconst (n := 1) (v := 1) (by decide) (by decide +kernel) ?_
            refine pn_iadd dr 1 rfl rfl (by decide +kernel) ?_
            refine pq_putI (c := 7) (k := 12) (ks_t hA ht) (by decide) (by decide) lf_Sc_140 (Or.inl rfl) (by decide +kernel) ?_
            obtain ⟨I144, hI144⟩ : ∃ Z, Z = sI I110 t 12 (nI (dr + 1)) := ⟨_, rfl⟩
            rw [← hI144]
            have fe144 : frE I144 (sI (sI (sI (sI (I) (t + 11) dr (v28)) (t + 12) dr (v46)) (t + 13) dr (v107)) t 12 (nI (dr + 1))) := by rw [hI144]; exact fe110.st
            have fo144 : frO t I I144 := by rw [hI144]; exact fo110.st (by omega)
            have e57_144 : I144 57 = I110 57 := by rw [hI144, sI_ne (by omega)]
            have ff144 : scF X I144 := fc107.cg e57_144
            refine pw_aload_n (k4 := 0) rfl (by decide +kernel) ?_
            refine pq_getI (c := 4) (k := 1) (ks_sc hA) (by decide) (by decide) lf_Sc_35 (by decide +kernel) ?_
            refine pw_if_ne (off := 7) (tgt := 158) (by decide +kernel) (by decide +kernel) (fun z151 => ?_) (fun z151 => ?_)
            · refine pw_iconst (n := 0) (v := 0) (by decide) (by decide +kernel) ?_
              exact pq_zret rfl (by decide) (by decide +kernel) (lnQ_f ff144 fo144)
            · exact absurd z151 (by rw [ff144.2.1]; exact ff144.2.2.2)
          · have hb107 : (I107 57 1 = 0 ↔ (yNum H71_1 (nI 1) (nI 999)).1 = true) := sbR_in hs107 (by rw [hz93]; exact h0)
            have hq107 : (yNum H71_1 (nI 1) (nI 999)).1 = true := hb107.mp (by rw [← e57_110]; exact z115)
            obtain ⟨K107, hK107⟩ : ∃ K, yNum H71_1 (nI 1) (nI 999) = (true, K) := ⟨_, Prod.ext hq107 rfl⟩
            rw [show yNum H71_1 1 999 = (true, K107) from hK107, yB_t] at hX
            try dsimp only at hX
            have pf107 : prF K107 H71_1 := num_pf hK107
            have hr107 : rdR I107 K107 n := by have := (hs107.1 hq107).1; rw [hK107] at this; exact this
            have hz107 : I107 57 = I 57 := (hs107.1 hq107).2.trans hz93
            have hu107 : v107 = K107 134 11 := by have := hv107 hq107; rw [hK107] at this; exact this
            have c107 : K107 137 = J 137 := (pf107.1 137 (by decide)).trans c71g1
            have x42n1_107 : K107 147 (8 + dr) = H42_0 134 11 := by rw [pf107.1 147 (by decide)]; exact x42n1_71g1
            have x71n1_107 : K107 148 (8 + dr) = H71_0 134 11 := by rw [pf107.1 148 (by decide)]; exact x71n1_0
            have hzc107 : I110 57 = I 57 := e57_110.trans hz107
            have hrc107 : rdR I110 K107 n := by rw [hI110]; exact rdR_sX (hr107) (by omega) _ _
            obtain ⟨H107_0, hH107_0⟩ : ∃ Z, Z = sI K107 149 (8 + dr) (K107 134 11) := ⟨_, rfl⟩
            rw [← hH107_0] at hX
            have hrH107_0 : rdR I110 H107_0 n := by rw [hH107_0]; exact rdR_sJ hrc107 (by decide) _ _
            have c107g0 : H107_0 137 = J 137 := by rw [hH107_0, sI_ne (by decide)]; exact c107
            have x42n1_107g0 : H107_0 147 (8 + dr) = H42_0 134 11 := by rw [hH107_0, sI_ne (by decide)]; exact x42n1_107
            have x71n1_107g0 : H107_0 148 (8 + dr) = H71_0 134 11 := by rw [hH107_0, sI_ne (by decide)]; exact x71n1_107
            have x107n0_0 : H107_0 149 (8 + dr) = K107 134 11 := by rw [hH107_0, sI_rs]
            refine pw_aload_n (k4 := 0) rfl (by decide +kernel) ?_
            refine pq_getP (c := 4) (k := 5) (ks_sc hA) (by decide) (by decide) hst lf_Sc_18 (by decide +kernel) ?_
            refine pq_getP (c := 7) (k := 16) (ks_t hA ht) (by decide) (by decide) (kp_t_due hA ht) lf_Sc_152 (by decide +kernel) ?_
            refine pw_iload_n (k4 := 1) rfl (by decide +kernel) ?_
            refine pw_aload_n (k4 := 0) rfl (by decide +kernel) ?_
            refine pw_iconst (n := 0) (v := 0) (by decide) (by decide +kernel) ?_
            refine pw_bipush (n := 99) (v := 99) (by decide) (by decide +kernel) ?_
            refine pq_callV (ν := m_Sc_takeNumber) (d' := 3) (av := [_, _]) (c := 4) (by decide +kernel) lm_Sc_107 ok_Sc_takeNumber (show _ = some 2 by decide +kernel) (ks_sc hA) rfl (by decide) (by omega) (Nat.le_of_ble_eq_true rfl) (gt_takeNumber hA hrb hrH107_0 0 99 (by decide) (by decide)) ?_
            rintro _ _ ⟨I130, v130, rfl, rfl, hs130, hv130, hw130⟩
            have fe130 : frE I130 (sI (sI (sI (I) (t + 11) dr (v28)) (t + 12) dr (v46)) (t + 13) dr (v107)) := fun a h1 h2 => (hs130.2.2 a h1 h2).trans (fe110 a h1 h2)
            have fo130 : frO t I I130 := fun a h1 h2 h3 => (hs130.2.2 a h1 h2).trans (fo110 a h1 h2 h3)
            refine pq_iast dr rfl (by omega) (by decide) (ks_t_due hA ht) (by decide +kernel) ?_
            obtain ⟨I133, hI133⟩ : ∃ Z, Z = sI I130 (t + 14) dr (v130) := ⟨_, rfl⟩
            rw [← hI133]
            have fe133 : frE I133 (sI (sI (sI (sI (I) (t + 11) dr (v28)) (t + 12) dr (v46)) (t + 13) dr (v107)) (t + 14) dr (v130)) := by rw [hI133]; exact fe130.st
            have fo133 : frO t I I133 := by rw [hI133]; exact fo130.st (by omega)
            have e57_133 : I133 57 = I130 57 := by rw [hI133, sI_ne (by omega)]
            refine pw_aload_n (k4 := 0) rfl (by decide +kernel) ?_
            refine pq_getP (c := 4) (k := 5) (ks_sc hA) (by decide) (by decide) hst lf_Sc_18 (by decide +kernel) ?_
            refine pw_dup rfl (by decide +kernel) ?_
            refine pq_getI (c := 7) (k := 12) (ks_t hA ht) (by decide) (by decide) lf_Sc_140 (by decide +kernel) ?_
            refine pn_val (nI (dr)) (by rw [fe133 t (by omega) (by omega)]; (repeat rw [sI_ne (by omega)]); exact hn.2.2.2.2.1) ?_
            refine pw_iconst (n := 1) (v := 1) (by decide) (by decide +kernel) ?_
            refine pn_iadd dr 1 rfl rfl (by decide +kernel) ?_
            refine pq_putI (c := 7) (k := 12) (ks_t hA ht) (by decide) (by decide) lf_Sc_140 (Or.inl rfl) (by decide +kernel) ?_
            obtain ⟨I144, hI144⟩ : ∃ Z, Z = sI I133 t 12 (nI (dr + 1)) := ⟨_, rfl⟩
            rw [← hI144]
            have fe144 : frE I144 (sI (sI (sI (sI (sI (I) (t + 11) dr (v28)) (t + 12) dr (v46)) (t + 13) dr (v107)) (t + 14) dr (v130)) t 12 (nI (dr + 1))) := by rw [hI144]; exact fe133.st
            have fo144 : frO t I I144 := by rw [hI144]; exact fo133.st (by omega)
            have e57_144 : I144 57 = I133 57 := by rw [hI144, sI_ne (by omega)]
            refine pw_aload_n (k4 := 0) rfl (by decide +kernel) ?_
            refine pq_getI (c := 4) (k := 1) (ks_sc hA) (by decide) (by decide) lf_Sc_35 (by decide +kernel) ?_
            refine pw_if_ne (off := 7) (tgt := 158) (by decide +kernel) (by decide +kernel) (fun z151 => ?_) (fun z151 => ?_)
            · have hb130 : (I130 57 1 = 0 ↔ (yNum H107_0 (nI 0) (nI 99)).1 = true) := sbR_in hs130 (by rw [hzc107]; exact h0)
              have hq130 : (yNum H107_0 (nI 0) (nI 99)).1 = false := by
                cases e : (yNum H107_0 (nI 0) (nI 99)).1 with
                | false => rfl
                | true => exact absurd (hb130.mpr e) (by rw [← (e57_144.trans e57_133)]; exact z151)
              have hXf130 : X = yNum H107_0 (nI 0) (nI 99) := by rw [hX]; exact yB_q hq130
              have ff130 : scF X I130 := by rw [hXf130]; exact ⟨hq130, hs130.2.1 hq130⟩
              have fc130 : scF X I144 := ff130.cg (e57_144.trans e57_133)
              refine pw_iconst (n := 0) (v := 0) (by decide) (by decide +kernel) ?_
              exact pq_zret rfl (by decide) (by decide +kernel) (lnQ_f fc130 fo144)
            · have hb130 : (I130 57 1 = 0 ↔ (yNum H107_0 (nI 0) (nI 99)).1 = true) := sbR_in hs130 (by rw [hzc107]; exact h0)
              have hq130 : (yNum H107_0 (nI 0) (nI 99)).1 = true := hb130.mp (by rw [← (e57_144.trans e57_133)]; exact z151)
              obtain ⟨K130, hK130⟩ : ∃ K, yNum H107_0 (nI 0) (nI 99) = (true, K) := ⟨_, Prod.ext hq130 rfl⟩
              rw [show yNum H107_0 0 99 = (true, K130) from hK130, yB_t] at hX
              try dsimp only at hX
              have pf130 : prF K130 H107_0 := num_pf hK130
              have hr130 : rdR I130 K130 n := by have := (hs130.1 hq130).1; rw [hK130] at this; exact this
              have hz130 : I130 57 = I 57 := (hs130.1 hq130).2.trans hzc107
              have hu130 : v130 = K130 134 11 := by have := hv130 hq130; rw [hK130] at this; exact this
              have c130 : K130 137 = J 137 := (pf130.1 137 (by decide)).trans c107g0
              have x42n1_130 : K130 147 (8 + dr) = H42_0 134 11 := by rw [pf130.1 147 (by decide)]; exact x42n1_107g0
              have x71n1_130 : K130 148 (8 + dr) = H71_0 134 11 := by rw [pf130.1 148 (by decide)]; exact x71n1_107g0
              have x107n0_130 : K130 149 (8 + dr) = K107 134 11 := by rw [pf130.1 149 (by decide)]; exact x107n0_0
              have hzc130 : I144 57 = I 57 := (e57_144.trans e57_133).trans hz130
              have hrc130 : rdR I144 K130 n := by rw [hI144, hI133]; exact rdR_sX (rdR_sX (hr130) (by omega) _ _) (by omega) _ _
              obtain ⟨H130_0, hH130_0⟩ : ∃ Z, Z = sI K130 150 (8 + dr) (K130 134 11) := ⟨_, rfl⟩
              rw [← hH130_0] at hX
              have hrH130_0 : rdR I144 H130_0 n := by rw [hH130_0]; exact rdR_sJ hrc130 (by decide) _ _
              have c130g0 : H130_0 137 = J 137 := by rw [hH130_0, sI_ne (by decide)]; exact c130
              have x42n1_130g0 : H130_0 147 (8 + dr) = H42_0 134 11 := by rw [hH130_0, sI_ne (by decide)]; exact x42n1_130
              have x71n1_130g0 : H130_0 148 (8 + dr) = H71_0 134 11 := by rw [hH130_0, sI_ne (by decide)]; exact x71n1_130
              have x107n0_130g0 : H130_0 149 (8 + dr) = K107 134 11 := by rw [hH130_0, sI_ne (by decide)]; exact x107n0_130
              have x130n0_0 : H130_0 150 (8 + dr) = K130 134 11 := by rw [hH130_0, sI_rs]
              refine pw_iconst (n := 1) (v := 1) (by decide) (by decide +kernel) ?_
              refine pw_goto (off := 4) (tgt := 159) (by decide +kernel) (by decide +kernel) ?_
              exact pq_zret rfl (by decide) (by decide +kernel) (lnQ_t hX (rdR_sJ4 hrH130_0 (by decide) _) fo144 ⟨hzc130, by rw [show sI H130_0 134 19 (nI (dr + 1)) 147 (8 + dr) = _ from (congrFun (sI_ne (by decide)) _).trans (x42n1_130g0.trans x42n0_0), show sI H130_0 134 19 (nI (dr + 1)) 148 (8 + dr) = _ from (congrFun (sI_ne (by decide)) _).trans (x71n1_130g0.trans x71n0_0), show sI H130_0 134 19 (nI (dr + 1)) 149 (8 + dr) = _ from (congrFun (sI_ne (by decide)) _).trans (x107n0_130g0.trans hu107.symm), show sI H130_0 134 19 (nI (dr + 1)) 150 (8 + dr) = _ from (congrFun (sI_ne (by decide)) _).trans (x130n0_0.trans hu130.symm)]; exact fe144⟩)
        · have hc58 : (sI (yTok H42_1) 134 11 v46) 134 11 = (sI (yTok H42_1) 134 11 v46) 147 (8 + dr) ↔ v46 = v28 := by rw [sI_rs, sI_ne (by decide), (prF_tok H42_1).1 147 (by decide), x42n1_0, x42n0_0]
          rw [if_pos (hc58.mpr z58)] at hX
          refine pw_aload_n (k4 := 0) rfl (by decide +kernel) ?_
          refine pw_iconst (n := 5) (v := 5) (by decide) (by decide +kernel) ?_
          refine pq_callV (ν := m_Sc_refuse) (d' := 0) (av := [_]) (c := 4) (by decide +kernel) lm_Sc_59 ok_Sc_refuse (show _ = some 1 by decide +kernel) (ks_sc hA) rfl (by decide) (by omega) (Nat.le_of_ble_eq_true rfl) (ct_Sc_refuse hA _) ?_
          rintro _ _ ⟨rfl, rfl⟩
          exact pq_zret rfl (Or.inl rfl) (by decide +kernel) (lnQ_r hX (hr46.2.1.trans (by rw [hH42_1, sI_ne (by decide)])) (by decide) fo46)
      · have hq46 : (yPer H42_1 pr).1 = false := by
          cases e : (yPer H42_1 pr).1 with
          | false => rfl
          | true => obtain ⟨-, -, j, hj, ej⟩ := hT46 e; rw [ej] at z51; exact absurd (Int32.not_lt.mp (nI_pos (by omega))) z51
        have hXf46 : X = yPer H42_1 pr := by rw [hX]; exact yB_q hq46
        have ff46 : scF X I46 := by rw [hXf46]; exact ⟨hq46, (hF46 hq46).2.2.1 hq46⟩
        refine pw_iconst (n := 0) (v := 0) (by decide) (by decide +kernel) ?_
        exact pq_zret rfl (by decide) (by decide +kernel) (lnQ_f ff46 fo46)
    · have hq28 : (yPer G24 pr).1 = false := by
        cases e : (yPer G24 pr).1 with
        | false => rfl
        | true => obtain ⟨-, -, j, hj, ej⟩ := hT28 e; rw [ej] at z33; exact absurd (Int32.not_lt.mp (nI_pos (by omega))) z33
      have hXf28 : X = yPer G24 pr := by rw [hX]; exact yB_q hq28
      have ff28 : scF X I28 := by rw [hXf28]; exact ⟨hq28, (hF28 hq28).2.2.1 hq28⟩
      refine pw_iconst (n := 0) (v := 0) (by decide) (by decide +kernel) ?_
      exact pq_zret rfl (by decide) (by decide +kernel) (lnQ_f ff28 fo28)
  · rw [if_pos (by omega)] at hX
    refine pw_aload_n (k4 := 0) rfl (by decide +kernel) ?_
    refine pw_iconst (n := 2) (v := 2) (by decide) (by decide +kernel) ?_
    refine pq_callV (ν := m_Sc_refuse) (d' := 0) (av := [_]) (c := 4) (by decide +kernel) lm_Sc_59 ok_Sc_refuse (show _ = some 1 by decide +kernel) (ks_sc hA) rfl (by decide) (by omega) (Nat.le_of_ble_eq_true rfl) (ct_Sc_refuse hA _) ?_
    rintro _ _ ⟨rfl, rfl⟩
    exact pq_zret rfl (Or.inl rfl) (by decide +kernel) (lnQ_w hX hr (by decide) fo0)

set_option maxHeartbeats 4000000 in
theorem ct_Sc_readClaim {sh : List pSh} {I : Nat → Nat → Int32} {L : Nat → Nat → Int64} {P : Nat → Nat → Option Nat} (hA : kA sh P) (hrb : P 58 3 = some 2) {J : Nat → Nat → Int32} {n : Nat} (hr : rdR I J n) {t : Nat} (ht : t = 3 ∨ t = 30) (hst : P 57 5 = some t) (h0 : I 57 1 = 0) {pr sr dr : Nat} (hn : tOK I t pr sr dr) (hnm : ∀ p, p < pr → I (t + 1) p = J 137 (5 + p)) (hcl : dC I J t) : pCn m_Sc_readClaim 4 [.ref 57] sh (I, L, P) (lnQ (yCL pr J) (tCl I t pr) I L P n t) := by
  refine pCn_of (by decide +kernel) (Nat.le_of_ble_eq_true rfl) ?_
  obtain ⟨X, hX⟩ : ∃ X, X = yCL pr J := ⟨_, rfl⟩
  rw [← hX]
  unfold yCL at hX
  have fe0 : frE I I := frE.rf I
  have fo0 : frO t I I := frO.rf t I
  have hz0 : I 57 = I 57 := rfl
  have hc0 : J 137 = J 137 := rfl
  have h5 := hn.2.1
  refine pw_aload_n (k4 := 0) rfl (by decide +kernel) ?_
  refine pq_getP (c := 4) (k := 4) (ks_sc hA) (by decide) (by decide) (kp_sc_reader hA) lf_Sc_12 (by decide +kernel) ?_
  refine pq_callV (ν := m_Re_advance) (d' := 2) (av := []) (c := 3) (by decide +kernel) lm_Sc_62 ok_Re_advance (show _ = some 0 by decide +kernel) (ks_re hA) rfl (by decide) (by omega) (Nat.le_of_ble_eq_true rfl) (gt_advance hA hrb hr) ?_
  rintro _ _ ⟨rfl, I4, rfl, hr4, hf4⟩
  have pf4 : prF (yTok J) J := prF_tok _
  generalize yTok J = G4 at hX hr4 pf4
  try dsimp only at hX
  have fe4 : frE I4 (I) := fun a h1 h2 => (hf4 a h2).trans (fe0 a h1 h2)
  have fo4 : frO t I I4 := fun a h1 h2 h3 => (hf4 a h2).trans (fo0 a h1 h2 h3)
  have hz4 : I4 57 = I 57 := (hf4 57 (by decide)).trans hz0
  have c4 : G4 137 = J 137 := (pf4.1 137 (by decide)).trans hc0
  refine pw_aload_n (k4 := 0) rfl (by decide +kernel) ?_
  have eT8 : I4 t = I t := by rw [fe4 t (by omega) (by omega)]; (repeat rw [sI_ne (by omega)])
  have eN8 : I4 (t + 1) = I (t + 1) := by rw [fe4 (t + 1) (by omega) (by omega)]; (repeat rw [sI_ne (by omega)])
  have eG8 : G4 137 = J 137 := c4
  refine pq_callV (ν := m_Sc_lookAtPerson) (d' := 1) (av := []) (c := 4) (by decide +kernel) lm_Sc_136 ok_Sc_lookAtPerson (show _ = some 0 by decide +kernel) (ks_sc hA) rfl (by decide) (by omega) (Nat.le_of_ble_eq_true rfl) (ct_Sc_lookAtPerson hA hrb hr4 ht hst (pr := pr) (sr := sr) (dr := dr) (by unfold tOK; rw [eT8]; exact hn) (fun p hp => by rw [eN8, eG8]; exact hnm p hp)) ?_
  rintro _ _ ⟨I8, v8, rfl, rfl, hT8, hF8⟩
  have fr8 : ∀ a, a ≠ 57 → a ≠ 58 → I8 a = I4 a := by
    cases e : (yPer G4 pr).1 with
    | true => intro a _ _; rw [← (hT8 e).1]
    | false => exact (hF8 e).2.2.2
  have fe8 : frE I8 (I) := fun a h1 h2 => (fr8 a h1 h2).trans (fe4 a h1 h2)
  have fo8 : frO t I I8 := fun a h1 h2 h3 => (fr8 a h1 h2).trans (fo4 a h1 h2 h3)
  refine pq_istore_n (k4 := 1) (Nat.le_of_ble_eq_true rfl) rfl (by decide +kernel) ?_
  refine pw_iload_n (k4 := 1) rfl (by decide +kernel) ?_
  refine pw_if_ge (off := 5) (tgt := 18) (by decide +kernel) (by decide +kernel) (fun z13 => ?_) (fun z13 => ?_)
  · have hq8 : (yPer G4 pr).1 = true := by
      cases e : (yPer G4 pr).1 with
      | true => rfl
      | false => rw [(hF8 e).1] at z13; exact absurd z13 (by decide)
    obtain ⟨K8, hK8⟩ : ∃ K, yPer G4 pr = (true, K) := ⟨_, Prod.ext hq8 rfl⟩
    obtain ⟨eI8, eK8, j8, lj8, ej8⟩ := hT8 hq8
    rw [show yPer G4 pr = (true, sI (yTok G4) 134 11 v8) from eK8, yB_t] at hX
    try dsimp only at hX
    have hz8 : I8 57 = I 57 := by rw [← eI8]; exact hz4
    have hr8 : rdR I8 G4 n := by rw [← eI8]; exact hr4
    subst ej8
    rw [show (sI (yTok G4) 134 11 (nI j8)) 134 11 = nI j8 from sI_rs, ixn_nI (by omega)] at hX
    try dsimp only at hX
    have e141 : (sI (yTok G4) 134 11 (nI j8)) 141 (5 + j8) = J 141 (5 + j8) := by rw [sI_ne (by decide), (prF_tok G4).1 141 (by decide), pf4.1 141 (by decide)]
    have eCl : I8 (t + 5) j8 = I (t + 5) j8 := by rw [fe8 (t + 5) (by omega) (by omega)]
    rw [e141] at hX
    refine pw_aload_n (k4 := 0) rfl (by decide +kernel) ?_
    refine pq_getP (c := 4) (k := 5) (ks_sc hA) (by decide) (by decide) hst lf_Sc_18 (by decide +kernel) ?_
    refine pq_getP (c := 7) (k := 5) (ks_t hA ht) (by decide) (by decide) (kp_t_claim hA ht) lf_Sc_155 (by decide +kernel) ?_
    refine pw_iload_n (k4 := 1) rfl (by decide +kernel) ?_
    refine pq_iald j8 rfl (by omega) (by decide) (ks_t_claim hA ht) (by decide +kernel) ?_
    refine pw_if_le (off := 9) (tgt := 36) (by decide +kernel) (by decide +kernel) (fun z27 => ?_) (fun z27 => ?_)
    · rw [eCl] at z27
      rw [if_neg (fun w => by
        rcases hcl j8 (by omega) with ⟨q1, q2⟩ | ⟨c, c1, c2, c3, c4⟩
        · exact w q1
        · rw [c4] at z27; exact absurd ((nI_leI (b := 0) (by omega) (by decide)).mp z27) (by omega))] at hX
      refine pw_aload_n (k4 := 0) rfl (by decide +kernel) ?_
      refine pq_getP (c := 4) (k := 4) (ks_sc hA) (by decide) (by decide) (kp_sc_reader hA) lf_Sc_12 (by decide +kernel) ?_
      refine pq_callV (ν := m_Re_advance) (d' := 2) (av := []) (c := 3) (by decide +kernel) lm_Sc_62 ok_Re_advance (show _ = some 0 by decide +kernel) (ks_re hA) rfl (by decide) (by omega) (Nat.le_of_ble_eq_true rfl) (gt_advance hA hrb hr8) ?_
      rintro _ _ ⟨rfl, I40, rfl, hr40, hf40⟩
      have pf40 : prF (yTok G4) G4 := prF_tok _
      generalize yTok G4 = G40 at hX hr40 pf40
      try dsimp only at hX
      have fe40 : frE I40 (I) := fun a h1 h2 => (hf40 a h2).trans (fe8 a h1 h2)
      have fo40 : frO t I I40 := fun a h1 h2 h3 => (hf40 a h2).trans (fo8 a h1 h2 h3)
      have hz40 : I40 57 = I 57 := (hf40 57 (by decide)).trans hz8
      have c40 : G40 137 = J 137 := (pf40.1 137 (by decide)).trans c4
      obtain ⟨H40_0, hH40_0⟩ : ∃ Z, Z = sI G40 134 (11) (nI j8) := ⟨_, rfl⟩
      rw [← hH40_0] at hX
      have hrH40_0 : rdR I40 H40_0 n := by rw [hH40_0]; exact rdR_sJ4 hr40 (by decide) _
      have c40g0 : H40_0 137 = J 137 := by rw [hH40_0, sI_ne (by decide)]; exact c40
      have x40n0_0 : H40_0 134 11 = nI j8 := by rw [hH40_0, sI_rs]
      refine pw_aload_n (k4 := 0) rfl (by decide +kernel) ?_
      refine pq_getP (c := 4) (k := 5) (ks_sc hA) (by decide) (by decide) hst lf_Sc_18 (by decide +kernel) ?_
      refine pq_getP (c := 7) (k := 5) (ks_t hA ht) (by decide) (by decide) (kp_t_claim hA ht) lf_Sc_155 (by decide +kernel) ?_
      refine pw_iload_n (k4 := 1) rfl (by decide +kernel) ?_
      refine pw_aload_n (k4 := 0) rfl (by decide +kernel) ?_
      refine pw_iconst (n := 1) (v := 1) (by decide) (by decide +kernel) ?_
      refine pw_bipush (n := 9) (v := 9) (by decide) (by decide +kernel) ?_
      refine pq_callV (ν := m_Sc_takeNumber) (d' := 3) (av := [_, _]) (c := 4) (by decide +kernel) lm_Sc_107 ok_Sc_takeNumber (show _ = some 2 by decide +kernel) (ks_sc hA) rfl (by decide) (by omega) (Nat.le_of_ble_eq_true rfl) (gt_takeNumber hA hrb hrH40_0 1 9 (by decide) (by decide)) ?_
      rintro _ _ ⟨I55, v55, rfl, rfl, hs55, hv55, hw55⟩
      have fe55 : frE I55 (I) := fun a h1 h2 => (hs55.2.2 a h1 h2).trans (fe40 a h1 h2)
      have fo55 : frO t I I55 := fun a h1 h2 h3 => (hs55.2.2 a h1 h2).trans (fo40 a h1 h2 h3)
      refine pq_iast j8 rfl (by omega) (by decide) (ks_t_claim hA ht) (by decide +kernel) ?_
      obtain ⟨I58, hI58⟩ : ∃ Z, Z = sI I55 (t + 5) j8 (v55) := ⟨_, rfl⟩
      rw [← hI58]
      have fe58 : frE I58 (sI (I) (t + 5) j8 (v55)) := by rw [hI58]; exact fe55.st
      have fo58 : frO t I I58 := by rw [hI58]; exact fo55.st (by omega)
      have e57_58 : I58 57 = I55 57 := by rw [hI58, sI_ne (by omega)]
      refine pw_aload_n (k4 := 0) rfl (by decide +kernel) ?_
      refine pq_getI (c := 4) (k := 1) (ks_sc hA) (by decide) (by decide) lf_Sc_35 (by decide +kernel) ?_
      refine pw_if_ne (off := 7) (tgt := 70) (by decide +kernel) (by decide +kernel) (fun z63 => ?_) (fun z63 => ?_)
      · have hb55 : (I55 57 1 = 0 ↔ (yNum H40_0 (nI 1) (nI 9)).1 = true) := sbR_in hs55 (by rw [hz40]; exact h0)
        have hq55 : (yNum H40_0 (nI 1) (nI 9)).1 = false := by
          cases e : (yNum H40_0 (nI 1) (nI 9)).1 with
          | false => rfl
          | true => exact absurd (hb55.mpr e) (by rw [← e57_58]; exact z63)
        have hXf55 : X = yNum H40_0 (nI 1) (nI 9) := by rw [hX]; exact yB_q hq55
        have ff55 : scF X I55 := by rw [hXf55]; exact ⟨hq55, hs55.2.1 hq55⟩
        have fc55 : scF X I58 := ff55.cg e57_58
        refine pw_iconst (n := 0) (v := 0) (by decide) (by decide +kernel) ?_
        exact pq_zret rfl (by decide) (by decide +kernel) (lnQ_f fc55 fo58)
      · have hb55 : (I55 57 1 = 0 ↔ (yNum H40_0 (nI 1) (nI 9)).1 = true) := sbR_in hs55 (by rw [hz40]; exact h0)
        have hq55 : (yNum H40_0 (nI 1) (nI 9)).1 = true := hb55.mp (by rw [← e57_58]; exact z63)
        obtain ⟨K55, hK55⟩ : ∃ K, yNum H40_0 (nI 1) (nI 9) = (true, K) := ⟨_, Prod.ext hq55 rfl⟩
        rw [show yNum H40_0 1 9 = (true, K55) from hK55, yB_t] at hX
        try dsimp only at hX
        have pf55 : prF K55 H40_0 := num_pf hK55
        have hr55 : rdR I55 K55 n := by have := (hs55.1 hq55).1; rw [hK55] at this; exact this
        have hz55 : I55 57 = I 57 := (hs55.1 hq55).2.trans hz40
        have hu55 : v55 = K55 134 11 := by have := hv55 hq55; rw [hK55] at this; exact this
        have c55 : K55 137 = J 137 := (pf55.1 137 (by decide)).trans c40g0
        have hzc55 : I58 57 = I 57 := e57_58.trans hz55
        have hrc55 : rdR I58 K55 n := by rw [hI58]; exact rdR_sX (hr55) (by omega) _ _
        obtain ⟨H55_0, hH55_0⟩ : ∃ Z, Z = sI K55 141 (5 + j8) (K55 134 11) := ⟨_, rfl⟩
        rw [← hH55_0] at hX
        have hrH55_0 : rdR I58 H55_0 n := by rw [hH55_0]; exact rdR_sJ hrc55 (by decide) _ _
        have c55g0 : H55_0 137 = J 137 := by rw [hH55_0, sI_ne (by decide)]; exact c55
        have x55n0_0 : H55_0 141 (5 + j8) = K55 134 11 := by rw [hH55_0, sI_rs]
        refine pw_iconst (n := 1) (v := 1) (by decide) (by decide +kernel) ?_
        refine pw_goto (off := 4) (tgt := 71) (by decide +kernel) (by decide +kernel) ?_
        exact pq_zret rfl (by decide) (by decide +kernel) (lnQ_t hX hrH55_0 fo58 ⟨hzc55, j8, by omega, by rw [show H55_0 141 (5 + j8) = _ from x55n0_0.trans hu55.symm]; exact fe58⟩)
    · rw [eCl] at z27
      rw [if_pos (fun w => by
        rcases hcl j8 (by omega) with ⟨q1, q2⟩ | ⟨c, c1, c2, c3, c4⟩
        · rw [q2] at z27; exact absurd (by decide) z27
        · rw [c3] at w; exact absurd w (nI_pos (by omega)))] at hX
      refine pw_aload_n (k4 := 0) rfl (by decide +kernel) ?_
      refine pw_iconst (n := 3) (v := 3) (by decide) (by decide +kernel) ?_
      refine pq_callV (ν := m_Sc_refuse) (d' := 0) (av := [_]) (c := 4) (by decide +kernel) lm_Sc_59 ok_Sc_refuse (show _ = some 1 by decide +kernel) (ks_sc hA) rfl (by decide) (by omega) (Nat.le_of_ble_eq_true rfl) (ct_Sc_refuse hA _) ?_
      rintro _ _ ⟨rfl, rfl⟩
      exact pq_zret rfl (Or.inl rfl) (by decide +kernel) (lnQ_r hX (hr8.2.1) (by decide) fo8)
  · have hq8 : (yPer G4 pr).1 = false := by
      cases e : (yPer G4 pr).1 with
      | false => rfl
      | true => obtain ⟨-, -, j, hj, ej⟩ := hT8 e; rw [ej] at z13; exact absurd (Int32.not_lt.mp (nI_pos (by omega))) z13
    have hXf8 : X = yPer G4 pr := by rw [hX]; exact yB_q hq8
    have ff8 : scF X I8 := by rw [hXf8]; exact ⟨hq8, (hF8 hq8).2.2.1 hq8⟩
    refine pw_iconst (n := 0) (v := 0) (by decide) (by decide +kernel) ?_
    exact pq_zret rfl (by decide) (by decide +kernel) (lnQ_f ff8 fo8)

