/-! ===== the reference: who it was, and what tells most ===== -/
/-- tracks n-1 .. 0 are looked at: a strike that counts takes away what it strikes -/
def wC2 (tr : Nat → Int32) : Nat → (Nat → Int32) → Nat → Int32
  | 0, f => f
  | n + 1, f => wC2 tr n (if ¬ f n = 0 ∧ tr (2 * n) < 0 then upd f (ixn (tr (2 * n + 1))) 0 else f)
def wAl (tr f : Nat → Int32) (pr : Int32 → Int32) : Nat → Bool
  | 0 => true
  | k + 1 => wAl tr f pr k && (decide (f k = 0 ∨ tr (2 * k) < 0) || decide (tr (2 * k + 1) = pr (tr (2 * k))))
theorem wAl_s {tr f : Nat → Int32} {pr : Int32 → Int32} {k : Nat} (h : f k = 0 ∨ tr (2 * k) < 0) : wAl tr f pr (k + 1) = wAl tr f pr k := by
  rw [show wAl tr f pr (k + 1) = (wAl tr f pr k && (decide (f k = 0 ∨ tr (2 * k) < 0) || decide (tr (2 * k + 1) = pr (tr (2 * k))))) from rfl, decide_eq_true h, Bool.true_or, Bool.and_true]
theorem wAl_f {tr f : Nat → Int32} {pr : Int32 → Int32} {k : Nat} (h : wAl tr f pr k = false) : wAl tr f pr (k + 1) = false := by
  rw [show wAl tr f pr (k + 1) = (wAl tr f pr k && (decide (f k = 0 ∨ tr (2 * k) < 0) || decide (tr (2 * k + 1) = pr (tr (2 * k))))) from rfl, h, Bool.false_and]
theorem wAl_e {tr f : Nat → Int32} {pr : Int32 → Int32} {k : Nat} (h0 : wAl tr f pr k = true) (h1 : ¬ f k = 0) (h2 : ¬ tr (2 * k) < 0) {b : Bool} (h : decide (tr (2 * k + 1) = pr (tr (2 * k))) = b) : wAl tr f pr (k + 1) = b := by
  rw [show wAl tr f pr (k + 1) = (wAl tr f pr k && (decide (f k = 0 ∨ tr (2 * k) < 0) || decide (tr (2 * k + 1) = pr (tr (2 * k))))) from rfl, h0, Bool.true_and, decide_eq_false (fun q => q.elim h1 h2), Bool.false_or, h]
def wBi (c : Nat → Bool) : Nat → Nat
  | 0 => 0
  | p + 1 => if c p = true then wBi c p ||| 2 ^ p else wBi c p
/-- the tracks as the reference holds them -/
def tkM (I : Nat → Nat → Int32) (tk : Nat) : Prop := ∀ n, n < tk → (I 178 (2 * n) = -1 ∧ ∃ j, j < n ∧ I 178 (2 * n + 1) = nI j) ∨ ∃ a b, a ≤ 1 ∧ 1 ≤ b ∧ b ≤ 20 ∧ I 178 (2 * n) = nI a ∧ I 178 (2 * n + 1) = nI b
theorem tkM_j {I : Nat → Nat → Int32} {tk n : Nat} (h : tkM I tk) (hn : n < tk) (hs : I 178 (2 * n) < 0) : ∃ j, j < n ∧ I 178 (2 * n + 1) = nI j := by
  rcases h n hn with ⟨_, w⟩ | ⟨a, b, ha, _, _, w, _⟩
  · exact w
  · rw [w] at hs; exact absurd hs (nI_pos (by omega))
def yCts (I : Nat → Nat → Int32) (kn : Nat) : Nat → Int32 := wC2 (I 178) kn (fil (fun _ => 1) (I 179) kn)
def yWho (I : Nat → Nat → Int32) (kn np : Nat) : Nat := wBi (fun p => wAl (I 178) (yCts I kn) (fun a => yPr I a p) kn) np
def rWh (v : Int32) (I : Nat → Nat → Int32) (L : Nat → Nat → Int64) (P : Nat → Nat → Option Nat) : Option Value → pM → Prop := fun r M => r = some (.int v) ∧ ∃ f, M = (aU I 179 f, L, P)
theorem fil_1 (g : Nat → Int32) (k : Nat) : upd (fil (fun _ => 1) g k) k 1 = fil (fun _ => 1) g (k + 1) := by
  funext i
  unfold upd fil
  by_cases h : i = k
  · rw [if_pos h, if_pos (by omega)]
  · rw [if_neg h]
    by_cases h2 : i < k
    · rw [if_pos h2, if_pos (by omega)]
    · rw [if_neg h2, if_neg (by omega)]

set_option maxHeartbeats 4000000 in
theorem ct_Mo_whoBits {sh : List pSh} {I : Nat → Nat → Int32} {L : Nat → Nat → Int64} {P : Nat → Nat → Option Nat} (hA : kA sh P) {np ns nd : Nat} (hm : mOK I np ns nd) (hi : mI I 0 np ns) {kn tk : Nat} (hkn : (if I 134 81 < 0 then I 134 80 else I 134 81) = nI kn) (hkt : kn ≤ tk) (h24 : tk ≤ 24) (htk : tkM I tk) : pCn m_Mo_whoBits 1 [.ref 134] sh (I, L, P) (rWh (nI (yWho I kn np)) I L P) := by
  refine pCn_of (by decide +kernel) (Nat.le_of_ble_eq_true rfl) ?_
  have h5 := hm.2.1
  have h16 := hm.2.2.2.1
  have h80 : ∀ g, yCts I kn = g → ∀ p, p ≤ np → pWn m_Mo_whoBits 1 sh (rWh (nI (yWho I kn np)) I L P) 80 [some (.ref 134), some (.int (nI (wBi (fun p => wAl (I 178) g (fun a => yPr I a p) kn) p))), some (.int (nI p)), none, none] [] (aU I 179 g, L, P) := by
    intro g hg
    refine pUpTo np _ ?_
    intro p hp ihp
    have h93 : p < np → ∀ k, k ≤ kn → pWn m_Mo_whoBits 1 sh (rWh (nI (yWho I kn np)) I L P) 93 [some (.ref 134), some (.int (nI (wBi (fun p => wAl (I 178) g (fun a => yPr I a p) kn) p))), some (.int (nI p)), some (.int (bI (wAl (I 178) g (fun a => yPr I a p) k))), some (.int (nI k))] [] (aU I 179 g, L, P) := fun hpn => pUpTo kn _ (by
      intro k hk ih
      refine pw_iload (i := 4) rfl (by decide +kernel) ?_
      refine pw_aload_n (k4 := 0) rfl (by decide +kernel) ?_
      refine pq_callV (ν := m_Mo_knownBy) (d' := 0) (av := []) (c := 11) (by decide +kernel) lm_Mo_538 ok_Mo_knownBy (show _ = some 0 by decide +kernel) (ks_m hA) rfl (by decide) (by omega) (Nat.le_of_ble_eq_true rfl) (ct_Mo_knownBy hA) ?_
      rintro _ _ ⟨rfl, rfl⟩
      refine pn_val (nI kn) (by exact hkn) ?_
      refine pn_icmp_ge (off := 69) (tgt := 168) k kn rfl rfl (by omega) (by omega) (by decide +kernel) (by decide +kernel) (fun z99 => ?_) (fun z99 => ?_)
      · have hkk : k = kn := by omega
        refine pw_iload_n (k4 := 1) rfl (by decide +kernel) ?_
        refine pw_iload_n (k4 := 3) rfl (by decide +kernel) ?_
        refine pw_if_eq (off := 9) (tgt := 179) (by decide +kernel) (by decide +kernel) (fun z170 => ?_) (fun z170 => ?_)
        · have hw := bI_0 z170
          rw [hkk] at hw
          refine pw_iconst (n := 0) (v := 0) (by decide) (by decide +kernel) ?_
          refine pw_ior (by decide +kernel) ?_
          refine pq_istore_n (k4 := 1) (Nat.le_of_ble_eq_true rfl) rfl (by decide +kernel) ?_
          refine pn_iinc (i := 2) (n := 1) 1 p rfl rfl (by decide) rfl (by decide +kernel) ?_
          refine pw_goto (off := -105) (tgt := 80) (by decide +kernel) (by decide +kernel) ?_
          have w := ihp (by omega)
          rw [show wBi (fun p => wAl (I 178) g (fun a => yPr I a p) kn) (p + 1) = wBi (fun p => wAl (I 178) g (fun a => yPr I a p) kn) p from if_neg (fun q => by have q2 : wAl (I 178) g (fun a => yPr I a p) kn = true := q; rw [hw] at q2; cases q2)] at w
          rw [show nI (wBi (fun p => wAl (I 178) g (fun a => yPr I a p) kn) p) ||| 0 = nI (wBi (fun p => wAl (I 178) g (fun a => yPr I a p) kn) p) from by rw [show (0 : Int32) = nI 0 from rfl, fa_or, Nat.or_zero]]
          exact pw_forget [3, 4] w
        · have hw := bI_1 z170
          rw [hkk] at hw
          refine pw_iconst (n := 1) (v := 1) (by decide) (by decide +kernel) ?_
          refine pw_iload_n (k4 := 2) rfl (by decide +kernel) ?_
          refine pw_ishl (by decide +kernel) ?_
          refine pw_goto (off := 4) (tgt := 180) (by decide +kernel) (by decide +kernel) ?_
          refine pw_ior (by decide +kernel) ?_
          refine pq_istore_n (k4 := 1) (Nat.le_of_ble_eq_true rfl) rfl (by decide +kernel) ?_
          refine pn_iinc (i := 2) (n := 1) 1 p rfl rfl (by decide) rfl (by decide +kernel) ?_
          refine pw_goto (off := -105) (tgt := 80) (by decide +kernel) (by decide +kernel) ?_
          have w := ihp (by omega)
          rw [show wBi (fun p => wAl (I 178) g (fun a => yPr I a p) kn) (p + 1) = wBi (fun p => wAl (I 178) g (fun a => yPr I a p) kn) p ||| 2 ^ p from if_pos hw] at w
          rw [nI_pow (by omega), fa_or]
          exact pw_forget [3, 4] w
      · refine pw_aload_n (k4 := 0) rfl (by decide +kernel) ?_
        refine pq_getP (c := 11) (k := 83) (ks_m hA) (by decide) (by decide) (kp_m_counts hA) lf_Mo_151 (by decide +kernel) ?_
        refine pw_iload (i := 4) rfl (by decide +kernel) ?_
        refine pq_zald k rfl (by omega) (by decide) (ks_m_counts hA) (by decide +kernel) ?_
        refine pw_if_eq (off := 53) (tgt := 162) (by decide +kernel) (by decide +kernel) (fun z109 => ?_) (fun z109 => ?_)
        · refine pn_iinc (i := 4) (n := 1) 1 k rfl rfl (by decide) rfl (by decide +kernel) ?_
          refine pw_goto (off := -72) (tgt := 93) (by decide +kernel) (by decide +kernel) ?_
          have w := ih (by omega)
          rw [wAl_s (tr := I 178) (f := g) (Or.inl z109)] at w
          exact w
        · refine pw_aload_n (k4 := 0) rfl (by decide +kernel) ?_
          refine pq_getP (c := 11) (k := 82) (ks_m hA) (by decide) (by decide) (kp_m_track hA) lf_Mo_148 (by decide +kernel) ?_
          refine pw_iconst (n := 2) (v := 2) (by decide) (by decide +kernel) ?_
          refine pw_iload (i := 4) rfl (by decide +kernel) ?_
          refine pn_imul 2 k rfl rfl (by decide +kernel) ?_
          refine pq_iald (2 * k) rfl (by omega) (by decide) (ks_m_track hA) (by decide +kernel) ?_
          refine pw_if_lt (off := 41) (tgt := 162) (by decide +kernel) (by decide +kernel) (fun z121 => ?_) (fun z121 => ?_)
          · refine pn_iinc (i := 4) (n := 1) 1 k rfl rfl (by decide) rfl (by decide +kernel) ?_
            refine pw_goto (off := -72) (tgt := 93) (by decide +kernel) (by decide +kernel) ?_
            have w := ih (by omega)
            rw [wAl_s (tr := I 178) (f := g) (Or.inr z121)] at w
            exact w
          · replace z121 := Int32.not_lt.mp z121
            refine pw_iload_n (k4 := 3) rfl (by decide +kernel) ?_
            refine pw_if_eq (off := 35) (tgt := 160) (by decide +kernel) (by decide +kernel) (fun z125 => ?_) (fun z125 => ?_)
            · refine pw_iconst (n := 0) (v := 0) (by decide) (by decide +kernel) ?_
              refine pq_istore_n (k4 := 3) (Nat.le_of_ble_eq_true rfl) rfl (by decide +kernel) ?_
              refine pn_iinc (i := 4) (n := 1) 1 k rfl rfl (by decide) rfl (by decide +kernel) ?_
              refine pw_goto (off := -72) (tgt := 93) (by decide +kernel) (by decide +kernel) ?_
              have w := ih (by omega)
              rw [wAl_f (bI_0 z125)] at w
              exact w
            · refine pw_aload_n (k4 := 0) rfl (by decide +kernel) ?_
              refine pw_iload_n (k4 := 2) rfl (by decide +kernel) ?_
              refine pw_aload_n (k4 := 0) rfl (by decide +kernel) ?_
              refine pq_getP (c := 11) (k := 82) (ks_m hA) (by decide) (by decide) (kp_m_track hA) lf_Mo_148 (by decide +kernel) ?_
              refine pw_iconst (n := 2) (v := 2) (by decide) (by decide +kernel) ?_
              refine pw_iload (i := 4) rfl (by decide +kernel) ?_
              refine pn_imul 2 k rfl rfl (by decide +kernel) ?_
              refine pq_iald (2 * k) rfl (by omega) (by decide) (ks_m_track hA) (by decide +kernel) ?_
              refine pw_aload_n (k4 := 0) rfl (by decide +kernel) ?_
              refine pq_getP (c := 11) (k := 82) (ks_m hA) (by decide) (by decide) (kp_m_track hA) lf_Mo_148 (by decide +kernel) ?_
              refine pw_iconst (n := 2) (v := 2) (by decide) (by decide +kernel) ?_
              refine pw_iload (i := 4) rfl (by decide +kernel) ?_
              refine pn_imul 2 k rfl rfl (by decide +kernel) ?_
              refine pw_iconst (n := 1) (v := 1) (by decide) (by decide +kernel) ?_
              refine pn_iadd (2 * k) 1 rfl rfl (by decide +kernel) ?_
              refine pq_iald ((2 * k) + 1) rfl (by omega) (by decide) (ks_m_track hA) (by decide +kernel) ?_
              refine pq_callV (ν := m_Mo_isTrackOf) (d' := 0) (av := [_, _, _]) (c := 11) (by decide +kernel) lm_Mo_541 ok_Mo_isTrackOf (show _ = some 3 by decide +kernel) (ks_m hA) rfl (by decide) (by omega) (Nat.le_of_ble_eq_true rfl) (ct_Mo_isTrackOf hA (by exact hm) (by exact hi) (by omega) _ _) ?_
              rintro _ _ ⟨rfl, rfl⟩
              refine pn_ifB_eq (off := 7) (tgt := 160) (by decide +kernel) (by decide +kernel) (fun z153 => ?_) (fun z153 => ?_)
              · refine pw_iconst (n := 0) (v := 0) (by decide) (by decide +kernel) ?_
                refine pq_istore_n (k4 := 3) (Nat.le_of_ble_eq_true rfl) rfl (by decide +kernel) ?_
                refine pn_iinc (i := 4) (n := 1) 1 k rfl rfl (by decide) rfl (by decide +kernel) ?_
                refine pw_goto (off := -72) (tgt := 93) (by decide +kernel) (by decide +kernel) ?_
                have w := ih (by omega)
                rw [wAl_e (tr := I 178) (f := g) (bI_1 z125) z109 (Int32.not_lt.mpr z121) (b := false) (decide_eq_false z153)] at w
                exact w
              · refine pw_iconst (n := 1) (v := 1) (by decide) (by decide +kernel) ?_
                refine pw_goto (off := 4) (tgt := 161) (by decide +kernel) (by decide +kernel) ?_
                refine pq_istore_n (k4 := 3) (Nat.le_of_ble_eq_true rfl) rfl (by decide +kernel) ?_
                refine pn_iinc (i := 4) (n := 1) 1 k rfl rfl (by decide) rfl (by decide +kernel) ?_
                refine pw_goto (off := -72) (tgt := 93) (by decide +kernel) (by decide +kernel) ?_
                have w := ih (by omega)
                rw [wAl_e (tr := I 178) (f := g) (bI_1 z125) z109 (Int32.not_lt.mpr z121) (b := true) (decide_eq_true z153)] at w
                exact w)
    refine pw_iload_n (k4 := 2) rfl (by decide +kernel) ?_
    refine pw_aload_n (k4 := 0) rfl (by decide +kernel) ?_
    refine pq_getI (c := 11) (k := 12) (ks_m hA) (by decide) (by decide) lf_Mo_259 (by decide +kernel) ?_
    refine pn_val (nI (np)) hm.1 ?_
    refine pn_icmp_ge (off := 103) (tgt := 188) p np rfl rfl (by omega) (by omega) (by decide +kernel) (by decide +kernel) (fun z85 => ?_) (fun z85 => ?_)
    · have hkp : p = np := by omega
      refine pw_iload_n (k4 := 1) rfl (by decide +kernel) ?_
      exact pq_iret rfl (by decide +kernel) ⟨by rw [hkp, ← hg]; rfl, g, rfl⟩
    · refine pw_iconst (n := 1) (v := 1) (by decide) (by decide +kernel) ?_
      refine pq_istore_n (k4 := 3) (Nat.le_of_ble_eq_true rfl) rfl (by decide +kernel) ?_
      refine pw_iconst (n := 0) (v := 0) (by decide) (by decide +kernel) ?_
      refine pq_istore (i := 4) (Nat.le_of_ble_eq_true rfl) rfl (by decide +kernel) ?_
      exact h93 (by omega) 0 (Nat.zero_le _)
  have hD := pDown (fun n => ∀ f : Nat → Int32, n ≤ kn → wC2 (I 178) n f = yCts I kn → pWn m_Mo_whoBits 1 sh (rWh (nI (yWho I kn np)) I L P) 30 [some (.ref 134), some (.int (nI n + (-1))), none, none, none] [] (aU I 179 f, L, P)) (by
    intro n ih f hnk hV
    refine pw_iload_n (k4 := 1) rfl (by decide +kernel) ?_
    refine pw_if_lt (off := 45) (tgt := 76) (by decide +kernel) (by decide +kernel) (fun z31 => ?_) (fun z31 => ?_)
    · have e0 : n = 0 := by rcases n with _ | n; rfl; exact absurd z31 (by rw [n_m1]; exact nI_pos (by omega))
      subst e0
      refine pw_iconst (n := 0) (v := 0) (by decide) (by decide +kernel) ?_
      refine pq_istore_n (k4 := 1) (Nat.le_of_ble_eq_true rfl) rfl (by decide +kernel) ?_
      refine pw_iconst (n := 0) (v := 0) (by decide) (by decide +kernel) ?_
      refine pq_istore_n (k4 := 2) (Nat.le_of_ble_eq_true rfl) rfl (by decide +kernel) ?_
      exact pw_forget [3, 4] (h80 f hV.symm 0 (Nat.zero_le _))
    · obtain ⟨n, rfl⟩ : ∃ k, n = k + 1 := ⟨n - 1, by rcases n with _ | n; exact absurd n_neg z31; rfl⟩
      rw [n_m1]
      replace ih := ih n rfl
      unfold wC2 at hV
      refine pw_aload_n (k4 := 0) rfl (by decide +kernel) ?_
      refine pq_getP (c := 11) (k := 83) (ks_m hA) (by decide) (by decide) (kp_m_counts hA) lf_Mo_151 (by decide +kernel) ?_
      refine pw_iload_n (k4 := 1) rfl (by decide +kernel) ?_
      refine pq_zald n rfl (by omega) (by decide) (ks_m_counts hA) (by decide +kernel) ?_
      refine pw_if_eq (off := 30) (tgt := 70) (by decide +kernel) (by decide +kernel) (fun z40 => ?_) (fun z40 => ?_)
      · rw [if_neg (fun q => q.1 z40)] at hV
        refine pq_iinc (i := 1) (n := -1) (-1) rfl (by decide) rfl (by decide +kernel) ?_
        refine pw_goto (off := -43) (tgt := 30) (by decide +kernel) (by decide +kernel) ?_
        exact ih _ (by omega) hV
      · refine pw_aload_n (k4 := 0) rfl (by decide +kernel) ?_
        refine pq_getP (c := 11) (k := 82) (ks_m hA) (by decide) (by decide) (kp_m_track hA) lf_Mo_148 (by decide +kernel) ?_
        refine pw_iconst (n := 2) (v := 2) (by decide) (by decide +kernel) ?_
        refine pw_iload_n (k4 := 1) rfl (by decide +kernel) ?_
        refine pn_imul 2 n rfl rfl (by decide +kernel) ?_
        refine pq_iald (2 * n) rfl (by omega) (by decide) (ks_m_track hA) (by decide +kernel) ?_
        refine pw_if_ge (off := 19) (tgt := 70) (by decide +kernel) (by decide +kernel) (fun z51 => ?_) (fun z51 => ?_)
        · rw [if_neg (fun q => Int32.not_lt.mpr z51 q.2)] at hV
          refine pq_iinc (i := 1) (n := -1) (-1) rfl (by decide) rfl (by decide +kernel) ?_
          refine pw_goto (off := -43) (tgt := 30) (by decide +kernel) (by decide +kernel) ?_
          exact ih _ (by omega) hV
        · replace z51 := Int32.not_le.mp z51
          rw [if_pos ⟨z40, z51⟩] at hV
          obtain ⟨j, hj, hje⟩ := tkM_j htk (show n < tk by omega) z51
          rw [hje, ixn_nI (by omega)] at hV
          refine pw_aload_n (k4 := 0) rfl (by decide +kernel) ?_
          refine pq_getP (c := 11) (k := 83) (ks_m hA) (by decide) (by decide) (kp_m_counts hA) lf_Mo_151 (by decide +kernel) ?_
          refine pw_aload_n (k4 := 0) rfl (by decide +kernel) ?_
          refine pq_getP (c := 11) (k := 82) (ks_m hA) (by decide) (by decide) (kp_m_track hA) lf_Mo_148 (by decide +kernel) ?_
          refine pw_iconst (n := 2) (v := 2) (by decide) (by decide +kernel) ?_
          refine pw_iload_n (k4 := 1) rfl (by decide +kernel) ?_
          refine pn_imul 2 n rfl rfl (by decide +kernel) ?_
          refine pw_iconst (n := 1) (v := 1) (by decide) (by decide +kernel) ?_
          refine pn_iadd (2 * n) 1 rfl rfl (by decide +kernel) ?_
          refine pq_iald ((2 * n) + 1) rfl (by omega) (by decide) (ks_m_track hA) (by decide +kernel) ?_
          refine pw_iconst (n := 0) (v := 0) (by decide) (by decide +kernel) ?_
          refine pq_zast j hje (by omega) (by decide) (ks_m_counts hA) (by decide +kernel) ?_
          refine pq_iinc (i := 1) (n := -1) (-1) rfl (by decide) rfl (by decide +kernel) ?_
          refine pw_goto (off := -43) (tgt := 30) (by decide +kernel) (by decide +kernel) ?_
          rw [sI_aU2]
          exact ih _ (by omega) hV
)
  have h2 := pUpTo kn (fun k => pWn m_Mo_whoBits 1 sh (rWh (nI (yWho I kn np)) I L P) 2 [some (.ref 134), some (.int (nI k)), none, none, none] [] (aU I 179 (fil (fun _ => 1) (I 179) k), L, P)) (by
    intro k hk ih
    refine pw_iload_n (k4 := 1) rfl (by decide +kernel) ?_
    refine pw_aload_n (k4 := 0) rfl (by decide +kernel) ?_
    refine pq_callV (ν := m_Mo_knownBy) (d' := 0) (av := []) (c := 11) (by decide +kernel) lm_Mo_538 ok_Mo_knownBy (show _ = some 0 by decide +kernel) (ks_m hA) rfl (by decide) (by omega) (Nat.le_of_ble_eq_true rfl) (ct_Mo_knownBy hA) ?_
    rintro _ _ ⟨rfl, rfl⟩
    refine pn_val (nI kn) (by exact hkn) ?_
    refine pn_icmp_ge (off := 16) (tgt := 23) k kn rfl rfl (by omega) (by omega) (by decide +kernel) (by decide +kernel) (fun z7 => ?_) (fun z7 => ?_)
    · refine pw_aload_n (k4 := 0) rfl (by decide +kernel) ?_
      refine pq_callV (ν := m_Mo_knownBy) (d' := 0) (av := []) (c := 11) (by decide +kernel) lm_Mo_538 ok_Mo_knownBy (show _ = some 0 by decide +kernel) (ks_m hA) rfl (by decide) (by omega) (Nat.le_of_ble_eq_true rfl) (ct_Mo_knownBy hA) ?_
      rintro _ _ ⟨rfl, rfl⟩
      refine pn_val (nI kn) (by exact hkn) ?_
      refine pw_iconst (n := 1) (v := 1) (by decide) (by decide +kernel) ?_
      refine pw_isub (by decide +kernel) ?_
      refine pq_istore_n (k4 := 1) (Nat.le_of_ble_eq_true rfl) rfl (by decide +kernel) ?_
      rw [i_sub1 (nI kn), show k = kn by omega]
      exact hD kn _ (Nat.le_refl _) rfl
    · refine pw_aload_n (k4 := 0) rfl (by decide +kernel) ?_
      refine pq_getP (c := 11) (k := 83) (ks_m hA) (by decide) (by decide) (kp_m_counts hA) lf_Mo_151 (by decide +kernel) ?_
      refine pw_iload_n (k4 := 1) rfl (by decide +kernel) ?_
      refine pw_iconst (n := 1) (v := 1) (by decide) (by decide +kernel) ?_
      refine pq_zast k rfl (by omega) (by decide) (ks_m_counts hA) (by decide +kernel) ?_
      refine pn_iinc (i := 1) (n := 1) 1 k rfl rfl (by decide) rfl (by decide +kernel) ?_
      refine pw_goto (off := -18) (tgt := 2) (by decide +kernel) (by decide +kernel) ?_
      rw [sI_aU2, show (1 : Int32) &&& 1 = 1 from rfl, fil_1]
      exact ih (by omega)
)
  refine pw_iconst (n := 0) (v := 0) (by decide) (by decide +kernel) ?_
  refine pq_istore_n (k4 := 1) (Nat.le_of_ble_eq_true rfl) rfl (by decide +kernel) ?_
  have w := h2 0 (Nat.zero_le _)
  rw [show fil (fun _ => 1) (I 179) 0 = I 179 from rfl, aU_self] at w
  exact w

theorem yPr_t (I : Nat → Nat → Int32) (x : Int32) : yPr (sI I 134 2 x) = yPr I := rfl
theorem yWho_t (I : Nat → Nat → Int32) (x : Int32) (kn np : Nat) : yWho (sI I 134 2 x) kn np = yWho I kn np := rfl
theorem rep_wh {I : Nat → Nat → Int32} {x : Int32} {g : Nat → Int32} : rep (aU (sI I 134 2 x) 179 g) I := rep_scrA rep_t (by decide) g

theorem ct_Mo_who {sh : List pSh} {I : Nat → Nat → Int32} {L : Nat → Nat → Int64} {P : Nat → Nat → Option Nat} (hA : kA sh P) {np ns nd : Nat} (hm : mOK I np ns nd) (hi : mI I 0 np ns) {kn tk : Nat} (hkn : (if I 134 81 < 0 then I 134 80 else I 134 81) = nI kn) (hkt : kn ≤ tk) (h24 : tk ≤ 24) (htk : tkM I tk) : pCn m_Mo_who 2 [.ref 134] sh (I, L, P) (rA (nI (yWho I kn np)) I P) := by
  refine pCn_of (by decide +kernel) (Nat.le_of_ble_eq_true rfl) ?_
  refine pw_aload_n (k4 := 0) rfl (by decide +kernel) ?_
  refine pw_iconst (n := 0) (v := 0) (by decide) (by decide +kernel) ?_
  refine pq_putI (c := 11) (k := 2) (ks_m hA) (by decide) (by decide) lf_Mo_175 (Or.inl rfl) (by decide +kernel) ?_
  refine pw_aload_n (k4 := 0) rfl (by decide +kernel) ?_
  refine pq_callV (ν := m_Mo_whoBits) (d' := 1) (av := []) (c := 11) (by decide +kernel) lm_Mo_544 ok_Mo_whoBits (show _ = some 0 by decide +kernel) (ks_m hA) rfl (by decide) (by omega) (Nat.le_of_ble_eq_true rfl) (ct_Mo_whoBits hA (by exact hm) (by exact hi) (by exact hkn) hkt h24 (by exact htk)) ?_
  rintro _ _ ⟨rfl, g, rfl⟩
  exact pq_iret rfl (by decide +kernel) ⟨rfl, _, _, rfl, rep_wh⟩

/-- how many would be left by print k (side k / 20, size 1 + k % 20) -/
def tlC (I : Nat → Nat → Int32) (wb : Int32) (np k : Nat) : Nat := fb_ct (fun p => decide (xBit wb p ∧ nI (1 + k % 20) = yPr I (nI (k / 20)) p)) np
def tlS (c : Nat → Nat) : Nat → Int32 × Int32
  | 0 => (-2, 99)
  | k + 1 => if c k = 0 ∨ ¬ nI (c k) < (tlS c k).2 then tlS c k else (nI k, nI (c k))
def yTl (I : Nat → Nat → Int32) (kn np : Nat) : Int32 × Int32 := tlS (tlC I (nI (yWho I kn np)) np) 40
def yTellQ (I : Nat → Nat → Int32) (kn np : Nat) (q : Int32) : Int32 := if ¬ (0 ≤ q ∧ q ≤ 2) then -1 else if (yTl I kn np).1 < 0 then -2 else if q = 0 then (yTl I kn np).1 / 20 else if q = 1 then 1 + ((yTl I kn np).1 - (yTl I kn np).1 / 20 * 20) else (yTl I kn np).2

set_option maxHeartbeats 4000000 in
theorem ct_Mo_tells {sh : List pSh} {I : Nat → Nat → Int32} {L : Nat → Nat → Int64} {P : Nat → Nat → Option Nat} (hA : kA sh P) {np ns nd : Nat} (hm : mOK I np ns nd) (hi : mI I 0 np ns) {kn tk : Nat} (hkn : (if I 134 81 < 0 then I 134 80 else I 134 81) = nI kn) (hkt : kn ≤ tk) (h24 : tk ≤ 24) (htk : tkM I tk) (q : Int32) : pCn m_Mo_tells 2 [.ref 134, .int q] sh (I, L, P) (rA (yTellQ I kn np q) I P) := by
  refine pCn_of (by decide +kernel) (Nat.le_of_ble_eq_true rfl) ?_
  have h5 := hm.2.1
  have h31 : (0 ≤ q ∧ q ≤ 2) → ∀ g : Nat → Int32, ∀ k, k ≤ 40 → pWn m_Mo_tells 2 sh (rA (yTellQ I kn np q) I P) 31 [some (.ref 134), some (.int q), some (.int (nI (yWho I kn np))), some (.int (tlS (tlC I (nI (yWho I kn np)) np) k).1), some (.int (tlS (tlC I (nI (yWho I kn np)) np) k).2), some (.int (nI k)), none, none] [] (aU (sI I 134 2 0) 179 g, L, P) := fun z11 g => pUpTo 40 _ (by
    intro k hk ihk
    have h44 : k < 40 → ∀ p, p ≤ np → pWn m_Mo_tells 2 sh (rA (yTellQ I kn np q) I P) 44 [some (.ref 134), some (.int q), some (.int (nI (yWho I kn np))), some (.int (tlS (tlC I (nI (yWho I kn np)) np) k).1), some (.int (tlS (tlC I (nI (yWho I kn np)) np) k).2), some (.int (nI k)), some (.int (nI (fb_ct (fun p => decide (xBit (nI (yWho I kn np)) p ∧ nI (1 + k % 20) = yPr I (nI (k / 20)) p)) p))), some (.int (nI p))] [] (aU (sI I 134 2 0) 179 g, L, P) := fun hk4 => pUpTo np _ (by
      intro p hp ih
      have hcl := fb_ct_le (fun p => decide (xBit (nI (yWho I kn np)) p ∧ nI (1 + k % 20) = yPr I (nI (k / 20)) p)) p
      refine pw_iload (i := 7) rfl (by decide +kernel) ?_
      refine pw_aload_n (k4 := 0) rfl (by decide +kernel) ?_
      refine pq_getI (c := 11) (k := 12) (ks_m hA) (by decide) (by decide) lf_Mo_259 (by decide +kernel) ?_
      refine pn_val (nI (np)) hm.1 ?_
      refine pn_icmp_ge (off := 49) (tgt := 99) p np rfl rfl (by omega) (by omega) (by decide +kernel) (by decide +kernel) (fun z50 => ?_) (fun z50 => ?_)
      · have hpn : p = np := by omega
        refine pw_iload (i := 6) rfl (by decide +kernel) ?_
        refine pn_if_eq (off := 20) (tgt := 121) (fb_ct (fun p => decide (xBit (nI (yWho I kn np)) p ∧ nI (1 + k % 20) = yPr I (nI (k / 20)) p)) p) rfl (by omega) (by decide +kernel) (by decide +kernel) (fun z101 => ?_) (fun z101 => ?_)
        · refine pn_iinc (i := 5) (n := 1) 1 k rfl rfl (by decide) rfl (by decide +kernel) ?_
          refine pw_goto (off := -93) (tgt := 31) (by decide +kernel) (by decide +kernel) ?_
          rw [hpn] at *
          have w := ihk (by omega)
          rw [show tlS (tlC I (nI (yWho I kn np)) np) (k + 1) = _ from if_pos (Or.inl z101)] at w
          exact pw_forget [6, 7] w
        · refine pw_iload (i := 6) rfl (by decide +kernel) ?_
          refine pw_iload (i := 4) rfl (by decide +kernel) ?_
          refine pw_icmp_lt (off := 6) (tgt := 114) (by decide +kernel) (by decide +kernel) (fun z108 => ?_) (fun z108 => ?_)
          · refine pw_iload (i := 5) rfl (by decide +kernel) ?_
            refine pq_istore_n (k4 := 3) (Nat.le_of_ble_eq_true rfl) rfl (by decide +kernel) ?_
            refine pw_iload (i := 6) rfl (by decide +kernel) ?_
            refine pq_istore (i := 4) (Nat.le_of_ble_eq_true rfl) rfl (by decide +kernel) ?_
            refine pn_iinc (i := 5) (n := 1) 1 k rfl rfl (by decide) rfl (by decide +kernel) ?_
            refine pw_goto (off := -93) (tgt := 31) (by decide +kernel) (by decide +kernel) ?_
            rw [hpn] at *
            have w := ihk (by omega)
            rw [show tlS (tlC I (nI (yWho I kn np)) np) (k + 1) = _ from if_neg (fun q => q.elim z101 (fun q => q z108))] at w
            exact pw_forget [6, 7] w
          · refine pw_goto (off := 10) (tgt := 121) (by decide +kernel) (by decide +kernel) ?_
            refine pn_iinc (i := 5) (n := 1) 1 k rfl rfl (by decide) rfl (by decide +kernel) ?_
            refine pw_goto (off := -93) (tgt := 31) (by decide +kernel) (by decide +kernel) ?_
            rw [hpn] at *
            have w := ihk (by omega)
            rw [show tlS (tlC I (nI (yWho I kn np)) np) (k + 1) = _ from if_pos (Or.inr z108)] at w
            exact pw_forget [6, 7] w
      · refine pw_iload (i := 6) rfl (by decide +kernel) ?_
        refine pw_iload_n (k4 := 2) rfl (by decide +kernel) ?_
        refine pw_iload (i := 7) rfl (by decide +kernel) ?_
        refine pq_callS (ν := m_Mo_isOf) (d' := 0) (av := [_, _]) (by decide +kernel) lm_Mo_457 ok_Mo_isOf (show _ = some 2 by decide +kernel) (by omega) (Nat.le_of_ble_eq_true rfl) (ct_Mo_isOf _ _) ?_
        rintro _ _ ⟨rfl, rfl⟩
        refine pn_ifB_eq (off := 28) (tgt := 89) (by decide +kernel) (by decide +kernel) (fun z61 => ?_) (fun z61 => ?_)
        · refine pw_iconst (n := 0) (v := 0) (by decide) (by decide +kernel) ?_
          refine pw_iadd (by decide +kernel) ?_
          refine pq_istore (i := 6) (Nat.le_of_ble_eq_true rfl) rfl (by decide +kernel) ?_
          refine pn_iinc (i := 7) (n := 1) 1 p rfl rfl (by decide) rfl (by decide +kernel) ?_
          refine pw_goto (off := -52) (tgt := 44) (by decide +kernel) (by decide +kernel) ?_
          have w := ih (by omega)
          rw [ct_n (fun w => absurd (of_decide_eq_true w) (fun q => z61 q.1))] at w
          rw [show nI (fb_ct (fun p => decide (xBit (nI (yWho I kn np)) p ∧ nI (1 + k % 20) = yPr I (nI (k / 20)) p)) p) + 0 = nI (fb_ct (fun p => decide (xBit (nI (yWho I kn np)) p ∧ nI (1 + k % 20) = yPr I (nI (k / 20)) p)) p) from Int32.add_zero _]
          exact w
        · refine pw_aload_n (k4 := 0) rfl (by decide +kernel) ?_
          refine pw_iload (i := 7) rfl (by decide +kernel) ?_
          refine pw_iload (i := 5) rfl (by decide +kernel) ?_
          refine pw_bipush (n := 20) (v := 20) (by decide) (by decide +kernel) ?_
          refine pn_idiv k 20 rfl rfl (by omega) (by omega) (by omega) (by decide +kernel) ?_
          refine pw_iconst (n := 1) (v := 1) (by decide) (by decide +kernel) ?_
          refine pw_iload (i := 5) rfl (by decide +kernel) ?_
          refine pw_bipush (n := 20) (v := 20) (by decide) (by decide +kernel) ?_
          refine pn_irem k 20 rfl rfl (by omega) (by omega) (by omega) (by decide +kernel) ?_
          refine pn_iadd 1 (k % 20) rfl rfl (by decide +kernel) ?_
          refine pq_callV (ν := m_Mo_isTrackOf) (d' := 0) (av := [_, _, _]) (c := 11) (by decide +kernel) lm_Mo_541 ok_Mo_isTrackOf (show _ = some 3 by decide +kernel) (ks_m hA) rfl (by decide) (by omega) (Nat.le_of_ble_eq_true rfl) (ct_Mo_isTrackOf hA (by exact hm) (by exact hi) (by omega) _ _) ?_
          rintro _ _ ⟨rfl, rfl⟩
          refine pn_ifB_eq (off := 7) (tgt := 89) (by decide +kernel) (by decide +kernel) (fun z82 => ?_) (fun z82 => ?_)
          · refine pw_iconst (n := 0) (v := 0) (by decide) (by decide +kernel) ?_
            refine pw_iadd (by decide +kernel) ?_
            refine pq_istore (i := 6) (Nat.le_of_ble_eq_true rfl) rfl (by decide +kernel) ?_
            refine pn_iinc (i := 7) (n := 1) 1 p rfl rfl (by decide) rfl (by decide +kernel) ?_
            refine pw_goto (off := -52) (tgt := 44) (by decide +kernel) (by decide +kernel) ?_
            have w := ih (by omega)
            rw [ct_n (fun w => absurd (of_decide_eq_true w) (fun q => z82 q.2))] at w
            rw [show nI (fb_ct (fun p => decide (xBit (nI (yWho I kn np)) p ∧ nI (1 + k % 20) = yPr I (nI (k / 20)) p)) p) + 0 = nI (fb_ct (fun p => decide (xBit (nI (yWho I kn np)) p ∧ nI (1 + k % 20) = yPr I (nI (k / 20)) p)) p) from Int32.add_zero _]
            exact w
          · refine pw_iconst (n := 1) (v := 1) (by decide) (by decide +kernel) ?_
            refine pw_goto (off := 4) (tgt := 90) (by decide +kernel) (by decide +kernel) ?_
            refine pw_iadd (by decide +kernel) ?_
            refine pq_istore (i := 6) (Nat.le_of_ble_eq_true rfl) rfl (by decide +kernel) ?_
            refine pn_iinc (i := 7) (n := 1) 1 p rfl rfl (by decide) rfl (by decide +kernel) ?_
            refine pw_goto (off := -52) (tgt := 44) (by decide +kernel) (by decide +kernel) ?_
            have w := ih (by omega)
            rw [ct_y (decide_eq_true ⟨z61, z82⟩)] at w
            rw [show nI (fb_ct (fun p => decide (xBit (nI (yWho I kn np)) p ∧ nI (1 + k % 20) = yPr I (nI (k / 20)) p)) p) + 1 = nI (fb_ct (fun p => decide (xBit (nI (yWho I kn np)) p ∧ nI (1 + k % 20) = yPr I (nI (k / 20)) p)) p + 1) from nI_1 _]
            exact w
)
    refine pw_iload (i := 5) rfl (by decide +kernel) ?_
    refine pw_bipush (n := 40) (v := 40) (by decide) (by decide +kernel) ?_
    refine pn_icmp_ge (off := 92) (tgt := 127) k 40 rfl rfl (by omega) (by omega) (by decide +kernel) (by decide +kernel) (fun z35 => ?_) (fun z35 => ?_)
    · have hk40 : k = 40 := by omega
      subst hk40
      refine pw_iload_n (k4 := 3) rfl (by decide +kernel) ?_
      refine pw_if_ge (off := 6) (tgt := 134) (by decide +kernel) (by decide +kernel) (fun z128 => ?_) (fun z128 => ?_)
      · refine pw_iload_n (k4 := 1) rfl (by decide +kernel) ?_
        refine pw_if_ne (off := 10) (tgt := 145) (by decide +kernel) (by decide +kernel) (fun z135 => ?_) (fun z135 => ?_)
        · refine pw_iload_n (k4 := 1) rfl (by decide +kernel) ?_
          refine pw_iconst (n := 1) (v := 1) (by decide) (by decide +kernel) ?_
          refine pw_icmp_ne (off := 12) (tgt := 159) (by decide +kernel) (by decide +kernel) (fun z147 => ?_) (fun z147 => ?_)
          · refine pw_iload (i := 4) rfl (by decide +kernel) ?_
            exact pq_iret rfl (by decide +kernel) ⟨congrArg (fun z => some (Value.int z)) (by unfold yTellQ yTl; rw [if_neg (fun h => h z11), if_neg (Int32.not_lt.mpr z128), if_neg z135, if_neg z147]), _, _, rfl, rep_wh⟩
          · refine pw_iconst (n := 1) (v := 1) (by decide) (by decide +kernel) ?_
            refine pw_iload_n (k4 := 3) rfl (by decide +kernel) ?_
            refine pw_bipush (n := 20) (v := 20) (by decide) (by decide +kernel) ?_
            refine pw_irem (by decide) (by decide +kernel) ?_
            refine pw_iadd (by decide +kernel) ?_
            refine pw_goto (off := 5) (tgt := 161) (by decide +kernel) (by decide +kernel) ?_
            exact pq_iret rfl (by decide +kernel) ⟨congrArg (fun z => some (Value.int z)) (by unfold yTellQ yTl; rw [if_neg (fun h => h z11), if_neg (Int32.not_lt.mpr z128), if_neg z135, if_pos z147]), _, _, rfl, rep_wh⟩
        · refine pw_iload_n (k4 := 3) rfl (by decide +kernel) ?_
          refine pw_bipush (n := 20) (v := 20) (by decide) (by decide +kernel) ?_
          refine pw_idiv (by decide) (by decide +kernel) ?_
          refine pw_goto (off := 19) (tgt := 161) (by decide +kernel) (by decide +kernel) ?_
          exact pq_iret rfl (by decide +kernel) ⟨congrArg (fun z => some (Value.int z)) (by unfold yTellQ yTl; rw [if_neg (fun h => h z11), if_neg (Int32.not_lt.mpr z128), if_pos z135]), _, _, rfl, rep_wh⟩
      · refine pw_bipush (n := -2) (v := -2) (by decide) (by decide +kernel) ?_
        exact pq_iret rfl (by decide +kernel) ⟨congrArg (fun z => some (Value.int z)) (by unfold yTellQ yTl; rw [if_neg (fun h => h z11), if_pos (Int32.not_le.mp z128)]), _, _, rfl, rep_wh⟩
    · refine pw_iconst (n := 0) (v := 0) (by decide) (by decide +kernel) ?_
      refine pq_istore (i := 6) (Nat.le_of_ble_eq_true rfl) rfl (by decide +kernel) ?_
      refine pw_iconst (n := 0) (v := 0) (by decide) (by decide +kernel) ?_
      refine pq_istore (i := 7) (Nat.le_of_ble_eq_true rfl) rfl (by decide +kernel) ?_
      exact h44 (by omega) 0 (Nat.zero_le _)
)
  refine pw_aload_n (k4 := 0) rfl (by decide +kernel) ?_
  refine pw_iconst (n := 0) (v := 0) (by decide) (by decide +kernel) ?_
  refine pq_putI (c := 11) (k := 2) (ks_m hA) (by decide) (by decide) lf_Mo_175 (Or.inl rfl) (by decide +kernel) ?_
  refine pw_iload_n (k4 := 1) rfl (by decide +kernel) ?_
  refine pw_iconst (n := 0) (v := 0) (by decide) (by decide +kernel) ?_
  refine pw_iconst (n := 2) (v := 2) (by decide) (by decide +kernel) ?_
  refine pq_callS (ν := m_Mo_isIn) (d' := 0) (av := [_, _, _]) (by decide +kernel) lm_Mo_220 ok_Mo_isIn (show _ = some 3 by decide +kernel) (by omega) (Nat.le_of_ble_eq_true rfl) (ct_Mo_isIn _ _ _) ?_
  rintro _ _ ⟨rfl, rfl⟩
  refine pn_ifB_ne (off := 5) (tgt := 16) (by decide +kernel) (by decide +kernel) (fun z11 => ?_) (fun z11 => ?_)
  · refine pw_aload_n (k4 := 0) rfl (by decide +kernel) ?_
    refine pq_callV (ν := m_Mo_whoBits) (d' := 1) (av := []) (c := 11) (by decide +kernel) lm_Mo_544 ok_Mo_whoBits (show _ = some 0 by decide +kernel) (ks_m hA) rfl (by decide) (by omega) (Nat.le_of_ble_eq_true rfl) (ct_Mo_whoBits hA (by exact hm) (by exact hi) (by exact hkn) hkt h24 (by exact htk)) ?_
    rintro _ _ ⟨rfl, g, rfl⟩
    refine pn_val (nI (yWho I kn np)) rfl ?_
    refine pq_istore_n (k4 := 2) (Nat.le_of_ble_eq_true rfl) rfl (by decide +kernel) ?_
    refine pw_bipush (n := -2) (v := -2) (by decide) (by decide +kernel) ?_
    refine pq_istore_n (k4 := 3) (Nat.le_of_ble_eq_true rfl) rfl (by decide +kernel) ?_
    refine pw_bipush (n := 99) (v := 99) (by decide) (by decide +kernel) ?_
    refine pq_istore (i := 4) (Nat.le_of_ble_eq_true rfl) rfl (by decide +kernel) ?_
    refine pw_iconst (n := 0) (v := 0) (by decide) (by decide +kernel) ?_
    refine pq_istore (i := 5) (Nat.le_of_ble_eq_true rfl) rfl (by decide +kernel) ?_
    exact h31 z11 g 0 (Nat.zero_le _)
  · refine pw_iconst (n := -1) (v := -1) (by decide) (by decide +kernel) ?_
    exact pq_iret rfl (by decide +kernel) ⟨congrArg (fun z => some (Value.int z)) (by unfold yTellQ; rw [if_pos z11]), _, _, rfl, rep_t⟩
