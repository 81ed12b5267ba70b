/-! ===== the reference: rings of gain ===== -/
/-- the first rate from a to b among k .. k + c -/
def rtF (r : Nat → Int32) (a b : Int32) : Nat → Nat → Int32
  | 0, _ => -1
  | c + 1, k => if r (4 * k) = a ∧ r (4 * k + 2) = b then nI k else rtF r a b c (k + 1)
theorem rtF_is (r : Nat → Int32) (a b : Int32) : ∀ c k, (rtF r a b c k = -1 ∧ ∀ j, k ≤ j → j < k + c → ¬ (r (4 * j) = a ∧ r (4 * j + 2) = b)) ∨ ∃ j, k ≤ j ∧ j < k + c ∧ rtF r a b c k = nI j ∧ r (4 * j) = a ∧ r (4 * j + 2) = b
  | 0, k => Or.inl ⟨rfl, fun j h1 h2 => absurd h2 (by omega)⟩
  | c + 1, k => by
    unfold rtF
    by_cases h : r (4 * k) = a ∧ r (4 * k + 2) = b
    · rw [if_pos h]
      exact Or.inr ⟨k, Nat.le_refl _, by omega, rfl, h.1, h.2⟩
    · rw [if_neg h]
      rcases rtF_is r a b c (k + 1) with ⟨h1, h2⟩ | ⟨j, h1, h2, h3, h4⟩
      · refine Or.inl ⟨h1, fun j q1 q2 => ?_⟩
        by_cases e : j = k
        · subst e; exact h
        · exact h2 j (by omega) (by omega)
      · exact Or.inr ⟨j, by omega, by omega, h3, h4⟩
theorem rtF_j {r : Nat → Int32} {a b : Int32} {c : Nat} (h : ¬ rtF r a b c 0 < 0) : ∃ j, j < c ∧ rtF r a b c 0 = nI j := by
  rcases rtF_is r a b c 0 with ⟨h1, _⟩ | ⟨j, _, h2, h3, _⟩
  · rw [h1] at h; exact absurd (by decide) h
  · exact ⟨j, by omega, h3⟩
abbrev rgG (r f : Nat → Int32) (nr n i : Nat) : Prop := (∀ k, k < i → ¬ f k = f i) ∧ (0 < i → ¬ f i < f 0) ∧ ¬ rtF r (f i) (f ((i + 1) % n)) nr 0 < 0
def rgP (r f : Nat → Int32) (nr n : Nat) : Nat → Option (Int64 × Int64)
  | 0 => some (1, 1)
  | i + 1 => (rgP r f nr n i).bind (fun q => if rgG r f nr n i then some (q.1 * (r (4 * ixn (rtF r (f i) (f ((i + 1) % n)) nr 0) + 3)).toInt64, q.2 * (r (4 * ixn (rtF r (f i) (f ((i + 1) % n)) nr 0) + 1)).toInt64) else none)
def rgB (r f : Nat → Int32) (nr n : Nat) : Bool := match rgP r f nr n n with
  | none => false
  | some q => decide (q.2 < q.1)
theorem rgP_s {r f : Nat → Int32} {nr n i j : Nat} {u l : Int64} (hq : rgP r f nr n i = some (u, l)) (hg : rgG r f nr n i) (hje : rtF r (f i) (f ((i + 1) % n)) nr 0 = nI j) (hj : j < 2 ^ 31) : rgP r f nr n (i + 1) = some (u * (r (4 * j + 3)).toInt64, l * (r (4 * j + 1)).toInt64) := by
  show (rgP r f nr n i).bind _ = _
  rw [hq]
  show (if _ then _ else _) = _
  rw [if_pos hg, hje, ixn_nI hj]
theorem rgP_no {r f : Nat → Int32} {nr n i : Nat} (h : rgP r f nr n i = none) : ∀ d, rgP r f nr n (i + d) = none
  | 0 => h
  | d + 1 => by
    show (rgP r f nr n (i + d)).bind _ = none
    rw [rgP_no h d]
    rfl
theorem rgB_no {r f : Nat → Int32} {nr n i : Nat} {q : Int64 × Int64} (hi : i < n) (h : rgP r f nr n i = some q) (hg : ¬ rgG r f nr n i) : rgB r f nr n = false := by
  have h1 : rgP r f nr n (i + 1) = none := by
    show (rgP r f nr n i).bind _ = none
    rw [h]
    exact if_neg hg
  have h2 := rgP_no h1 (n - (i + 1))
  rw [show i + 1 + (n - (i + 1)) = n by omega] at h2
  unfold rgB
  rw [h2]
theorem rgP_cg {r f g : Nat → Int32} {nr n : Nat} (h : ∀ i, i < n → f i = g i) : ∀ i, i ≤ n → rgP r f nr n i = rgP r g nr n i
  | 0, _ => rfl
  | i + 1, hi => by
    have h0 := h 0 (by omega)
    have h1 := h i (by omega)
    have h2 := h ((i + 1) % n) (Nat.mod_lt _ (by omega))
    have h3 : (∀ k, k < i → ¬ f k = f i) ↔ ∀ k, k < i → ¬ g k = g i := ⟨fun w k hk => by rw [← h k (by omega), ← h1]; exact w k hk, fun w k hk => by rw [h k (by omega), h1]; exact w k hk⟩
    show (rgP r f nr n i).bind _ = (rgP r g nr n i).bind _
    rw [rgP_cg h i (by omega)]
    congr 1
    funext q
    unfold rgG
    simp only [h0, h1, h2]
    have h3' : (∀ k, k < i → ¬ f k = g i) ↔ ∀ k, k < i → ¬ g k = g i := by rw [← h1]; rw [← h1] at h3; exact h3
    by_cases hc : (∀ k, k < i → ¬ g k = g i) ∧ (0 < i → ¬ g i < g 0) ∧ ¬ rtF r (g i) (g ((i + 1) % n)) nr 0 < 0
    · rw [if_pos hc, if_pos ⟨h3'.mpr hc.1, hc.2⟩]
    · rw [if_neg hc, if_neg (fun w => hc ⟨h3'.mp w.1, w.2⟩)]
theorem rgB_cg {r f g : Nat → Int32} {nr n : Nat} (h : ∀ i, i < n → f i = g i) : rgB r f nr n = rgB r g nr n := by
  unfold rgB
  rw [rgP_cg h n (Nat.le_refl _)]
/-- the goods of a code, the first one highest -/
def dig (n c i : Nat) : Nat := c / 6 ^ (n - (i + 1)) % 6
def isRg (I : Nat → Nat → Int32) (nr n c : Nat) : Prop := rgB (I 151) (fun i => nI (dig n c i)) nr n = true
def rgNo (I : Nat → Nat → Int32) (nr : Nat) : Prop := nr ≤ 1 ∨ ∀ n, 2 ≤ n → n ≤ 6 → ∀ c, c < 6 ^ n → ¬ isRg I nr n c
def rgIs (I : Nat → Nat → Int32) (nr n c : Nat) : Prop := 1 < nr ∧ 2 ≤ n ∧ n ≤ 6 ∧ c < 6 ^ n ∧ isRg I nr n c ∧ (∀ c', c' < c → ¬ isRg I nr n c') ∧ ∀ n', 2 ≤ n' → n' < n → ∀ c', c' < 6 ^ n' → ¬ isRg I nr n' c'
def rgV (I : Nat → Nat → Int32) (nr : Nat) (f : Nat → Int32) (v : Int32) : Prop := (v = -2 ∧ rgNo I nr) ∨ ∃ n c, rgIs I nr n c ∧ v = nI n ∧ ∀ i, i < n → f i = nI (dig n c i)
def rRg (I : Nat → Nat → Int32) (L : Nat → Nat → Int64) (P : Nat → Nat → Option Nat) (nr : Nat) : Option Value → pM → Prop := fun r M => r = none ∧ ∃ f v, M = (sI (aU I 180 f) 134 85 v, L, P) ∧ rgV I nr f v

theorem ct_Mo_rateOf {sh : List pSh} {I : Nat → Nat → Int32} {L : Nat → Nat → Int64} {P : Nat → Nat → Option Nat} (hA : kA sh P) {nr : Nat} (hr : I 134 15 = nI nr) (hr8 : nr ≤ 8) (a b : Int32) : pCn m_Mo_rateOf 0 [.ref 134, .int a, .int b] sh (I, L, P) (rI (rtF (I 151) a b nr 0) (I, L, P)) := by
  refine pCn_of (by decide +kernel) (Nat.le_of_ble_eq_true rfl) ?_
  have hL := pDown (fun c => ∀ k, k + c = nr → k ≤ nr → rtF (I 151) a b c k = rtF (I 151) a b nr 0 → pWn m_Mo_rateOf 0 sh (rI (rtF (I 151) a b nr 0) (I, L, P)) 2 [some (.ref 134), some (.int a), some (.int b), some (.int (nI k))] [] (I, L, P)) (by
    intro c ih k hkc hk hV
    refine pw_iload_n (k4 := 3) rfl (by decide +kernel) ?_
    refine pw_aload_n (k4 := 0) rfl (by decide +kernel) ?_
    refine pq_getI (c := 11) (k := 15) (ks_m hA) (by decide) (by decide) lf_Mo_268 (by decide +kernel) ?_
    refine pn_val (nI (nr)) (by exact hr) ?_
    refine pn_icmp_ge (off := 37) (tgt := 44) k nr rfl rfl (by omega) (by omega) (by decide +kernel) (by decide +kernel) (fun z7 => ?_) (fun z7 => ?_)
    · refine pw_iconst (n := -1) (v := -1) (by decide) (by decide +kernel) ?_
      exact pq_iret rfl (by decide +kernel) ⟨congrArg (fun z => some (Value.int z)) (show -1 = rtF (I 151) a b nr 0 from by rw [← hV, show c = 0 by omega]; rfl), rfl⟩
    · obtain ⟨c, rfl⟩ : ∃ j, c = j + 1 := ⟨c - 1, by omega⟩
      replace ih := ih c rfl
      refine pw_aload_n (k4 := 0) rfl (by decide +kernel) ?_
      refine pq_getP (c := 11) (k := 37) (ks_m hA) (by decide) (by decide) (kp_m_rate hA) lf_Mo_62 (by decide +kernel) ?_
      refine pw_iconst (n := 4) (v := 4) (by decide) (by decide +kernel) ?_
      refine pw_iload_n (k4 := 3) rfl (by decide +kernel) ?_
      refine pn_imul 4 k rfl rfl (by decide +kernel) ?_
      refine pq_iald (4 * k) rfl (by omega) (by decide) (ks_m_rate hA) (by decide +kernel) ?_
      refine pw_iload_n (k4 := 1) rfl (by decide +kernel) ?_
      refine pw_icmp_ne (off := 19) (tgt := 38) (by decide +kernel) (by decide +kernel) (fun z19 => ?_) (fun z19 => ?_)
      · refine pn_iinc (i := 3) (n := 1) 1 k rfl rfl (by decide) rfl (by decide +kernel) ?_
        refine pw_goto (off := -39) (tgt := 2) (by decide +kernel) (by decide +kernel) ?_
        exact ih _ (by omega) (by omega) ((if_neg (fun q => z19 q.1)).symm.trans hV)
      · refine pw_aload_n (k4 := 0) rfl (by decide +kernel) ?_
        refine pq_getP (c := 11) (k := 37) (ks_m hA) (by decide) (by decide) (kp_m_rate hA) lf_Mo_62 (by decide +kernel) ?_
        refine pw_iconst (n := 4) (v := 4) (by decide) (by decide +kernel) ?_
        refine pw_iload_n (k4 := 3) rfl (by decide +kernel) ?_
        refine pn_imul 4 k rfl rfl (by decide +kernel) ?_
        refine pw_iconst (n := 2) (v := 2) (by decide) (by decide +kernel) ?_
        refine pn_iadd (4 * k) 2 rfl rfl (by decide +kernel) ?_
        refine pq_iald ((4 * k) + 2) rfl (by omega) (by decide) (ks_m_rate hA) (by decide +kernel) ?_
        refine pw_iload_n (k4 := 2) rfl (by decide +kernel) ?_
        refine pw_icmp_ne (off := 5) (tgt := 38) (by decide +kernel) (by decide +kernel) (fun z33 => ?_) (fun z33 => ?_)
        · refine pn_iinc (i := 3) (n := 1) 1 k rfl rfl (by decide) rfl (by decide +kernel) ?_
          refine pw_goto (off := -39) (tgt := 2) (by decide +kernel) (by decide +kernel) ?_
          exact ih _ (by omega) (by omega) ((if_neg (fun q => z33 q.2)).symm.trans hV)
        · refine pw_iload_n (k4 := 3) rfl (by decide +kernel) ?_
          exact pq_iret rfl (by decide +kernel) ⟨congrArg (fun z => some (Value.int z)) ((if_pos ⟨z19, z33⟩).symm.trans hV), rfl⟩
)
  refine pw_iconst (n := 0) (v := 0) (by decide) (by decide +kernel) ?_
  refine pq_istore_n (k4 := 3) (Nat.le_of_ble_eq_true rfl) rfl (by decide +kernel) ?_
  exact hL nr 0 (by omega) (by omega) rfl

theorem ct_Mo_powerOf {sh : List pSh} {I : Nat → Nat → Int32} {L : Nat → Nat → Int64} {P : Nat → Nat → Option Nat} {n : Nat} (hn : n ≤ 6) : pCn m_Mo_powerOf 0 [.int (nI n)] sh (I, L, P) (rI (nI (6 ^ n)) (I, L, P)) := by
  refine pCn_of (by decide +kernel) (Nat.le_of_ble_eq_true rfl) ?_
  have hL := pUpTo n (fun k => pWn m_Mo_powerOf 0 sh (rI (nI (6 ^ n)) (I, L, P)) 4 [some (.int (nI n)), some (.int (nI (6 ^ k))), some (.int (nI k))] [] (I, L, P)) (by
    intro k hk ih
    refine pw_iload_n (k4 := 2) rfl (by decide +kernel) ?_
    refine pw_iload_n (k4 := 0) rfl (by decide +kernel) ?_
    refine pn_icmp_ge (off := 14) (tgt := 20) k n rfl rfl (by omega) (by omega) (by decide +kernel) (by decide +kernel) (fun z6 => ?_) (fun z6 => ?_)
    · refine pw_iload_n (k4 := 1) rfl (by decide +kernel) ?_
      exact pq_iret rfl (by decide +kernel) ⟨by rw [show k = n by omega], rfl⟩
    · refine pw_iload_n (k4 := 1) rfl (by decide +kernel) ?_
      refine pw_bipush (n := 6) (v := 6) (by decide) (by decide +kernel) ?_
      refine pn_imul (6 ^ k) 6 rfl rfl (by decide +kernel) ?_
      refine pq_istore_n (k4 := 1) (Nat.le_of_ble_eq_true rfl) rfl (by decide +kernel) ?_
      refine pn_iinc (i := 2) (n := 1) 1 k rfl rfl (by decide) rfl (by decide +kernel) ?_
      refine pw_goto (off := -13) (tgt := 4) (by decide +kernel) (by decide +kernel) ?_
      exact ih (by omega)
)
  refine pw_iconst (n := 1) (v := 1) (by decide) (by decide +kernel) ?_
  refine pq_istore_n (k4 := 1) (Nat.le_of_ble_eq_true rfl) rfl (by decide +kernel) ?_
  refine pw_iconst (n := 0) (v := 0) (by decide) (by decide +kernel) ?_
  refine pq_istore_n (k4 := 2) (Nat.le_of_ble_eq_true rfl) rfl (by decide +kernel) ?_
  exact hL 0 (Nat.zero_le _)

set_option maxHeartbeats 2000000 in
theorem ct_Mo_isRing {sh : List pSh} {I : Nat → Nat → Int32} {L : Nat → Nat → Int64} {P : Nat → Nat → Option Nat} (hA : kA sh P) {nr : Nat} (hr : I 134 15 = nI nr) (hr8 : nr ≤ 8) {n : Nat} (hn2 : 2 ≤ n) (hn6 : n ≤ 6) : pCn m_Mo_isRing 1 [.ref 134, .int (nI n)] sh (I, L, P) (rI (bI (rgB (I 151) (I 180) nr n)) (I, L, P)) := by
  refine pCn_of (by decide +kernel) (Nat.le_of_ble_eq_true rfl) ?_
  have hO := pDown (fun c => ∀ (i : Nat) (u l : Int64), i + c = n → rgP (I 151) (I 180) nr n i = some (u, l) → pWn m_Mo_isRing 1 sh (rI (bI (rgB (I 151) (I 180) nr n)) (I, L, P)) 8 [some (.ref 134), some (.int (nI n)), some (.long u), none, some (.long l), none, some (.int (nI i)), none] [] (I, L, P)) (by
    intro c ih0 i u l hic hq
    have ihi : ∀ (u l : Int64), i < n → rgP (I 151) (I 180) nr n (i + 1) = some (u, l) → pWn m_Mo_isRing 1 sh (rI (bI (rgB (I 151) (I 180) nr n)) (I, L, P)) 8 [some (.ref 134), some (.int (nI n)), some (.long u), none, some (.long l), none, some (.int (nI (i + 1))), none] [] (I, L, P) := fun u l hi h => ih0 (c - 1) (by omega) (i + 1) u l (by omega) h
    have h17 : i < n → ∀ k, k ≤ i → (∀ k2, k2 < k → ¬ I 180 k2 = I 180 i) → pWn m_Mo_isRing 1 sh (rI (bI (rgB (I 151) (I 180) nr n)) (I, L, P)) 17 [some (.ref 134), some (.int (nI n)), some (.long u), none, some (.long l), none, some (.int (nI i)), some (.int (nI k))] [] (I, L, P) := fun hin => pUpTo i _ (by
      intro k hk ihk hP
      have hmd : (i + 1) % n < n := Nat.mod_lt _ (by omega)
      refine pw_iload (i := 7) rfl (by decide +kernel) ?_
      refine pw_iload (i := 6) rfl (by decide +kernel) ?_
      refine pn_icmp_ge (off := 28) (tgt := 49) k i rfl rfl (by omega) (by omega) (by decide +kernel) (by decide +kernel) (fun z21 => ?_) (fun z21 => ?_)
      · have hki : k = i := by omega
        refine pw_iload (i := 6) rfl (by decide +kernel) ?_
        refine pn_if_le (off := 21) (tgt := 72) i rfl (by omega) (by decide +kernel) (by decide +kernel) (fun z51 => ?_) (fun z51 => ?_)
        · refine pw_aload_n (k4 := 0) rfl (by decide +kernel) ?_
          refine pw_aload_n (k4 := 0) rfl (by decide +kernel) ?_
          refine pq_getP (c := 11) (k := 84) (ks_m hA) (by decide) (by decide) (kp_m_ringAt hA) lf_Mo_154 (by decide +kernel) ?_
          refine pw_iload (i := 6) rfl (by decide +kernel) ?_
          refine pq_iald i rfl (by omega) (by decide) (ks_m_ringAt hA) (by decide +kernel) ?_
          refine pw_aload_n (k4 := 0) rfl (by decide +kernel) ?_
          refine pq_getP (c := 11) (k := 84) (ks_m hA) (by decide) (by decide) (kp_m_ringAt hA) lf_Mo_154 (by decide +kernel) ?_
          refine pw_iload (i := 6) rfl (by decide +kernel) ?_
          refine pw_iconst (n := 1) (v := 1) (by decide) (by decide +kernel) ?_
          refine pn_iadd i 1 rfl rfl (by decide +kernel) ?_
          refine pw_iload_n (k4 := 1) rfl (by decide +kernel) ?_
          refine pn_irem (i + 1) n rfl rfl (by omega) (by omega) (by omega) (by decide +kernel) ?_
          refine pq_iald ((i + 1) % n) rfl (by omega) (by decide) (ks_m_ringAt hA) (by decide +kernel) ?_
          refine pq_callV (ν := m_Mo_rateOf) (d' := 0) (av := [_, _]) (c := 11) (by decide +kernel) lm_Mo_547 ok_Mo_rateOf (show _ = some 2 by decide +kernel) (ks_m hA) rfl (by decide) (by omega) (Nat.le_of_ble_eq_true rfl) (ct_Mo_rateOf hA (by exact hr) hr8 _ _) ?_
          rintro _ _ ⟨rfl, rfl⟩
          refine pq_istore (i := 7) (Nat.le_of_ble_eq_true rfl) rfl (by decide +kernel) ?_
          refine pw_iload (i := 7) rfl (by decide +kernel) ?_
          refine pw_if_ge (off := 5) (tgt := 103) (by decide +kernel) (by decide +kernel) (fun z98 => ?_) (fun z98 => ?_)
          · obtain ⟨j, hj, hje⟩ := rtF_j (show ¬ rtF (I 151) (I 180 i) (I 180 ((i + 1) % n)) nr 0 < 0 from Int32.not_lt.mpr z98)
            have hg : rgG (I 151) (I 180) nr n i := ⟨fun k2 hk2 => hP k2 (by omega), fun w => absurd w (by omega), Int32.not_lt.mpr z98⟩
            have hq2 := rgP_s hq hg hje (by omega)
            rw [hje]
            refine pw_lload_n (k4 := 2) rfl (by decide +kernel) ?_
            refine pw_aload_n (k4 := 0) rfl (by decide +kernel) ?_
            refine pq_getP (c := 11) (k := 37) (ks_m hA) (by decide) (by decide) (kp_m_rate hA) lf_Mo_62 (by decide +kernel) ?_
            refine pw_iconst (n := 4) (v := 4) (by decide) (by decide +kernel) ?_
            refine pw_iload (i := 7) rfl (by decide +kernel) ?_
            refine pn_imul 4 j rfl rfl (by decide +kernel) ?_
            refine pw_iconst (n := 3) (v := 3) (by decide) (by decide +kernel) ?_
            refine pn_iadd (4 * j) 3 rfl rfl (by decide +kernel) ?_
            refine pq_iald ((4 * j) + 3) rfl (by omega) (by decide) (ks_m_rate hA) (by decide +kernel) ?_
            refine pw_i2l (by decide +kernel) ?_
            refine pw_lmul (by decide +kernel) ?_
            refine pq_lstore_n (k4 := 2) (Nat.le_of_ble_eq_true rfl) rfl (by decide +kernel) ?_
            refine pw_lload (i := 4) rfl (by decide +kernel) ?_
            refine pw_aload_n (k4 := 0) rfl (by decide +kernel) ?_
            refine pq_getP (c := 11) (k := 37) (ks_m hA) (by decide) (by decide) (kp_m_rate hA) lf_Mo_62 (by decide +kernel) ?_
            refine pw_iconst (n := 4) (v := 4) (by decide) (by decide +kernel) ?_
            refine pw_iload (i := 7) rfl (by decide +kernel) ?_
            refine pn_imul 4 j rfl rfl (by decide +kernel) ?_
            refine pw_iconst (n := 1) (v := 1) (by decide) (by decide +kernel) ?_
            refine pn_iadd (4 * j) 1 rfl rfl (by decide +kernel) ?_
            refine pq_iald ((4 * j) + 1) rfl (by omega) (by decide) (ks_m_rate hA) (by decide +kernel) ?_
            refine pw_i2l (by decide +kernel) ?_
            refine pw_lmul (by decide +kernel) ?_
            refine pq_lstore (i := 4) (Nat.le_of_ble_eq_true rfl) rfl (by decide +kernel) ?_
            refine pn_iinc (i := 6) (n := 1) 1 i rfl rfl (by decide) rfl (by decide +kernel) ?_
            refine pw_goto (off := -130) (tgt := 8) (by decide +kernel) (by decide +kernel) ?_
            exact pw_forget [7] (ihi _ _ (by omega) hq2)
          · refine pw_iconst (n := 0) (v := 0) (by decide) (by decide +kernel) ?_
            exact pq_zret rfl (by decide) (by decide +kernel) ⟨congrArg (fun z => some (Value.int z)) (show (0 : Int32) = bI (rgB (I 151) (I 180) nr n) from by rw [rgB_no (show i < n by omega) hq (fun w => w.2.2 (Int32.not_le.mp z98))]; rfl), rfl⟩
        · refine pw_aload_n (k4 := 0) rfl (by decide +kernel) ?_
          refine pq_getP (c := 11) (k := 84) (ks_m hA) (by decide) (by decide) (kp_m_ringAt hA) lf_Mo_154 (by decide +kernel) ?_
          refine pw_iload (i := 6) rfl (by decide +kernel) ?_
          refine pq_iald i rfl (by omega) (by decide) (ks_m_ringAt hA) (by decide +kernel) ?_
          refine pw_aload_n (k4 := 0) rfl (by decide +kernel) ?_
          refine pq_getP (c := 11) (k := 84) (ks_m hA) (by decide) (by decide) (kp_m_ringAt hA) lf_Mo_154 (by decide +kernel) ?_
          refine pw_iconst (n := 0) (v := 0) (by decide) (by decide +kernel) ?_
          refine pq_iald 0 rfl (by omega) (by decide) (ks_m_ringAt hA) (by decide +kernel) ?_
          refine pw_icmp_ge (off := 5) (tgt := 72) (by decide +kernel) (by decide +kernel) (fun z67 => ?_) (fun z67 => ?_)
          · refine pw_aload_n (k4 := 0) rfl (by decide +kernel) ?_
            refine pw_aload_n (k4 := 0) rfl (by decide +kernel) ?_
            refine pq_getP (c := 11) (k := 84) (ks_m hA) (by decide) (by decide) (kp_m_ringAt hA) lf_Mo_154 (by decide +kernel) ?_
            refine pw_iload (i := 6) rfl (by decide +kernel) ?_
            refine pq_iald i rfl (by omega) (by decide) (ks_m_ringAt hA) (by decide +kernel) ?_
            refine pw_aload_n (k4 := 0) rfl (by decide +kernel) ?_
            refine pq_getP (c := 11) (k := 84) (ks_m hA) (by decide) (by decide) (kp_m_ringAt hA) lf_Mo_154 (by decide +kernel) ?_
            refine pw_iload (i := 6) rfl (by decide +kernel) ?_
            refine pw_iconst (n := 1) (v := 1) (by decide) (by decide +kernel) ?_
            refine pn_iadd i 1 rfl rfl (by decide +kernel) ?_
            refine pw_iload_n (k4 := 1) rfl (by decide +kernel) ?_
            refine pn_irem (i + 1) n rfl rfl (by omega) (by omega) (by omega) (by decide +kernel) ?_
            refine pq_iald ((i + 1) % n) rfl (by omega) (by decide) (ks_m_ringAt hA) (by decide +kernel) ?_
            refine pq_callV (ν := m_Mo_rateOf) (d' := 0) (av := [_, _]) (c := 11) (by decide +kernel) lm_Mo_547 ok_Mo_rateOf (show _ = some 2 by decide +kernel) (ks_m hA) rfl (by decide) (by omega) (Nat.le_of_ble_eq_true rfl) (ct_Mo_rateOf hA (by exact hr) hr8 _ _) ?_
            rintro _ _ ⟨rfl, rfl⟩
            refine pq_istore (i := 7) (Nat.le_of_ble_eq_true rfl) rfl (by decide +kernel) ?_
            refine pw_iload (i := 7) rfl (by decide +kernel) ?_
            refine pw_if_ge (off := 5) (tgt := 103) (by decide +kernel) (by decide +kernel) (fun z98 => ?_) (fun z98 => ?_)
            · obtain ⟨j, hj, hje⟩ := rtF_j (show ¬ rtF (I 151) (I 180 i) (I 180 ((i + 1) % n)) nr 0 < 0 from Int32.not_lt.mpr z98)
              have hg : rgG (I 151) (I 180) nr n i := ⟨fun k2 hk2 => hP k2 (by omega), fun w => Int32.not_lt.mpr z67, Int32.not_lt.mpr z98⟩
              have hq2 := rgP_s hq hg hje (by omega)
              rw [hje]
              refine pw_lload_n (k4 := 2) rfl (by decide +kernel) ?_
              refine pw_aload_n (k4 := 0) rfl (by decide +kernel) ?_
              refine pq_getP (c := 11) (k := 37) (ks_m hA) (by decide) (by decide) (kp_m_rate hA) lf_Mo_62 (by decide +kernel) ?_
              refine pw_iconst (n := 4) (v := 4) (by decide) (by decide +kernel) ?_
              refine pw_iload (i := 7) rfl (by decide +kernel) ?_
              refine pn_imul 4 j rfl rfl (by decide +kernel) ?_
              refine pw_iconst (n := 3) (v := 3) (by decide) (by decide +kernel) ?_
              refine pn_iadd (4 * j) 3 rfl rfl (by decide +kernel) ?_
              refine pq_iald ((4 * j) + 3) rfl (by omega) (by decide) (ks_m_rate hA) (by decide +kernel) ?_
              refine pw_i2l (by decide +kernel) ?_
              refine pw_lmul (by decide +kernel) ?_
              refine pq_lstore_n (k4 := 2) (Nat.le_of_ble_eq_true rfl) rfl (by decide +kernel) ?_
              refine pw_lload (i := 4) rfl (by decide +kernel) ?_
              refine pw_aload_n (k4 := 0) rfl (by decide +kernel) ?_
              refine pq_getP (c := 11) (k := 37) (ks_m hA) (by decide) (by decide) (kp_m_rate hA) lf_Mo_62 (by decide +kernel) ?_
              refine pw_iconst (n := 4) (v := 4) (by decide) (by decide +kernel) ?_
              refine pw_iload (i := 7) rfl (by decide +kernel) ?_
              refine pn_imul 4 j rfl rfl (by decide +kernel) ?_
              refine pw_iconst (n := 1) (v := 1) (by decide) (by decide +kernel) ?_
              refine pn_iadd (4 * j) 1 rfl rfl (by decide +kernel) ?_
              refine pq_iald ((4 * j) + 1) rfl (by omega) (by decide) (ks_m_rate hA) (by decide +kernel) ?_
              refine pw_i2l (by decide +kernel) ?_
              refine pw_lmul (by decide +kernel) ?_
              refine pq_lstore (i := 4) (Nat.le_of_ble_eq_true rfl) rfl (by decide +kernel) ?_
              refine pn_iinc (i := 6) (n := 1) 1 i rfl rfl (by decide) rfl (by decide +kernel) ?_
              refine pw_goto (off := -130) (tgt := 8) (by decide +kernel) (by decide +kernel) ?_
              exact pw_forget [7] (ihi _ _ (by omega) hq2)
            · refine pw_iconst (n := 0) (v := 0) (by decide) (by decide +kernel) ?_
              exact pq_zret rfl (by decide) (by decide +kernel) ⟨congrArg (fun z => some (Value.int z)) (show (0 : Int32) = bI (rgB (I 151) (I 180) nr n) from by rw [rgB_no (show i < n by omega) hq (fun w => w.2.2 (Int32.not_le.mp z98))]; rfl), rfl⟩
          · refine pw_iconst (n := 0) (v := 0) (by decide) (by decide +kernel) ?_
            exact pq_zret rfl (by decide) (by decide +kernel) ⟨congrArg (fun z => some (Value.int z)) (show (0 : Int32) = bI (rgB (I 151) (I 180) nr n) from by rw [rgB_no (show i < n by omega) hq (fun w => w.2.1 (by omega) (Int32.not_le.mp z67))]; rfl), rfl⟩
      · refine pw_aload_n (k4 := 0) rfl (by decide +kernel) ?_
        refine pq_getP (c := 11) (k := 84) (ks_m hA) (by decide) (by decide) (kp_m_ringAt hA) lf_Mo_154 (by decide +kernel) ?_
        refine pw_iload (i := 7) rfl (by decide +kernel) ?_
        refine pq_iald k rfl (by omega) (by decide) (ks_m_ringAt hA) (by decide +kernel) ?_
        refine pw_aload_n (k4 := 0) rfl (by decide +kernel) ?_
        refine pq_getP (c := 11) (k := 84) (ks_m hA) (by decide) (by decide) (kp_m_ringAt hA) lf_Mo_154 (by decide +kernel) ?_
        refine pw_iload (i := 6) rfl (by decide +kernel) ?_
        refine pq_iald i rfl (by omega) (by decide) (ks_m_ringAt hA) (by decide +kernel) ?_
        refine pw_icmp_ne (off := 5) (tgt := 43) (by decide +kernel) (by decide +kernel) (fun z38 => ?_) (fun z38 => ?_)
        · refine pn_iinc (i := 7) (n := 1) 1 k rfl rfl (by decide) rfl (by decide +kernel) ?_
          refine pw_goto (off := -29) (tgt := 17) (by decide +kernel) (by decide +kernel) ?_
          exact ihk (by omega) (fun k2 hk2 => (Nat.lt_succ_iff_lt_or_eq.mp hk2).elim (hP k2) (fun q => by subst q; exact z38))
        · refine pw_iconst (n := 0) (v := 0) (by decide) (by decide +kernel) ?_
          exact pq_zret rfl (by decide) (by decide +kernel) ⟨congrArg (fun z => some (Value.int z)) (show (0 : Int32) = bI (rgB (I 151) (I 180) nr n) from by rw [rgB_no (show i < n by omega) hq (fun w => w.1 k (by omega) z38)]; rfl), rfl⟩)
    refine pw_iload (i := 6) rfl (by decide +kernel) ?_
    refine pw_iload_n (k4 := 1) rfl (by decide +kernel) ?_
    refine pn_icmp_ge (off := 130) (tgt := 141) i n rfl rfl (by omega) (by omega) (by decide +kernel) (by decide +kernel) (fun z11 => ?_) (fun z11 => ?_)
    · have hin : i = n := by omega
      subst hin
      refine pw_lload_n (k4 := 2) rfl (by decide +kernel) ?_
      refine pw_lload (i := 4) rfl (by decide +kernel) ?_
      refine pw_lcmp (by decide +kernel) ?_
      refine pw_if_le (off := 7) (tgt := 152) (by decide +kernel) (by decide +kernel) (fun z145 => ?_) (fun z145 => ?_)
      · rw [lle0] at z145
        refine pw_iconst (n := 0) (v := 0) (by decide) (by decide +kernel) ?_
        exact pq_zret rfl (by decide) (by decide +kernel) ⟨congrArg (fun z => some (Value.int z)) (show _ = bI (rgB (I 151) (I 180) nr i) from by unfold rgB; rw [hq]; show _ = bI (decide (l < u)); rw [decide_eq_false (Int64.not_lt.mpr z145)]; rfl), rfl⟩
      · rw [lle0] at z145
        refine pw_iconst (n := 1) (v := 1) (by decide) (by decide +kernel) ?_
        refine pw_goto (off := 4) (tgt := 153) (by decide +kernel) (by decide +kernel) ?_
        exact pq_zret rfl (by decide) (by decide +kernel) ⟨congrArg (fun z => some (Value.int z)) (show _ = bI (rgB (I 151) (I 180) nr i) from by unfold rgB; rw [hq]; show _ = bI (decide (l < u)); rw [decide_eq_true (Int64.not_le.mp z145)]; rfl), rfl⟩
    · refine pw_iconst (n := 0) (v := 0) (by decide) (by decide +kernel) ?_
      refine pq_istore (i := 7) (Nat.le_of_ble_eq_true rfl) rfl (by decide +kernel) ?_
      exact h17 (by omega) 0 (Nat.zero_le _) (fun k hk => absurd hk (Nat.not_lt_zero _))
)
  refine pw_lconst (n := 1) (v := 1) (by decide) (by decide +kernel) ?_
  refine pq_lstore_n (k4 := 2) (Nat.le_of_ble_eq_true rfl) rfl (by decide +kernel) ?_
  refine pw_lconst (n := 1) (v := 1) (by decide) (by decide +kernel) ?_
  refine pq_lstore (i := 4) (Nat.le_of_ble_eq_true rfl) rfl (by decide +kernel) ?_
  refine pw_iconst (n := 0) (v := 0) (by decide) (by decide +kernel) ?_
  refine pq_istore (i := 6) (Nat.le_of_ble_eq_true rfl) rfl (by decide +kernel) ?_
  exact hO n 0 1 1 (by omega) rfl

theorem sI_cm {I : Nat → Nat → Int32} {a b i j : Nat} {x y : Int32} (h : a ≠ b) : sI (sI I a i x) b j y = sI (sI I b j y) a i x := by
  funext q k
  by_cases hq : q = b
  · subst hq
    rw [sI_eq, sI_ne h.symm, sI_ne (b := q) h.symm, sI_eq]
  · by_cases hq2 : q = a
    · subst hq2
      rw [sI_ne h, sI_eq, sI_eq, sI_ne h]
    · rw [sI_ne hq, sI_ne hq2, sI_ne hq2, sI_ne hq]
theorem upd_eq {f : Nat → Int32} {k : Nat} {x : Int32} : upd f k x k = x := if_pos rfl
theorem upd_ne {f : Nat → Int32} {k j : Nat} {x : Int32} (h : j ≠ k) : upd f k x j = f j := if_neg h
set_option maxHeartbeats 4000000 in
theorem ct_Mo_layRing {sh : List pSh} {I : Nat → Nat → Int32} {L : Nat → Nat → Int64} {P : Nat → Nat → Option Nat} (hA : kA sh P) {nr : Nat} (hr : I 134 15 = nI nr) (hr8 : nr ≤ 8) : pCn m_Mo_layRing 2 [.ref 134] sh (I, L, P) (rRg I L P nr) := by
  refine pCn_of (by decide +kernel) (Nat.le_of_ble_eq_true rfl) ?_
  have hp6 : ∀ n, n ≤ 6 → 6 ^ n ≤ 46656 := fun n hn => Nat.pow_le_pow_right (by decide) hn
  have hF : ∀ n c (f : Nat → Int32), 2 ≤ n → n ≤ 6 → c < 6 ^ n → rgIs I nr n c → (∀ i, i < n → f i = nI (dig n c i)) → pWn m_Mo_layRing 2 sh (rRg I L P nr) 93 [some (.ref 134), some (.int (nI n)), some (.int (nI c)), none, none] [] (sI (aU I 180 f) 134 85 (nI n), L, P) := by
    intro n c f hn2 hn6 hc hrg hdg
    have hp := hp6 n hn6
    have hV : rgV I nr f (nI n) := Or.inr ⟨n, c, hrg, rfl, hdg⟩
    refine pn_iinc (i := 2) (n := 1) 1 c rfl rfl (by decide) rfl (by decide +kernel) ?_
    refine pw_goto (off := -65) (tgt := 31) (by decide +kernel) (by decide +kernel) ?_
    refine pw_iload_n (k4 := 2) rfl (by decide +kernel) ?_
    refine pw_iload_n (k4 := 1) rfl (by decide +kernel) ?_
    refine pq_callS (ν := m_Mo_powerOf) (d' := 0) (av := [_]) (by decide +kernel) lm_Mo_553 ok_Mo_powerOf (show _ = some 1 by decide +kernel) (by omega) (Nat.le_of_ble_eq_true rfl) (ct_Mo_powerOf (by omega)) ?_
    rintro _ _ ⟨rfl, rfl⟩
    refine pn_icmp_ge (off := 63) (tgt := 99) (c + 1) (6 ^ n) rfl rfl (by omega) (by omega) (by decide +kernel) (by decide +kernel) (fun z36 => ?_) (fun z36 => ?_)
    · refine pn_iinc (i := 1) (n := 1) 1 n rfl rfl (by decide) rfl (by decide +kernel) ?_
      refine pw_goto (off := -94) (tgt := 8) (by decide +kernel) (by decide +kernel) ?_
      refine pw_iload_n (k4 := 1) rfl (by decide +kernel) ?_
      refine pw_bipush (n := 7) (v := 7) (by decide) (by decide +kernel) ?_
      refine pn_icmp_ge (off := 94) (tgt := 105) (n + 1) 7 rfl rfl (by omega) (by omega) (by decide +kernel) (by decide +kernel) (fun z11 => ?_) (fun z11 => ?_)
      · exact pq_vret rfl (by decide +kernel) ⟨rfl, f, nI n, rfl, hV⟩
      · refine pw_aload_n (k4 := 0) rfl (by decide +kernel) ?_
        refine pq_getI (c := 11) (k := 85) (ks_m hA) (by decide) (by decide) lf_Mo_550 (by decide +kernel) ?_
        refine pn_val (nI (n)) rfl ?_
        refine pn_if_ge (off := 87) (tgt := 105) n rfl (by omega) (by decide +kernel) (by decide +kernel) (fun z18 => ?_) (fun z18 => ?_)
        · exact pq_vret rfl (by decide +kernel) ⟨rfl, f, nI n, rfl, hV⟩
        · exact absurd (Nat.zero_le _) z18
    · refine pw_aload_n (k4 := 0) rfl (by decide +kernel) ?_
      refine pq_getI (c := 11) (k := 85) (ks_m hA) (by decide) (by decide) lf_Mo_550 (by decide +kernel) ?_
      refine pn_val (nI (n)) rfl ?_
      refine pn_if_ge (off := 56) (tgt := 99) n rfl (by omega) (by decide +kernel) (by decide +kernel) (fun z43 => ?_) (fun z43 => ?_)
      · refine pn_iinc (i := 1) (n := 1) 1 n rfl rfl (by decide) rfl (by decide +kernel) ?_
        refine pw_goto (off := -94) (tgt := 8) (by decide +kernel) (by decide +kernel) ?_
        refine pw_iload_n (k4 := 1) rfl (by decide +kernel) ?_
        refine pw_bipush (n := 7) (v := 7) (by decide) (by decide +kernel) ?_
        refine pn_icmp_ge (off := 94) (tgt := 105) (n + 1) 7 rfl rfl (by omega) (by omega) (by decide +kernel) (by decide +kernel) (fun z11 => ?_) (fun z11 => ?_)
        · exact pq_vret rfl (by decide +kernel) ⟨rfl, f, nI n, rfl, hV⟩
        · refine pw_aload_n (k4 := 0) rfl (by decide +kernel) ?_
          refine pq_getI (c := 11) (k := 85) (ks_m hA) (by decide) (by decide) lf_Mo_550 (by decide +kernel) ?_
          refine pn_val (nI (n)) rfl ?_
          refine pn_if_ge (off := 87) (tgt := 105) n rfl (by omega) (by decide +kernel) (by decide +kernel) (fun z18 => ?_) (fun z18 => ?_)
          · exact pq_vret rfl (by decide +kernel) ⟨rfl, f, nI n, rfl, hV⟩
          · exact absurd (Nat.zero_le _) z18
      · exact absurd (Nat.zero_le _) z43

  have h8 := pDown (fun x => ∀ n, n + x = 7 → 2 ≤ n → ∀ (f : Nat → Int32), (∀ n2, 2 ≤ n2 → n2 < n → ∀ c, c < 6 ^ n2 → ¬ isRg I nr n2 c) → pWn m_Mo_layRing 2 sh (rRg I L P nr) 8 [some (.ref 134), some (.int (nI n)), none, none, none] [] (sI (aU I 180 f) 134 85 (-2), L, P)) (by
    intro x ih0 n hx hn2 f hbef
    have ihn : ∀ f : Nat → Int32, n < 7 → (∀ n2, 2 ≤ n2 → n2 < n + 1 → ∀ c, c < 6 ^ n2 → ¬ isRg I nr n2 c) → pWn m_Mo_layRing 2 sh (rRg I L P nr) 8 [some (.ref 134), some (.int (nI (n + 1))), none, none, none] [] (sI (aU I 180 f) 134 85 (-2), L, P) := fun f hn h => ih0 (x - 1) (by omega) (n + 1) (by omega) (by omega) f h
    have h31 : n < 7 → 1 < nr → ∀ c, c ≤ 6 ^ n → ∀ f : Nat → Int32, (∀ c2, c2 < c → ¬ isRg I nr n c2) → pWn m_Mo_layRing 2 sh (rRg I L P nr) 31 [some (.ref 134), some (.int (nI n)), some (.int (nI c)), none, none] [] (sI (aU I 180 f) 134 85 (-2), L, P) := fun hn7 hnr => pUpTo (6 ^ n) _ (by
      intro c hcl ihc0 f hno
      have hp := hp6 n (by omega)
      have ihc : ∀ f : Nat → Int32, c < 6 ^ n → (∀ c2, c2 < c + 1 → ¬ isRg I nr n c2) → pWn m_Mo_layRing 2 sh (rRg I L P nr) 31 [some (.ref 134), some (.int (nI n)), some (.int (nI (c + 1))), none, none] [] (sI (aU I 180 f) 134 85 (-2), L, P) := fun f h1 h2 => ihc0 h1 f h2
      have h53 : c < 6 ^ n → ∀ k lf (f : Nat → Int32), k ≤ n → lf = c / 6 ^ (n - k) → lf ≤ c → (∀ j, k ≤ j → j < n → f j = nI (dig n c j)) → pWn m_Mo_layRing 2 sh (rRg I L P nr) 53 [some (.ref 134), some (.int (nI n)), some (.int (nI c)), some (.int (nI lf)), some (.int (nI k + (-1)))] [] (sI (aU I 180 f) 134 85 (-2), L, P) := fun hc => pDown _ (by
        intro k ih lf f hkn hlf hlc hdg
        refine pw_iload (i := 4) rfl (by decide +kernel) ?_
        refine pw_if_lt (off := 25) (tgt := 80) (by decide +kernel) (by decide +kernel) (fun z55 => ?_) (fun z55 => ?_)
        · have e0 : k = 0 := by rcases k with _ | k; rfl; exact absurd z55 (by rw [n_m1]; exact nI_pos (by omega))
          subst e0
          refine pw_aload_n (k4 := 0) rfl (by decide +kernel) ?_
          refine pw_iload_n (k4 := 1) rfl (by decide +kernel) ?_
          refine pq_callV (ν := m_Mo_isRing) (d' := 1) (av := [_]) (c := 11) (by decide +kernel) lm_Mo_556 ok_Mo_isRing (show _ = some 1 by decide +kernel) (ks_m hA) rfl (by decide) (by omega) (Nat.le_of_ble_eq_true rfl) (ct_Mo_isRing hA (by exact hr) hr8 hn2 (by omega)) ?_
          rintro _ _ ⟨rfl, rfl⟩
          refine pw_if_eq (off := 8) (tgt := 93) (by decide +kernel) (by decide +kernel) (fun z85 => ?_) (fun z85 => ?_)
          · have hb : rgB (I 151) f nr n = false := bI_0 z85
            refine pn_iinc (i := 2) (n := 1) 1 c rfl rfl (by decide) rfl (by decide +kernel) ?_
            refine pw_goto (off := (-65)) (tgt := 31) (by decide +kernel) (by decide +kernel) ?_
            refine pw_forget [3, 4] (ihc f (by omega) (fun c2 hc2 => ?_))
            rcases Nat.lt_succ_iff_lt_or_eq.mp hc2 with w | w
            · exact hno c2 w
            · subst w; exact fun w => absurd ((rgB_cg (fun j hj => hdg j (Nat.zero_le _) hj)).trans w) (by rw [hb]; decide)
          · have hb : rgB (I 151) f nr n = true := bI_1 z85
            refine pw_aload_n (k4 := 0) rfl (by decide +kernel) ?_
            refine pw_iload_n (k4 := 1) rfl (by decide +kernel) ?_
            refine pq_putI (c := 11) (k := 85) (ks_m hA) (by decide) (by decide) lf_Mo_550 (Or.inl rfl) (by decide +kernel) ?_
            rw [sI_sI]
            refine pw_forget [3, 4] (hF n c f hn2 (by omega) hc ⟨hnr, hn2, by omega, hc, ?_, hno, hbef⟩ (fun j hj => hdg j (Nat.zero_le _) hj))
            exact (rgB_cg (fun j hj => hdg j (Nat.zero_le _) hj)).symm.trans hb
        · obtain ⟨k, rfl⟩ : ∃ j, k = j + 1 := ⟨k - 1, by rcases k with _ | k; exact absurd n_neg z55; rfl⟩
          rw [n_m1]
          replace ih := ih k rfl
          refine pw_aload_n (k4 := 0) rfl (by decide +kernel) ?_
          refine pq_getP (c := 11) (k := 84) (ks_m hA) (by decide) (by decide) (kp_m_ringAt hA) lf_Mo_154 (by decide +kernel) ?_
          refine pw_iload (i := 4) rfl (by decide +kernel) ?_
          refine pw_iload_n (k4 := 3) rfl (by decide +kernel) ?_
          refine pw_bipush (n := 6) (v := 6) (by decide) (by decide +kernel) ?_
          refine pn_irem lf 6 rfl rfl (by omega) (by omega) (by omega) (by decide +kernel) ?_
          refine pq_iast k rfl (by omega) (by decide) (ks_m_ringAt hA) (by decide +kernel) ?_
          refine pw_iload_n (k4 := 3) rfl (by decide +kernel) ?_
          refine pw_bipush (n := 6) (v := 6) (by decide) (by decide +kernel) ?_
          refine pn_idiv lf 6 rfl rfl (by omega) (by omega) (by omega) (by decide +kernel) ?_
          refine pq_istore_n (k4 := 3) (Nat.le_of_ble_eq_true rfl) rfl (by decide +kernel) ?_
          refine pq_iinc (i := 4) (n := -1) (-1) rfl (by decide) rfl (by decide +kernel) ?_
          refine pw_goto (off := -24) (tgt := 53) (by decide +kernel) (by decide +kernel) ?_
          refine pn_memI (sI (aU I 180 (upd f k (nI (lf % 6)))) 134 85 (-2)) (by rw [sI_cm (by decide), sI_aU2]) ?_
          refine ih _ _ (by omega) (by rw [hlf, Nat.div_div_eq_div_mul, show n - k = n - (k + 1) + 1 by omega, Nat.pow_succ]) (by have := Nat.div_le_self lf 6; omega) (fun j h1 h2 => ?_)
          by_cases e : j = k
          · subst e; rw [upd_eq, hlf]; rfl
          · rw [upd_ne e]; exact hdg j (by omega) h2)
      refine pw_iload_n (k4 := 2) rfl (by decide +kernel) ?_
      refine pw_iload_n (k4 := 1) rfl (by decide +kernel) ?_
      refine pq_callS (ν := m_Mo_powerOf) (d' := 0) (av := [_]) (by decide +kernel) lm_Mo_553 ok_Mo_powerOf (show _ = some 1 by decide +kernel) (by omega) (Nat.le_of_ble_eq_true rfl) (ct_Mo_powerOf (by omega)) ?_
      rintro _ _ ⟨rfl, rfl⟩
      refine pn_icmp_ge (off := 63) (tgt := 99) c (6 ^ n) rfl rfl (by omega) (by omega) (by decide +kernel) (by decide +kernel) (fun z36 => ?_) (fun z36 => ?_)
      · refine pn_iinc (i := 1) (n := 1) 1 n rfl rfl (by decide) rfl (by decide +kernel) ?_
        refine pw_goto (off := -94) (tgt := 8) (by decide +kernel) (by decide +kernel) ?_
        exact pw_forget [2, 3, 4] (ihn f (by omega) (fun n2 h2 h3 c2 hc2 => (Nat.lt_succ_iff_lt_or_eq.mp h3).elim (fun w => hbef n2 h2 w c2 hc2) (fun w => by subst w; exact hno c2 (by omega))))
      · refine pw_aload_n (k4 := 0) rfl (by decide +kernel) ?_
        refine pq_getI (c := 11) (k := 85) (ks_m hA) (by decide) (by decide) lf_Mo_550 (by decide +kernel) ?_
        refine pw_if_ge (off := 56) (tgt := 99) (by decide +kernel) (by decide +kernel) (fun z43 => ?_) (fun z43 => ?_)
        · exact absurd z43 (show ¬ (0 : Int32) ≤ -2 by decide)
        · refine pw_iload_n (k4 := 2) rfl (by decide +kernel) ?_
          refine pq_istore_n (k4 := 3) (Nat.le_of_ble_eq_true rfl) rfl (by decide +kernel) ?_
          refine pw_iload_n (k4 := 1) rfl (by decide +kernel) ?_
          refine pw_iconst (n := 1) (v := 1) (by decide) (by decide +kernel) ?_
          refine pw_isub (by decide +kernel) ?_
          refine pq_istore (i := 4) (Nat.le_of_ble_eq_true rfl) rfl (by decide +kernel) ?_
          rw [i_sub1 (nI n)]
          exact h53 (by omega) n c f (Nat.le_refl _) (by rw [Nat.sub_self, Nat.pow_zero, Nat.div_one]) (Nat.le_refl _) (fun j h1 h2 => absurd h2 (by omega))
)
    refine pw_iload_n (k4 := 1) rfl (by decide +kernel) ?_
    refine pw_bipush (n := 7) (v := 7) (by decide) (by decide +kernel) ?_
    refine pn_icmp_ge (off := 94) (tgt := 105) n 7 rfl rfl (by omega) (by omega) (by decide +kernel) (by decide +kernel) (fun z11 => ?_) (fun z11 => ?_)
    · exact pq_vret rfl (by decide +kernel) ⟨rfl, f, -2, rfl, Or.inl ⟨rfl, Or.inr (fun n2 h2 h6 => hbef n2 h2 (by omega))⟩⟩
    · refine pw_aload_n (k4 := 0) rfl (by decide +kernel) ?_
      refine pq_getI (c := 11) (k := 85) (ks_m hA) (by decide) (by decide) lf_Mo_550 (by decide +kernel) ?_
      refine pw_if_ge (off := 87) (tgt := 105) (by decide +kernel) (by decide +kernel) (fun z18 => ?_) (fun z18 => ?_)
      · exact absurd z18 (show ¬ (0 : Int32) ≤ -2 by decide)
      · refine pw_aload_n (k4 := 0) rfl (by decide +kernel) ?_
        refine pq_getI (c := 11) (k := 15) (ks_m hA) (by decide) (by decide) lf_Mo_268 (by decide +kernel) ?_
        refine pn_val (nI (nr)) (by exact hr) ?_
        refine pw_iconst (n := 1) (v := 1) (by decide) (by decide +kernel) ?_
        refine pn_icmp_le (off := 79) (tgt := 105) nr 1 rfl rfl (by omega) (by omega) (by decide +kernel) (by decide +kernel) (fun z26 => ?_) (fun z26 => ?_)
        · exact pq_vret rfl (by decide +kernel) ⟨rfl, f, -2, rfl, Or.inl ⟨rfl, Or.inl (by omega)⟩⟩
        · refine pw_iconst (n := 0) (v := 0) (by decide) (by decide +kernel) ?_
          refine pq_istore_n (k4 := 2) (Nat.le_of_ble_eq_true rfl) rfl (by decide +kernel) ?_
          exact h31 (by omega) (by omega) 0 (Nat.zero_le _) f (fun c hc => absurd hc (Nat.not_lt_zero _))
)
  refine pw_aload_n (k4 := 0) rfl (by decide +kernel) ?_
  refine pw_bipush (n := -2) (v := -2) (by decide) (by decide +kernel) ?_
  refine pq_putI (c := 11) (k := 85) (ks_m hA) (by decide) (by decide) lf_Mo_550 (Or.inl rfl) (by decide +kernel) ?_
  refine pw_iconst (n := 2) (v := 2) (by decide) (by decide +kernel) ?_
  refine pq_istore_n (k4 := 1) (Nat.le_of_ble_eq_true rfl) rfl (by decide +kernel) ?_
  have w := h8 5 2 rfl (by decide) (I 180) (fun n2 h2 h3 => absurd h3 (by omega))
  rw [aU_self] at w
  exact w

def rRing (I : Nat → Nat → Int32) (P : Nat → Nat → Option Nat) (nr : Nat) : Option Value → pM → Prop := fun r M => ∃ f v I' L', r = some (.int v) ∧ rgV I nr f v ∧ M = (I', L', P) ∧ rep I' I
def rGdM (I : Nat → Nat → Int32) (P : Nat → Nat → Option Nat) (nr : Nat) (k : Int32) : Option Value → pM → Prop := fun r M => ∃ f v I' L', r = some (.int (if v ≤ k then -2 else f (ixn k))) ∧ rgV I nr f v ∧ M = (I', L', P) ∧ rep I' I
theorem rep_rg {I : Nat → Nat → Int32} {f : Nat → Int32} {x v : Int32} : rep (sI (aU (sI I 134 2 x) 180 f) 134 85 v) I := (rep_scrA rep_t (by decide) f).scr (by decide) v
theorem rgV_le {I : Nat → Nat → Int32} {nr : Nat} {f : Nat → Int32} {v k : Int32} (h : rgV I nr f v) (h0 : 0 ≤ k) (hk : ¬ v ≤ k) : ∃ j, j < 6 ∧ k = nI j := by
  rcases h with ⟨h1, _⟩ | ⟨n, c, hr, h1, _⟩
  · rw [h1] at hk; exact absurd (Int32.le_trans (by decide) h0) hk
  · obtain ⟨j, hj, rfl⟩ := nI_of (Int32.not_lt.mpr h0)
    have hn := hr.2.2.1
    rw [h1, nI_leI (by omega) hj] at hk
    exact ⟨j, by omega, rfl⟩

theorem ct_Mo_ring {sh : List pSh} {I : Nat → Nat → Int32} {L : Nat → Nat → Int64} {P : Nat → Nat → Option Nat} (hA : kA sh P) {nr : Nat} (hr : I 134 15 = nI nr) (hr8 : nr ≤ 8) : pCn m_Mo_ring 3 [.ref 134] sh (I, L, P) (rRing I P nr) := by
  refine pCn_of (by decide +kernel) (Nat.le_of_ble_eq_true rfl) ?_
  refine pw_aload_n (k4 := 0) rfl (by decide +kernel) ?_
  refine pw_iconst (n := 0) (v := 0) (by decide) (by decide +kernel) ?_
  refine pq_putI (c := 11) (k := 2) (ks_m hA) (by decide) (by decide) lf_Mo_175 (Or.inl rfl) (by decide +kernel) ?_
  refine pw_aload_n (k4 := 0) rfl (by decide +kernel) ?_
  refine pq_callV (ν := m_Mo_layRing) (d' := 2) (av := []) (c := 11) (by decide +kernel) lm_Mo_559 ok_Mo_layRing (show _ = some 0 by decide +kernel) (ks_m hA) rfl (by decide) (by omega) (Nat.le_of_ble_eq_true rfl) (ct_Mo_layRing hA (by exact hr) hr8) ?_
  rintro _ _ ⟨rfl, f, v, rfl, hV⟩
  refine pw_aload_n (k4 := 0) rfl (by decide +kernel) ?_
  refine pq_getI (c := 11) (k := 85) (ks_m hA) (by decide) (by decide) lf_Mo_550 (by decide +kernel) ?_
  exact pq_iret rfl (by decide +kernel) ⟨f, v, _, _, rfl, hV, rfl, rep_rg⟩

theorem ct_Mo_good {sh : List pSh} {I : Nat → Nat → Int32} {L : Nat → Nat → Int64} {P : Nat → Nat → Option Nat} (hA : kA sh P) {nr : Nat} (hr : I 134 15 = nI nr) (hr8 : nr ≤ 8) (k : Int32) : pCn m_Mo_good 3 [.ref 134, .int k] sh (I, L, P) (rIf (0 ≤ k) (rGdM I P nr k) (rA (-1) I P)) := by
  refine pCn_of (by decide +kernel) (Nat.le_of_ble_eq_true rfl) ?_
  refine pw_aload_n (k4 := 0) rfl (by decide +kernel) ?_
  refine pw_iconst (n := 0) (v := 0) (by decide) (by decide +kernel) ?_
  refine pq_putI (c := 11) (k := 2) (ks_m hA) (by decide) (by decide) lf_Mo_175 (Or.inl rfl) (by decide +kernel) ?_
  refine pw_iload_n (k4 := 1) rfl (by decide +kernel) ?_
  refine pw_if_ge (off := 5) (tgt := 11) (by decide +kernel) (by decide +kernel) (fun z6 => ?_) (fun z6 => ?_)
  · refine pw_aload_n (k4 := 0) rfl (by decide +kernel) ?_
    refine pq_callV (ν := m_Mo_layRing) (d' := 2) (av := []) (c := 11) (by decide +kernel) lm_Mo_559 ok_Mo_layRing (show _ = some 0 by decide +kernel) (ks_m hA) rfl (by decide) (by omega) (Nat.le_of_ble_eq_true rfl) (ct_Mo_layRing hA (by exact hr) hr8) ?_
    rintro _ _ ⟨rfl, f, v, rfl, hV⟩
    refine pw_iload_n (k4 := 1) rfl (by decide +kernel) ?_
    refine pw_aload_n (k4 := 0) rfl (by decide +kernel) ?_
    refine pq_getI (c := 11) (k := 85) (ks_m hA) (by decide) (by decide) lf_Mo_550 (by decide +kernel) ?_
    refine pw_icmp_lt (off := 8) (tgt := 28) (by decide +kernel) (by decide +kernel) (fun z20 => ?_) (fun z20 => ?_)
    · obtain ⟨j, hj, rfl⟩ := rgV_le hV z6 (Int32.not_le.mpr z20)
      refine pw_aload_n (k4 := 0) rfl (by decide +kernel) ?_
      refine pq_getP (c := 11) (k := 84) (ks_m hA) (by decide) (by decide) (kp_m_ringAt hA) lf_Mo_154 (by decide +kernel) ?_
      refine pw_iload_n (k4 := 1) rfl (by decide +kernel) ?_
      refine pq_iald j rfl (by omega) (by decide) (ks_m_ringAt hA) (by decide +kernel) ?_
      exact pq_iret rfl (by decide +kernel) ⟨fun _ => ⟨f, v, _, _, congrArg (fun z => some (Value.int z)) ((show _ = (if v ≤ nI j then (-2 : Int32) else f (ixn (nI j))) from by rw [if_neg (Int32.not_le.mpr (show nI j < v from z20)), ixn_nI (by omega)]; rfl)), hV, rfl, rep_rg⟩, fun h => absurd z6 h⟩
    · refine pw_bipush (n := -2) (v := -2) (by decide) (by decide +kernel) ?_
      refine pw_goto (off := 9) (tgt := 34) (by decide +kernel) (by decide +kernel) ?_
      exact pq_iret rfl (by decide +kernel) ⟨fun _ => ⟨f, v, _, _, congrArg (fun z => some (Value.int z)) (if_pos (show v ≤ k from Int32.not_lt.mp z20)).symm, hV, rfl, rep_rg⟩, fun h => absurd z6 h⟩
  · refine pw_iconst (n := -1) (v := -1) (by decide) (by decide +kernel) ?_
    exact pq_iret rfl (by decide +kernel) ⟨fun h => absurd h z6, fun _ => ⟨rfl, _, _, rfl, rep_t⟩⟩
