/-! ===== the reference: a run on the bank ===== -/
/-- who runs, too, when so much is left: n looked at -/
def rnx (c : Nat → Nat) (lf b : Nat) : Nat → Nat
  | 0 => b
  | k + 1 => if lf < 2 * c k then rnx c lf b k ||| 2 ^ k else rnx c lf b k
def stN (c : Nat → Nat) (M np b : Nat) : Nat := rnx c (M - sumB c b np) b np
def itN (c : Nat → Nat) (M np b : Nat) : Nat → Nat
  | 0 => b
  | j + 1 => stN c M np (itN c M np b j)
theorem rnx_ge (c : Nat → Nat) (lf b : Nat) : ∀ n, b ≤ rnx c lf b n
  | 0 => Nat.le_refl _
  | n + 1 => by
    unfold rnx
    split
    · exact Nat.le_trans (rnx_ge c lf b n) Nat.left_le_or
    · exact rnx_ge c lf b n
theorem rnx_lt {c : Nat → Nat} {lf b np : Nat} (hb : b < 2 ^ np) : ∀ n, n ≤ np → rnx c lf b n < 2 ^ np
  | 0, _ => hb
  | n + 1, hn => by
    have h1 := rnx_lt (c := c) (lf := lf) hb n (by omega)
    unfold rnx
    split
    · exact Nat.or_lt_two_pow h1 (Nat.pow_lt_pow_right (by decide) (by omega))
    · exact h1
theorem rnx_bit {c : Nat → Nat} {lf b : Nat} (hb : ∀ p, b.testBit p = true → 1 ≤ c p) : ∀ n p, (rnx c lf b n).testBit p = true → 1 ≤ c p
  | 0, p, h => hb p h
  | n + 1, p, h => by
    unfold rnx at h
    split at h
    · rename_i hl
      rw [fb_bit_set] at h
      cases h1 : (rnx c lf b n).testBit p with
      | true => exact rnx_bit hb n p h1
      | false =>
        rw [h1, Bool.false_or, decide_eq_true_eq] at h
        subst h
        omega
    · exact rnx_bit hb n p h
/-- claims as the reference holds them: -1, or 1 to 9 -/
def clM (I : Nat → Nat → Int32) (np : Nat) (c : Nat → Nat) : Prop := (∀ p, p < np → (I 141 p = -1 ∧ c p = 0) ∨ (I 141 p = nI (c p) ∧ 1 ≤ c p)) ∧ (∀ p, c p ≤ 9) ∧ ∀ p, np ≤ p → c p = 0
abbrev yClaims (I : Nat → Nat → Int32) (b : Int32) (np : Nat) : Prop := ¬ b < 0 ∧ b >>> (nI np &&& 31) = 0 ∧ ∀ k, k < np → xBit b k → ¬ I 141 k < 0

theorem ct_Mo_areClaims {sh : List pSh} {I : Nat → Nat → Int32} {L : Nat → Nat → Int64} {P : Nat → Nat → Option Nat} (hA : kA sh P) {np ns nd : Nat} (hm : mOK I np ns nd) (b : Int32) : pCn m_Mo_areClaims 1 [.ref 134, .int b] sh (I, L, P) (rI (B (yClaims I b np)) (I, L, P)) := by
  refine pCn_of (by decide +kernel) (Nat.le_of_ble_eq_true rfl) ?_
  have h5 := hm.2.1
  have hL : ¬ b < 0 → b >>> (nI np &&& 31) = 0 → ∀ k, k ≤ np → (∀ p, p < k → xBit b p → ¬ I 141 p < 0) → pWn m_Mo_areClaims 1 sh (rI (B (yClaims I b np)) (I, L, P)) 17 [some (.ref 134), some (.int b), some (.int (nI k))] [] (I, L, P) := fun h1 h2 => pUpTo np _ (by
    intro k hk ih hP
    refine pw_iload_n (k4 := 2) rfl (by decide +kernel) ?_
    refine pw_aload_n (k4 := 0) rfl (by decide +kernel) ?_
    refine pq_getI (c := 11) (k := 12) (ks_m hA) (by decide) (by decide) lf_Mo_259 (by decide +kernel) ?_
    refine pn_val (nI (np)) hm.1 ?_
    refine pn_icmp_ge (off := 28) (tgt := 50) k np rfl rfl (by omega) (by omega) (by decide +kernel) (by decide +kernel) (fun z22 => ?_) (fun z22 => ?_)
    · have hkn : k = np := by omega
      refine pw_iconst (n := 1) (v := 1) (by decide) (by decide +kernel) ?_
      exact pq_zret rfl (by decide) (by decide +kernel) ⟨congrArg (fun z => some (Value.int z)) (B_t ⟨h1, h2, fun p hp => hP p (by omega)⟩).symm, rfl⟩
    · refine pw_iload_n (k4 := 1) rfl (by decide +kernel) ?_
      refine pw_iload_n (k4 := 2) rfl (by decide +kernel) ?_
      refine pq_callS (ν := m_Mo_isOf) (d' := 0) (av := [_, _]) (by decide +kernel) lm_Mo_457 ok_Mo_isOf (show _ = some 2 by decide +kernel) (by omega) (Nat.le_of_ble_eq_true rfl) (ct_Mo_isOf _ _) ?_
      rintro _ _ ⟨rfl, rfl⟩
      refine pn_ifB_eq (off := 14) (tgt := 44) (by decide +kernel) (by decide +kernel) (fun z30 => ?_) (fun z30 => ?_)
      · refine pn_iinc (i := 2) (n := 1) 1 k rfl rfl (by decide) rfl (by decide +kernel) ?_
        refine pw_goto (off := -30) (tgt := 17) (by decide +kernel) (by decide +kernel) ?_
        exact ih (by omega) (fun p hp => (Nat.lt_succ_iff_lt_or_eq.mp hp).elim (hP p) (fun q => by subst q; exact fun w => absurd w z30))
      · refine pw_aload_n (k4 := 0) rfl (by decide +kernel) ?_
        refine pq_getP (c := 11) (k := 27) (ks_m hA) (by decide) (by decide) (kp_m_claimOf hA) lf_Mo_32 (by decide +kernel) ?_
        refine pw_iload_n (k4 := 2) rfl (by decide +kernel) ?_
        refine pq_iald k rfl (by omega) (by decide) (ks_m_claimOf hA) (by decide +kernel) ?_
        refine pw_if_ge (off := 5) (tgt := 44) (by decide +kernel) (by decide +kernel) (fun z39 => ?_) (fun z39 => ?_)
        · refine pn_iinc (i := 2) (n := 1) 1 k rfl rfl (by decide) rfl (by decide +kernel) ?_
          refine pw_goto (off := -30) (tgt := 17) (by decide +kernel) (by decide +kernel) ?_
          exact ih (by omega) (fun p hp => (Nat.lt_succ_iff_lt_or_eq.mp hp).elim (hP p) (fun q => by subst q; exact fun _ => Int32.not_lt.mpr z39))
        · refine pw_iconst (n := 0) (v := 0) (by decide) (by decide +kernel) ?_
          exact pq_zret rfl (by decide) (by decide +kernel) ⟨congrArg (fun z => some (Value.int z)) (B_f (fun q => q.2.2 k (by omega) z30 (Int32.not_le.mp z39))).symm, rfl⟩
)
  refine pw_iload_n (k4 := 1) rfl (by decide +kernel) ?_
  refine pw_if_lt (off := 12) (tgt := 13) (by decide +kernel) (by decide +kernel) (fun z1 => ?_) (fun z1 => ?_)
  · refine pw_iconst (n := 0) (v := 0) (by decide) (by decide +kernel) ?_
    exact pq_zret rfl (by decide) (by decide +kernel) ⟨congrArg (fun z => some (Value.int z)) (B_f (fun q => q.1 z1)).symm, rfl⟩
  · refine pw_iload_n (k4 := 1) rfl (by decide +kernel) ?_
    refine pw_aload_n (k4 := 0) rfl (by decide +kernel) ?_
    refine pq_getI (c := 11) (k := 12) (ks_m hA) (by decide) (by decide) lf_Mo_259 (by decide +kernel) ?_
    refine pn_val (nI (np)) hm.1 ?_
    refine pw_ishr (by decide +kernel) ?_
    refine pw_if_eq (off := 5) (tgt := 15) (by decide +kernel) (by decide +kernel) (fun z10 => ?_) (fun z10 => ?_)
    · refine pw_iconst (n := 0) (v := 0) (by decide) (by decide +kernel) ?_
      refine pq_istore_n (k4 := 2) (Nat.le_of_ble_eq_true rfl) rfl (by decide +kernel) ?_
      exact hL z1 z10 0 (Nat.zero_le _) (fun p hp => absurd hp (Nat.not_lt_zero _))
    · refine pw_iconst (n := 0) (v := 0) (by decide) (by decide +kernel) ?_
      exact pq_zret rfl (by decide) (by decide +kernel) ⟨congrArg (fun z => some (Value.int z)) (B_f (fun q => z10 q.2.1)).symm, rfl⟩

theorem yOf_ct (I : Nat → Nat → Int32) (b : Nat) (q : Int32) : ∀ n, yOf I b q 1 n = nI (fb_ct (fun s => decide (I 163 (16 * b + s) = q)) n)
  | 0 => rfl
  | n + 1 => by
    by_cases h : I 163 (16 * b + n) = q
    · rw [yOf_y h, yOf_ct I b q n, ct_y (decide_eq_true h), show yOne I b 1 n = 1 from rfl]; exact nI_1 _
    · rw [yOf_n h, yOf_ct I b q n, ct_n (fun w => h (of_decide_eq_true w))]
/-- how many shoes the bank has -/
def bkN (I : Nat → Nat → Int32) (ns : Nat) : Nat := fb_ct (fun s => decide (I 163 (16 * 0 + s) = -1)) ns
def rRn (c : Nat → Nat) (M np b : Nat) (I : Nat → Nat → Int32) (L : Nat → Nat → Int64) (P : Nat → Nat → Option Nat) : Option Value → pM → Prop := fun r Mm => ∃ j ev L', r = some (.int (nI (itN c M np b j))) ∧ itN c M np b j < 2 ^ np ∧ stN c M np (itN c M np b j) = itN c M np b j ∧ Mm = (sI I 134 54 ev, L', P)
theorem sumB_9 {c : Nat → Nat} (h : ∀ p, c p ≤ 9) (b : Nat) {n : Nat} (hn : n ≤ 5) : sumB c b n ≤ 45 := Nat.le_trans (sumB_b h b n) (by omega)

theorem yOf_e (I : Nat → Nat → Int32) (ev : Int32) (b : Nat) (q wh : Int32) : ∀ n, yOf (sI I 134 54 ev) b q wh n = yOf I b q wh n
  | 0 => rfl
  | n + 1 => by
    unfold yOf
    rw [yOf_e I ev b q wh n]
    rfl

set_option maxHeartbeats 4000000 in
theorem ct_Mo_runOf {sh : List pSh} {I : Nat → Nat → Int32} {L : Nat → Nat → Int64} {P : Nat → Nat → Option Nat} (hA : kA sh P) {np ns nd : Nat} (hm : mOK I np ns nd) (hwf : wfL I) (ho : oOK I 0 np ns) {c : Nat → Nat} (hcl : clM I np c) {b0 mo : Nat} (hb0 : b0 < 2 ^ np) (hbb0 : ∀ p, b0.testBit p = true → 1 ≤ c p) (hmo : mo ≤ 64) : pCn m_Mo_runOf 7 [.ref 134, .int (nI b0), .int (nI mo)] sh (I, L, P) (rRn c (bkN I ns + mo) np b0 I L P) := by
  refine pCn_of (by decide +kernel) (Nat.le_of_ble_eq_true rfl) ?_
  have h5 := hm.2.1
  have h16 := hm.2.2.2.1
  have hbk : bkN I ns ≤ 16 := Nat.le_trans (fb_ct_le _ _) h16
  have hb9 := pMeas (fun b => ∀ j, b = itN c (bkN I ns + mo) np b0 j → b < 2 ^ np → (∀ p, b.testBit p = true → 1 ≤ c p) → ∀ (ev : Int32) (L0 : Nat → Nat → Int64), pWn m_Mo_runOf 7 sh (rRn c (bkN I ns + mo) np b0 I L P) 13 [some (.ref 134), some (.int (nI b0)), some (.int (nI mo)), none, some (.int (nI b)), some (.int 1), none, none] [] (sI I 134 54 ev, L0, P)) (fun b => 32 - b) (by
    intro b hb9 j hbj hb hbb ev L0
    have hs32 : 2 ^ np ≤ 2 ^ 5 := Nat.pow_le_pow_right (by decide) h5
    have hs45 : ∀ k, k ≤ np → sumB c b k ≤ 45 := fun k hk => sumB_9 hcl.2.1 b (by omega)
    have hs45n := hs45 np (Nat.le_refl _)
    have hsl : stN c (bkN I ns + mo) np b < 2 ^ np := rnx_lt hb np (Nat.le_refl _)
    have h30 : ∀ (ev : Int32) (L0 : Nat → Nat → Int64), ∀ k, k ≤ np → pWn m_Mo_runOf 7 sh (rRn c (bkN I ns + mo) np b0 I L P) 30 [some (.ref 134), some (.int (nI b0)), some (.int (nI mo)), some (.int (nI b)), some (.int (nI b)), some (.int 1), some (.int (nI (bkN I ns + mo) - nI (sumB c b k))), some (.int (nI k))] [] (sI I 134 54 ev, L0, P) := fun ev L0 => pUpTo np _ (by
      intro k hk ih
      have hsk := hs45 k hk
      have h86 := pUpTo np (fun k => pWn m_Mo_runOf 7 sh (rRn c (bkN I ns + mo) np b0 I L P) 86 [some (.ref 134), some (.int (nI b0)), some (.int (nI mo)), some (.int (nI b)), some (.int (nI (rnx c (bkN I ns + mo - sumB c b np) b k))), some (.int 1), some (.int (nI (bkN I ns + mo - sumB c b np))), some (.int (nI k))] [] (sI I 134 54 ev, L0, P)) (by
        intro k hk ih
        refine pw_iload (i := 7) rfl (by decide +kernel) ?_
        refine pw_aload_n (k4 := 0) rfl (by decide +kernel) ?_
        refine pq_getI (c := 11) (k := 12) (ks_m hA) (by decide) (by decide) lf_Mo_259 (by decide +kernel) ?_
        refine pn_val (nI (np)) hm.1 ?_
        refine pn_icmp_ge (off := 46) (tgt := 138) k np rfl rfl (by omega) (by omega) (by decide +kernel) (by decide +kernel) (fun z92 => ?_) (fun z92 => ?_)
        · have hkn : k = np := by omega
          have hrl := rnx_lt (c := c) (lf := (bkN I ns + mo - sumB c b np)) hb k hk
          refine pw_iload (i := 4) rfl (by decide +kernel) ?_
          refine pw_iload_n (k4 := 3) rfl (by decide +kernel) ?_
          refine pn_icmp_eq (off := 7) (tgt := 148) (rnx c (bkN I ns + mo - sumB c b np) b k) b rfl rfl (by omega) (by omega) (by decide +kernel) (by decide +kernel) (fun z141 => ?_) (fun z141 => ?_)
          · refine pw_iconst (n := 0) (v := 0) (by decide) (by decide +kernel) ?_
            refine pq_istore (i := 5) (Nat.le_of_ble_eq_true rfl) rfl (by decide +kernel) ?_
            refine pw_goto (off := -143) (tgt := 8) (by decide +kernel) (by decide +kernel) ?_
            refine pw_iload (i := 5) rfl (by decide +kernel) ?_
            refine pn_if_eq (off := 144) (tgt := 154) 0 rfl (by omega) (by decide +kernel) (by decide +kernel) (fun z10 => ?_) (fun z10 => ?_)
            · refine pw_iload_n (k4 := 3) rfl (by decide +kernel) ?_
              exact pq_iret rfl (by decide +kernel) ⟨j, ev, L0, by rw [← hbj], by rw [← hbj]; exact hb, by rw [← hbj]; rw [hkn] at z141; exact z141, rfl⟩
            · exact absurd rfl z10
          · refine pw_iconst (n := 1) (v := 1) (by decide) (by decide +kernel) ?_
            refine pw_goto (off := 4) (tgt := 149) (by decide +kernel) (by decide +kernel) ?_
            refine pq_istore (i := 5) (Nat.le_of_ble_eq_true rfl) rfl (by decide +kernel) ?_
            refine pw_goto (off := -143) (tgt := 8) (by decide +kernel) (by decide +kernel) ?_
            refine pw_iload (i := 5) rfl (by decide +kernel) ?_
            refine pn_if_eq (off := 144) (tgt := 154) 1 rfl (by omega) (by decide +kernel) (by decide +kernel) (fun z10 => ?_) (fun z10 => ?_)
            · exact absurd z10 (by decide)
            · rw [hkn] at z141 ⊢
              refine pw_forget [3, 6, 7] (hb9 (stN c (bkN I ns + mo) np b) ?_ (j + 1) (by rw [hbj]; rfl) hsl (rnx_bit hbb np) ev L0)
              have hge := rnx_ge c (bkN I ns + mo - sumB c b np) b np
              have hne : ¬ rnx c (bkN I ns + mo - sumB c b np) b np = b := fun w => z141 w
              show 32 - rnx c (bkN I ns + mo - sumB c b np) b np < 32 - b
              have hs32 : 2 ^ np ≤ 2 ^ 5 := Nat.pow_le_pow_right (by decide) h5
              have : rnx c (bkN I ns + mo - sumB c b np) b np < 2 ^ np := hsl
              omega
        · have hck := hcl.1 k (by omega)
          have hrl := rnx_lt (c := c) (lf := (bkN I ns + mo - sumB c b np)) hb k hk
          refine pw_iload (i := 4) rfl (by decide +kernel) ?_
          refine pw_aload_n (k4 := 0) rfl (by decide +kernel) ?_
          refine pq_getP (c := 11) (k := 27) (ks_m hA) (by decide) (by decide) (kp_m_claimOf hA) lf_Mo_32 (by decide +kernel) ?_
          refine pw_iload (i := 7) rfl (by decide +kernel) ?_
          refine pq_iald k rfl (by omega) (by decide) (ks_m_claimOf hA) (by decide +kernel) ?_
          refine pw_if_lt (off := 24) (tgt := 128) (by decide +kernel) (by decide +kernel) (fun z104 => ?_) (fun z104 => ?_)
          · obtain ⟨_, hc0⟩ := hck.resolve_right (fun w => by have w2 := w.1; rw [show I 141 k = sI I 134 54 ev 141 k from rfl] at w2; rw [w2] at z104; exact nI_pos (by have := hcl.2.1 k; omega) z104)
            refine pw_iconst (n := 0) (v := 0) (by decide) (by decide +kernel) ?_
            refine pw_ior (by decide +kernel) ?_
            refine pq_istore (i := 4) (Nat.le_of_ble_eq_true rfl) rfl (by decide +kernel) ?_
            refine pn_iinc (i := 7) (n := 1) 1 k rfl rfl (by decide) rfl (by decide +kernel) ?_
            refine pw_goto (off := -49) (tgt := 86) (by decide +kernel) (by decide +kernel) ?_
            have w := ih (by omega)
            rw [show rnx c (bkN I ns + mo - sumB c b np) b (k + 1) = _ from if_neg (by omega)] at w
            rw [show nI (rnx c (bkN I ns + mo - sumB c b np) b k) ||| 0 = nI (rnx c (bkN I ns + mo - sumB c b np) b k) from by rw [show (0 : Int32) = nI 0 from rfl, fa_or, Nat.or_zero]]
            exact w
          · obtain ⟨hce, hc1⟩ := hck.resolve_left (fun w => by have w2 := w.1; rw [show I 141 k = sI I 134 54 ev 141 k from rfl] at w2; rw [w2] at z104; exact z104 (by decide))
            have hc9 := hcl.2.1 k
            refine pw_iconst (n := 2) (v := 2) (by decide) (by decide +kernel) ?_
            refine pw_aload_n (k4 := 0) rfl (by decide +kernel) ?_
            refine pq_getP (c := 11) (k := 27) (ks_m hA) (by decide) (by decide) (kp_m_claimOf hA) lf_Mo_32 (by decide +kernel) ?_
            refine pw_iload (i := 7) rfl (by decide +kernel) ?_
            refine pq_iald k rfl (by omega) (by decide) (ks_m_claimOf hA) (by decide +kernel) ?_
            refine pn_val (nI (c k)) hce ?_
            refine pn_imul 2 (c k) rfl rfl (by decide +kernel) ?_
            refine pw_iload (i := 6) rfl (by decide +kernel) ?_
            refine pn_icmp_le (off := 10) (tgt := 128) (2 * (c k)) ((bkN I ns + mo - sumB c b np)) rfl rfl (by omega) (by omega) (by decide +kernel) (by decide +kernel) (fun z118 => ?_) (fun z118 => ?_)
            · refine pw_iconst (n := 0) (v := 0) (by decide) (by decide +kernel) ?_
              refine pw_ior (by decide +kernel) ?_
              refine pq_istore (i := 4) (Nat.le_of_ble_eq_true rfl) rfl (by decide +kernel) ?_
              refine pn_iinc (i := 7) (n := 1) 1 k rfl rfl (by decide) rfl (by decide +kernel) ?_
              refine pw_goto (off := -49) (tgt := 86) (by decide +kernel) (by decide +kernel) ?_
              have w := ih (by omega)
              rw [show rnx c (bkN I ns + mo - sumB c b np) b (k + 1) = _ from if_neg (by omega)] at w
              rw [show nI (rnx c (bkN I ns + mo - sumB c b np) b k) ||| 0 = nI (rnx c (bkN I ns + mo - sumB c b np) b k) from by rw [show (0 : Int32) = nI 0 from rfl, fa_or, Nat.or_zero]]
              exact w
            · refine pw_iconst (n := 1) (v := 1) (by decide) (by decide +kernel) ?_
              refine pw_iload (i := 7) rfl (by decide +kernel) ?_
              refine pw_ishl (by decide +kernel) ?_
              refine pw_goto (off := 4) (tgt := 129) (by decide +kernel) (by decide +kernel) ?_
              refine pw_ior (by decide +kernel) ?_
              refine pq_istore (i := 4) (Nat.le_of_ble_eq_true rfl) rfl (by decide +kernel) ?_
              refine pn_iinc (i := 7) (n := 1) 1 k rfl rfl (by decide) rfl (by decide +kernel) ?_
              refine pw_goto (off := -49) (tgt := 86) (by decide +kernel) (by decide +kernel) ?_
              have w := ih (by omega)
              rw [show rnx c (bkN I ns + mo - sumB c b np) b (k + 1) = _ from if_pos (by omega)] at w
              rw [nI_pow (by omega), fa_or]
              exact w)
      refine pw_iload (i := 7) rfl (by decide +kernel) ?_
      refine pw_aload_n (k4 := 0) rfl (by decide +kernel) ?_
      refine pq_getI (c := 11) (k := 12) (ks_m hA) (by decide) (by decide) lf_Mo_259 (by decide +kernel) ?_
      refine pn_val (nI (np)) hm.1 ?_
      refine pn_icmp_ge (off := 34) (tgt := 70) k np rfl rfl (by omega) (by omega) (by decide +kernel) (by decide +kernel) (fun z36 => ?_) (fun z36 => ?_)
      · obtain hkn : k = np := by omega
        refine pw_iload (i := 6) rfl (by decide +kernel) ?_
        refine pw_if_ge (off := 7) (tgt := 79) (by decide +kernel) (by decide +kernel) (fun z72 => ?_) (fun z72 => ?_)
        · rw [hkn] at z72
          refine pw_iload (i := 6) rfl (by decide +kernel) ?_
          refine pn_val (nI (bkN I ns + mo - sumB c b np)) (by rw [hkn]; rcases Nat.lt_or_ge (bkN I ns + mo) (sumB c b np) with q | q; exact absurd (nI_subneg (by omega) q) (Int32.not_lt.mpr z72); exact pk_sub q) ?_
          refine pq_istore (i := 6) (Nat.le_of_ble_eq_true rfl) rfl (by decide +kernel) ?_
          refine pw_iconst (n := 0) (v := 0) (by decide) (by decide +kernel) ?_
          refine pq_istore (i := 7) (Nat.le_of_ble_eq_true rfl) rfl (by decide +kernel) ?_
          exact h86 0 (Nat.zero_le _)
        · rw [hkn] at z72
          refine pw_iconst (n := 0) (v := 0) (by decide) (by decide +kernel) ?_
          refine pn_val (nI (bkN I ns + mo - sumB c b np)) (by rcases Nat.lt_or_ge (bkN I ns + mo) (sumB c b np) with q | q; rw [show bkN I ns + mo - sumB c b np = 0 by omega]; rfl; exact absurd (Int32.not_le.mp z72) (by rw [pk_sub q]; exact nI_pos (by omega))) ?_
          refine pw_goto (off := 5) (tgt := 81) (by decide +kernel) (by decide +kernel) ?_
          refine pq_istore (i := 6) (Nat.le_of_ble_eq_true rfl) rfl (by decide +kernel) ?_
          refine pw_iconst (n := 0) (v := 0) (by decide) (by decide +kernel) ?_
          refine pq_istore (i := 7) (Nat.le_of_ble_eq_true rfl) rfl (by decide +kernel) ?_
          exact h86 0 (Nat.zero_le _)
      · have hck := hcl.1 k (by omega)
        refine pw_iload (i := 6) rfl (by decide +kernel) ?_
        refine pw_iload_n (k4 := 3) rfl (by decide +kernel) ?_
        refine pw_iload (i := 7) rfl (by decide +kernel) ?_
        refine pq_callS (ν := m_Mo_isOf) (d' := 0) (av := [_, _]) (by decide +kernel) lm_Mo_457 ok_Mo_isOf (show _ = some 2 by decide +kernel) (by omega) (Nat.le_of_ble_eq_true rfl) (ct_Mo_isOf _ _) ?_
        rintro _ _ ⟨rfl, rfl⟩
        refine pn_ifB_eq (off := 13) (tgt := 60) (by decide +kernel) (by decide +kernel) (fun z47 => ?_) (fun z47 => ?_)
        · have hbt : ¬ b.testBit k = true := fun w => z47 ((nbit_1 (show b < 2 ^ 31 by omega) (show k < 31 by omega)).mpr w)
          refine pw_iconst (n := 0) (v := 0) (by decide) (by decide +kernel) ?_
          refine pw_isub (by decide +kernel) ?_
          refine pq_istore (i := 6) (Nat.le_of_ble_eq_true rfl) rfl (by decide +kernel) ?_
          refine pn_iinc (i := 7) (n := 1) 1 k rfl rfl (by decide) rfl (by decide +kernel) ?_
          refine pw_goto (off := -37) (tgt := 30) (by decide +kernel) (by decide +kernel) ?_
          have w := ih (by omega)
          rw [sumB_n hbt] at w
          rw [show nI (bkN I ns + mo) - nI (sumB c b k) - 0 = nI (bkN I ns + mo) - nI (sumB c b k) from Int32.sub_zero _]
          exact w
        · have hbt := (nbit_1 (show b < 2 ^ 31 by omega) (show k < 31 by omega)).mp z47
          have hc1 := hbb k hbt
          obtain ⟨hce, _⟩ := hck.resolve_left (fun w => by omega)
          refine pw_aload_n (k4 := 0) rfl (by decide +kernel) ?_
          refine pq_getP (c := 11) (k := 27) (ks_m hA) (by decide) (by decide) (kp_m_claimOf hA) lf_Mo_32 (by decide +kernel) ?_
          refine pw_iload (i := 7) rfl (by decide +kernel) ?_
          refine pq_iald k rfl (by omega) (by decide) (ks_m_claimOf hA) (by decide +kernel) ?_
          refine pn_val (nI (c k)) hce ?_
          refine pw_goto (off := 4) (tgt := 61) (by decide +kernel) (by decide +kernel) ?_
          refine pw_isub (by decide +kernel) ?_
          refine pq_istore (i := 6) (Nat.le_of_ble_eq_true rfl) rfl (by decide +kernel) ?_
          refine pn_iinc (i := 7) (n := 1) 1 k rfl rfl (by decide) rfl (by decide +kernel) ?_
          refine pw_goto (off := -37) (tgt := 30) (by decide +kernel) (by decide +kernel) ?_
          have w := ih (by omega)
          rw [sumB_y hbt, ← nI_add (sumB c b k) (c k), ← Int32.sub_sub] at w
          exact w)
    refine pw_iload (i := 4) rfl (by decide +kernel) ?_
    refine pq_istore_n (k4 := 3) (Nat.le_of_ble_eq_true rfl) rfl (by decide +kernel) ?_
    refine pw_aload_n (k4 := 0) rfl (by decide +kernel) ?_
    refine pw_iconst (n := 0) (v := 0) (by decide) (by decide +kernel) ?_
    refine pw_iconst (n := -1) (v := -1) (by decide) (by decide +kernel) ?_
    refine pw_iconst (n := 1) (v := 1) (by decide) (by decide +kernel) ?_
    refine pq_callV (ν := m_Mo_ofOne) (d' := 6) (av := [_, _, _]) (c := 11) (by decide +kernel) lm_Mo_443 ok_Mo_ofOne (show _ = some 3 by decide +kernel) (ks_m hA) rfl (by decide) (by omega) (Nat.le_of_ble_eq_true rfl) (ct_Mo_ofOne hA (by exact hm) (b := 0) (by decide) (by exact hwf) (by exact ho) _ _) ?_
    rintro _ _ ⟨rfl, ev2, L2, rfl, hL2⟩
    rw [sI_sI]
    refine pn_val (nI (bkN I ns)) (by rw [yOf_e]; exact yOf_ct I 0 (-1) ns) ?_
    refine pw_iload_n (k4 := 2) rfl (by decide +kernel) ?_
    refine pn_iadd (bkN I ns) mo rfl rfl (by decide +kernel) ?_
    refine pq_istore (i := 6) (Nat.le_of_ble_eq_true rfl) rfl (by decide +kernel) ?_
    refine pw_iconst (n := 0) (v := 0) (by decide) (by decide +kernel) ?_
    refine pq_istore (i := 7) (Nat.le_of_ble_eq_true rfl) rfl (by decide +kernel) ?_
    have w := h30 ev2 L2 0 (Nat.zero_le _)
    rw [show nI (bkN I ns + mo) - nI (sumB c b 0) = nI (bkN I ns + mo) from Int32.sub_zero _] at w
    exact w
)
  refine pw_iload_n (k4 := 1) rfl (by decide +kernel) ?_
  refine pq_istore_n (k4 := 3) (Nat.le_of_ble_eq_true rfl) rfl (by decide +kernel) ?_
  refine pw_iload_n (k4 := 1) rfl (by decide +kernel) ?_
  refine pq_istore (i := 4) (Nat.le_of_ble_eq_true rfl) rfl (by decide +kernel) ?_
  refine pw_iconst (n := 1) (v := 1) (by decide) (by decide +kernel) ?_
  refine pq_istore (i := 5) (Nat.le_of_ble_eq_true rfl) rfl (by decide +kernel) ?_
  refine pw_iload (i := 5) rfl (by decide +kernel) ?_
  refine pn_if_eq (off := 144) (tgt := 154) 1 rfl (by omega) (by decide +kernel) (by decide +kernel) (fun z10 => ?_) (fun z10 => ?_)
  · exact absurd z10 (by omega)
  · have w := hb9 b0 0 rfl hb0 hbb0 (I 134 54) L
    rw [sI_same] at w
    exact pw_forget [3] w
