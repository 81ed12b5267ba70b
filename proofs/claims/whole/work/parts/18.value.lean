/-! ===== the value of a law ===== -/
theorem pw_forget {μ : pMeth} {d NC NS : Nat} {Q : Option Value → pH → Prop} {pc : Nat} {ls : List (Option Value)} {st : List Value} {h : pH} (is : List Nat) (k : pWP μ d NC NS Q pc (is.foldl (fun l i => l.set i none) ls) st h) : pWP μ d NC NS Q pc ls st h := by
  induction is generalizing ls with
  | nil => exact k
  | cons i is ih =>
    have k2 := ih (ls := ls.set i none) k
    intro p l e s m args below meth c D dA b base H locs arr mc ms cells slots nc ns C R S B L e1 e2 e3 e4
    refine k2 p l e s m args below meth c D dA b base H locs arr mc ms cells slots nc ns C R S B ⟨⟨L.1.1, L.1.2.1, fun q hq => ?_⟩, by rw [List.length_set]; exact L.2⟩ e1 e2 e3 e4
    obtain ⟨j, w⟩ := q
    obtain ⟨v, hv, rfl⟩ := pLv_mem.mp hq
    rcases pSet_get hv with ⟨_, h0⟩ | ⟨_, h0⟩
    · cases h0
    · exact L.1.2.2 _ (pLv_mem.mpr ⟨v, h0, rfl⟩)
def aL (L : Nat → Nat → Int64) (a : Nat) (f : Nat → Int64) : Nat → Nat → Int64 := va_up L a f
theorem sL_aL (L : Nat → Nat → Int64) (a k : Nat) (x : Int64) : sL L a k x = aL L a (vp_updL (L a) k x) := rfl
theorem aL_eq (L : Nat → Nat → Int64) (a : Nat) (f : Nat → Int64) : aL L a f a = f := va_up_eq2 _ _ _
theorem aL_ne {L : Nat → Nat → Int64} {a b : Nat} {f : Nat → Int64} (h : b ≠ a) : aL L a f b = L b := va_up_ne2 _ _ h
theorem aL_aL (L : Nat → Nat → Int64) (a : Nat) (f g : Nat → Int64) : aL (aL L a f) a g = aL L a g := by
  funext b
  by_cases h : b = a
  · subst h; rw [aL_eq, aL_eq]
  · rw [aL_ne h, aL_ne h, aL_ne h]
theorem aL_self (L : Nat → Nat → Int64) (a : Nat) : aL L a (L a) = L := by
  funext b
  by_cases h : b = a
  · subst h; rw [aL_eq]
  · rw [aL_ne h]
theorem sL_aL2 (L : Nat → Nat → Int64) (a k : Nat) (f : Nat → Int64) (x : Int64) : sL (aL L a f) a k x = aL L a (vp_updL f k x) := by rw [sL_aL, aL_aL, aL_eq]
/-- the class's reckoning: j knots from i on, the stack f of top values -/
def xEv (c v : Nat → Int32) (nm : Nat → Int64) : Nat → Nat → (Nat → Int64) → Nat → Int64
  | 0, _, f, top => if top = 1 then f 0 else ERR
  | j + 1, i, f, top =>
    if c i = 26 ∨ c i = 25 then (if 64 ≤ top then ERR else xEv c v nm j (i + 1) (vp_updL f top (if c i = 26 then (v i).toInt64 else xName nm (v i))) (top + 1))
    else if c i = 18 then (if top < 1 then ERR else xEv c v nm j (i + 1) (vp_updL f (top - 1) (if f (top - 1) = 0 then 1 else 0)) top)
    else if top < 2 then ERR
    else if 1000000000000 < xJoin (c i) (f (top - 2)) (f (top - 1)) ∨ xJoin (c i) (f (top - 2)) (f (top - 1)) < -1000000000000 then ERR
    else xEv c v nm j (i + 1) (vp_updL f (top - 2) (xJoin (c i) (f (top - 2)) (f (top - 1)))) (top - 1)
def rLs (v : Int64) (I : Nat → Nat → Int32) (L : Nat → Nat → Int64) (P : Nat → Nat → Option Nat) (a : Nat) : Option Value → pM → Prop := fun r M => r = some (.long v) ∧ ∃ g, M = (I, aL L a g, P)
theorem nS1 {n : Nat} (h : 1 ≤ n) : nI n - 1 = nI (n - 1) := pk_sub (a := n) (b := 1) h
/-- where the three laws lie in the rows of the tale at t -/
def lOK (I : Nat → Nat → Int32) (t : Nat) : Prop := ∀ r, r < 3 → ∃ b e : Nat, I (t + 22) r = nI b ∧ I (t + 23) r = nI e ∧ b ≤ e ∧ e ≤ 64
def xVal (I : Nat → Nat → Int32) (L : Nat → Nat → Int64) (t r : Nat) : Int64 := if I (t + 24) r = 0 then ERR else xEv (I (t + 20)) (I (t + 21)) (L (t + 25)) (ixn (I (t + 23) r) - ixn (I (t + 22) r)) (ixn (I (t + 22) r)) (L (t + 26)) 0

set_option maxHeartbeats 1000000 in
theorem ct_La_valueOf {sh : List pSh} {I : Nat → Nat → Int32} {L : Nat → Nat → Int64} {P : Nat → Nat → Option Nat} (hA : kA sh P) {t : Nat} (ht : t = 3 ∨ t = 30) (hl : lOK I t) {r : Nat} (hr : r < 3) : pCn m_La_valueOf 1 [.ref (t + 19), .int (nI r)] sh (I, L, P) (rLs (xVal I L t r) I L P (t + 26)) := by
  refine pCn_of (by decide +kernel) (Nat.le_of_ble_eq_true rfl) ?_
  obtain ⟨b0, e0, hb, he, hbe, he6⟩ := hl r hr
  have hloop := pDown (fun j => ∀ (i : Nat) (f : Nat → Int64) (top : Nat), i + j = e0 → top ≤ 64 → xEv (I (t + 20)) (I (t + 21)) (L (t + 25)) j i f top = xVal I L t r → pWn m_La_valueOf 1 sh (rLs (xVal I L t r) I L P (t + 26)) 21 [some (.ref (t + 19)), some (.int (nI r)), some (.int (nI top)), some (.int (nI i)), none, none, none] [] (I, aL L (t + 26) f, P)) (by
    intro j ih i f top hij htop hV
    refine pw_iload_n (k4 := 3) rfl (by decide +kernel) ?_
    refine pw_aload_n (k4 := 0) rfl (by decide +kernel) ?_
    refine pq_getP (c := 2) (k := 5) (ks_t_laws hA ht) (by decide) (by decide) (kp_t_laws_to hA ht) lf_La_21 (by decide +kernel) ?_
    refine pw_iload_n (k4 := 1) rfl (by decide +kernel) ?_
    refine pq_iald r rfl hr (by decide) (ks_t_laws_to hA ht) (by decide +kernel) ?_
    refine pw_icmp_ge (off := 196) (tgt := 224) (by decide +kernel) (by decide +kernel) (fun z28 => ?_) (fun z28 => ?_)
    · rw [he, cLe rfl rfl (by omega) (by omega)] at z28
      obtain rfl : j = 0 := by omega
      refine pw_iload_n (k4 := 2) rfl (by decide +kernel) ?_
      refine pw_iconst (n := 1) (v := 1) (by decide) (by decide +kernel) ?_
      refine pw_icmp_ne (off := 12) (tgt := 238) (by decide +kernel) (by decide +kernel) (fun z226 => ?_) (fun z226 => ?_)
      · refine pw_ldc2 lc_La_46 (by decide +kernel) ?_
        exact pq_lret rfl (by decide +kernel) ⟨congrArg (fun z => some (Value.long z)) (by rw [← hV]; exact (if_neg (fun q => z226 (by rw [q]; rfl))).symm), f, rfl⟩
      · refine pw_aload_n (k4 := 0) rfl (by decide +kernel) ?_
        refine pq_getP (c := 2) (k := 8) (ks_t_laws hA ht) (by decide) (by decide) (kp_t_laws_stack hA ht) lf_La_32 (by decide +kernel) ?_
        refine pw_iconst (n := 0) (v := 0) (by decide) (by decide +kernel) ?_
        refine pq_lald 0 rfl (by decide) (by decide) (ks_t_laws_stack hA ht) (by decide +kernel) ?_
        refine pw_goto (off := 6) (tgt := 241) (by decide +kernel) (by decide +kernel) ?_
        exact pq_lret rfl (by decide +kernel) ⟨congrArg (fun z => some (Value.long z)) (by rw [← hV, aL_eq]; exact (if_pos (by rw [cEq rfl (show (1 : Int32) = nI 1 from rfl) (by omega) (by omega)] at z226; exact z226)).symm), f, rfl⟩
    · rw [he, cLe rfl rfl (by omega) (by omega)] at z28
      obtain ⟨j', rfl⟩ : ∃ j', j = j' + 1 := ⟨j - 1, by omega⟩
      replace ih := ih j' rfl
      unfold xEv at hV
      refine pw_iload_n (k4 := 3) rfl (by decide +kernel) ?_
      refine pw_bipush (n := 64) (v := 64) (by decide) (by decide +kernel) ?_
      refine pw_icmp_ge (off := 190) (tgt := 224) (by decide +kernel) (by decide +kernel) (fun z34 => ?_) (fun z34 => ?_)
      · exact absurd z34 (by rw [cLe (show (64 : Int32) = nI 64 from rfl) rfl (by omega) (by omega)]; omega)
      · refine pw_aload_n (k4 := 0) rfl (by decide +kernel) ?_
        refine pq_getP (c := 2) (k := 2) (ks_t_laws hA ht) (by decide) (by decide) (kp_t_laws_code hA ht) lf_La_9 (by decide +kernel) ?_
        refine pw_iload_n (k4 := 3) rfl (by decide +kernel) ?_
        refine pq_iald i rfl (by omega) (by decide) (ks_t_laws_code hA ht) (by decide +kernel) ?_
        refine pw_istore (i := 4) (Nat.le_of_ble_eq_true rfl) (by decide +kernel) ?_
        refine pw_iload (i := 4) rfl (by decide +kernel) ?_
        refine pw_bipush (n := 26) (v := 26) (by decide) (by decide +kernel) ?_
        refine pw_icmp_eq (off := 10) (tgt := 59) (by decide +kernel) (by decide +kernel) (fun z49 => ?_) (fun z49 => ?_)
        · rw [if_pos (Or.inl z49)] at hV
          refine pw_iload_n (k4 := 2) rfl (by decide +kernel) ?_
          refine pw_bipush (n := 64) (v := 64) (by decide) (by decide +kernel) ?_
          refine pw_icmp_lt (off := 7) (tgt := 69) (by decide +kernel) (by decide +kernel) (fun z62 => ?_) (fun z62 => ?_)
          · rw [cLt rfl (show (64 : Int32) = nI 64 from rfl) (by omega) (by omega)] at z62
            rw [if_neg (by omega)] at hV
            refine pw_aload_n (k4 := 0) rfl (by decide +kernel) ?_
            refine pq_getP (c := 2) (k := 8) (ks_t_laws hA ht) (by decide) (by decide) (kp_t_laws_stack hA ht) lf_La_32 (by decide +kernel) ?_
            refine pw_iload_n (k4 := 2) rfl (by decide +kernel) ?_
            refine pw_iload (i := 4) rfl (by decide +kernel) ?_
            refine pw_bipush (n := 26) (v := 26) (by decide) (by decide +kernel) ?_
            refine pw_icmp_ne (off := 13) (tgt := 91) (by decide +kernel) (by decide +kernel) (fun z78 => ?_) (fun z78 => ?_)
            · rw [if_neg z78] at hV
              refine pw_aload_n (k4 := 0) rfl (by decide +kernel) ?_
              refine pw_aload_n (k4 := 0) rfl (by decide +kernel) ?_
              refine pq_getP (c := 2) (k := 3) (ks_t_laws hA ht) (by decide) (by decide) (kp_t_laws_number hA ht) lf_La_15 (by decide +kernel) ?_
              refine pw_iload_n (k4 := 3) rfl (by decide +kernel) ?_
              refine pq_iald i rfl (by omega) (by decide) (ks_t_laws_number hA ht) (by decide +kernel) ?_
              refine pq_callV (ν := m_La_nameAt) (d' := 0) (av := [_]) (c := 2) (by decide +kernel) lm_La_48 ok_La_nameAt (show _ = some 1 by decide +kernel) (ks_t_laws hA ht) rfl (by decide) (by omega) (Nat.le_of_ble_eq_true rfl) (ct_La_nameAt hA ht _) ?_
              rintro _ _ ⟨rfl, rfl⟩
              refine pq_last top rfl (by omega) (by decide) (ks_t_laws_stack hA ht) (by decide +kernel) ?_
              refine pw_iincK (i := 2) (n := 1) (1) rfl (by decide) (by decide +kernel) ?_
              refine pw_goto (off := 113) (tgt := 218) (by decide +kernel) (by decide +kernel) ?_
              refine pw_iincK (i := 3) (n := 1) (1) rfl (by decide) (by decide +kernel) ?_
              refine pw_goto (off := -200) (tgt := 21) (by decide +kernel) (by decide +kernel) ?_
              rw [sL_aL2]
              simp only [aL_eq, aL_ne (show t + 25 ≠ t + 26 by omega), ← nI_succ]
              exact pw_forget [4] (ih (i + 1) _ (top + 1) (by omega) (by omega) hV)
            · rw [if_pos z78] at hV
              refine pw_aload_n (k4 := 0) rfl (by decide +kernel) ?_
              refine pq_getP (c := 2) (k := 3) (ks_t_laws hA ht) (by decide) (by decide) (kp_t_laws_number hA ht) lf_La_15 (by decide +kernel) ?_
              refine pw_iload_n (k4 := 3) rfl (by decide +kernel) ?_
              refine pq_iald i rfl (by omega) (by decide) (ks_t_laws_number hA ht) (by decide +kernel) ?_
              refine pw_i2l (by decide +kernel) ?_
              refine pw_goto (off := 13) (tgt := 101) (by decide +kernel) (by decide +kernel) ?_
              refine pq_last top rfl (by omega) (by decide) (ks_t_laws_stack hA ht) (by decide +kernel) ?_
              refine pw_iincK (i := 2) (n := 1) (1) rfl (by decide) (by decide +kernel) ?_
              refine pw_goto (off := 113) (tgt := 218) (by decide +kernel) (by decide +kernel) ?_
              refine pw_iincK (i := 3) (n := 1) (1) rfl (by decide) (by decide +kernel) ?_
              refine pw_goto (off := -200) (tgt := 21) (by decide +kernel) (by decide +kernel) ?_
              rw [sL_aL2]
              simp only [aL_eq, aL_ne (show t + 25 ≠ t + 26 by omega), ← nI_succ]
              exact pw_forget [4] (ih (i + 1) _ (top + 1) (by omega) (by omega) hV)
          · rw [cLt rfl (show (64 : Int32) = nI 64 from rfl) (by omega) (by omega)] at z62
            rw [if_pos (by omega)] at hV
            refine pw_ldc2 lc_La_46 (by decide +kernel) ?_
            exact pq_lret rfl (by decide +kernel) ⟨congrArg (fun z => some (Value.long z)) hV, f, rfl⟩
        · refine pw_iload (i := 4) rfl (by decide +kernel) ?_
          refine pw_bipush (n := 25) (v := 25) (by decide) (by decide +kernel) ?_
          refine pw_icmp_ne (off := 52) (tgt := 108) (by decide +kernel) (by decide +kernel) (fun z56 => ?_) (fun z56 => ?_)
          · rw [if_neg (fun q => q.elim z49 z56)] at hV
            refine pw_iload (i := 4) rfl (by decide +kernel) ?_
            refine pw_bipush (n := 18) (v := 18) (by decide) (by decide +kernel) ?_
            refine pw_icmp_ne (off := 41) (tgt := 153) (by decide +kernel) (by decide +kernel) (fun z112 => ?_) (fun z112 => ?_)
            · rw [if_neg z112] at hV
              refine pw_iload_n (k4 := 2) rfl (by decide +kernel) ?_
              refine pw_iconst (n := 2) (v := 2) (by decide) (by decide +kernel) ?_
              refine pw_icmp_ge (off := 7) (tgt := 162) (by decide +kernel) (by decide +kernel) (fun z155 => ?_) (fun z155 => ?_)
              · rw [cLe (show (2 : Int32) = nI 2 from rfl) rfl (by omega) (by omega)] at z155
                rw [if_neg (by omega)] at hV
                refine pw_iincK (i := 2) (n := -1) (-1) rfl (by decide) (by decide +kernel) ?_
                rw [sb_m1 (show 0 < top by omega)]
                refine pw_iload (i := 4) rfl (by decide +kernel) ?_
                refine pw_aload_n (k4 := 0) rfl (by decide +kernel) ?_
                refine pq_getP (c := 2) (k := 8) (ks_t_laws hA ht) (by decide) (by decide) (kp_t_laws_stack hA ht) lf_La_32 (by decide +kernel) ?_
                refine pw_iload_n (k4 := 2) rfl (by decide +kernel) ?_
                refine pw_iconst (n := 1) (v := 1) (by decide) (by decide +kernel) ?_
                refine pw_isub (by decide +kernel) ?_
                refine pq_lald (top - 2) (by rw [nS1 (by omega)]; rfl) (by omega) (by decide) (ks_t_laws_stack hA ht) (by decide +kernel) ?_
                refine pw_aload_n (k4 := 0) rfl (by decide +kernel) ?_
                refine pq_getP (c := 2) (k := 8) (ks_t_laws hA ht) (by decide) (by decide) (kp_t_laws_stack hA ht) lf_La_32 (by decide +kernel) ?_
                refine pw_iload_n (k4 := 2) rfl (by decide +kernel) ?_
                refine pq_lald (top - 1) rfl (by omega) (by decide) (ks_t_laws_stack hA ht) (by decide +kernel) ?_
                refine pq_callS (ν := m_La_join) (d' := 0) (av := [_, _, _]) (by decide +kernel) lm_La_52 ok_La_join (show _ = some 3 by decide +kernel) (by omega) (Nat.le_of_ble_eq_true rfl) (ct_La_join _ _ _) ?_
                rintro _ _ ⟨rfl, rfl⟩
                refine pw_lstore (i := 5) (Nat.le_of_ble_eq_true rfl) (by decide +kernel) ?_
                refine pw_lload (i := 5) rfl (by decide +kernel) ?_
                refine pw_ldc2 lc_La_56 (by decide +kernel) ?_
                refine pw_lcmp (by decide +kernel) ?_
                refine pw_if_gt (off := 12) (tgt := 204) (by decide +kernel) (by decide +kernel) (fun z192 => ?_) (fun z192 => ?_)
                · rw [lgt, aL_eq] at z192
                  rw [if_pos (Or.inl z192)] at hV
                  refine pw_ldc2 lc_La_46 (by decide +kernel) ?_
                  exact pq_lret rfl (by decide +kernel) ⟨congrArg (fun z => some (Value.long z)) hV, f, rfl⟩
                · rw [lgt, aL_eq] at z192
                  refine pw_lload (i := 5) rfl (by decide +kernel) ?_
                  refine pw_ldc2 lc_La_58 (by decide +kernel) ?_
                  refine pw_lcmp (by decide +kernel) ?_
                  refine pw_if_ge (off := 7) (tgt := 208) (by decide +kernel) (by decide +kernel) (fun z201 => ?_) (fun z201 => ?_)
                  · rw [lg_cmp_ge, aL_eq] at z201
                    rw [if_neg (fun q => q.elim z192 (Int64.not_lt.mpr z201))] at hV
                    refine pw_aload_n (k4 := 0) rfl (by decide +kernel) ?_
                    refine pq_getP (c := 2) (k := 8) (ks_t_laws hA ht) (by decide) (by decide) (kp_t_laws_stack hA ht) lf_La_32 (by decide +kernel) ?_
                    refine pw_iload_n (k4 := 2) rfl (by decide +kernel) ?_
                    refine pw_iconst (n := 1) (v := 1) (by decide) (by decide +kernel) ?_
                    refine pw_isub (by decide +kernel) ?_
                    refine pw_lload (i := 5) rfl (by decide +kernel) ?_
                    refine pq_last (top - 2) (by rw [nS1 (by omega)]; rfl) (by omega) (by decide) (ks_t_laws_stack hA ht) (by decide +kernel) ?_
                    refine pw_iincK (i := 3) (n := 1) (1) rfl (by decide) (by decide +kernel) ?_
                    refine pw_goto (off := -200) (tgt := 21) (by decide +kernel) (by decide +kernel) ?_
                    rw [sL_aL2]
                    simp only [aL_eq, aL_ne (show t + 25 ≠ t + 26 by omega), ← nI_succ]
                    exact pw_forget [4, 5] (ih (i + 1) _ (top - 1) (by omega) (by omega) hV)
                  · rw [lg_cmp_ge, aL_eq] at z201
                    rw [if_pos (Or.inr (Int64.not_le.mp z201))] at hV
                    refine pw_ldc2 lc_La_46 (by decide +kernel) ?_
                    exact pq_lret rfl (by decide +kernel) ⟨congrArg (fun z => some (Value.long z)) hV, f, rfl⟩
              · rw [cLe (show (2 : Int32) = nI 2 from rfl) rfl (by omega) (by omega)] at z155
                rw [if_pos (by omega)] at hV
                refine pw_ldc2 lc_La_46 (by decide +kernel) ?_
                exact pq_lret rfl (by decide +kernel) ⟨congrArg (fun z => some (Value.long z)) hV, f, rfl⟩
            · rw [if_pos z112] at hV
              refine pw_iload_n (k4 := 2) rfl (by decide +kernel) ?_
              refine pw_iconst (n := 1) (v := 1) (by decide) (by decide +kernel) ?_
              refine pw_icmp_ge (off := 7) (tgt := 124) (by decide +kernel) (by decide +kernel) (fun z117 => ?_) (fun z117 => ?_)
              · rw [cLe (show (1 : Int32) = nI 1 from rfl) rfl (by omega) (by omega)] at z117
                rw [if_neg (by omega)] at hV
                refine pw_aload_n (k4 := 0) rfl (by decide +kernel) ?_
                refine pq_getP (c := 2) (k := 8) (ks_t_laws hA ht) (by decide) (by decide) (kp_t_laws_stack hA ht) lf_La_32 (by decide +kernel) ?_
                refine pw_iload_n (k4 := 2) rfl (by decide +kernel) ?_
                refine pw_iconst (n := 1) (v := 1) (by decide) (by decide +kernel) ?_
                refine pw_isub (by decide +kernel) ?_
                refine pw_aload_n (k4 := 0) rfl (by decide +kernel) ?_
                refine pq_getP (c := 2) (k := 8) (ks_t_laws hA ht) (by decide) (by decide) (kp_t_laws_stack hA ht) lf_La_32 (by decide +kernel) ?_
                refine pw_iload_n (k4 := 2) rfl (by decide +kernel) ?_
                refine pw_iconst (n := 1) (v := 1) (by decide) (by decide +kernel) ?_
                refine pw_isub (by decide +kernel) ?_
                refine pq_lald (top - 1) (nS1 (by omega)) (by omega) (by decide) (ks_t_laws_stack hA ht) (by decide +kernel) ?_
                refine pw_lconst (n := 0) (v := 0) (by decide) (by decide +kernel) ?_
                refine pw_lcmp (by decide +kernel) ?_
                refine pw_if_ne (off := 7) (tgt := 148) (by decide +kernel) (by decide +kernel) (fun z141 => ?_) (fun z141 => ?_)
                · rw [lge, aL_eq] at z141
                  rw [if_neg z141] at hV
                  refine pw_lconst (n := 0) (v := 0) (by decide) (by decide +kernel) ?_
                  refine pq_last (top - 1) (nS1 (by omega)) (by omega) (by decide) (ks_t_laws_stack hA ht) (by decide +kernel) ?_
                  refine pw_goto (off := 68) (tgt := 218) (by decide +kernel) (by decide +kernel) ?_
                  refine pw_iincK (i := 3) (n := 1) (1) rfl (by decide) (by decide +kernel) ?_
                  refine pw_goto (off := -200) (tgt := 21) (by decide +kernel) (by decide +kernel) ?_
                  rw [sL_aL2]
                  simp only [aL_eq, aL_ne (show t + 25 ≠ t + 26 by omega), ← nI_succ]
                  exact pw_forget [4] (ih (i + 1) _ top (by omega) (by omega) hV)
                · rw [lge, aL_eq] at z141
                  rw [if_pos z141] at hV
                  refine pw_lconst (n := 1) (v := 1) (by decide) (by decide +kernel) ?_
                  refine pw_goto (off := 4) (tgt := 149) (by decide +kernel) (by decide +kernel) ?_
                  refine pq_last (top - 1) (nS1 (by omega)) (by omega) (by decide) (ks_t_laws_stack hA ht) (by decide +kernel) ?_
                  refine pw_goto (off := 68) (tgt := 218) (by decide +kernel) (by decide +kernel) ?_
                  refine pw_iincK (i := 3) (n := 1) (1) rfl (by decide) (by decide +kernel) ?_
                  refine pw_goto (off := -200) (tgt := 21) (by decide +kernel) (by decide +kernel) ?_
                  rw [sL_aL2]
                  simp only [aL_eq, aL_ne (show t + 25 ≠ t + 26 by omega), ← nI_succ]
                  exact pw_forget [4] (ih (i + 1) _ top (by omega) (by omega) hV)
              · rw [cLe (show (1 : Int32) = nI 1 from rfl) rfl (by omega) (by omega)] at z117
                rw [if_pos (by omega)] at hV
                refine pw_ldc2 lc_La_46 (by decide +kernel) ?_
                exact pq_lret rfl (by decide +kernel) ⟨congrArg (fun z => some (Value.long z)) hV, f, rfl⟩
          · rw [if_pos (Or.inr z56)] at hV
            refine pw_iload_n (k4 := 2) rfl (by decide +kernel) ?_
            refine pw_bipush (n := 64) (v := 64) (by decide) (by decide +kernel) ?_
            refine pw_icmp_lt (off := 7) (tgt := 69) (by decide +kernel) (by decide +kernel) (fun z62 => ?_) (fun z62 => ?_)
            · rw [cLt rfl (show (64 : Int32) = nI 64 from rfl) (by omega) (by omega)] at z62
              rw [if_neg (by omega)] at hV
              refine pw_aload_n (k4 := 0) rfl (by decide +kernel) ?_
              refine pq_getP (c := 2) (k := 8) (ks_t_laws hA ht) (by decide) (by decide) (kp_t_laws_stack hA ht) lf_La_32 (by decide +kernel) ?_
              refine pw_iload_n (k4 := 2) rfl (by decide +kernel) ?_
              refine pw_iload (i := 4) rfl (by decide +kernel) ?_
              refine pw_bipush (n := 26) (v := 26) (by decide) (by decide +kernel) ?_
              refine pw_icmp_ne (off := 13) (tgt := 91) (by decide +kernel) (by decide +kernel) (fun z78 => ?_) (fun z78 => ?_)
              · rw [if_neg z78] at hV
                refine pw_aload_n (k4 := 0) rfl (by decide +kernel) ?_
                refine pw_aload_n (k4 := 0) rfl (by decide +kernel) ?_
                refine pq_getP (c := 2) (k := 3) (ks_t_laws hA ht) (by decide) (by decide) (kp_t_laws_number hA ht) lf_La_15 (by decide +kernel) ?_
                refine pw_iload_n (k4 := 3) rfl (by decide +kernel) ?_
                refine pq_iald i rfl (by omega) (by decide) (ks_t_laws_number hA ht) (by decide +kernel) ?_
                refine pq_callV (ν := m_La_nameAt) (d' := 0) (av := [_]) (c := 2) (by decide +kernel) lm_La_48 ok_La_nameAt (show _ = some 1 by decide +kernel) (ks_t_laws hA ht) rfl (by decide) (by omega) (Nat.le_of_ble_eq_true rfl) (ct_La_nameAt hA ht _) ?_
                rintro _ _ ⟨rfl, rfl⟩
                refine pq_last top rfl (by omega) (by decide) (ks_t_laws_stack hA ht) (by decide +kernel) ?_
                refine pw_iincK (i := 2) (n := 1) (1) rfl (by decide) (by decide +kernel) ?_
                refine pw_goto (off := 113) (tgt := 218) (by decide +kernel) (by decide +kernel) ?_
                refine pw_iincK (i := 3) (n := 1) (1) rfl (by decide) (by decide +kernel) ?_
                refine pw_goto (off := -200) (tgt := 21) (by decide +kernel) (by decide +kernel) ?_
                rw [sL_aL2]
                simp only [aL_eq, aL_ne (show t + 25 ≠ t + 26 by omega), ← nI_succ]
                exact pw_forget [4] (ih (i + 1) _ (top + 1) (by omega) (by omega) hV)
              · rw [if_pos z78] at hV
                refine pw_aload_n (k4 := 0) rfl (by decide +kernel) ?_
                refine pq_getP (c := 2) (k := 3) (ks_t_laws hA ht) (by decide) (by decide) (kp_t_laws_number hA ht) lf_La_15 (by decide +kernel) ?_
                refine pw_iload_n (k4 := 3) rfl (by decide +kernel) ?_
                refine pq_iald i rfl (by omega) (by decide) (ks_t_laws_number hA ht) (by decide +kernel) ?_
                refine pw_i2l (by decide +kernel) ?_
                refine pw_goto (off := 13) (tgt := 101) (by decide +kernel) (by decide +kernel) ?_
                refine pq_last top rfl (by omega) (by decide) (ks_t_laws_stack hA ht) (by decide +kernel) ?_
                refine pw_iincK (i := 2) (n := 1) (1) rfl (by decide) (by decide +kernel) ?_
                refine pw_goto (off := 113) (tgt := 218) (by decide +kernel) (by decide +kernel) ?_
                refine pw_iincK (i := 3) (n := 1) (1) rfl (by decide) (by decide +kernel) ?_
                refine pw_goto (off := -200) (tgt := 21) (by decide +kernel) (by decide +kernel) ?_
                rw [sL_aL2]
                simp only [aL_eq, aL_ne (show t + 25 ≠ t + 26 by omega), ← nI_succ]
                exact pw_forget [4] (ih (i + 1) _ (top + 1) (by omega) (by omega) hV)
            · rw [cLt rfl (show (64 : Int32) = nI 64 from rfl) (by omega) (by omega)] at z62
              rw [if_pos (by omega)] at hV
              refine pw_ldc2 lc_La_46 (by decide +kernel) ?_
              exact pq_lret rfl (by decide +kernel) ⟨congrArg (fun z => some (Value.long z)) hV, f, rfl⟩
)
  refine pw_aload_n (k4 := 0) rfl (by decide +kernel) ?_
  refine pw_iload_n (k4 := 1) rfl (by decide +kernel) ?_
  refine pq_callV (ν := m_La_isTold) (d' := 0) (av := [_]) (c := 2) (by decide +kernel) lm_La_42 ok_La_isTold (show _ = some 1 by decide +kernel) (ks_t_laws hA ht) rfl (by decide) (by omega) (Nat.le_of_ble_eq_true rfl) (ct_La_isTold hA ht _) ?_
  rintro _ _ ⟨rfl, rfl⟩
  refine pw_if_ne (off := 7) (tgt := 12) (by decide +kernel) (by decide +kernel) (fun z5 => ?_) (fun z5 => ?_)
  · have hz := B_ne.mp z5
    rw [ixn_nI (by omega)] at hz
    refine pw_iconst (n := 0) (v := 0) (by decide) (by decide +kernel) ?_
    refine pw_istore_n (k4 := 2) (Nat.le_of_ble_eq_true rfl) (by decide +kernel) ?_
    refine pw_aload_n (k4 := 0) rfl (by decide +kernel) ?_
    refine pq_getP (c := 2) (k := 4) (ks_t_laws hA ht) (by decide) (by decide) (kp_t_laws_from hA ht) lf_La_18 (by decide +kernel) ?_
    refine pw_iload_n (k4 := 1) rfl (by decide +kernel) ?_
    refine pq_iald r rfl hr (by decide) (ks_t_laws_from hA ht) (by decide +kernel) ?_
    refine pw_istore_n (k4 := 3) (Nat.le_of_ble_eq_true rfl) (by decide +kernel) ?_
    have q := hloop (e0 - b0) b0 (L (t + 26)) 0 (by omega) (by omega) (by unfold xVal; rw [if_neg hz.2.2, hb, he, ixn_nI (by omega), ixn_nI (by omega)])
    rw [aL_self, ← hb] at q
    exact q
  · have hz := B_0.mp z5
    refine pw_ldc2 lc_La_46 (by decide +kernel) ?_
    exact pq_lret rfl (by decide +kernel) ⟨congrArg (fun z => some (Value.long z)) (if_pos (Decidable.not_not.mp (fun q => hz ⟨nI_pos' (by omega), (nI_ltI (by omega) (by decide)).mpr hr, by rw [ixn_nI (by omega)]; exact q⟩))).symm, L (t + 26), by rw [aL_self]⟩
