/-! ===== the reference: knots, what waits, what is held ===== -/
def rkN (k : Nat) : Nat := if 13 ≤ k then 6 else if 11 ≤ k then 5 else if 5 ≤ k then 4 else if k = 2 then 3 else if k = 3 then 2 else if k = 4 then 1 else 0
theorem rkN_6 (k : Nat) : rkN k ≤ 6 := by unfold rkN; repeat' split <;> try omega
/-- binary signs that wait -/
def nbW : List Nat → Nat
  | [] => 0
  | k :: W => (if 3 ≤ k then 1 else 0) + nbW W
/-- knots in the order of their growing, the last one first, and the stack of what is held -/
def shE (kn pt ot : Nat → Int32) (b0 : Nat) : List (Nat × Nat) → List Nat → Prop
  | [], S => S = []
  | (q, v) :: E, S => kn (b0 + E.length) = nI q ∧ ((q = 0 ∧ v ≤ 9999 ∧ pt (b0 + E.length) = nI v ∧ ∃ S', S = (b0 + E.length) :: S' ∧ shE kn pt ot b0 E S')
      ∨ (q = 1 ∧ v < 7 ∧ pt (b0 + E.length) = nI v ∧ ∃ S', S = (b0 + E.length) :: S' ∧ shE kn pt ot b0 E S')
      ∨ (q = 2 ∧ ∃ a S', S = (b0 + E.length) :: S' ∧ pt (b0 + E.length) = nI a ∧ shE kn pt ot b0 E (a :: S'))
      ∨ (3 ≤ q ∧ q ≤ 14 ∧ ∃ a b S', S = (b0 + E.length) :: S' ∧ pt (b0 + E.length) = nI a ∧ ot (b0 + E.length) = nI b ∧ shE kn pt ot b0 E (b :: a :: S')))
theorem shE_cg {kn pt ot kn' pt' ot' : Nat → Int32} {b0 : Nat} : ∀ {E : List (Nat × Nat)} {S : List Nat}, (∀ j, j < b0 + E.length → kn' j = kn j ∧ pt' j = pt j ∧ ot' j = ot j) → shE kn pt ot b0 E S → shE kn' pt' ot' b0 E S
  | [], S, _, h => h
  | (q, v) :: E, S, hc, h => by
    have hl : ((q, v) :: E).length = E.length + 1 := rfl
    obtain ⟨c1, c2, c3⟩ := hc (b0 + E.length) (by omega)
    have ih : ∀ {S'}, shE kn pt ot b0 E S' → shE kn' pt' ot' b0 E S' := fun {S'} => shE_cg (fun j hj => hc j (by omega))
    obtain ⟨h1, h2⟩ := h
    refine ⟨c1.trans h1, ?_⟩
    rcases h2 with ⟨r1, r0, r2, S', r3, r4⟩ | ⟨r1, r2, r3, S', r4, r5⟩ | ⟨r1, a, S', r2, r3, r4⟩ | ⟨r1, r2, a, b, S', r3, r4, r5, r6⟩
    · exact Or.inl ⟨r1, r0, c2.trans r2, S', r3, ih r4⟩
    · exact Or.inr (Or.inl ⟨r1, r2, c2.trans r3, S', r4, ih r5⟩)
    · exact Or.inr (Or.inr (Or.inl ⟨r1, a, S', r2, c2.trans r3, ih r4⟩))
    · exact Or.inr (Or.inr (Or.inr ⟨r1, r2, a, b, S', r3, c2.trans r4, c3.trans r5, ih r6⟩))
theorem shE_lt {kn pt ot : Nat → Int32} {b0 : Nat} : ∀ {E : List (Nat × Nat)} {S : List Nat}, shE kn pt ot b0 E S → ∀ x ∈ S, x < b0 + E.length
  | [], S, h, x, hx => by rw [show S = [] from h] at hx; exact absurd hx List.not_mem_nil
  | (q, v) :: E, S, h, x, hx => by
    have hl : ((q, v) :: E).length = E.length + 1 := rfl
    have ih : ∀ {S'}, shE kn pt ot b0 E S' → ∀ x ∈ S', x < b0 + E.length := fun {S'} h x hx => shE_lt h x hx
    obtain ⟨_, h2⟩ := h
    have key : ∀ S', S = (b0 + E.length) :: S' → (∀ x ∈ S', x < b0 + E.length) → x < b0 + ((q, v) :: E).length := fun S' e hS => by
      rw [e] at hx
      rcases List.mem_cons.mp hx with w | w
      · omega
      · have := hS x w; omega
    rcases h2 with ⟨_, _, _, S', r3, r4⟩ | ⟨_, _, _, S', r3, r4⟩ | ⟨_, a, S', r2, _, r4⟩ | ⟨_, _, a, b, S', r3, _, _, r6⟩
    · exact key S' r3 (ih r4)
    · exact key S' r3 (ih r4)
    · exact key S' r2 (fun x hx => ih r4 x (List.mem_cons_of_mem _ hx))
    · exact key S' r3 (fun x hx => ih r6 x (List.mem_cons_of_mem _ (List.mem_cons_of_mem _ hx)))
/-- a well-formed law out of its knots -/
theorem shE_kW {kn pt ot : Nat → Int32} {b0 : Nat} : ∀ (E : List (Nat × Nat)) (S : List Nat), shE kn pt ot b0 E S → ∀ m, kW kn pt ot m (b0 + E.length) S → kW kn pt ot (m + E.length) b0 []
  | [], S, h, m, hk => by rw [show S = [] from h] at hk; exact hk
  | (q, v) :: E, S, h, m, hk => by
    have hl : ((q, v) :: E).length = E.length + 1 := rfl
    rw [hl, show m + (E.length + 1) = m + 1 + E.length by omega]
    rw [hl, ← Nat.add_assoc] at hk
    obtain ⟨h1, h2⟩ := h
    rcases h2 with ⟨r1, _, r2, S', r3, r4⟩ | ⟨r1, r2, r3, S', r4, r5⟩ | ⟨r1, a, S', r2, r3, r4⟩ | ⟨r1, r2, a, b, S', r3, r4, r5, r6⟩
    · rw [r3] at hk
      exact shE_kW E S' r4 (m + 1) (Or.inl ⟨by rw [h1, r1]; rfl, hk⟩)
    · rw [r4] at hk
      exact shE_kW E S' r5 (m + 1) (Or.inr (Or.inl ⟨by rw [h1, r1]; rfl, ⟨v, r2, r3⟩, hk⟩))
    · rw [r2] at hk
      exact shE_kW E (a :: S') r4 (m + 1) (Or.inr (Or.inr (Or.inl ⟨by rw [h1, r1]; rfl, a, S', rfl, r3, hk⟩)))
    · rw [r3] at hk
      exact shE_kW E (b :: a :: S') r6 (m + 1) (Or.inr (Or.inr (Or.inr ⟨q, r1, r2, h1, b, a, S', rfl, r4, r5, hk⟩)))
/-- a list as a row, its last one first -/
def rwL (f : Nat → Int32) (l : List Nat) : Prop := ∀ i x, l.reverse[i]? = some x → f i = nI x
theorem rwL_nil (f : Nat → Int32) : rwL f [] := fun i x h => by simp at h
theorem rwL_cons {f : Nat → Int32} {l : List Nat} {x : Nat} (h : rwL f l) : rwL (upd f l.length (nI x)) (x :: l) := fun i y hy => by
  rw [List.reverse_cons] at hy
  rcases ap_get hy with q | ⟨q1, q2⟩
  · rw [upd_ne (by have := gl_ne q; rwa [List.length_reverse] at this)]
    exact h i y q
  · rw [q1, q2, List.length_reverse, upd_eq]
theorem rwL_top {f : Nat → Int32} {l : List Nat} {x : Nat} (h : rwL f (x :: l)) : f l.length = nI x ∧ rwL f l := by
  refine ⟨h l.length x ?_, fun i y hy => h i y ?_⟩
  · rw [List.reverse_cons, List.getElem?_append_right (by rw [List.length_reverse]; exact Nat.le_refl _), List.length_reverse, Nat.sub_self]
    rfl
  · rw [List.reverse_cons]
    exact (List.getElem?_append_left (List.getElem?_eq_some_iff.mp hy).1).trans hy
theorem rwL_cg {f g : Nat → Int32} {l : List Nat} (h : rwL f l) (hg : ∀ i, i < l.length → g i = f i) : rwL g l := fun i x hx => by
  rw [hg i (by have := (List.getElem?_eq_some_iff.mp hx).1; rwa [List.length_reverse] at this)]
  exact h i x hx
/-- the reference's memory holds these knots, what waits and what is held -/
def shS (I : Nat → Nat → Int32) (b0 : Nat) (E : List (Nat × Nat)) (W S : List Nat) : Prop :=
  shE (fun j => I 155 (64 + j)) (fun j => I 156 (64 + j)) (fun j => I 157 (64 + j)) b0 E S ∧ I 134 21 = nI (b0 + E.length) ∧ I 134 46 = nI W.length ∧ I 134 47 = nI S.length ∧ rwL (I 158) W ∧ rwL (I 159) S ∧ ∀ k ∈ W, k ≤ 14
/-- what growing knots leaves: all else, and the knots that stood -/
def shF (J I : Nat → Nat → Int32) (kr : Nat) : Prop := (∀ a, a ∉ [134, 155, 156, 157, 158, 159] → J a = I a) ∧ (∀ k, k ∉ [21, 46, 47] → J 134 k = I 134 k) ∧ ∀ j, j < 64 + kr → J 155 j = I 155 j ∧ J 156 j = I 156 j ∧ J 157 j = I 157 j
theorem shF.rf (I : Nat → Nat → Int32) (kr : Nat) : shF I I kr := ⟨fun _ _ => rfl, fun _ _ => rfl, fun _ _ => ⟨rfl, rfl, rfl⟩⟩
theorem shF.tr {I J K : Nat → Nat → Int32} {k1 k2 : Nat} (h1 : shF K J k2) (h2 : shF J I k1) (hk : k1 ≤ k2) : shF K I k1 := by
  refine ⟨fun a h => (h1.1 a h).trans (h2.1 a h), fun k h => (h1.2.1 k h).trans (h2.2.1 k h), fun j hj => ?_⟩
  obtain ⟨a1, a2, a3⟩ := h1.2.2 j (by omega)
  obtain ⟨b1, b2, b3⟩ := h2.2.2 j hj
  exact ⟨a1.trans b1, a2.trans b2, a3.trans b3⟩
def bindA (least : Nat) : List Nat → List (Nat × Nat) → List Nat × List (Nat × Nat)
  | [], E => ([], E)
  | k :: W, E => if least ≤ rkN k then bindA least W ((k, 0) :: E) else (k :: W, E)
/-- a knot has grown -/
def yGrow (I : Nat → Nat → Int32) (kr hl : Nat) (k a b : Int32) : Nat → Nat → Int32 := sI (sI (sI (sI (sI (sI I 155 (64 + kr) k) 156 (64 + kr) a) 157 (64 + kr) b) 159 hl (nI kr)) 134 47 (nI (hl + 1))) 134 21 (nI (kr + 1))

theorem ct_Mo_rank {sh : List pSh} {I : Nat → Nat → Int32} {L : Nat → Nat → Int64} {P : Nat → Nat → Option Nat} {k : Nat} (hk : k ≤ 14) : pCn m_Mo_rank 0 [.int (nI k)] sh (I, L, P) (rI (nI (rkN k)) (I, L, P)) := by
  refine pCn_of (by decide +kernel) (Nat.le_of_ble_eq_true rfl) ?_
  refine pw_iload_n (k4 := 0) rfl (by decide +kernel) ?_
  refine pw_bipush (n := 13) (v := 13) (by decide) (by decide +kernel) ?_
  refine pn_icmp_lt (off := 8) (tgt := 11) k 13 rfl rfl (by omega) (by omega) (by decide +kernel) (by decide +kernel) (fun z3 => ?_) (fun z3 => ?_)
  · refine pw_iload_n (k4 := 0) rfl (by decide +kernel) ?_
    refine pw_bipush (n := 11) (v := 11) (by decide) (by decide +kernel) ?_
    refine pn_icmp_lt (off := 7) (tgt := 21) k 11 rfl rfl (by omega) (by omega) (by decide +kernel) (by decide +kernel) (fun z14 => ?_) (fun z14 => ?_)
    · refine pw_iload_n (k4 := 0) rfl (by decide +kernel) ?_
      refine pw_iconst (n := 5) (v := 5) (by decide) (by decide +kernel) ?_
      refine pn_icmp_lt (off := 7) (tgt := 30) k 5 rfl rfl (by omega) (by omega) (by decide +kernel) (by decide +kernel) (fun z23 => ?_) (fun z23 => ?_)
      · refine pw_iload_n (k4 := 0) rfl (by decide +kernel) ?_
        refine pw_iconst (n := 2) (v := 2) (by decide) (by decide +kernel) ?_
        refine pn_icmp_ne (off := 7) (tgt := 39) k 2 rfl rfl (by omega) (by omega) (by decide +kernel) (by decide +kernel) (fun z32 => ?_) (fun z32 => ?_)
        · refine pw_iload_n (k4 := 0) rfl (by decide +kernel) ?_
          refine pw_iconst (n := 3) (v := 3) (by decide) (by decide +kernel) ?_
          refine pn_icmp_ne (off := 7) (tgt := 48) k 3 rfl rfl (by omega) (by omega) (by decide +kernel) (by decide +kernel) (fun z41 => ?_) (fun z41 => ?_)
          · refine pw_iload_n (k4 := 0) rfl (by decide +kernel) ?_
            refine pw_iconst (n := 4) (v := 4) (by decide) (by decide +kernel) ?_
            refine pn_icmp_ne (off := 7) (tgt := 57) k 4 rfl rfl (by omega) (by omega) (by decide +kernel) (by decide +kernel) (fun z50 => ?_) (fun z50 => ?_)
            · refine pw_iconst (n := 0) (v := 0) (by decide) (by decide +kernel) ?_
              exact pq_iret rfl (by decide +kernel) ⟨congrArg (fun z => some (Value.int z)) (show _ = nI (rkN k) from by unfold rkN; rw [if_neg (by omega)]; rw [if_neg (by omega)]; rw [if_neg (by omega)]; rw [if_neg (by omega)]; rw [if_neg (by omega)]; rw [if_neg (by omega)]; rfl), rfl⟩
            · refine pw_iconst (n := 1) (v := 1) (by decide) (by decide +kernel) ?_
              refine pw_goto (off := 4) (tgt := 58) (by decide +kernel) (by decide +kernel) ?_
              exact pq_iret rfl (by decide +kernel) ⟨congrArg (fun z => some (Value.int z)) (show _ = nI (rkN k) from by unfold rkN; rw [if_neg (by omega)]; rw [if_neg (by omega)]; rw [if_neg (by omega)]; rw [if_neg (by omega)]; rw [if_neg (by omega)]; rw [if_pos (by omega)]; rfl), rfl⟩
          · refine pw_iconst (n := 2) (v := 2) (by decide) (by decide +kernel) ?_
            refine pw_goto (off := 13) (tgt := 58) (by decide +kernel) (by decide +kernel) ?_
            exact pq_iret rfl (by decide +kernel) ⟨congrArg (fun z => some (Value.int z)) (show _ = nI (rkN k) from by unfold rkN; rw [if_neg (by omega)]; rw [if_neg (by omega)]; rw [if_neg (by omega)]; rw [if_neg (by omega)]; rw [if_pos (by omega)]; rfl), rfl⟩
        · refine pw_iconst (n := 3) (v := 3) (by decide) (by decide +kernel) ?_
          refine pw_goto (off := 22) (tgt := 58) (by decide +kernel) (by decide +kernel) ?_
          exact pq_iret rfl (by decide +kernel) ⟨congrArg (fun z => some (Value.int z)) (show _ = nI (rkN k) from by unfold rkN; rw [if_neg (by omega)]; rw [if_neg (by omega)]; rw [if_neg (by omega)]; rw [if_pos (by omega)]; rfl), rfl⟩
      · refine pw_iconst (n := 4) (v := 4) (by decide) (by decide +kernel) ?_
        refine pw_goto (off := 31) (tgt := 58) (by decide +kernel) (by decide +kernel) ?_
        exact pq_iret rfl (by decide +kernel) ⟨congrArg (fun z => some (Value.int z)) (show _ = nI (rkN k) from by unfold rkN; rw [if_neg (by omega)]; rw [if_neg (by omega)]; rw [if_pos (by omega)]; rfl), rfl⟩
    · refine pw_iconst (n := 5) (v := 5) (by decide) (by decide +kernel) ?_
      refine pw_goto (off := 40) (tgt := 58) (by decide +kernel) (by decide +kernel) ?_
      exact pq_iret rfl (by decide +kernel) ⟨congrArg (fun z => some (Value.int z)) (show _ = nI (rkN k) from by unfold rkN; rw [if_neg (by omega)]; rw [if_pos (by omega)]; rfl), rfl⟩
  · refine pw_bipush (n := 6) (v := 6) (by decide) (by decide +kernel) ?_
    refine pw_goto (off := 50) (tgt := 58) (by decide +kernel) (by decide +kernel) ?_
    exact pq_iret rfl (by decide +kernel) ⟨congrArg (fun z => some (Value.int z)) (show _ = nI (rkN k) from by unfold rkN; rw [if_pos (by omega)]; rfl), rfl⟩

theorem ct_Mo_grown {sh : List pSh} {I : Nat → Nat → Int32} {L : Nat → Nat → Int64} {P : Nat → Nat → Option Nat} (hA : kA sh P) {kr hl : Nat} (hkr : I 134 21 = nI kr) (hhl : I 134 47 = nI hl) (hk6 : kr < 64) (hh9 : hl < 96) (k a b : Int32) : pCn m_Mo_grown 0 [.ref 134, .int k, .int a, .int b] sh (I, L, P) (rV (yGrow I kr hl k a b, L, P)) := by
  refine pCn_of (by decide +kernel) (Nat.le_of_ble_eq_true rfl) ?_
  refine pw_aload_n (k4 := 0) rfl (by decide +kernel) ?_
  refine pq_getP (c := 11) (k := 41) (ks_m hA) (by decide) (by decide) (kp_m_knot hA) lf_Mo_75 (by decide +kernel) ?_
  refine pw_bipush (n := 64) (v := 64) (by decide) (by decide +kernel) ?_
  refine pw_aload_n (k4 := 0) rfl (by decide +kernel) ?_
  refine pq_getI (c := 11) (k := 21) (ks_m hA) (by decide) (by decide) lf_Mo_249 (by decide +kernel) ?_
  refine pn_val (nI (kr)) (by exact hkr) ?_
  refine pn_iadd 64 kr rfl rfl (by decide +kernel) ?_
  refine pw_iload_n (k4 := 1) rfl (by decide +kernel) ?_
  refine pq_iast (64 + kr) rfl (by omega) (by decide) (ks_m_knot hA) (by decide +kernel) ?_
  refine pw_aload_n (k4 := 0) rfl (by decide +kernel) ?_
  refine pq_getP (c := 11) (k := 42) (ks_m hA) (by decide) (by decide) (kp_m_part hA) lf_Mo_78 (by decide +kernel) ?_
  refine pw_bipush (n := 64) (v := 64) (by decide) (by decide +kernel) ?_
  refine pw_aload_n (k4 := 0) rfl (by decide +kernel) ?_
  refine pq_getI (c := 11) (k := 21) (ks_m hA) (by decide) (by decide) lf_Mo_249 (by decide +kernel) ?_
  refine pn_val (nI (kr)) (by exact hkr) ?_
  refine pn_iadd 64 kr rfl rfl (by decide +kernel) ?_
  refine pw_iload_n (k4 := 2) rfl (by decide +kernel) ?_
  refine pq_iast (64 + kr) rfl (by omega) (by decide) (ks_m_part hA) (by decide +kernel) ?_
  refine pw_aload_n (k4 := 0) rfl (by decide +kernel) ?_
  refine pq_getP (c := 11) (k := 43) (ks_m hA) (by decide) (by decide) (kp_m_other hA) lf_Mo_81 (by decide +kernel) ?_
  refine pw_bipush (n := 64) (v := 64) (by decide) (by decide +kernel) ?_
  refine pw_aload_n (k4 := 0) rfl (by decide +kernel) ?_
  refine pq_getI (c := 11) (k := 21) (ks_m hA) (by decide) (by decide) lf_Mo_249 (by decide +kernel) ?_
  refine pn_val (nI (kr)) (by exact hkr) ?_
  refine pn_iadd 64 kr rfl rfl (by decide +kernel) ?_
  refine pw_iload_n (k4 := 3) rfl (by decide +kernel) ?_
  refine pq_iast (64 + kr) rfl (by omega) (by decide) (ks_m_other hA) (by decide +kernel) ?_
  refine pw_aload_n (k4 := 0) rfl (by decide +kernel) ?_
  refine pq_getP (c := 11) (k := 45) (ks_m hA) (by decide) (by decide) (kp_m_held hA) lf_Mo_87 (by decide +kernel) ?_
  refine pw_aload_n (k4 := 0) rfl (by decide +kernel) ?_
  refine pq_getI (c := 11) (k := 47) (ks_m hA) (by decide) (by decide) lf_Mo_316 (by decide +kernel) ?_
  refine pn_val (nI (hl)) (by exact hhl) ?_
  refine pw_aload_n (k4 := 0) rfl (by decide +kernel) ?_
  refine pq_getI (c := 11) (k := 21) (ks_m hA) (by decide) (by decide) lf_Mo_249 (by decide +kernel) ?_
  refine pn_val (nI (kr)) (by exact hkr) ?_
  refine pq_iast hl rfl (by omega) (by decide) (ks_m_held hA) (by decide +kernel) ?_
  refine pw_aload_n (k4 := 0) rfl (by decide +kernel) ?_
  refine pw_dup rfl (by decide +kernel) ?_
  refine pq_getI (c := 11) (k := 47) (ks_m hA) (by decide) (by decide) lf_Mo_316 (by decide +kernel) ?_
  refine pn_val (nI (hl)) (by exact hhl) ?_
  refine pw_iconst (n := 1) (v := 1) (by decide) (by decide +kernel) ?_
  refine pn_iadd hl 1 rfl rfl (by decide +kernel) ?_
  refine pq_putI (c := 11) (k := 47) (ks_m hA) (by decide) (by decide) lf_Mo_316 (Or.inl rfl) (by decide +kernel) ?_
  refine pw_aload_n (k4 := 0) rfl (by decide +kernel) ?_
  refine pw_dup rfl (by decide +kernel) ?_
  refine pq_getI (c := 11) (k := 21) (ks_m hA) (by decide) (by decide) lf_Mo_249 (by decide +kernel) ?_
  refine pn_val (nI (kr)) (by exact hkr) ?_
  refine pw_iconst (n := 1) (v := 1) (by decide) (by decide +kernel) ?_
  refine pn_iadd kr 1 rfl rfl (by decide +kernel) ?_
  refine pq_putI (c := 11) (k := 21) (ks_m hA) (by decide) (by decide) lf_Mo_249 (Or.inl rfl) (by decide +kernel) ?_
  exact pq_vret rfl (by decide +kernel) ⟨rfl, rfl⟩

theorem ct_Mo_dropHeld {sh : List pSh} {I : Nat → Nat → Int32} {L : Nat → Nat → Int64} {P : Nat → Nat → Option Nat} (hA : kA sh P) {hl : Nat} (hhl : I 134 47 = nI (hl + 1)) (hh9 : hl < 96) : pCn m_Mo_dropHeld 0 [.ref 134] sh (I, L, P) (rI (I 159 hl) (sI I 134 47 (nI hl), L, P)) := by
  refine pCn_of (by decide +kernel) (Nat.le_of_ble_eq_true rfl) ?_
  refine pw_aload_n (k4 := 0) rfl (by decide +kernel) ?_
  refine pw_dup rfl (by decide +kernel) ?_
  refine pq_getI (c := 11) (k := 47) (ks_m hA) (by decide) (by decide) lf_Mo_316 (by decide +kernel) ?_
  refine pn_val (nI (hl + 1)) hhl ?_
  refine pw_iconst (n := 1) (v := 1) (by decide) (by decide +kernel) ?_
  refine pn_isub (hl + 1) 1 rfl rfl (by omega) (by decide +kernel) ?_
  refine pn_val (nI (hl)) (by rw [Nat.add_sub_cancel]) ?_
  refine pq_putI (c := 11) (k := 47) (ks_m hA) (by decide) (by decide) lf_Mo_316 (Or.inl rfl) (by decide +kernel) ?_
  refine pw_aload_n (k4 := 0) rfl (by decide +kernel) ?_
  refine pq_getP (c := 11) (k := 45) (ks_m hA) (by decide) (by decide) (kp_m_held hA) lf_Mo_87 (by decide +kernel) ?_
  refine pw_aload_n (k4 := 0) rfl (by decide +kernel) ?_
  refine pq_getI (c := 11) (k := 47) (ks_m hA) (by decide) (by decide) lf_Mo_316 (by decide +kernel) ?_
  refine pn_val (nI (hl)) sI_rs ?_
  refine pq_iald hl rfl (by omega) (by decide) (ks_m_held hA) (by decide +kernel) ?_
  exact pq_iret rfl (by decide +kernel) ⟨rfl, rfl⟩

theorem ct_Mo_waitsFor {sh : List pSh} {I : Nat → Nat → Int32} {L : Nat → Nat → Int64} {P : Nat → Nat → Option Nat} (hA : kA sh P) {wl : Nat} (hwl : I 134 46 = nI wl) (hw9 : wl < 96) (k : Int32) : pCn m_Mo_waitsFor 0 [.ref 134, .int k] sh (I, L, P) (rV (sI (sI I 158 wl k) 134 46 (nI (wl + 1)), L, P)) := by
  refine pCn_of (by decide +kernel) (Nat.le_of_ble_eq_true rfl) ?_
  refine pw_aload_n (k4 := 0) rfl (by decide +kernel) ?_
  refine pq_getP (c := 11) (k := 44) (ks_m hA) (by decide) (by decide) (kp_m_wait hA) lf_Mo_84 (by decide +kernel) ?_
  refine pw_aload_n (k4 := 0) rfl (by decide +kernel) ?_
  refine pq_getI (c := 11) (k := 46) (ks_m hA) (by decide) (by decide) lf_Mo_319 (by decide +kernel) ?_
  refine pn_val (nI (wl)) (by exact hwl) ?_
  refine pw_iload_n (k4 := 1) rfl (by decide +kernel) ?_
  refine pq_iast wl rfl (by omega) (by decide) (ks_m_wait hA) (by decide +kernel) ?_
  refine pw_aload_n (k4 := 0) rfl (by decide +kernel) ?_
  refine pw_dup rfl (by decide +kernel) ?_
  refine pq_getI (c := 11) (k := 46) (ks_m hA) (by decide) (by decide) lf_Mo_319 (by decide +kernel) ?_
  refine pn_val (nI (wl)) (by exact hwl) ?_
  refine pw_iconst (n := 1) (v := 1) (by decide) (by decide +kernel) ?_
  refine pn_iadd wl 1 rfl rfl (by decide +kernel) ?_
  refine pq_putI (c := 11) (k := 46) (ks_m hA) (by decide) (by decide) lf_Mo_319 (Or.inl rfl) (by decide +kernel) ?_
  exact pq_vret rfl (by decide +kernel) ⟨rfl, rfl⟩

theorem shS_grow {I : Nat → Nat → Int32} {b0 : Nat} {E : List (Nat × Nat)} {W S S2 : List Nat} {q v : Nat} {a b : Int32} (h : shS I b0 E W S) (hE : (q = 0 ∧ v ≤ 9999 ∧ a = nI v ∧ S2 = S) ∨ (q = 1 ∧ v < 7 ∧ a = nI v ∧ S2 = S) ∨ (q = 2 ∧ ∃ x, a = nI x ∧ S = x :: S2) ∨ (3 ≤ q ∧ q ≤ 14 ∧ ∃ x y, a = nI x ∧ b = nI y ∧ S = y :: x :: S2)) {J : Nat → Nat → Int32} (hJ : J = sI I 134 47 (nI S2.length)) : shS (yGrow J (b0 + E.length) S2.length (nI q) a b) b0 ((q, v) :: E) W ((b0 + E.length) :: S2) ∧ shF (yGrow J (b0 + E.length) S2.length (nI q) a b) I (b0 + E.length) := by
  obtain ⟨h1, h2, h3, h4, h5, h6, h7⟩ := h
  subst hJ
  have g1 : ∀ j, yGrow (sI I 134 47 (nI S2.length)) (b0 + E.length) S2.length (nI q) a b 155 j = upd (I 155) (64 + (b0 + E.length)) (nI q) j := fun j => rfl
  have g2 : ∀ j, yGrow (sI I 134 47 (nI S2.length)) (b0 + E.length) S2.length (nI q) a b 156 j = upd (I 156) (64 + (b0 + E.length)) a j := fun j => rfl
  have g3 : ∀ j, yGrow (sI I 134 47 (nI S2.length)) (b0 + E.length) S2.length (nI q) a b 157 j = upd (I 157) (64 + (b0 + E.length)) b j := fun j => rfl
  have hrS : rwL (I 159) S2 := by
    rcases hE with ⟨_, _, _, e⟩ | ⟨_, _, _, e⟩ | ⟨_, x, _, e⟩ | ⟨_, _, x, y, _, _, e⟩
    · rw [e]; exact h6
    · rw [e]; exact h6
    · rw [e] at h6; exact (rwL_top h6).2
    · rw [e] at h6; exact (rwL_top (rwL_top h6).2).2
  have hold : ∀ j, j < b0 + E.length → yGrow (sI I 134 47 (nI S2.length)) (b0 + E.length) S2.length (nI q) a b 155 (64 + j) = I 155 (64 + j) ∧ yGrow (sI I 134 47 (nI S2.length)) (b0 + E.length) S2.length (nI q) a b 156 (64 + j) = I 156 (64 + j) ∧ yGrow (sI I 134 47 (nI S2.length)) (b0 + E.length) S2.length (nI q) a b 157 (64 + j) = I 157 (64 + j) := fun j hj => by
    rw [g1, g2, g3, upd_ne (by omega), upd_ne (by omega), upd_ne (by omega)]
    exact ⟨rfl, rfl, rfl⟩
  refine ⟨⟨⟨?_, ?_⟩, ?_, h3, ?_, h5, ?_, h7⟩, ⟨fun a ha => ?_, fun k hk => ?_, fun j hj => ?_⟩⟩
  · show yGrow _ _ _ _ _ _ 155 (64 + (b0 + E.length)) = nI q
    rw [g1, upd_eq]
  · have ep : yGrow (sI I 134 47 (nI S2.length)) (b0 + E.length) S2.length (nI q) a b 156 (64 + (b0 + E.length)) = a := by rw [g2, upd_eq]
    have eo : yGrow (sI I 134 47 (nI S2.length)) (b0 + E.length) S2.length (nI q) a b 157 (64 + (b0 + E.length)) = b := by rw [g3, upd_eq]
    rcases hE with ⟨r1, r0, r2, e⟩ | ⟨r1, r2, r3, e⟩ | ⟨r1, x, r2, e⟩ | ⟨r1, r2, x, y, r3, r4, e⟩
    · exact Or.inl ⟨r1, r0, ep.trans r2, S2, rfl, shE_cg hold (by rw [e]; exact h1)⟩
    · exact Or.inr (Or.inl ⟨r1, r2, ep.trans r3, S2, rfl, shE_cg hold (by rw [e]; exact h1)⟩)
    · exact Or.inr (Or.inr (Or.inl ⟨r1, x, S2, rfl, ep.trans r2, shE_cg hold (by rw [← e]; exact h1)⟩))
    · exact Or.inr (Or.inr (Or.inr ⟨r1, r2, x, y, S2, rfl, ep.trans r3, eo.trans r4, shE_cg hold (by rw [← e]; exact h1)⟩))
  · rfl
  · rfl
  · have e9 : yGrow (sI I 134 47 (nI S2.length)) (b0 + E.length) S2.length (nI q) a b 159 = upd (I 159) S2.length (nI (b0 + E.length)) := rfl
    rw [e9]
    exact rwL_cons hrS
  · have ha' : a ≠ 134 ∧ a ≠ 155 ∧ a ≠ 156 ∧ a ≠ 157 ∧ a ≠ 158 ∧ a ≠ 159 := by simp only [List.mem_cons, List.not_mem_nil, or_false, not_or] at ha; exact ha
    unfold yGrow
    rw [sI_ne ha'.1, sI_ne ha'.1, sI_ne ha'.2.2.2.2.2, sI_ne ha'.2.2.2.1, sI_ne ha'.2.2.1, sI_ne ha'.2.1, sI_ne ha'.1]
  · have hk' : k ≠ 21 ∧ k ≠ 46 ∧ k ≠ 47 := by simp only [List.mem_cons, List.not_mem_nil, or_false, not_or] at hk; exact hk
    unfold yGrow
    rw [sI_rd hk'.1, sI_rd hk'.2.2, sI_ne (by decide), sI_ne (by decide), sI_ne (by decide), sI_ne (by decide), sI_rd hk'.2.2]
  · rw [g1, g2, g3, upd_ne (by omega), upd_ne (by omega), upd_ne (by omega)]
    exact ⟨rfl, rfl, rfl⟩

/-- signs that wait and count -/
def opW : List Nat → Nat
  | [] => 0
  | k :: W => (if 2 ≤ k then 1 else 0) + opW W
theorem bindA_op (l : Nat) (hl : 1 ≤ l) : ∀ W E, (bindA l W E).2.length + opW (bindA l W E).1 = E.length + opW W
  | [], E => rfl
  | k :: W, E => by
    unfold bindA
    by_cases h : l ≤ rkN k
    · rw [if_pos h, bindA_op l hl W ((k, 0) :: E)]
      have hk : 2 ≤ k := by
        rcases Nat.lt_or_ge k 2 with q | q
        · have : rkN k = 0 := by unfold rkN; rw [if_neg (by omega), if_neg (by omega), if_neg (by omega), if_neg (by omega), if_neg (by omega), if_neg (by omega)]
          omega
        · exact q
      show E.length + 1 + opW W = E.length + ((if 2 ≤ k then 1 else 0) + opW W)
      rw [if_pos hk]; omega
    · rw [if_neg h]
theorem shS_pop {I : Nat → Nat → Int32} {b0 k : Nat} {E : List (Nat × Nat)} {W S : List Nat} (h : shS I b0 E (k :: W) S) : shS (sI I 134 46 (nI W.length)) b0 E W S := by
  obtain ⟨h1, h2, h3, h4, h5, h6, h7⟩ := h
  exact ⟨h1, h2, rfl, h4, (rwL_top h5).2, h6, fun x hx => h7 x (List.mem_cons_of_mem _ hx)⟩
theorem shF_pop (I : Nat → Nat → Int32) (kr : Nat) (x : Int32) : shF (sI I 134 46 x) I kr := by
  refine ⟨fun a ha => ?_, fun k hk => ?_, fun j _ => ⟨rfl, rfl, rfl⟩⟩
  · rw [sI_ne (by intro e; rw [e] at ha; exact ha (by decide))]
  · rw [sI_rd (by intro e; rw [e] at hk; exact hk (by decide))]
theorem len1 {S : List Nat} (h : 1 ≤ S.length) : ∃ x T, S = x :: T := by
  cases S with
  | nil => exact absurd h (by decide)
  | cons x T => exact ⟨x, T, rfl⟩
theorem rk_op {k : Nat} (h : 1 ≤ rkN k) : k = 2 ∨ 3 ≤ k := by
  rcases Nat.lt_or_ge k 3 with q | q
  · rcases Nat.lt_or_ge k 2 with w | w
    · have : rkN k = 0 := by unfold rkN; rw [if_neg (by omega), if_neg (by omega), if_neg (by omega), if_neg (by omega), if_neg (by omega), if_neg (by omega)]
      omega
    · exact Or.inl (by omega)
  · exact Or.inr q
def rBd (I : Nat → Nat → Int32) (L : Nat → Nat → Int64) (P : Nat → Nat → Option Nat) (b0 least : Nat) (E : List (Nat × Nat)) (W : List Nat) : Option Value → pM → Prop := fun r M => r = none ∧ ∃ J S', M = (J, L, P) ∧ shS J b0 (bindA least W E).2 (bindA least W E).1 S' ∧ S'.length = nbW (bindA least W E).1 + 1 ∧ shF J I (b0 + E.length)

set_option maxHeartbeats 4000000 in
theorem ct_Mo_bind {sh : List pSh} {I : Nat → Nat → Int32} {L : Nat → Nat → Int64} {P : Nat → Nat → Option Nat} (hA : kA sh P) {b0 least : Nat} (hl1 : 1 ≤ least) (hl6 : least ≤ 6) {E : List (Nat × Nat)} {W S : List Nat} (h0 : shS I b0 E W S) (hlen0 : S.length = nbW W + 1) (hc0 : b0 + E.length + opW W ≤ 64) (hs0 : S.length ≤ 90) (hw0 : W.length ≤ 90) : pCn m_Mo_bind 1 [.ref 134, .int (nI least)] sh (I, L, P) (rBd I L P b0 least E W) := by
  refine pCn_of (by decide +kernel) (Nat.le_of_ble_eq_true rfl) ?_
  have hL := pMeas (fun W1 : List Nat => ∀ (K : Nat → Nat → Int32) (E1 : List (Nat × Nat)) (S1 : List Nat), shS K b0 E1 W1 S1 → S1.length = nbW W1 + 1 → b0 + E1.length + opW W1 ≤ 64 → S1.length ≤ 90 → W1.length ≤ 90 → shF K I (b0 + E.length) → E.length ≤ E1.length → bindA least W1 E1 = bindA least W E → pWn m_Mo_bind 1 sh (rBd I L P b0 least E W) 0 [some (.ref 134), some (.int (nI least)), none, none, none] [] (K, L, P)) List.length (by
    intro W1 ih0 K E1 S1 hS hlen hcn hsl hwl hF hEl hV
    have ih : ∀ W2 : List Nat, W2.length < W1.length → ∀ (K : Nat → Nat → Int32) (E1 : List (Nat × Nat)) (S1 : List Nat), shS K b0 E1 W2 S1 → S1.length = nbW W2 + 1 → b0 + E1.length + opW W2 ≤ 64 → S1.length ≤ 90 → W2.length ≤ 90 → shF K I (b0 + E.length) → E.length ≤ E1.length → bindA least W2 E1 = bindA least W E → pWn m_Mo_bind 1 sh (rBd I L P b0 least E W) 0 [some (.ref 134), some (.int (nI least)), none, none, none] [] (K, L, P) := fun W2 h => ih0 W2 h
    refine pw_aload_n (k4 := 0) rfl (by decide +kernel) ?_
    refine pq_getI (c := 11) (k := 46) (ks_m hA) (by decide) (by decide) lf_Mo_319 (by decide +kernel) ?_
    refine pn_val (nI (W1.length)) (by exact hS.2.2.1) ?_
    refine pn_if_le (off := 72) (tgt := 76) W1.length rfl (by omega) (by decide +kernel) (by decide +kernel) (fun z4 => ?_) (fun z4 => ?_)
    · have e0 : W1 = [] := List.eq_nil_of_length_eq_zero (by omega)
      subst e0
      exact pq_vret rfl (by decide +kernel) ⟨rfl, K, S1, rfl, by rw [← hV]; exact hS, by rw [← hV]; exact hlen, hF⟩
    · obtain ⟨k, W2, rfl⟩ := len1 (show 1 ≤ W1.length by omega)
      have hk14 := hS.2.2.2.2.2.2 k List.mem_cons_self
      have htop := (rwL_top hS.2.2.2.2.1).1
      have hWl : (k :: W2).length = W2.length + 1 := rfl
      refine pw_aload_n (k4 := 0) rfl (by decide +kernel) ?_
      refine pq_getP (c := 11) (k := 44) (ks_m hA) (by decide) (by decide) (kp_m_wait hA) lf_Mo_84 (by decide +kernel) ?_
      refine pw_aload_n (k4 := 0) rfl (by decide +kernel) ?_
      refine pq_getI (c := 11) (k := 46) (ks_m hA) (by decide) (by decide) lf_Mo_319 (by decide +kernel) ?_
      refine pn_val (nI (W2.length + 1)) (by exact hS.2.2.1) ?_
      refine pw_iconst (n := 1) (v := 1) (by decide) (by decide +kernel) ?_
      refine pn_isub (W2.length + 1) 1 rfl rfl (by omega) (by decide +kernel) ?_
      refine pn_val (nI (W2.length)) (by rw [Nat.add_sub_cancel]) ?_
      refine pq_iald W2.length rfl (by omega) (by decide) (ks_m_wait hA) (by decide +kernel) ?_
      refine pn_val (nI (k)) (by exact htop) ?_
      refine pq_callS (ν := m_Mo_rank) (d' := 0) (av := [_]) (by decide +kernel) lm_Mo_322 ok_Mo_rank (show _ = some 1 by decide +kernel) (by omega) (Nat.le_of_ble_eq_true rfl) (ct_Mo_rank (k := k) hk14) ?_
      rintro _ _ ⟨rfl, rfl⟩
      refine pw_iload_n (k4 := 1) rfl (by decide +kernel) ?_
      refine pn_icmp_lt (off := 54) (tgt := 76) (rkN k) least rfl rfl (by have := rkN_6 k; omega) (by omega) (by decide +kernel) (by decide +kernel) (fun z22 => ?_) (fun z22 => ?_)
      · have hbd : bindA least (k :: W2) E1 = (k :: W2, E1) := if_neg (by omega)
        exact pq_vret rfl (by decide +kernel) ⟨rfl, K, S1, rfl, by rw [← hV, hbd]; exact hS, by rw [← hV, hbd]; exact hlen, hF⟩
      · have hbd : bindA least (k :: W2) E1 = bindA least W2 ((k, 0) :: E1) := if_pos (by omega)
        have hop : opW (k :: W2) = (if 2 ≤ k then 1 else 0) + opW W2 := rfl
        have hnb : nbW (k :: W2) = (if 3 ≤ k then 1 else 0) + nbW W2 := rfl
        have hkk := rk_op (show 1 ≤ rkN k by omega)
        rw [if_pos (by omega)] at hop
        refine pw_aload_n (k4 := 0) rfl (by decide +kernel) ?_
        refine pw_dup rfl (by decide +kernel) ?_
        refine pq_getI (c := 11) (k := 46) (ks_m hA) (by decide) (by decide) lf_Mo_319 (by decide +kernel) ?_
        refine pn_val (nI (W2.length + 1)) (by exact hS.2.2.1) ?_
        refine pw_iconst (n := 1) (v := 1) (by decide) (by decide +kernel) ?_
        refine pn_isub (W2.length + 1) 1 rfl rfl (by omega) (by decide +kernel) ?_
        refine pn_val (nI (W2.length)) (by rw [Nat.add_sub_cancel]) ?_
        refine pq_putI (c := 11) (k := 46) (ks_m hA) (by decide) (by decide) lf_Mo_319 (Or.inl rfl) (by decide +kernel) ?_
        refine pw_aload_n (k4 := 0) rfl (by decide +kernel) ?_
        refine pq_getP (c := 11) (k := 44) (ks_m hA) (by decide) (by decide) (kp_m_wait hA) lf_Mo_84 (by decide +kernel) ?_
        refine pw_aload_n (k4 := 0) rfl (by decide +kernel) ?_
        refine pq_getI (c := 11) (k := 46) (ks_m hA) (by decide) (by decide) lf_Mo_319 (by decide +kernel) ?_
        refine pn_val (nI (W2.length)) rfl ?_
        refine pq_iald W2.length rfl (by omega) (by decide) (ks_m_wait hA) (by decide +kernel) ?_
        refine pn_val (nI (k)) (by exact htop) ?_
        refine pq_istore_n (k4 := 2) (Nat.le_of_ble_eq_true rfl) rfl (by decide +kernel) ?_
        refine pw_iload_n (k4 := 2) rfl (by decide +kernel) ?_
        refine pw_iconst (n := 2) (v := 2) (by decide) (by decide +kernel) ?_
        refine pn_icmp_ne (off := 7) (tgt := 54) k 2 rfl rfl (by omega) (by omega) (by decide +kernel) (by decide +kernel) (fun z47 => ?_) (fun z47 => ?_)
        · have hk3 : 3 ≤ k := by omega
          rw [if_pos hk3] at hnb
          obtain ⟨y, S3, rfl⟩ := len1 (show 1 ≤ S1.length by omega)
          have hyl : (y :: S3).length = S3.length + 1 := rfl
          obtain ⟨x, S2, rfl⟩ := len1 (show 1 ≤ S3.length by omega)
          have hxl : (x :: S2).length = S2.length + 1 := rfl
          have hy := (rwL_top hS.2.2.2.2.2.1).1
          have hx := (rwL_top (rwL_top hS.2.2.2.2.2.1).2).1
          refine pw_aload_n (k4 := 0) rfl (by decide +kernel) ?_
          refine pq_callV (ν := m_Mo_dropHeld) (d' := 0) (av := []) (c := 11) (by decide +kernel) lm_Mo_326 ok_Mo_dropHeld (show _ = some 0 by decide +kernel) (ks_m hA) rfl (by decide) (by omega) (Nat.le_of_ble_eq_true rfl) (ct_Mo_dropHeld hA (hl := (x :: S2).length) (by exact (hS.2.2.2.1)) (by omega)) ?_
          rintro _ _ ⟨rfl, rfl⟩
          refine pn_val (nI (y)) (by exact hy) ?_
          refine pq_istore_n (k4 := 3) (Nat.le_of_ble_eq_true rfl) rfl (by decide +kernel) ?_
          refine pw_aload_n (k4 := 0) rfl (by decide +kernel) ?_
          refine pq_callV (ν := m_Mo_dropHeld) (d' := 0) (av := []) (c := 11) (by decide +kernel) lm_Mo_326 ok_Mo_dropHeld (show _ = some 0 by decide +kernel) (ks_m hA) rfl (by decide) (by omega) (Nat.le_of_ble_eq_true rfl) (ct_Mo_dropHeld hA (hl := S2.length) (by exact (rfl)) (by omega)) ?_
          rintro _ _ ⟨rfl, rfl⟩
          refine pn_val (nI (x)) (by exact hx) ?_
          rw [sI_sI]
          refine pq_istore (i := 4) (Nat.le_of_ble_eq_true rfl) rfl (by decide +kernel) ?_
          refine pw_aload_n (k4 := 0) rfl (by decide +kernel) ?_
          refine pw_iload_n (k4 := 2) rfl (by decide +kernel) ?_
          refine pw_iload (i := 4) rfl (by decide +kernel) ?_
          refine pw_iload_n (k4 := 3) rfl (by decide +kernel) ?_
          refine pq_callV (ν := m_Mo_grown) (d' := 0) (av := [_, _, _]) (c := 11) (by decide +kernel) lm_Mo_330 ok_Mo_grown (show _ = some 3 by decide +kernel) (ks_m hA) rfl (by decide) (by omega) (Nat.le_of_ble_eq_true rfl) (ct_Mo_grown hA (kr := b0 + E1.length) (hl := S2.length) (by exact hS.2.1) (by exact rfl) (by omega) (by omega) _ _ _) ?_
          rintro _ _ ⟨rfl, rfl⟩
          refine pw_goto (off := -73) (tgt := 0) (by decide +kernel) (by decide +kernel) ?_
          have hg := shS_grow (q := k) (v := 0) (a := nI x) (b := nI y) (S2 := S2) (shS_pop hS) (Or.inr (Or.inr (Or.inr ⟨hk3, hk14, x, y, rfl, rfl, rfl⟩))) rfl
          have hl2 : (y :: x :: S2).length = S2.length + 2 := rfl
          have hl3 : ((b0 + E1.length) :: S2).length = S2.length + 1 := rfl
          have hl4 : ((k, 0) :: E1).length = E1.length + 1 := rfl
          refine pw_forget [2, 3, 4] (ih W2 (by omega) _ _ _ hg.1 (by omega) (by omega) (by omega) (by omega) ((hg.2.tr (shF_pop K _ _) (Nat.le_refl _)).tr hF (by omega)) (by omega) (hbd.symm.trans hV))
        · have hk2 : k = 2 := Decidable.not_not.mp z47
          rw [if_neg (by omega)] at hnb
          obtain ⟨x, S2, rfl⟩ := len1 (show 1 ≤ S1.length by omega)
          have hxl : (x :: S2).length = S2.length + 1 := rfl
          have hx := (rwL_top hS.2.2.2.2.2.1).1
          refine pw_iconst (n := -1) (v := -1) (by decide) (by decide +kernel) ?_
          refine pw_goto (off := 7) (tgt := 58) (by decide +kernel) (by decide +kernel) ?_
          refine pq_istore_n (k4 := 3) (Nat.le_of_ble_eq_true rfl) rfl (by decide +kernel) ?_
          refine pw_aload_n (k4 := 0) rfl (by decide +kernel) ?_
          refine pq_callV (ν := m_Mo_dropHeld) (d' := 0) (av := []) (c := 11) (by decide +kernel) lm_Mo_326 ok_Mo_dropHeld (show _ = some 0 by decide +kernel) (ks_m hA) rfl (by decide) (by omega) (Nat.le_of_ble_eq_true rfl) (ct_Mo_dropHeld hA (hl := S2.length) (by exact (hS.2.2.2.1)) (by omega)) ?_
          rintro _ _ ⟨rfl, rfl⟩
          refine pn_val (nI (x)) (by exact hx) ?_
          refine pq_istore (i := 4) (Nat.le_of_ble_eq_true rfl) rfl (by decide +kernel) ?_
          refine pw_aload_n (k4 := 0) rfl (by decide +kernel) ?_
          refine pw_iload_n (k4 := 2) rfl (by decide +kernel) ?_
          refine pw_iload (i := 4) rfl (by decide +kernel) ?_
          refine pw_iload_n (k4 := 3) rfl (by decide +kernel) ?_
          refine pq_callV (ν := m_Mo_grown) (d' := 0) (av := [_, _, _]) (c := 11) (by decide +kernel) lm_Mo_330 ok_Mo_grown (show _ = some 3 by decide +kernel) (ks_m hA) rfl (by decide) (by omega) (Nat.le_of_ble_eq_true rfl) (ct_Mo_grown hA (kr := b0 + E1.length) (hl := S2.length) (by exact hS.2.1) (by exact rfl) (by omega) (by omega) _ _ _) ?_
          rintro _ _ ⟨rfl, rfl⟩
          refine pw_goto (off := -73) (tgt := 0) (by decide +kernel) (by decide +kernel) ?_
          have hg := shS_grow (q := k) (v := 0) (a := nI x) (b := -1) (S2 := S2) (shS_pop hS) (Or.inr (Or.inr (Or.inl ⟨hk2, x, rfl, rfl⟩))) rfl
          have hl2 : (x :: S2).length = S2.length + 1 := rfl
          have hl3 : ((b0 + E1.length) :: S2).length = S2.length + 1 := rfl
          have hl4 : ((k, 0) :: E1).length = E1.length + 1 := rfl
          skip
          refine pw_forget [2, 3, 4] (ih W2 (by omega) _ _ _ hg.1 (by omega) (by omega) (by omega) (by omega) ((hg.2.tr (shF_pop K _ _) (Nat.le_refl _)).tr hF (by omega)) (by omega) (hbd.symm.trans hV))
)
  exact hL W I E S h0 hlen0 hc0 hs0 hw0 (shF.rf I _) (Nat.le_refl _) rfl
