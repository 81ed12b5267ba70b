/-! ===== class and reference: calls that only ask ===== -/
section
variable {I : Nat → Nat → Int32} {L : Nat → Nat → Int64} {P : Nat → Nat → Option Nat} {sh : List pSh} {t t1 np ns nd nx sz : Nat}
theorem iq.tt (h : iq t t1 np ns nd nx sz sh I P) : t = 3 ∨ t = 30 := h.1.2.2.2.2.2.2.2
theorem iq.tO (h : iq t t1 np ns nd nx sz sh I P) : tOK I t np ns nd := h.1.1.1.1.1
theorem tw_fault (h : iq t t1 np ns nd nx sz sh I P) (q : Int32) : two m_Ls_fault m_Mo_fault 0 0 [.int q] sh (I, L, P) :=
  tw_A h (cI (ct_Ls_fault h.2.1 q)) (fun I1 L1 hf g => by
    have o := g.2.2.2.2.2.2.1
    have e : xFault I q = if q = 0 then I1 134 4 else if q = 1 then I1 134 5 else -1 := by
      unfold xFault
      rw [o.2.2.2.2.2.1, o.2.2.2.2.2.2.1]
    rw [e]
    exact ct_Mo_fault h.2.1 q)
theorem tw_named (h : iq t t1 np ns nd nx sz sh I P) (q : Int32) : two m_Ls_named m_Mo_named 1 1 [.int q] sh (I, L, P) :=
  tw_A h (cI (ct_Ls_named h.2.1 (Or.inl rfl) h.tt h.2.2.2.2.2.1 h.2.2.2.1 (kp_x_world h.2.1) h.tO q)) (fun I1 L1 hf g => by rw [named_y g.1]; exact ct_Mo_named h.2.1 g.1.1.1.2.1 q)
theorem tw_person (h : iq t t1 np ns nd nx sz sh I P) (p q : Int32) : two m_Ls_person m_Mo_person 6 7 [.int p, .int q] sh (I, L, P) :=
  tw_A h (cIx (ct_Ls_person h.2.1 (Or.inl rfl) h.tt h.2.2.2.2.2.1 h.2.2.2.1 (kp_x_world h.2.1) h.tO h.l p q)) (fun I1 L1 hf g => by rw [person_y g.1]; exact ct_Mo_person h.2.1 g.1.1.1.2.1 g.1.1.2.1 (mI_o g.1.2.2.1) p q)
theorem tw_debt (h : iq t t1 np ns nd nx sz sh I P) (p q : Int32) : two m_Ls_debt m_Mo_debt 0 0 [.int p, .int q] sh (I, L, P) :=
  tw_A h (cI (ct_Ls_debt h.2.1 (Or.inl rfl) h.tt h.2.2.2.2.2.1 h.2.2.2.1 (kp_x_world h.2.1) h.tO p q)) (fun I1 L1 hf g => by rw [debt_y g.1]; exact ct_Mo_debt h.2.1 g.1.1.1.2.1 p q)
theorem tw_pair (h : iq t t1 np ns nd nx sz sh I P) (p q : Int32) : two m_Ls_pair m_Mo_pair 4 5 [.int p, .int q] sh (I, L, P) :=
  tw_A h (cIx (ct_Ls_pair h.2.1 (Or.inl rfl) h.tt h.2.2.2.2.2.1 h.2.2.2.1 (kp_x_world h.2.1) h.tO h.l p q)) (fun I1 L1 hf g => by rw [pairQ_y g.1]; exact ct_Mo_pair h.2.1 g.1.1.1.2.1 g.1.1.2.1 p q)
theorem tw_law (h : iq t t1 np ns nd nx sz sh I P) (q s u : Int32) : tw0 Value.long m_Ls_law m_Mo_law 3 3 [.int q, .int s, .int u] sh (I, L, P) :=
  two_A (κ := Value.long) h (cJx (ct_Ls_law h.2.1 (Or.inl rfl) h.tt h.2.2.2.2.2.1 h.2.2.2.1 (kp_x_world h.2.1) h.tO h.l q s u)) (Qm := fun I1 => rAJ (yLawQ I1 q s u) I1 P) (fun I1 L1 hf g => ct_Mo_law h.2.1 g.1.1.1.2.1 g.1.1.2.1 (mI_o g.1.2.2.1) q s u) (fun I1 r M g w => ⟨by rw [lawQ_y g.1]; exact w.1, w.2⟩)
theorem tw_refused (h : iq t t1 np ns nd nx sz sh I P) : two m_Ls_refused m_Mo_refused 0 0 [] sh (I, L, P) :=
  tw_A h (cI (ct_Ls_refused h.2.1 (Or.inl rfl) h.tt h.2.2.2.2.2.1 h.2.2.2.1 (kp_x_world h.2.1) h.tO)) (fun I1 L1 hf g => by
    have e : fFind (I (62 + 5)) 2 nd 0 = fFind (I1 166) 2 nd 0 := fFind_cg nd 0 (fun k _ hk => g.1.w5 (by omega))
    rw [e]
    exact ct_Mo_refused h.2.1 g.1.1.1.2.1)
theorem tw_change (h : iq t t1 np ns nd nx sz sh I P) (p q : Int32) : two m_Ls_change m_Mo_change 5 7 [.int p, .int q] sh (I, L, P) :=
  tw_A h (cF (ct_Ls_change h.2.1 (Or.inl rfl) h.tt h.2.2.2.2.2.1 h.2.2.2.1 (kp_x_world h.2.1) h.tO h.l p q)) (fun I1 L1 hf g => by rw [changeQ_y g.1]; exact ct_Mo_change h.2.1 g.1.1.1.2.1 g.1.1.2.1 g.1.1.2.2.1 g.1.1.2.2.2 g.1.2.2.1 p q)
theorem tw_rests (h : iq t t1 np ns nd nx sz sh I P) (l r : Int32) : two m_Ls_rests m_Mo_rests 4 6 [.int l, .int r] sh (I, L, P) := by
  have hc := ct_Ls_rests h.2.1 (L := L) (Or.inl rfl) h.tt h.2.2.2.2.2.1 h.2.2.2.1 (kp_x_world h.2.1) h.tO h.l l r
  by_cases c : xHalves I t 62 l r
  · refine tw_A h (cIx (pI_p c hc)) (fun I1 L1 hf g => ?_)
    have c' := (halves_y g.1 l r).mp c
    have := ct_Mo_rests h.2.1 (L := L1) g.1.1.1.2.1 g.1.1.2.1 l r
    rw [if_pos c', ← (rests_y g.1 c').1] at this
    exact this
  · refine tw_A h (cI (pI_n c hc)) (fun I1 L1 hf g => ?_)
    have c' : ¬ yHalves I1 l r := fun w => c ((halves_y g.1 l r).mpr w)
    have := ct_Mo_rests h.2.1 (L := L1) g.1.1.1.2.1 g.1.1.2.1 l r
    rw [if_neg c'] at this
    exact this
theorem tw_rest (h : iq t t1 np ns nd nx sz sh I P) (l r q : Int32) : two m_Ls_rest m_Mo_rest 4 6 [.int l, .int r, .int q] sh (I, L, P) := by
  have hc := ct_Ls_rest h.2.1 (L := L) (Or.inl rfl) h.tt h.2.2.2.2.2.1 h.2.2.2.1 (kp_x_world h.2.1) h.tO h.l l r q
  by_cases c : xHalves I t 62 l r ∧ 0 ≤ q
  · refine tw_A h (cIx (pI_p c hc)) (fun I1 L1 hf g => ?_)
    have c' := (halves_y g.1 l r).mp c.1
    have := ct_Mo_rest h.2.1 (L := L1) g.1.1.1.2.1 g.1.1.2.1 l r q
    rw [if_pos ⟨c', c.2⟩, ← (rests_y g.1 c').2 q] at this
    exact this
  · refine tw_A h (cI (pI_n c hc)) (fun I1 L1 hf g => ?_)
    have c' : ¬ (yHalves I1 l r ∧ 0 ≤ q) := fun w => c ⟨(halves_y g.1 l r).mpr w.1, w.2⟩
    have := ct_Mo_rest h.2.1 (L := L1) g.1.1.1.2.1 g.1.1.2.1 l r q
    rw [if_neg c'] at this
    exact this
theorem tw_who (h : iq t t1 np ns nd nx sz sh I P) : two m_Ls_who m_Mo_who 3 2 [] sh (I, L, P) := by
  obtain ⟨kn, tk, e1, e2, e3, e4, e5, e6, e7, e8⟩ := who_y h.1.1 h.1.2.2.2.2.2.2.1.2.1
  refine tw_A h (cI (ct_Ls_who h.2.1 (Or.inl rfl) h.tt h.2.2.2.2.2.1 h.2.2.2.1 (kp_x_world h.2.1) h.tO (kn := kn) e7 (by omega))) (fun I1 L1 hf g => ?_)
  obtain ⟨kn', tk', f1, f2, f3, f4, f5, f6, f7, f8⟩ := who_y g.1 g.2.2.2.2.2.2.1.2.1
  rw [f8]
  exact ct_Mo_who h.2.1 g.1.1.1.2.1 g.1.2.2.1 f1 f2 f3 f4
theorem tw_tells (h : iq t t1 np ns nd nx sz sh I P) (q : Int32) : two m_Ls_tells m_Mo_tells 4 2 [.int q] sh (I, L, P) := by
  obtain ⟨kn, tk, e1, e2, e3, e4, e5, e6, e7, e8⟩ := who_y h.1.1 h.1.2.2.2.2.2.2.1.2.1
  refine tw_A h (cI (ct_Ls_tells h.2.1 (Or.inl rfl) h.tt h.2.2.2.2.2.1 h.2.2.2.1 (kp_x_world h.2.1) h.tO (kn := kn) e7 (by omega) q)) (fun I1 L1 hf g => ?_)
  obtain ⟨kn', tk', f1, f2, f3, f4, f5, f6, f7, f8⟩ := who_y g.1 g.2.2.2.2.2.2.1.2.1
  rw [tells_y g.1 f8]
  exact ct_Mo_tells h.2.1 g.1.1.1.2.1 g.1.2.2.1 f1 f2 f3 f4 q
theorem tw_count (h : iq t t1 np ns nd nx sz sh I P) (q : Int32) : two m_Ls_count m_Mo_count 6 7 [.int q] sh (I, L, P) := by
  refine pCn_im (ct_Ls_count h.2.1 (Or.inl rfl) h.tt h.2.2.2.2.2.1 h.2.2.2.1 (kp_x_world h.2.1) h.tO h.l q) ?_
  rintro r M ⟨⟨v, rfl, v1, v2⟩, L', rfl⟩
  refine ⟨_, rfl, pCn_im (ct_Mo_count h.2.1 h.1.1.1.1.2.1 h.1.1.1.2.1 (mI_o h.1.1.2.2.1) q) ?_⟩
  rintro r2 M2 ⟨⟨v', rfl, w1, w2⟩, I2, L2, rfl, hr⟩
  refine ⟨?_, (iq_rep h (fun _ _ => rfl) hr).v⟩
  have e : v' = v := by
    by_cases hj : ∃ j, j < 14 ∧ q = nI j
    · obtain ⟨j, j1, j2⟩ := hj
      rw [w1 j j1 j2, v1 j j1 j2, count_y h.1 j j1]
    · have hn : ∀ j, j < 14 → ¬ q = nI j := fun j j1 j2 => hj ⟨j, j1, j2⟩
      rw [w2 hn, v2 hn]
  rw [e]
end
