/-! ===== class and reference: calls that change ===== -/
section
variable {I : Nat → Nat → Int32} {L : Nat → Nat → Int64} {P : Nat → Nat → Option Nat} {sh : List pSh} {t t1 np ns nd nx sz : Nat}
theorem svA_lt {a : Nat} (h : svA a) : a ≠ 1 ∧ a ≠ 2 ∧ (a < 62 ∨ 135 < a) ∧ a < 137 ∧ a ≠ 134 := by unfold svA at h; omega
theorem tw_feed (h : iq t t1 np ns nd nx sz sh I P) (a b c d e : Int32) : two m_Ls_feed m_Mo_feed 1 0 [.int a, .int b, .int c, .int d, .int e] sh (I, L, P) := by
  obtain ⟨tp, h7, x1, y1, -⟩ := h.1.2.2.2.2.2.2.1.2.2.2.2.1
  have hc := ct_Ls_feed h.2.1 (L := L) x1 h7 a b c d e
  by_cases k : tp ≤ 680
  · refine pCn_im (pI_p k hc) ?_
    rintro r M ⟨rfl, rfl⟩
    have g := h.g (I1 := feedI I tp a b c d e) (fun q hq => feed_ne (by omega) (by omega))
    have y1' : feedI I tp a b c d e 134 1 = nI tp := by rw [feed_ne (by decide) (by decide)]; exact y1
    refine ⟨_, rfl, pCn_im (pI_p (by omega) (ct_Mo_feed h.2.1 y1' h7 a b c d e)) ?_⟩
    rintro r2 M2 ⟨rfl, rfl⟩
    refine ⟨rfl, (iq_keep h (feed_y g y1' (by omega) a b c d e) (fun q q1 _ _ => ?_) (rep_rf _) (fun q hq => ?_) ?_).v⟩
    · rw [sI_ne (by omega), aU_ne (by omega), sI_ne (by omega)]
    · have := svA_lt hq
      rw [sI_ne (by omega), aU_ne (by omega), sI_ne (by omega), feed_ne (by omega) (by omega)]
    · rw [sI_ne (by decide), aU_ne (by decide), sI_ne (by decide), feed_1 (by decide)]
  · refine tw_A h (cI (pI_n k hc)) (fun I1 L1 hf g => pI_n (by omega) (ct_Mo_feed h.2.1 (tp := tp) (by rw [hf 134 (by decide)]; exact y1) h7 a b c d e))
theorem tw_give (h : iq t t1 np ns nd nx sz sh I P) (s to : Int32) : two m_Ls_give m_Mo_give 3 2 [.int s, .int to] sh (I, L, P) := by
  obtain ⟨n1, n2, n3, n4, n5, -⟩ := h.1.2.2.2.2.2.1
  have hc := ct_Ls_give h.2.1 (L := L) (Or.inl rfl) h.tt h.2.2.2.2.2.1 h.2.2.2.1 (kp_x_world h.2.1) h.tO n1 n2 n3 n4 s to
  by_cases c : xThere I t 62 s ∧ (to = -1 ∨ xHasP I t to) ∧ I (62 + 3) (ixn s) ≠ to
  · refine pCn_im (pI_p c hc) ?_
    rintro r M ⟨rfl, rfl⟩
    have fr : ∀ a, a < 62 ∨ 134 ≤ a → xMove (xNote I 62 nx sz) t 62 (ixn s) to a = I a := fun a ha => by rw [xMove_ne (by omega) (by omega), xNote_fr n2 (by omega)]
    have g := h.g (fun a ha => fr a (Or.inr ha))
    obtain ⟨e1, e2⟩ := give_y g s to
    have c' := e1.mp c
    refine ⟨_, rfl, pCn_im (pI_p c' (ct_Mo_give h.2.1 g.1.1.1.2.1 (u := sz) (by rw [fr 134 (by decide)]; exact n5) n4 s to)) ?_⟩
    rintro r2 M2 ⟨rfl, L2, rfl⟩
    refine ⟨rfl, (iq_keep h (e2 c') (fun q q1 _ _ => ?_) (rep_rf _) (fun q hq => ?_) ?_).v⟩
    · rw [yGoes_fr (by omega) (by omega) (by omega), yRem_fr (by omega) (by omega), sI_ne (by omega)]
    · have := svA_lt hq
      rw [yGoes_fr (by omega) (by omega) (by omega), yRem_fr (by omega) (by omega), sI_ne (by omega)]
      exact fr q (by omega)
    · rw [yGoes_fr (by omega) (by omega) (by omega), yRem_fr (by omega) (by omega), sI_ne (by omega), fr 1 (by decide)]
  · refine tw_A h (cI (pI_n c hc)) (fun I1 L1 hf g => pI_n (fun w => c ((give_y g s to).1.mpr w)) (ct_Mo_give h.2.1 g.1.1.1.2.1 (u := sz) (by rw [hf 134 (by decide)]; exact n5) n4 s to))
theorem tw_on (h : iq t t1 np ns nd nx sz sh I P) (s : Int32) : two m_Ls_on m_Mo_on 2 2 [.int s] sh (I, L, P) := by
  obtain ⟨n1, n2, n3, n4, n5, -⟩ := h.1.2.2.2.2.2.1
  have hc := ct_Ls_on h.2.1 (L := L) (Or.inl rfl) h.tt h.2.2.2.2.2.1 h.2.2.2.1 (kp_x_world h.2.1) h.tO n1 n2 n3 n4 (fun j hj q1 q2 => by
    rw [h.1.1.w3 hj] at q1 q2 ⊢
    rcases (h.1.1.2.2.1.1 j hj).1 with e | e | e
    · rw [Nat.mul_zero, Nat.zero_add] at e; exact absurd e q1
    · rw [Nat.mul_zero, Nat.zero_add] at e; exact absurd e q2
    · rw [Nat.mul_zero, Nat.zero_add] at e; exact e) (fun j hj => by
    rw [h.1.1.w1 hj]
    exact (h.1.1.1.1.2.2.2.1 j hj).2.2.2) s
  by_cases c : xThere I t 62 s ∧ I (62 + 3) (ixn s) ≠ -1 ∧ ¬ xWorn I t 62 (ixn s)
  · refine pCn_im (pI_p c hc) ?_
    rintro r M ⟨rfl, rfl⟩
    have fr : ∀ a, a < 62 ∨ 134 ≤ a → sI (xNote I 62 nx sz) (62 + 4) (2 * ixn (I (62 + 3) (ixn s)) + ixn (I (62 + 1) (ixn s))) s a = I a := fun a ha => by rw [sI_ne (by omega), xNote_fr n2 (by omega)]
    have g := h.g (fun a ha => fr a (Or.inr ha))
    obtain ⟨e1, e2⟩ := on_y g s
    have c' := e1.mp c
    refine ⟨_, rfl, pCn_im (pI_p c' (ct_Mo_on h.2.1 g.1.1.1.2.1 (u := sz) (by rw [fr 134 (by decide)]; exact n5) n4 (mI_o g.1.2.2.1) s)) ?_⟩
    rintro r2 M2 ⟨rfl, L2, rfl⟩
    have q6 : ∀ (z : Int32) (a : Nat), a < 162 → a ≠ (if z = 0 then 164 else 165) := fun z a ha => by split <;> omega
    refine ⟨rfl, (iq_keep h (e2 c') (fun q q1 _ _ => ?_) (rep_rf _) (fun q hq => ?_) ?_).v⟩
    · rw [sI_ne (q6 _ _ (by omega)), yRem_fr (by omega) (by omega), sI_ne (by omega)]
    · have := svA_lt hq
      rw [sI_ne (q6 _ _ (by omega)), yRem_fr (by omega) (by omega), sI_ne (by omega)]
      exact fr q (by omega)
    · rw [sI_ne (q6 _ _ (by omega)), yRem_fr (by omega) (by omega), sI_ne (by omega), fr 1 (by decide)]
  · refine tw_A h (cI (pI_n c hc)) (fun I1 L1 hf g => pI_n (fun w => c ((on_y g s).1.mpr w)) (ct_Mo_on h.2.1 g.1.1.1.2.1 (u := sz) (by rw [hf 134 (by decide)]; exact n5) n4 (mI_o g.1.2.2.1) s))
theorem yTake_fr {b : Nat} {x : Int32} {a : Nat} (h1 : a ≠ 164) (h2 : a ≠ 165) : yTake I b np x a = I a := by
  unfold yTake
  rw [aU_ne h2, aU_ne h1]
theorem tw_off (h : iq t t1 np ns nd nx sz sh I P) (s : Int32) : two m_Ls_off m_Mo_off 2 2 [.int s] sh (I, L, P) := by
  obtain ⟨n1, n2, n3, n4, n5, -⟩ := h.1.2.2.2.2.2.1
  have hc := ct_Ls_off h.2.1 (L := L) (Or.inl rfl) h.tt h.2.2.2.2.2.1 h.2.2.2.1 (kp_x_world h.2.1) h.tO n1 n2 n3 n4 s
  by_cases c : xThere I t 62 s ∧ xWorn I t 62 (ixn s)
  · refine pCn_im (pI_p c hc) ?_
    rintro r M ⟨rfl, rfl⟩
    have fr : ∀ a, a < 62 ∨ 134 ≤ a → aU (xNote I 62 nx sz) (62 + 4) (xOff (I (62 + 4)) (I (62 + 3) (ixn s)) (I t 0) s) a = I a := fun a ha => by rw [aU_ne (by omega), xNote_fr n2 (by omega)]
    have g := h.g (fun a ha => fr a (Or.inr ha))
    obtain ⟨e1, e2⟩ := off_y g s
    have c' := e1.mp c
    refine ⟨_, rfl, pCn_im (pI_p c' (ct_Mo_off h.2.1 g.1.1.1.2.1 (u := sz) (by rw [fr 134 (by decide)]; exact n5) n4 s)) ?_⟩
    rintro r2 M2 ⟨rfl, L2, rfl⟩
    refine ⟨rfl, (iq_keep h (e2 c') (fun q q1 _ _ => ?_) (rep_rf _) (fun q hq => ?_) ?_).v⟩
    · rw [yTake_fr (by omega) (by omega), yRem_fr (by omega) (by omega), sI_ne (by omega)]
    · have := svA_lt hq
      rw [yTake_fr (by omega) (by omega), yRem_fr (by omega) (by omega), sI_ne (by omega)]
      exact fr q (by omega)
    · rw [yTake_fr (by omega) (by omega), yRem_fr (by omega) (by omega), sI_ne (by omega), fr 1 (by decide)]
  · refine tw_A h (cI (pI_n c hc)) (fun I1 L1 hf g => pI_n (fun w => c ((off_y g s).1.mpr w)) (ct_Mo_off h.2.1 g.1.1.1.2.1 (u := sz) (by rw [hf 134 (by decide)]; exact n5) n4 s))
end
