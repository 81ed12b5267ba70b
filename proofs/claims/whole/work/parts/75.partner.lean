/-! ===== the reference: pairs, partner ===== -/
/-- the best sum, and the partners by it -/
def yBest (I : Nat → Nat → Int32) (ns : Nat) : Nat := vF (yGn I ns) (ylR I ns).length (ylL I ns).length 0 (2 ^ (ylR I ns).length - 1)
def yPtn (I : Nat → Nat → Int32) (ns : Nat) (f : Nat → Int32) : Nat → Int32 := grP (yGn I ns) (ylL I ns) (ylR I ns) (ylL I ns).length (ylR I ns).length (ylL I ns).length 0 (2 ^ (ylR I ns).length - 1) (yBest I ns) f
def rPtM (I : Nat → Nat → Int32) (P : Nat → Nat → Option Nat) (ns : Nat) (s : Int32) : Option Value → pM → Prop := fun r M => ∃ f I' L', r = some (.int (yPtn I ns f (ixn s))) ∧ M = (I', L', P) ∧ rep I' I ∧ ∀ s, s < ns → f s = -2

theorem ct_Mo_pairs {sh : List pSh} {I : Nat → Nat → Int32} {L : Nat → Nat → Int64} {P : Nat → Nat → Option Nat} (hA : kA sh P) {np ns nd : Nat} (hm : mOK I np ns nd) (hwf : wfL I) : pCn m_Mo_pairs 6 [.ref 134] sh (I, L, P) (rA (nI (yBest I ns)) I P) := by
  refine pCn_of (by decide +kernel) (Nat.le_of_ble_eq_true rfl) ?_
  refine pw_aload_n (k4 := 0) rfl (by decide +kernel) ?_
  refine pw_iconst (n := 0) (v := 0) (by decide) (by decide +kernel) ?_
  refine pq_putI (c := 11) (k := 2) (ks_m hA) (by decide) (by decide) lf_Mo_175 (Or.inl rfl) (by decide +kernel) ?_
  refine pw_aload_n (k4 := 0) rfl (by decide +kernel) ?_
  refine pq_callV (ν := m_Mo_layPairs) (d' := 5) (av := []) (c := 11) (by decide +kernel) lm_Mo_502 ok_Mo_layPairs (show _ = some 0 by decide +kernel) (ks_m hA) rfl (by decide) (by omega) (Nat.le_of_ble_eq_true rfl) (ct_Mo_layPairs hA (by exact hm) (by exact hwf)) ?_
  rintro _ _ ⟨rfl, J, L2, f, rfl, hJ, hf, h77, h177⟩
  refine pw_aload_n (k4 := 0) rfl (by decide +kernel) ?_
  refine pq_getI (c := 11) (k := 77) (ks_m hA) (by decide) (by decide) lf_Mo_499 (by decide +kernel) ?_
  exact pq_iret rfl (by decide +kernel) ⟨congrArg (fun z => some (Value.int z)) h77, _, _, rfl, hJ.tr rep_t⟩

theorem ct_Mo_partner {sh : List pSh} {I : Nat → Nat → Int32} {L : Nat → Nat → Int64} {P : Nat → Nat → Option Nat} (hA : kA sh P) {np ns nd : Nat} (hm : mOK I np ns nd) (hwf : wfL I) (s : Int32) : pCn m_Mo_partner 6 [.ref 134, .int s] sh (I, L, P) (rIf (yThere I s) (rPtM I P ns s) (rA (-1) I P)) := by
  refine pCn_of (by decide +kernel) (Nat.le_of_ble_eq_true rfl) ?_
  have h5 := hm.2.1
  have h16 := hm.2.2.2.1
  have h8 := hm.2.2.2.2.2
  refine pw_aload_n (k4 := 0) rfl (by decide +kernel) ?_
  refine pw_iconst (n := 0) (v := 0) (by decide) (by decide +kernel) ?_
  refine pq_putI (c := 11) (k := 2) (ks_m hA) (by decide) (by decide) lf_Mo_175 (Or.inl rfl) (by decide +kernel) ?_
  refine pw_aload_n (k4 := 0) rfl (by decide +kernel) ?_
  refine pw_iload_n (k4 := 1) rfl (by decide +kernel) ?_
  refine pq_callV (ν := m_Mo_isThere) (d' := 1) (av := [_]) (c := 11) (by decide +kernel) lm_Mo_446 ok_Mo_isThere (show _ = some 1 by decide +kernel) (ks_m hA) rfl (by decide) (by omega) (Nat.le_of_ble_eq_true rfl) (ct_Mo_isThere hA (by exact hm) _) ?_
  rintro _ _ ⟨rfl, rfl⟩
  refine pn_ifB_ne (off := 5) (tgt := 15) (by decide +kernel) (by decide +kernel) (fun z10 => ?_) (fun z10 => ?_)
  · obtain ⟨j, hj, rfl⟩ := nIn (hm.2.2.1) (by omega) z10.1
    refine pw_aload_n (k4 := 0) rfl (by decide +kernel) ?_
    refine pq_callV (ν := m_Mo_layPairs) (d' := 5) (av := []) (c := 11) (by decide +kernel) lm_Mo_502 ok_Mo_layPairs (show _ = some 0 by decide +kernel) (ks_m hA) rfl (by decide) (by omega) (Nat.le_of_ble_eq_true rfl) (ct_Mo_layPairs hA (by exact hm) (by exact hwf)) ?_
    rintro _ _ ⟨rfl, J, L2, f, rfl, hJ, hf, h77, h177⟩
    refine pw_aload_n (k4 := 0) rfl (by decide +kernel) ?_
    refine pq_getP (c := 11) (k := 76) (ks_m hA) (by decide) (by decide) (kp_m_partnerOf hA) lf_Mo_142 (by decide +kernel) ?_
    refine pw_iload_n (k4 := 1) rfl (by decide +kernel) ?_
    refine pq_iald j rfl (by omega) (by decide) (ks_m_partnerOf hA) (by decide +kernel) ?_
    exact pq_iret rfl (by decide +kernel) ⟨fun _ => ⟨f, _, _, congrArg (fun z => some (Value.int z)) (by rw [ixn_nI (by omega)]; exact congrFun h177 j), rfl, hJ.tr rep_t, hf⟩, fun h => absurd z10 h⟩
  · refine pw_iconst (n := -1) (v := -1) (by decide) (by decide +kernel) ?_
    exact pq_iret rfl (by decide +kernel) ⟨fun h => absurd h z10, fun _ => ⟨rfl, _, _, rfl, rep_t⟩⟩
