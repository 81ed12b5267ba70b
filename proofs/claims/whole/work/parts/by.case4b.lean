/-! ===== the law's case of shoe ===== -/
theorem shoe_y {X Y : Nat → Nat → Int32} {t np ns nd j k : Nat} (h : hR X Y t 62 np ns nd) (hj : j < ns) (hk : k < 7) : xShoe X t 62 j k = yShoe Y np (nI j) k := by
  have h16 := h.lns
  have ej : ixn (nI j) = j := ixn_nI (by omega)
  obtain ⟨r1, r2, r3, -⟩ := h.1.1.2.2.2.1 j hj
  rcases (show k = 0 ∨ k = 1 ∨ k = 2 ∨ k = 3 ∨ k = 4 ∨ k = 5 ∨ k = 6 by omega) with rfl | rfl | rfl | rfl | rfl | rfl | rfl
  · show X (t + 6) j = Y 142 (ixn (nI j)); rw [ej, r1]
  · show X (t + 7) j = Y 143 (ixn (nI j)); rw [ej, r2]
  · show X (62 + 2) j = Y 162 (ixn (nI j)); rw [ej, h.w2 hj]
  · show X (t + 9) j = Y 145 (ixn (nI j)); rw [ej, r3]
  · show X (62 + 3) j = Y 163 (ixn (nI j)); rw [ej, h.w3 hj]
  · show xWorthNow X t 62 j = yWorth Y 0 (ixn (nI j)); rw [ej, worthNow_y h.1.1 h.2.1 h.1.2.1 h.2.2.1 hj]
  · show B (xWorn X t 62 j) = B (yWornA Y 0 (nI j) np)
    unfold B
    by_cases c : xWorn X t 62 j
    · rw [if_pos c, if_pos ((worn_y h.1.1 h.2.1 h.2.2.1 hj).mp c)]
    · rw [if_neg c, if_neg (fun w => c ((worn_y h.1.1 h.2.1 h.2.2.1 hj).mpr w))]
section
variable {p : Program} {l : Launch} {e : Env} {s : State} {m : MethodId} {args : Array Value} {below : List Frame} {meth : Method} {cc : Code} {D : va_G} {dA : Nat → ClassId} {b base : Nat} {Z : State → Prop} {cells slots i Lx : Nat} {xs : Nat → Int32}
set_option maxHeartbeats 2000000 in
theorem lw_c4r {I : Nat → Nat → Int32} {L : Nat → Nat → Int64} {P : Nat → Nat → Option Nat} {t t1 np ns nd nx sz : Nat} (C : lC m_Lw p s m args meth cc) (hX : va_X b Lx xs s s.heap) (hbz : b < s.heap.size) (hL : Lx ≤ 3072) (hi : i + 6 ≤ Lx) (hc : cells ≤ 601024) (hsl : slots ≤ 7293034) (hq : iq t t1 np ns nd nx sz (kT (.inr (5, Lx)) 186) I P) {kv : Int32}
    (hkv : (kv = 1 ∧ ¬ yHasS I (xs (i + 1))) ∨ (kv = 2 ∧ yHasS I (xs (i + 1)) ∧ ∀ j, j < 7 → ¬ xs (i + 2) = nI j) ∨ ∃ j k, kv = 0 ∧ j < ns ∧ k < 7 ∧ xs (i + 1) = nI j ∧ xs (i + 2) = nI k ∧ yHasS I (xs (i + 1)) ∧ L 185 0 = (xShoe I t 62 j k).toInt64)
    (K : ∀ M', iv (kT (.inr (5, Lx)) 186) M' → lJ m_Lw p l e room_1 s m args below meth cc D dA b base Z cells slots 1389 (lwL i) [] (kT (.inr (5, Lx)) 186, M')) : lJ m_Lw p l e room_1 s m args below meth cc D dA b base Z cells slots 369 (lwL i) [.int kv] (kT (.inr (5, Lx)) 186, (I, L, P)) := by
  have hs : (kT (.inr (5, Lx)) 186)[0]? = some (.inr (5, Lx)) := kT_0 (by decide)
  refine lj_istore C (i := 5) (Nat.le_of_ble_eq_true rfl) (by decide +kernel) ?_
  show lJ m_Lw p l e room_1 s m args below meth cc D dA b base Z cells slots 371 [some (.ref 0), some (.ref 1), some (.ref 134), some (.ref 185), some (.int (nI i)), some (.int kv), none] [] (kT (.inr (5, Lx)) 186, (I, L, P))
  refine lj_aload_n C (k4 := 2) (x := 134) rfl (by decide +kernel) ?_
  refine lj_arg C hs hX hbz (i := i) rfl rfl 1 (z := 1) (by decide) (by omega) hL (pc6 := 378) rfl (by decide +kernel) (by decide +kernel) (by decide +kernel) (by decide +kernel) (by decide +kernel) ?_
  refine lj_arg C hs hX hbz (i := i) rfl rfl 2 (z := 2) (by decide) (by omega) hL (pc6 := 384) rfl (by decide +kernel) (by decide +kernel) (by decide +kernel) (by decide +kernel) (by decide +kernel) ?_
  refine lj_callV C (ν := m_Mo_shoe) (d' := 6) (a := 134) (c := 11) (av := [.int (xs (i + 1)), .int (xs (i + 2))]) (by decide +kernel) lm_Lw_44 ok_Mo_shoe (show _ = some 2 by decide +kernel) (kg_134 (by decide)) rfl (by decide) (by decide) (by decide) (by decide) hc hsl (ct_Mo_shoe2 (L := L) hq.2.1 hq.1.1.1.1.2.1 hq.1.1.1.2.1 (mI_o hq.1.1.2.2.1) (xs (i + 1)) (xs (i + 2))) ?_
  rintro _ _ ⟨v, I', L', rfl, rfl, hlf, hr, hv1, hv2⟩
  refine lj_istore C (i := 6) (Nat.le_of_ble_eq_true rfl) (by decide +kernel) ?_
  show lJ m_Lw p l e room_1 s m args below meth cc D dA b base Z cells slots 389 [some (.ref 0), some (.ref 1), some (.ref 134), some (.ref 185), some (.int (nI i)), some (.int kv), some (.int v)] [] (kT (.inr (5, Lx)) 186, (I', L', P))
  refine lj_aload_n C (k4 := 2) (x := 134) rfl (by decide +kernel) ?_
  refine lj_callV C (ν := m_Mo_thrown) (d' := 0) (a := 134) (c := 11) (av := []) (by decide +kernel) lm_Lw_45 ok_Mo_thrown (show _ = some 0 by decide +kernel) (kg_134 (by decide)) rfl (by decide) (by decide) (by decide) (by decide) hc hsl (ct_Mo_thrown (I := I') (L := L') hq.2.1) ?_
  rintro _ _ ⟨rfl, rfl⟩
  refine lj_iload C (i := 5) (x := kv) rfl (by decide +kernel) ?_
  have hfin : iv (kT (.inr (5, Lx)) 186) (I', L', P) := (iq_rep hq (fun _ _ => rfl) hr).v
  have hend : lJ m_Lw p l e room_1 s m args below meth cc D dA b base Z cells slots 417 [some (.ref 0), some (.ref 1), some (.ref 134), some (.ref 185), some (.int (nI i)), some (.int kv), some (.int v)] [] (kT (.inr (5, Lx)) 186, (I', L', P)) := by
    refine lj_goto C (off := 972) (tgt := 1389) (by decide +kernel) (by decide +kernel) ?_
    refine lj_fgt (ls' := lwL i) rfl (fun a w hw => ?_) (K _ hfin)
    match a, hw with
    | 0, hw => exact hw
    | 1, hw => exact hw
    | 2, hw => exact hw
    | 3, hw => exact hw
    | 4, hw => exact hw
    | 5, hw => cases hw
    | 6, hw => cases hw
    | a + 7, hw => cases hw
  have hthrown : I' 134 2 = kv := by
    rcases hkv with ⟨rfl, h0⟩ | ⟨rfl, h1, h2⟩ | ⟨j, k, rfl, hj, hk, e1, e2, h1, h2⟩
    · exact hv1 h0
    · exact (hv2 h1).2 h2
    · exact ((hv2 h1).1 k hk e2).1
  refine lj_icmp_eq C (off := 5) (tgt := 400) (by decide +kernel) (by decide +kernel) (fun _ => ?_) (fun z => absurd hthrown z)
  refine lj_iload C (i := 5) (x := kv) rfl (by decide +kernel) ?_
  refine lj_if_ne C (off := 15) (tgt := 417) (by decide +kernel) (by decide +kernel) (fun _ => hend) (fun z => ?_)
  rcases hkv with ⟨rfl, h0⟩ | ⟨rfl, h1, h2⟩ | ⟨j, k, rfl, hj, hk, e1, e2, h1, h2⟩
  · exact absurd z (by decide)
  · exact absurd z (by decide)
  · refine lj_aload_n C (k4 := 3) (x := 185) rfl (by decide +kernel) ?_
    refine lj_iconst C (n := 0) (v := 0) (by decide) (by decide +kernel) ?_
    obtain ⟨q1, q2⟩ := pIdx (i := 0) (j := 0) (n := 1) rfl (by decide) (by decide)
    refine lj_lald C (n := 1) (kg_185 (by decide)) q1 (by decide +kernel) ?_
    refine lj_iload C (i := 6) (x := v) rfl (by decide +kernel) ?_
    refine lj_i2l C (by decide +kernel) ?_
    refine lj_lcmp C (by decide +kernel) ?_
    have ev : v = xShoe I t 62 j k := by
      rw [((hv2 h1).1 k hk e2).2, e1, shoe_y hq.1.1 hj hk]
    have eL : ((kT (.inr (5, Lx)) 186, (I', L', P)) : pH).2.2.1 185 (0 : Int32).toNatClampNeg = v.toInt64 := by
      rw [q2]
      show L' 185 0 = _
      rw [hlf 185 (by decide) (by decide), h2, ev]
    rw [eL, lgc_self]
    exact lj_if_eq C (off := 5) (tgt := 417) (by decide +kernel) (by decide +kernel) (fun _ => hend) (fun z => absurd rfl z)
set_option maxHeartbeats 2000000 in
theorem lw_c4 {M : pM} (htl : ∀ e, l.admits e → e.platform.stackTraces = false) (C : lC m_Lw p s m args meth cc) (hx : xW base s s.heap) (hX : va_X b Lx xs s s.heap) (hbz : b < s.heap.size) (hL : Lx ≤ 3072) (hi : i + 6 ≤ Lx) (hc : cells + 1 ≤ 601024) (hsl : slots + 6 ≤ 7293034) (h : iv (kT (.inr (5, Lx)) 186) M)
    (K : ∀ M' c' s', c' ≤ cells + 1 → s' ≤ slots + 6 → iv (kT (.inr (5, Lx)) 186) M' → lJ m_Lw p l e room_1 s m args below meth cc D dA b base Z c' s' 1389 (lwL i) [] (kT (.inr (5, Lx)) 186, M')) : lJ m_Lw p l e room_1 s m args below meth cc D dA b base Z cells slots 352 (lwL i) [] (kT (.inr (5, Lx)) 186, M) := by
  have hs : (kT (.inr (5, Lx)) 186)[0]? = some (.inr (5, Lx)) := kT_0 (by decide)
  obtain ⟨I, L, P⟩ := M
  obtain ⟨t, t1, np, ns, nd, nx, sz, hq⟩ := h
  have hq : iq t t1 np ns nd nx sz (kT (.inr (5, Lx)) 186) I P := hq
  refine lj_aload_n C (k4 := 1) (x := 1) rfl (by decide +kernel) ?_
  refine lj_arg C hs hX hbz (i := i) rfl rfl 1 (z := 1) (by decide) (by omega) hL (pc6 := 359) rfl (by decide +kernel) (by decide +kernel) (by decide +kernel) (by decide +kernel) (by decide +kernel) ?_
  refine lj_arg C hs hX hbz (i := i) rfl rfl 2 (z := 2) (by decide) (by omega) hL (pc6 := 365) rfl (by decide +kernel) (by decide +kernel) (by decide +kernel) (by decide +kernel) (by decide +kernel) ?_
  refine lj_aload_n C (k4 := 3) (x := 185) rfl (by decide +kernel) ?_
  have hS : (0 ≤ xs (i + 1) ∧ xs (i + 1) < I t 6) ↔ yHasS I (xs (i + 1)) := by
    show _ ↔ (0 ≤ xs (i + 1) ∧ xs (i + 1) < I 134 13)
    rw [hq.tO.2.2.1, hq.1.1.1.1.2.1.2.2.1]
  by_cases c : yHasS I (xs (i + 1))
  · obtain ⟨j1, j2⟩ := hq.1.1.1.1.S c
    generalize ixn (xs (i + 1)) = j at j1 j2
    rcases swIn (xs (i + 2)) 0 6 (by decide) (by decide) with z | ⟨k, k1, k2, k3⟩
    · refine lj_shoeT htl C hx (by decide +kernel) (kT_len (by decide)) hq.2.1 hq.tt hq.2.2.2.1 (xs (i + 1)) (xs (i + 2)) 2 (Or.inr ⟨hS.mpr c, z, rfl⟩) (by decide) (by decide) hc hsl (by decide) ?_
      exact lw_c4r C hX hbz hL hi hc hsl hq (Or.inr (Or.inl ⟨rfl, c, fun j hj => sw_ne z (by omega) (by omega) (by omega)⟩)) (fun M' hM => K M' _ _ (Nat.le_refl _) (Nat.le_refl _) hM)
    · have hk7 : k < 7 := by omega
      refine lj_shoeG C (av := [.ref 1, .int (xs (i + 1)), .int (xs (i + 2)), .ref 185]) (st := []) (d := 6) (Q := rLwS (xShoe I t 62 j k) I P) (by decide +kernel) rfl (Nat.le_of_ble_eq_true rfl) (by rw [k3, j2]; exact wp_LwS hq.2.1 (kg_185 (by decide)) hq.tt hq.2.2.2.2.2.1 hq.2.2.2.1 hq.tO hq.l j1 hk7) (by decide) (by decide) (show cells ≤ 601024 by omega) (show slots ≤ 7293034 by omega) (by decide) ?_
      rintro _ _ ⟨rfl, L', rfl⟩
      exact lw_c4r C hX hbz hL hi (by omega) (by omega) hq (Or.inr (Or.inr ⟨j, k, rfl, j1, hk7, j2, k3, c, sL_rs⟩)) (fun M' hM => K M' _ _ (by omega) (by omega) hM)
  · refine lj_shoeT htl C hx (by decide +kernel) (kT_len (by decide)) hq.2.1 hq.tt hq.2.2.2.1 (xs (i + 1)) (xs (i + 2)) 1 (Or.inl ⟨fun w => c (hS.mp w), rfl⟩) (by decide) (by decide) hc hsl (by decide) ?_
    exact lw_c4r C hX hbz hL hi hc hsl hq (Or.inl ⟨rfl, c⟩) (fun M' hM => K M' _ _ (Nat.le_refl _) (Nat.le_refl _) hM)
end
