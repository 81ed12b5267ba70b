/-! ===== the law's cases ===== -/
section
variable {p : Program} {l : Launch} {e : Env} {s : State} {m : MethodId} {args : Array Value} {below : List Frame} {meth : Method} {cc : Code} {D : va_G} {dA : Nat → ClassId} {b base : Nat} {Z : State → Prop} {cells slots i Lx : Nat} {xs : Nat → Int32} {M : pM}
theorem lw_c13 (C : lC m_Lw p s m args meth cc) (hX : va_X b Lx xs s s.heap) (hbz : b < s.heap.size) (hL : Lx ≤ 3072) (hi : i + 6 ≤ Lx) (hc : cells ≤ 601024) (hsl : slots ≤ 7293034) (h : iv (kT (.inr (5, Lx)) 186) M) (K : ∀ M', iv (kT (.inr (5, Lx)) 186) M' → lJ m_Lw p l e room_1 s m args below meth cc D dA b base Z cells slots 1389 (lwL i) [] (kT (.inr (5, Lx)) 186, M')) : lJ m_Lw p l e room_1 s m args below meth cc D dA b base Z cells slots 717 (lwL i) [] (kT (.inr (5, Lx)) 186, M) := by
  have hs : (kT (.inr (5, Lx)) 186)[0]? = some (.inr (5, Lx)) := kT_0 (by decide)
  obtain ⟨I, L, P⟩ := M
  obtain ⟨t, t1, np, ns, nd, nx, sz, hq⟩ := h
  refine lj_aload_n C (k4 := 1) (x := 1) rfl (by decide +kernel) ?_
  refine lj_arg C hs hX hbz (i := i) rfl rfl 1 (z := 1) (by decide) (by omega) hL (pc6 := 724) rfl (by decide +kernel) (by decide +kernel) (by decide +kernel) (by decide +kernel) (by decide +kernel) ?_
  refine lj_callV C (ν := m_Ls_days) (d' := 6) (a := 1) (c := 10) (av := [.int (xs (i + 1))]) (by decide +kernel) lm_Lw_85 ok_Ls_days (show _ = some 1 by decide +kernel) (kg_1 (by decide)) rfl (by decide) (by decide) (by decide) (by decide) hc hsl (tw_days (L := L) hq (xs (i + 1))) ?_
  rintro _ M1 ⟨v, rfl, hm⟩
  refine lj_aload_n C (k4 := 2) (x := 134) rfl (by decide +kernel) ?_
  refine lj_arg C hs hX hbz (i := i) rfl rfl 1 (z := 1) (by decide) (by omega) hL (pc6 := 734) rfl (by decide +kernel) (by decide +kernel) (by decide +kernel) (by decide +kernel) (by decide +kernel) ?_
  refine lj_callV C (ν := m_Mo_days) (d' := 9) (a := 134) (c := 11) (av := [.int (xs (i + 1))]) (by decide +kernel) lm_Lw_88 ok_Mo_days (show _ = some 1 by decide +kernel) (kg_134 (by decide)) rfl (by decide) (by decide) (by decide) (Nat.le_of_ble_eq_true rfl) hc hsl hm ?_
  rintro _ M2 ⟨rfl, hiv⟩
  exact lj_icmp_eq C (off := 652) (tgt := 1389) (by decide +kernel) (by decide +kernel) (fun _ => K M2 hiv) (fun z => absurd rfl z)
theorem lw_c14 (C : lC m_Lw p s m args meth cc) (hX : va_X b Lx xs s s.heap) (hbz : b < s.heap.size) (hL : Lx ≤ 3072) (hi : i + 6 ≤ Lx) (hc : cells ≤ 601024) (hsl : slots ≤ 7293034) (h : iv (kT (.inr (5, Lx)) 186) M) (K : ∀ M', iv (kT (.inr (5, Lx)) 186) M' → lJ m_Lw p l e room_1 s m args below meth cc D dA b base Z cells slots 1389 (lwL i) [] (kT (.inr (5, Lx)) 186, M')) : lJ m_Lw p l e room_1 s m args below meth cc D dA b base Z cells slots 742 (lwL i) [] (kT (.inr (5, Lx)) 186, M) := by
  have hs : (kT (.inr (5, Lx)) 186)[0]? = some (.inr (5, Lx)) := kT_0 (by decide)
  obtain ⟨I, L, P⟩ := M
  obtain ⟨t, t1, np, ns, nd, nx, sz, hq⟩ := h
  refine lj_aload_n C (k4 := 1) (x := 1) rfl (by decide +kernel) ?_
  refine lj_callV C (ν := m_Ls_refused) (d' := 0) (a := 1) (c := 10) (av := []) (by decide +kernel) lm_Lw_89 ok_Ls_refused (show _ = some 0 by decide +kernel) (kg_1 (by decide)) rfl (by decide) (by decide) (by decide) (by decide) hc hsl (tw_refused (L := L) hq ) ?_
  rintro _ M1 ⟨v, rfl, hm⟩
  refine lj_aload_n C (k4 := 2) (x := 134) rfl (by decide +kernel) ?_
  refine lj_callV C (ν := m_Mo_refused) (d' := 0) (a := 134) (c := 11) (av := []) (by decide +kernel) lm_Lw_92 ok_Mo_refused (show _ = some 0 by decide +kernel) (kg_134 (by decide)) rfl (by decide) (by decide) (by decide) (Nat.le_of_ble_eq_true rfl) hc hsl hm ?_
  rintro _ M2 ⟨rfl, hiv⟩
  exact lj_icmp_eq C (off := 639) (tgt := 1389) (by decide +kernel) (by decide +kernel) (fun _ => K M2 hiv) (fun z => absurd rfl z)
theorem lw_c15 (C : lC m_Lw p s m args meth cc) (hX : va_X b Lx xs s s.heap) (hbz : b < s.heap.size) (hL : Lx ≤ 3072) (hi : i + 6 ≤ Lx) (hc : cells ≤ 601024) (hsl : slots ≤ 7293034) (h : iv (kT (.inr (5, Lx)) 186) M) (K : ∀ M', iv (kT (.inr (5, Lx)) 186) M' → lJ m_Lw p l e room_1 s m args below meth cc D dA b base Z cells slots 1389 (lwL i) [] (kT (.inr (5, Lx)) 186, M')) : lJ m_Lw p l e room_1 s m args below meth cc D dA b base Z cells slots 755 (lwL i) [] (kT (.inr (5, Lx)) 186, M) := by
  have hs : (kT (.inr (5, Lx)) 186)[0]? = some (.inr (5, Lx)) := kT_0 (by decide)
  obtain ⟨I, L, P⟩ := M
  obtain ⟨t, t1, np, ns, nd, nx, sz, hq⟩ := h
  refine lj_aload_n C (k4 := 1) (x := 1) rfl (by decide +kernel) ?_
  refine lj_arg C hs hX hbz (i := i) rfl rfl 1 (z := 1) (by decide) (by omega) hL (pc6 := 762) rfl (by decide +kernel) (by decide +kernel) (by decide +kernel) (by decide +kernel) (by decide +kernel) ?_
  refine lj_arg C hs hX hbz (i := i) rfl rfl 2 (z := 2) (by decide) (by omega) hL (pc6 := 768) rfl (by decide +kernel) (by decide +kernel) (by decide +kernel) (by decide +kernel) (by decide +kernel) ?_
  refine lj_callV C (ν := m_Ls_change) (d' := 5) (a := 1) (c := 10) (av := [.int (xs (i + 1)), .int (xs (i + 2))]) (by decide +kernel) lm_Lw_93 ok_Ls_change (show _ = some 2 by decide +kernel) (kg_1 (by decide)) rfl (by decide) (by decide) (by decide) (by decide) hc hsl (tw_change (L := L) hq (xs (i + 1)) (xs (i + 2))) ?_
  rintro _ M1 ⟨v, rfl, hm⟩
  refine lj_aload_n C (k4 := 2) (x := 134) rfl (by decide +kernel) ?_
  refine lj_arg C hs hX hbz (i := i) rfl rfl 1 (z := 1) (by decide) (by omega) hL (pc6 := 778) rfl (by decide +kernel) (by decide +kernel) (by decide +kernel) (by decide +kernel) (by decide +kernel) ?_
  refine lj_arg C hs hX hbz (i := i) rfl rfl 2 (z := 2) (by decide) (by omega) hL (pc6 := 784) rfl (by decide +kernel) (by decide +kernel) (by decide +kernel) (by decide +kernel) (by decide +kernel) ?_
  refine lj_callV C (ν := m_Mo_change) (d' := 7) (a := 134) (c := 11) (av := [.int (xs (i + 1)), .int (xs (i + 2))]) (by decide +kernel) lm_Lw_96 ok_Mo_change (show _ = some 2 by decide +kernel) (kg_134 (by decide)) rfl (by decide) (by decide) (by decide) (Nat.le_of_ble_eq_true rfl) hc hsl hm ?_
  rintro _ M2 ⟨rfl, hiv⟩
  exact lj_icmp_eq C (off := 602) (tgt := 1389) (by decide +kernel) (by decide +kernel) (fun _ => K M2 hiv) (fun z => absurd rfl z)
theorem lw_c16 (C : lC m_Lw p s m args meth cc) (hX : va_X b Lx xs s s.heap) (hbz : b < s.heap.size) (hL : Lx ≤ 3072) (hi : i + 6 ≤ Lx) (hc : cells ≤ 601024) (hsl : slots ≤ 7293034) (h : iv (kT (.inr (5, Lx)) 186) M) (K : ∀ M', iv (kT (.inr (5, Lx)) 186) M' → lJ m_Lw p l e room_1 s m args below meth cc D dA b base Z cells slots 1389 (lwL i) [] (kT (.inr (5, Lx)) 186, M')) : lJ m_Lw p l e room_1 s m args below meth cc D dA b base Z cells slots 792 (lwL i) [] (kT (.inr (5, Lx)) 186, M) := by
  have hs : (kT (.inr (5, Lx)) 186)[0]? = some (.inr (5, Lx)) := kT_0 (by decide)
  obtain ⟨I, L, P⟩ := M
  obtain ⟨t, t1, np, ns, nd, nx, sz, hq⟩ := h
  refine lj_aload_n C (k4 := 1) (x := 1) rfl (by decide +kernel) ?_
  refine lj_arg C hs hX hbz (i := i) rfl rfl 1 (z := 1) (by decide) (by omega) hL (pc6 := 799) rfl (by decide +kernel) (by decide +kernel) (by decide +kernel) (by decide +kernel) (by decide +kernel) ?_
  refine lj_arg C hs hX hbz (i := i) rfl rfl 2 (z := 2) (by decide) (by omega) hL (pc6 := 805) rfl (by decide +kernel) (by decide +kernel) (by decide +kernel) (by decide +kernel) (by decide +kernel) ?_
  refine lj_callV C (ν := m_Ls_mint) (d' := 4) (a := 1) (c := 10) (av := [.int (xs (i + 1)), .int (xs (i + 2))]) (by decide +kernel) lm_Lw_97 ok_Ls_mint (show _ = some 2 by decide +kernel) (kg_1 (by decide)) rfl (by decide) (by decide) (by decide) (by decide) hc hsl (tw_mint (L := L) hq (xs (i + 1)) (xs (i + 2))) ?_
  rintro _ M1 ⟨v, rfl, hm⟩
  refine lj_aload_n C (k4 := 2) (x := 134) rfl (by decide +kernel) ?_
  refine lj_arg C hs hX hbz (i := i) rfl rfl 1 (z := 1) (by decide) (by omega) hL (pc6 := 815) rfl (by decide +kernel) (by decide +kernel) (by decide +kernel) (by decide +kernel) (by decide +kernel) ?_
  refine lj_arg C hs hX hbz (i := i) rfl rfl 2 (z := 2) (by decide) (by omega) hL (pc6 := 821) rfl (by decide +kernel) (by decide +kernel) (by decide +kernel) (by decide +kernel) (by decide +kernel) ?_
  refine lj_callV C (ν := m_Mo_mint) (d' := 4) (a := 134) (c := 11) (av := [.int (xs (i + 1)), .int (xs (i + 2))]) (by decide +kernel) lm_Lw_100 ok_Mo_mint (show _ = some 2 by decide +kernel) (kg_134 (by decide)) rfl (by decide) (by decide) (by decide) (Nat.le_of_ble_eq_true rfl) hc hsl hm ?_
  rintro _ M2 ⟨rfl, hiv⟩
  exact lj_icmp_eq C (off := 565) (tgt := 1389) (by decide +kernel) (by decide +kernel) (fun _ => K M2 hiv) (fun z => absurd rfl z)
theorem lw_c17 (C : lC m_Lw p s m args meth cc) (hX : va_X b Lx xs s s.heap) (hbz : b < s.heap.size) (hL : Lx ≤ 3072) (hi : i + 6 ≤ Lx) (hc : cells ≤ 601024) (hsl : slots ≤ 7293034) (h : iv (kT (.inr (5, Lx)) 186) M) (K : ∀ M', iv (kT (.inr (5, Lx)) 186) M' → lJ m_Lw p l e room_1 s m args below meth cc D dA b base Z cells slots 1389 (lwL i) [] (kT (.inr (5, Lx)) 186, M')) : lJ m_Lw p l e room_1 s m args below meth cc D dA b base Z cells slots 829 (lwL i) [] (kT (.inr (5, Lx)) 186, M) := by
  have hs : (kT (.inr (5, Lx)) 186)[0]? = some (.inr (5, Lx)) := kT_0 (by decide)
  obtain ⟨I, L, P⟩ := M
  obtain ⟨t, t1, np, ns, nd, nx, sz, hq⟩ := h
  refine lj_aload_n C (k4 := 1) (x := 1) rfl (by decide +kernel) ?_
  refine lj_callV C (ν := m_Ls_pairs) (d' := 6) (a := 1) (c := 10) (av := []) (by decide +kernel) lm_Lw_101 ok_Ls_pairs (show _ = some 0 by decide +kernel) (kg_1 (by decide)) rfl (by decide) (by decide) (by decide) (by decide) hc hsl (tw_pairs (L := L) hq ) ?_
  rintro _ M1 ⟨v, rfl, hm⟩
  refine lj_aload_n C (k4 := 2) (x := 134) rfl (by decide +kernel) ?_
  refine lj_callV C (ν := m_Mo_pairs) (d' := 6) (a := 134) (c := 11) (av := []) (by decide +kernel) lm_Lw_104 ok_Mo_pairs (show _ = some 0 by decide +kernel) (kg_134 (by decide)) rfl (by decide) (by decide) (by decide) (Nat.le_of_ble_eq_true rfl) hc hsl hm ?_
  rintro _ M2 ⟨rfl, hiv⟩
  exact lj_icmp_eq C (off := 552) (tgt := 1389) (by decide +kernel) (by decide +kernel) (fun _ => K M2 hiv) (fun z => absurd rfl z)
theorem lw_c18 (C : lC m_Lw p s m args meth cc) (hX : va_X b Lx xs s s.heap) (hbz : b < s.heap.size) (hL : Lx ≤ 3072) (hi : i + 6 ≤ Lx) (hc : cells ≤ 601024) (hsl : slots ≤ 7293034) (h : iv (kT (.inr (5, Lx)) 186) M) (K : ∀ M', iv (kT (.inr (5, Lx)) 186) M' → lJ m_Lw p l e room_1 s m args below meth cc D dA b base Z cells slots 1389 (lwL i) [] (kT (.inr (5, Lx)) 186, M')) : lJ m_Lw p l e room_1 s m args below meth cc D dA b base Z cells slots 842 (lwL i) [] (kT (.inr (5, Lx)) 186, M) := by
  have hs : (kT (.inr (5, Lx)) 186)[0]? = some (.inr (5, Lx)) := kT_0 (by decide)
  obtain ⟨I, L, P⟩ := M
  obtain ⟨t, t1, np, ns, nd, nx, sz, hq⟩ := h
  refine lj_aload_n C (k4 := 1) (x := 1) rfl (by decide +kernel) ?_
  refine lj_arg C hs hX hbz (i := i) rfl rfl 1 (z := 1) (by decide) (by omega) hL (pc6 := 849) rfl (by decide +kernel) (by decide +kernel) (by decide +kernel) (by decide +kernel) (by decide +kernel) ?_
  refine lj_callV C (ν := m_Ls_partner) (d' := 6) (a := 1) (c := 10) (av := [.int (xs (i + 1))]) (by decide +kernel) lm_Lw_105 ok_Ls_partner (show _ = some 1 by decide +kernel) (kg_1 (by decide)) rfl (by decide) (by decide) (by decide) (by decide) hc hsl (tw_partner (L := L) hq (xs (i + 1))) ?_
  rintro _ M1 ⟨v, rfl, hm⟩
  refine lj_aload_n C (k4 := 2) (x := 134) rfl (by decide +kernel) ?_
  refine lj_arg C hs hX hbz (i := i) rfl rfl 1 (z := 1) (by decide) (by omega) hL (pc6 := 859) rfl (by decide +kernel) (by decide +kernel) (by decide +kernel) (by decide +kernel) (by decide +kernel) ?_
  refine lj_callV C (ν := m_Mo_partner) (d' := 6) (a := 134) (c := 11) (av := [.int (xs (i + 1))]) (by decide +kernel) lm_Lw_108 ok_Mo_partner (show _ = some 1 by decide +kernel) (kg_134 (by decide)) rfl (by decide) (by decide) (by decide) (Nat.le_of_ble_eq_true rfl) hc hsl hm ?_
  rintro _ M2 ⟨rfl, hiv⟩
  exact lj_icmp_eq C (off := 527) (tgt := 1389) (by decide +kernel) (by decide +kernel) (fun _ => K M2 hiv) (fun z => absurd rfl z)
theorem lw_c19 (C : lC m_Lw p s m args meth cc) (hX : va_X b Lx xs s s.heap) (hbz : b < s.heap.size) (hL : Lx ≤ 3072) (hi : i + 6 ≤ Lx) (hc : cells ≤ 601024) (hsl : slots ≤ 7293034) (h : iv (kT (.inr (5, Lx)) 186) M) (K : ∀ M', iv (kT (.inr (5, Lx)) 186) M' → lJ m_Lw p l e room_1 s m args below meth cc D dA b base Z cells slots 1389 (lwL i) [] (kT (.inr (5, Lx)) 186, M')) : lJ m_Lw p l e room_1 s m args below meth cc D dA b base Z cells slots 867 (lwL i) [] (kT (.inr (5, Lx)) 186, M) := by
  have hs : (kT (.inr (5, Lx)) 186)[0]? = some (.inr (5, Lx)) := kT_0 (by decide)
  obtain ⟨I, L, P⟩ := M
  obtain ⟨t, t1, np, ns, nd, nx, sz, hq⟩ := h
  refine lj_aload_n C (k4 := 1) (x := 1) rfl (by decide +kernel) ?_
  refine lj_arg C hs hX hbz (i := i) rfl rfl 1 (z := 1) (by decide) (by omega) hL (pc6 := 874) rfl (by decide +kernel) (by decide +kernel) (by decide +kernel) (by decide +kernel) (by decide +kernel) ?_
  refine lj_arg C hs hX hbz (i := i) rfl rfl 2 (z := 2) (by decide) (by omega) hL (pc6 := 880) rfl (by decide +kernel) (by decide +kernel) (by decide +kernel) (by decide +kernel) (by decide +kernel) ?_
  refine lj_arg C hs hX hbz (i := i) rfl rfl 3 (z := 3) (by decide) (by omega) hL (pc6 := 886) rfl (by decide +kernel) (by decide +kernel) (by decide +kernel) (by decide +kernel) (by decide +kernel) ?_
  refine lj_callV C (ν := m_Ls_walk) (d' := 15) (a := 1) (c := 10) (av := [.int (xs (i + 1)), .int (xs (i + 2)), .int (xs (i + 3))]) (by decide +kernel) lm_Lw_109 ok_Ls_walk (show _ = some 3 by decide +kernel) (kg_1 (by decide)) rfl (by decide) (by decide) (by decide) (by decide) hc hsl (tw_walk (L := L) hq (xs (i + 1)) (xs (i + 2)) (xs (i + 3))) ?_
  rintro _ M1 ⟨v, rfl, hm⟩
  refine lj_aload_n C (k4 := 2) (x := 134) rfl (by decide +kernel) ?_
  refine lj_arg C hs hX hbz (i := i) rfl rfl 1 (z := 1) (by decide) (by omega) hL (pc6 := 896) rfl (by decide +kernel) (by decide +kernel) (by decide +kernel) (by decide +kernel) (by decide +kernel) ?_
  refine lj_arg C hs hX hbz (i := i) rfl rfl 2 (z := 2) (by decide) (by omega) hL (pc6 := 902) rfl (by decide +kernel) (by decide +kernel) (by decide +kernel) (by decide +kernel) (by decide +kernel) ?_
  refine lj_arg C hs hX hbz (i := i) rfl rfl 3 (z := 3) (by decide) (by omega) hL (pc6 := 908) rfl (by decide +kernel) (by decide +kernel) (by decide +kernel) (by decide +kernel) (by decide +kernel) ?_
  refine lj_callV C (ν := m_Mo_walk) (d' := 7) (a := 134) (c := 11) (av := [.int (xs (i + 1)), .int (xs (i + 2)), .int (xs (i + 3))]) (by decide +kernel) lm_Lw_112 ok_Mo_walk (show _ = some 3 by decide +kernel) (kg_134 (by decide)) rfl (by decide) (by decide) (by decide) (Nat.le_of_ble_eq_true rfl) hc hsl hm ?_
  rintro _ M2 ⟨rfl, hiv⟩
  exact lj_icmp_eq C (off := 478) (tgt := 1389) (by decide +kernel) (by decide +kernel) (fun _ => K M2 hiv) (fun z => absurd rfl z)
theorem lw_c20 (C : lC m_Lw p s m args meth cc) (hX : va_X b Lx xs s s.heap) (hbz : b < s.heap.size) (hL : Lx ≤ 3072) (hi : i + 6 ≤ Lx) (hc : cells ≤ 601024) (hsl : slots ≤ 7293034) (h : iv (kT (.inr (5, Lx)) 186) M) (K : ∀ M', iv (kT (.inr (5, Lx)) 186) M' → lJ m_Lw p l e room_1 s m args below meth cc D dA b base Z cells slots 1389 (lwL i) [] (kT (.inr (5, Lx)) 186, M')) : lJ m_Lw p l e room_1 s m args below meth cc D dA b base Z cells slots 916 (lwL i) [] (kT (.inr (5, Lx)) 186, M) := by
  have hs : (kT (.inr (5, Lx)) 186)[0]? = some (.inr (5, Lx)) := kT_0 (by decide)
  obtain ⟨I, L, P⟩ := M
  obtain ⟨t, t1, np, ns, nd, nx, sz, hq⟩ := h
  refine lj_aload_n C (k4 := 1) (x := 1) rfl (by decide +kernel) ?_
  refine lj_arg C hs hX hbz (i := i) rfl rfl 1 (z := 1) (by decide) (by omega) hL (pc6 := 923) rfl (by decide +kernel) (by decide +kernel) (by decide +kernel) (by decide +kernel) (by decide +kernel) ?_
  refine lj_arg C hs hX hbz (i := i) rfl rfl 2 (z := 2) (by decide) (by omega) hL (pc6 := 929) rfl (by decide +kernel) (by decide +kernel) (by decide +kernel) (by decide +kernel) (by decide +kernel) ?_
  refine lj_callV C (ν := m_Ls_rests) (d' := 4) (a := 1) (c := 10) (av := [.int (xs (i + 1)), .int (xs (i + 2))]) (by decide +kernel) lm_Lw_113 ok_Ls_rests (show _ = some 2 by decide +kernel) (kg_1 (by decide)) rfl (by decide) (by decide) (by decide) (by decide) hc hsl (tw_rests (L := L) hq (xs (i + 1)) (xs (i + 2))) ?_
  rintro _ M1 ⟨v, rfl, hm⟩
  refine lj_aload_n C (k4 := 2) (x := 134) rfl (by decide +kernel) ?_
  refine lj_arg C hs hX hbz (i := i) rfl rfl 1 (z := 1) (by decide) (by omega) hL (pc6 := 939) rfl (by decide +kernel) (by decide +kernel) (by decide +kernel) (by decide +kernel) (by decide +kernel) ?_
  refine lj_arg C hs hX hbz (i := i) rfl rfl 2 (z := 2) (by decide) (by omega) hL (pc6 := 945) rfl (by decide +kernel) (by decide +kernel) (by decide +kernel) (by decide +kernel) (by decide +kernel) ?_
  refine lj_callV C (ν := m_Mo_rests) (d' := 6) (a := 134) (c := 11) (av := [.int (xs (i + 1)), .int (xs (i + 2))]) (by decide +kernel) lm_Lw_116 ok_Mo_rests (show _ = some 2 by decide +kernel) (kg_134 (by decide)) rfl (by decide) (by decide) (by decide) (Nat.le_of_ble_eq_true rfl) hc hsl hm ?_
  rintro _ M2 ⟨rfl, hiv⟩
  exact lj_icmp_eq C (off := 441) (tgt := 1389) (by decide +kernel) (by decide +kernel) (fun _ => K M2 hiv) (fun z => absurd rfl z)
theorem lw_c21 (C : lC m_Lw p s m args meth cc) (hX : va_X b Lx xs s s.heap) (hbz : b < s.heap.size) (hL : Lx ≤ 3072) (hi : i + 6 ≤ Lx) (hc : cells ≤ 601024) (hsl : slots ≤ 7293034) (h : iv (kT (.inr (5, Lx)) 186) M) (K : ∀ M', iv (kT (.inr (5, Lx)) 186) M' → lJ m_Lw p l e room_1 s m args below meth cc D dA b base Z cells slots 1389 (lwL i) [] (kT (.inr (5, Lx)) 186, M')) : lJ m_Lw p l e room_1 s m args below meth cc D dA b base Z cells slots 953 (lwL i) [] (kT (.inr (5, Lx)) 186, M) := by
  have hs : (kT (.inr (5, Lx)) 186)[0]? = some (.inr (5, Lx)) := kT_0 (by decide)
  obtain ⟨I, L, P⟩ := M
  obtain ⟨t, t1, np, ns, nd, nx, sz, hq⟩ := h
  refine lj_aload_n C (k4 := 1) (x := 1) rfl (by decide +kernel) ?_
  refine lj_arg C hs hX hbz (i := i) rfl rfl 1 (z := 1) (by decide) (by omega) hL (pc6 := 960) rfl (by decide +kernel) (by decide +kernel) (by decide +kernel) (by decide +kernel) (by decide +kernel) ?_
  refine lj_arg C hs hX hbz (i := i) rfl rfl 2 (z := 2) (by decide) (by omega) hL (pc6 := 966) rfl (by decide +kernel) (by decide +kernel) (by decide +kernel) (by decide +kernel) (by decide +kernel) ?_
  refine lj_arg C hs hX hbz (i := i) rfl rfl 3 (z := 3) (by decide) (by omega) hL (pc6 := 972) rfl (by decide +kernel) (by decide +kernel) (by decide +kernel) (by decide +kernel) (by decide +kernel) ?_
  refine lj_callV C (ν := m_Ls_rest) (d' := 4) (a := 1) (c := 10) (av := [.int (xs (i + 1)), .int (xs (i + 2)), .int (xs (i + 3))]) (by decide +kernel) lm_Lw_117 ok_Ls_rest (show _ = some 3 by decide +kernel) (kg_1 (by decide)) rfl (by decide) (by decide) (by decide) (by decide) hc hsl (tw_rest (L := L) hq (xs (i + 1)) (xs (i + 2)) (xs (i + 3))) ?_
  rintro _ M1 ⟨v, rfl, hm⟩
  refine lj_aload_n C (k4 := 2) (x := 134) rfl (by decide +kernel) ?_
  refine lj_arg C hs hX hbz (i := i) rfl rfl 1 (z := 1) (by decide) (by omega) hL (pc6 := 982) rfl (by decide +kernel) (by decide +kernel) (by decide +kernel) (by decide +kernel) (by decide +kernel) ?_
  refine lj_arg C hs hX hbz (i := i) rfl rfl 2 (z := 2) (by decide) (by omega) hL (pc6 := 988) rfl (by decide +kernel) (by decide +kernel) (by decide +kernel) (by decide +kernel) (by decide +kernel) ?_
  refine lj_arg C hs hX hbz (i := i) rfl rfl 3 (z := 3) (by decide) (by omega) hL (pc6 := 994) rfl (by decide +kernel) (by decide +kernel) (by decide +kernel) (by decide +kernel) (by decide +kernel) ?_
  refine lj_callV C (ν := m_Mo_rest) (d' := 6) (a := 134) (c := 11) (av := [.int (xs (i + 1)), .int (xs (i + 2)), .int (xs (i + 3))]) (by decide +kernel) lm_Lw_120 ok_Mo_rest (show _ = some 3 by decide +kernel) (kg_134 (by decide)) rfl (by decide) (by decide) (by decide) (Nat.le_of_ble_eq_true rfl) hc hsl hm ?_
  rintro _ M2 ⟨rfl, hiv⟩
  exact lj_icmp_eq C (off := 392) (tgt := 1389) (by decide +kernel) (by decide +kernel) (fun _ => K M2 hiv) (fun z => absurd rfl z)
theorem lw_c22 (C : lC m_Lw p s m args meth cc) (hX : va_X b Lx xs s s.heap) (hbz : b < s.heap.size) (hL : Lx ≤ 3072) (hi : i + 6 ≤ Lx) (hc : cells ≤ 601024) (hsl : slots ≤ 7293034) (h : iv (kT (.inr (5, Lx)) 186) M) (K : ∀ M', iv (kT (.inr (5, Lx)) 186) M' → lJ m_Lw p l e room_1 s m args below meth cc D dA b base Z cells slots 1389 (lwL i) [] (kT (.inr (5, Lx)) 186, M')) : lJ m_Lw p l e room_1 s m args below meth cc D dA b base Z cells slots 1002 (lwL i) [] (kT (.inr (5, Lx)) 186, M) := by
  have hs : (kT (.inr (5, Lx)) 186)[0]? = some (.inr (5, Lx)) := kT_0 (by decide)
  obtain ⟨I, L, P⟩ := M
  obtain ⟨t, t1, np, ns, nd, nx, sz, hq⟩ := h
  refine lj_aload_n C (k4 := 1) (x := 1) rfl (by decide +kernel) ?_
  refine lj_arg C hs hX hbz (i := i) rfl rfl 1 (z := 1) (by decide) (by omega) hL (pc6 := 1009) rfl (by decide +kernel) (by decide +kernel) (by decide +kernel) (by decide +kernel) (by decide +kernel) ?_
  refine lj_callV C (ν := m_Ls_run) (d' := 2) (a := 1) (c := 10) (av := [.int (xs (i + 1))]) (by decide +kernel) lm_Lw_121 ok_Ls_run (show _ = some 1 by decide +kernel) (kg_1 (by decide)) rfl (by decide) (by decide) (by decide) (by decide) hc hsl (tw_run (L := L) hq (xs (i + 1))) ?_
  rintro _ M1 ⟨v, rfl, hm⟩
  refine lj_aload_n C (k4 := 2) (x := 134) rfl (by decide +kernel) ?_
  refine lj_arg C hs hX hbz (i := i) rfl rfl 1 (z := 1) (by decide) (by omega) hL (pc6 := 1019) rfl (by decide +kernel) (by decide +kernel) (by decide +kernel) (by decide +kernel) (by decide +kernel) ?_
  refine lj_callV C (ν := m_Mo_run) (d' := 8) (a := 134) (c := 11) (av := [.int (xs (i + 1))]) (by decide +kernel) lm_Lw_124 ok_Mo_run (show _ = some 1 by decide +kernel) (kg_134 (by decide)) rfl (by decide) (by decide) (by decide) (Nat.le_of_ble_eq_true rfl) hc hsl hm ?_
  rintro _ M2 ⟨rfl, hiv⟩
  exact lj_icmp_eq C (off := 367) (tgt := 1389) (by decide +kernel) (by decide +kernel) (fun _ => K M2 hiv) (fun z => absurd rfl z)
theorem lw_c23 (C : lC m_Lw p s m args meth cc) (hX : va_X b Lx xs s s.heap) (hbz : b < s.heap.size) (hL : Lx ≤ 3072) (hi : i + 6 ≤ Lx) (hc : cells ≤ 601024) (hsl : slots ≤ 7293034) (h : iv (kT (.inr (5, Lx)) 186) M) (K : ∀ M', iv (kT (.inr (5, Lx)) 186) M' → lJ m_Lw p l e room_1 s m args below meth cc D dA b base Z cells slots 1389 (lwL i) [] (kT (.inr (5, Lx)) 186, M')) : lJ m_Lw p l e room_1 s m args below meth cc D dA b base Z cells slots 1027 (lwL i) [] (kT (.inr (5, Lx)) 186, M) := by
  have hs : (kT (.inr (5, Lx)) 186)[0]? = some (.inr (5, Lx)) := kT_0 (by decide)
  obtain ⟨I, L, P⟩ := M
  obtain ⟨t, t1, np, ns, nd, nx, sz, hq⟩ := h
  refine lj_aload_n C (k4 := 1) (x := 1) rfl (by decide +kernel) ?_
  refine lj_arg C hs hX hbz (i := i) rfl rfl 1 (z := 1) (by decide) (by omega) hL (pc6 := 1034) rfl (by decide +kernel) (by decide +kernel) (by decide +kernel) (by decide +kernel) (by decide +kernel) ?_
  refine lj_callV C (ν := m_Ls_save) (d' := 2) (a := 1) (c := 10) (av := [.int (xs (i + 1))]) (by decide +kernel) lm_Lw_125 ok_Ls_save (show _ = some 1 by decide +kernel) (kg_1 (by decide)) rfl (by decide) (by decide) (by decide) (by decide) hc hsl (tw_save (L := L) hq (xs (i + 1))) ?_
  rintro _ M1 ⟨v, rfl, hm⟩
  refine lj_aload_n C (k4 := 2) (x := 134) rfl (by decide +kernel) ?_
  refine lj_arg C hs hX hbz (i := i) rfl rfl 1 (z := 1) (by decide) (by omega) hL (pc6 := 1044) rfl (by decide +kernel) (by decide +kernel) (by decide +kernel) (by decide +kernel) (by decide +kernel) ?_
  refine lj_callV C (ν := m_Mo_save) (d' := 8) (a := 134) (c := 11) (av := [.int (xs (i + 1))]) (by decide +kernel) lm_Lw_128 ok_Mo_save (show _ = some 1 by decide +kernel) (kg_134 (by decide)) rfl (by decide) (by decide) (by decide) (Nat.le_of_ble_eq_true rfl) hc hsl hm ?_
  rintro _ M2 ⟨rfl, hiv⟩
  exact lj_icmp_eq C (off := 342) (tgt := 1389) (by decide +kernel) (by decide +kernel) (fun _ => K M2 hiv) (fun z => absurd rfl z)
theorem lw_c24 (C : lC m_Lw p s m args meth cc) (hX : va_X b Lx xs s s.heap) (hbz : b < s.heap.size) (hL : Lx ≤ 3072) (hi : i + 6 ≤ Lx) (hc : cells ≤ 601024) (hsl : slots ≤ 7293034) (h : iv (kT (.inr (5, Lx)) 186) M) (K : ∀ M', iv (kT (.inr (5, Lx)) 186) M' → lJ m_Lw p l e room_1 s m args below meth cc D dA b base Z cells slots 1389 (lwL i) [] (kT (.inr (5, Lx)) 186, M')) : lJ m_Lw p l e room_1 s m args below meth cc D dA b base Z cells slots 1052 (lwL i) [] (kT (.inr (5, Lx)) 186, M) := by
  have hs : (kT (.inr (5, Lx)) 186)[0]? = some (.inr (5, Lx)) := kT_0 (by decide)
  obtain ⟨I, L, P⟩ := M
  obtain ⟨t, t1, np, ns, nd, nx, sz, hq⟩ := h
  refine lj_aload_n C (k4 := 1) (x := 1) rfl (by decide +kernel) ?_
  refine lj_arg C hs hX hbz (i := i) rfl rfl 1 (z := 1) (by decide) (by omega) hL (pc6 := 1059) rfl (by decide +kernel) (by decide +kernel) (by decide +kernel) (by decide +kernel) (by decide +kernel) ?_
  refine lj_arg C hs hX hbz (i := i) rfl rfl 2 (z := 2) (by decide) (by omega) hL (pc6 := 1065) rfl (by decide +kernel) (by decide +kernel) (by decide +kernel) (by decide +kernel) (by decide +kernel) ?_
  refine lj_callV C (ν := m_Ls_track) (d' := 1) (a := 1) (c := 10) (av := [.int (xs (i + 1)), .int (xs (i + 2))]) (by decide +kernel) lm_Lw_129 ok_Ls_track (show _ = some 2 by decide +kernel) (kg_1 (by decide)) rfl (by decide) (by decide) (by decide) (by decide) hc hsl (tw_track (L := L) hq (xs (i + 1)) (xs (i + 2))) ?_
  rintro _ M1 ⟨v, rfl, hm⟩
  refine lj_aload_n C (k4 := 2) (x := 134) rfl (by decide +kernel) ?_
  refine lj_arg C hs hX hbz (i := i) rfl rfl 1 (z := 1) (by decide) (by omega) hL (pc6 := 1075) rfl (by decide +kernel) (by decide +kernel) (by decide +kernel) (by decide +kernel) (by decide +kernel) ?_
  refine lj_arg C hs hX hbz (i := i) rfl rfl 2 (z := 2) (by decide) (by omega) hL (pc6 := 1081) rfl (by decide +kernel) (by decide +kernel) (by decide +kernel) (by decide +kernel) (by decide +kernel) ?_
  refine lj_callV C (ν := m_Mo_track) (d' := 1) (a := 134) (c := 11) (av := [.int (xs (i + 1)), .int (xs (i + 2))]) (by decide +kernel) lm_Lw_132 ok_Mo_track (show _ = some 2 by decide +kernel) (kg_134 (by decide)) rfl (by decide) (by decide) (by decide) (Nat.le_of_ble_eq_true rfl) hc hsl hm ?_
  rintro _ M2 ⟨rfl, hiv⟩
  exact lj_icmp_eq C (off := 305) (tgt := 1389) (by decide +kernel) (by decide +kernel) (fun _ => K M2 hiv) (fun z => absurd rfl z)
end
