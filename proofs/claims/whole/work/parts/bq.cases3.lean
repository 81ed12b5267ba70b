/-! ===== the law's cases ===== -/
section
variable {p : Program} {l : Launch} {e : Env} {s : State} {m : MethodId} {args : Array Value} {below : List Frame} {meth : Method} {cc : Code} {D : va_G} {dA : Nat → ClassId} {b base : Nat} {Z : State → Prop} {cells slots i Lx : Nat} {xs : Nat → Int32} {M : pM}
theorem lw_c25 (C : lC m_Lw p s m args meth cc) (hX : va_X b Lx xs s s.heap) (hbz : b < s.heap.size) (hL : Lx ≤ 3072) (hi : i + 6 ≤ Lx) (hc : cells ≤ 601024) (hsl : slots ≤ 7293034) (h : iv (kT (.inr (5, Lx)) 186) M) (K : ∀ M', iv (kT (.inr (5, Lx)) 186) M' → lJ m_Lw p l e room_1 s m args below meth cc D dA b base Z cells slots 1389 (lwL i) [] (kT (.inr (5, Lx)) 186, M')) : lJ m_Lw p l e room_1 s m args below meth cc D dA b base Z cells slots 1089 (lwL i) [] (kT (.inr (5, Lx)) 186, M) := by
  have hs : (kT (.inr (5, Lx)) 186)[0]? = some (.inr (5, Lx)) := kT_0 (by decide)
  obtain ⟨I, L, P⟩ := M
  obtain ⟨t, t1, np, ns, nd, nx, sz, hq⟩ := h
  refine lj_aload_n C (k4 := 1) (x := 1) rfl (by decide +kernel) ?_
  refine lj_arg C hs hX hbz (i := i) rfl rfl 1 (z := 1) (by decide) (by omega) hL (pc6 := 1096) rfl (by decide +kernel) (by decide +kernel) (by decide +kernel) (by decide +kernel) (by decide +kernel) ?_
  refine lj_callV C (ν := m_Ls_strike) (d' := 1) (a := 1) (c := 10) (av := [.int (xs (i + 1))]) (by decide +kernel) lm_Lw_133 ok_Ls_strike (show _ = some 1 by decide +kernel) (kg_1 (by decide)) rfl (by decide) (by decide) (by decide) (by decide) hc hsl (tw_strike (L := L) hq (xs (i + 1))) ?_
  rintro _ M1 ⟨v, rfl, hm⟩
  refine lj_aload_n C (k4 := 2) (x := 134) rfl (by decide +kernel) ?_
  refine lj_arg C hs hX hbz (i := i) rfl rfl 1 (z := 1) (by decide) (by omega) hL (pc6 := 1106) rfl (by decide +kernel) (by decide +kernel) (by decide +kernel) (by decide +kernel) (by decide +kernel) ?_
  refine lj_callV C (ν := m_Mo_strike) (d' := 1) (a := 134) (c := 11) (av := [.int (xs (i + 1))]) (by decide +kernel) lm_Lw_136 ok_Mo_strike (show _ = some 1 by decide +kernel) (kg_134 (by decide)) rfl (by decide) (by decide) (by decide) (Nat.le_of_ble_eq_true rfl) hc hsl hm ?_
  rintro _ M2 ⟨rfl, hiv⟩
  exact lj_icmp_eq C (off := 280) (tgt := 1389) (by decide +kernel) (by decide +kernel) (fun _ => K M2 hiv) (fun z => absurd rfl z)
theorem lw_c26 (C : lC m_Lw p s m args meth cc) (hX : va_X b Lx xs s s.heap) (hbz : b < s.heap.size) (hL : Lx ≤ 3072) (hi : i + 6 ≤ Lx) (hc : cells ≤ 601024) (hsl : slots ≤ 7293034) (h : iv (kT (.inr (5, Lx)) 186) M) (K : ∀ M', iv (kT (.inr (5, Lx)) 186) M' → lJ m_Lw p l e room_1 s m args below meth cc D dA b base Z cells slots 1389 (lwL i) [] (kT (.inr (5, Lx)) 186, M')) : lJ m_Lw p l e room_1 s m args below meth cc D dA b base Z cells slots 1114 (lwL i) [] (kT (.inr (5, Lx)) 186, M) := by
  have hs : (kT (.inr (5, Lx)) 186)[0]? = some (.inr (5, Lx)) := kT_0 (by decide)
  obtain ⟨I, L, P⟩ := M
  obtain ⟨t, t1, np, ns, nd, nx, sz, hq⟩ := h
  refine lj_aload_n C (k4 := 1) (x := 1) rfl (by decide +kernel) ?_
  refine lj_arg C hs hX hbz (i := i) rfl rfl 1 (z := 1) (by decide) (by omega) hL (pc6 := 1121) rfl (by decide +kernel) (by decide +kernel) (by decide +kernel) (by decide +kernel) (by decide +kernel) ?_
  refine lj_callV C (ν := m_Ls_known) (d' := 0) (a := 1) (c := 10) (av := [.int (xs (i + 1))]) (by decide +kernel) lm_Lw_137 ok_Ls_known (show _ = some 1 by decide +kernel) (kg_1 (by decide)) rfl (by decide) (by decide) (by decide) (by decide) hc hsl (tw_known (L := L) hq (xs (i + 1))) ?_
  rintro _ M1 ⟨v, rfl, hm⟩
  refine lj_aload_n C (k4 := 2) (x := 134) rfl (by decide +kernel) ?_
  refine lj_arg C hs hX hbz (i := i) rfl rfl 1 (z := 1) (by decide) (by omega) hL (pc6 := 1131) rfl (by decide +kernel) (by decide +kernel) (by decide +kernel) (by decide +kernel) (by decide +kernel) ?_
  refine lj_callV C (ν := m_Mo_known) (d' := 1) (a := 134) (c := 11) (av := [.int (xs (i + 1))]) (by decide +kernel) lm_Lw_140 ok_Mo_known (show _ = some 1 by decide +kernel) (kg_134 (by decide)) rfl (by decide) (by decide) (by decide) (Nat.le_of_ble_eq_true rfl) hc hsl hm ?_
  rintro _ M2 ⟨rfl, hiv⟩
  exact lj_icmp_eq C (off := 255) (tgt := 1389) (by decide +kernel) (by decide +kernel) (fun _ => K M2 hiv) (fun z => absurd rfl z)
theorem lw_c27 (C : lC m_Lw p s m args meth cc) (hX : va_X b Lx xs s s.heap) (hbz : b < s.heap.size) (hL : Lx ≤ 3072) (hi : i + 6 ≤ Lx) (hc : cells ≤ 601024) (hsl : slots ≤ 7293034) (h : iv (kT (.inr (5, Lx)) 186) M) (K : ∀ M', iv (kT (.inr (5, Lx)) 186) M' → lJ m_Lw p l e room_1 s m args below meth cc D dA b base Z cells slots 1389 (lwL i) [] (kT (.inr (5, Lx)) 186, M')) : lJ m_Lw p l e room_1 s m args below meth cc D dA b base Z cells slots 1139 (lwL i) [] (kT (.inr (5, Lx)) 186, M) := by
  have hs : (kT (.inr (5, Lx)) 186)[0]? = some (.inr (5, Lx)) := kT_0 (by decide)
  obtain ⟨I, L, P⟩ := M
  obtain ⟨t, t1, np, ns, nd, nx, sz, hq⟩ := h
  refine lj_aload_n C (k4 := 1) (x := 1) rfl (by decide +kernel) ?_
  refine lj_callV C (ν := m_Ls_who) (d' := 3) (a := 1) (c := 10) (av := []) (by decide +kernel) lm_Lw_141 ok_Ls_who (show _ = some 0 by decide +kernel) (kg_1 (by decide)) rfl (by decide) (by decide) (by decide) (by decide) hc hsl (tw_who (L := L) hq ) ?_
  rintro _ M1 ⟨v, rfl, hm⟩
  refine lj_aload_n C (k4 := 2) (x := 134) rfl (by decide +kernel) ?_
  refine lj_callV C (ν := m_Mo_who) (d' := 2) (a := 134) (c := 11) (av := []) (by decide +kernel) lm_Lw_144 ok_Mo_who (show _ = some 0 by decide +kernel) (kg_134 (by decide)) rfl (by decide) (by decide) (by decide) (Nat.le_of_ble_eq_true rfl) hc hsl hm ?_
  rintro _ M2 ⟨rfl, hiv⟩
  exact lj_icmp_eq C (off := 242) (tgt := 1389) (by decide +kernel) (by decide +kernel) (fun _ => K M2 hiv) (fun z => absurd rfl z)
theorem lw_c28 (C : lC m_Lw p s m args meth cc) (hX : va_X b Lx xs s s.heap) (hbz : b < s.heap.size) (hL : Lx ≤ 3072) (hi : i + 6 ≤ Lx) (hc : cells ≤ 601024) (hsl : slots ≤ 7293034) (h : iv (kT (.inr (5, Lx)) 186) M) (K : ∀ M', iv (kT (.inr (5, Lx)) 186) M' → lJ m_Lw p l e room_1 s m args below meth cc D dA b base Z cells slots 1389 (lwL i) [] (kT (.inr (5, Lx)) 186, M')) : lJ m_Lw p l e room_1 s m args below meth cc D dA b base Z cells slots 1152 (lwL i) [] (kT (.inr (5, Lx)) 186, M) := by
  have hs : (kT (.inr (5, Lx)) 186)[0]? = some (.inr (5, Lx)) := kT_0 (by decide)
  obtain ⟨I, L, P⟩ := M
  obtain ⟨t, t1, np, ns, nd, nx, sz, hq⟩ := h
  refine lj_aload_n C (k4 := 1) (x := 1) rfl (by decide +kernel) ?_
  refine lj_arg C hs hX hbz (i := i) rfl rfl 1 (z := 1) (by decide) (by omega) hL (pc6 := 1159) rfl (by decide +kernel) (by decide +kernel) (by decide +kernel) (by decide +kernel) (by decide +kernel) ?_
  refine lj_callV C (ν := m_Ls_tells) (d' := 4) (a := 1) (c := 10) (av := [.int (xs (i + 1))]) (by decide +kernel) lm_Lw_145 ok_Ls_tells (show _ = some 1 by decide +kernel) (kg_1 (by decide)) rfl (by decide) (by decide) (by decide) (by decide) hc hsl (tw_tells (L := L) hq (xs (i + 1))) ?_
  rintro _ M1 ⟨v, rfl, hm⟩
  refine lj_aload_n C (k4 := 2) (x := 134) rfl (by decide +kernel) ?_
  refine lj_arg C hs hX hbz (i := i) rfl rfl 1 (z := 1) (by decide) (by omega) hL (pc6 := 1169) rfl (by decide +kernel) (by decide +kernel) (by decide +kernel) (by decide +kernel) (by decide +kernel) ?_
  refine lj_callV C (ν := m_Mo_tells) (d' := 2) (a := 134) (c := 11) (av := [.int (xs (i + 1))]) (by decide +kernel) lm_Lw_148 ok_Mo_tells (show _ = some 1 by decide +kernel) (kg_134 (by decide)) rfl (by decide) (by decide) (by decide) (Nat.le_of_ble_eq_true rfl) hc hsl hm ?_
  rintro _ M2 ⟨rfl, hiv⟩
  exact lj_icmp_eq C (off := 217) (tgt := 1389) (by decide +kernel) (by decide +kernel) (fun _ => K M2 hiv) (fun z => absurd rfl z)
theorem lw_c29 (C : lC m_Lw p s m args meth cc) (hX : va_X b Lx xs s s.heap) (hbz : b < s.heap.size) (hL : Lx ≤ 3072) (hi : i + 6 ≤ Lx) (hc : cells ≤ 601024) (hsl : slots ≤ 7293034) (h : iv (kT (.inr (5, Lx)) 186) M) (K : ∀ M', iv (kT (.inr (5, Lx)) 186) M' → lJ m_Lw p l e room_1 s m args below meth cc D dA b base Z cells slots 1389 (lwL i) [] (kT (.inr (5, Lx)) 186, M')) : lJ m_Lw p l e room_1 s m args below meth cc D dA b base Z cells slots 1177 (lwL i) [] (kT (.inr (5, Lx)) 186, M) := by
  have hs : (kT (.inr (5, Lx)) 186)[0]? = some (.inr (5, Lx)) := kT_0 (by decide)
  obtain ⟨I, L, P⟩ := M
  obtain ⟨t, t1, np, ns, nd, nx, sz, hq⟩ := h
  refine lj_aload_n C (k4 := 1) (x := 1) rfl (by decide +kernel) ?_
  refine lj_callV C (ν := m_Ls_ring) (d' := 8) (a := 1) (c := 10) (av := []) (by decide +kernel) lm_Lw_149 ok_Ls_ring (show _ = some 0 by decide +kernel) (kg_1 (by decide)) rfl (by decide) (by decide) (by decide) (by decide) hc hsl (tw_ring (L := L) hq ) ?_
  rintro _ M1 ⟨v, rfl, hm⟩
  refine lj_aload_n C (k4 := 2) (x := 134) rfl (by decide +kernel) ?_
  refine lj_callV C (ν := m_Mo_ring) (d' := 3) (a := 134) (c := 11) (av := []) (by decide +kernel) lm_Lw_152 ok_Mo_ring (show _ = some 0 by decide +kernel) (kg_134 (by decide)) rfl (by decide) (by decide) (by decide) (Nat.le_of_ble_eq_true rfl) hc hsl hm ?_
  rintro _ M2 ⟨rfl, hiv⟩
  exact lj_icmp_eq C (off := 204) (tgt := 1389) (by decide +kernel) (by decide +kernel) (fun _ => K M2 hiv) (fun z => absurd rfl z)
theorem lw_c30 (C : lC m_Lw p s m args meth cc) (hX : va_X b Lx xs s s.heap) (hbz : b < s.heap.size) (hL : Lx ≤ 3072) (hi : i + 6 ≤ Lx) (hc : cells ≤ 601024) (hsl : slots ≤ 7293034) (h : iv (kT (.inr (5, Lx)) 186) M) (K : ∀ M', iv (kT (.inr (5, Lx)) 186) M' → lJ m_Lw p l e room_1 s m args below meth cc D dA b base Z cells slots 1389 (lwL i) [] (kT (.inr (5, Lx)) 186, M')) : lJ m_Lw p l e room_1 s m args below meth cc D dA b base Z cells slots 1190 (lwL i) [] (kT (.inr (5, Lx)) 186, M) := by
  have hs : (kT (.inr (5, Lx)) 186)[0]? = some (.inr (5, Lx)) := kT_0 (by decide)
  obtain ⟨I, L, P⟩ := M
  obtain ⟨t, t1, np, ns, nd, nx, sz, hq⟩ := h
  refine lj_aload_n C (k4 := 1) (x := 1) rfl (by decide +kernel) ?_
  refine lj_arg C hs hX hbz (i := i) rfl rfl 1 (z := 1) (by decide) (by omega) hL (pc6 := 1197) rfl (by decide +kernel) (by decide +kernel) (by decide +kernel) (by decide +kernel) (by decide +kernel) ?_
  refine lj_callV C (ν := m_Ls_good) (d' := 8) (a := 1) (c := 10) (av := [.int (xs (i + 1))]) (by decide +kernel) lm_Lw_153 ok_Ls_good (show _ = some 1 by decide +kernel) (kg_1 (by decide)) rfl (by decide) (by decide) (by decide) (by decide) hc hsl (tw_good (L := L) hq (xs (i + 1))) ?_
  rintro _ M1 ⟨v, rfl, hm⟩
  refine lj_aload_n C (k4 := 2) (x := 134) rfl (by decide +kernel) ?_
  refine lj_arg C hs hX hbz (i := i) rfl rfl 1 (z := 1) (by decide) (by omega) hL (pc6 := 1207) rfl (by decide +kernel) (by decide +kernel) (by decide +kernel) (by decide +kernel) (by decide +kernel) ?_
  refine lj_callV C (ν := m_Mo_good) (d' := 3) (a := 134) (c := 11) (av := [.int (xs (i + 1))]) (by decide +kernel) lm_Lw_156 ok_Mo_good (show _ = some 1 by decide +kernel) (kg_134 (by decide)) rfl (by decide) (by decide) (by decide) (Nat.le_of_ble_eq_true rfl) hc hsl hm ?_
  rintro _ M2 ⟨rfl, hiv⟩
  exact lj_icmp_eq C (off := 179) (tgt := 1389) (by decide +kernel) (by decide +kernel) (fun _ => K M2 hiv) (fun z => absurd rfl z)
theorem lw_c31 (C : lC m_Lw p s m args meth cc) (hX : va_X b Lx xs s s.heap) (hbz : b < s.heap.size) (hL : Lx ≤ 3072) (hi : i + 6 ≤ Lx) (hc : cells ≤ 601024) (hsl : slots ≤ 7293034) (h : iv (kT (.inr (5, Lx)) 186) M) (K : ∀ M', iv (kT (.inr (5, Lx)) 186) M' → lJ m_Lw p l e room_1 s m args below meth cc D dA b base Z cells slots 1389 (lwL i) [] (kT (.inr (5, Lx)) 186, M')) : lJ m_Lw p l e room_1 s m args below meth cc D dA b base Z cells slots 1215 (lwL i) [] (kT (.inr (5, Lx)) 186, M) := by
  have hs : (kT (.inr (5, Lx)) 186)[0]? = some (.inr (5, Lx)) := kT_0 (by decide)
  obtain ⟨I, L, P⟩ := M
  obtain ⟨t, t1, np, ns, nd, nx, sz, hq⟩ := h
  refine lj_aload_n C (k4 := 1) (x := 1) rfl (by decide +kernel) ?_
  refine lj_arg C hs hX hbz (i := i) rfl rfl 1 (z := 1) (by decide) (by omega) hL (pc6 := 1222) rfl (by decide +kernel) (by decide +kernel) (by decide +kernel) (by decide +kernel) (by decide +kernel) ?_
  refine lj_arg C hs hX hbz (i := i) rfl rfl 2 (z := 2) (by decide) (by omega) hL (pc6 := 1228) rfl (by decide +kernel) (by decide +kernel) (by decide +kernel) (by decide +kernel) (by decide +kernel) ?_
  refine lj_arg C hs hX hbz (i := i) rfl rfl 3 (z := 3) (by decide) (by omega) hL (pc6 := 1234) rfl (by decide +kernel) (by decide +kernel) (by decide +kernel) (by decide +kernel) (by decide +kernel) ?_
  refine lj_arg C hs hX hbz (i := i) rfl rfl 4 (z := 4) (by decide) (by omega) hL (pc6 := 1240) rfl (by decide +kernel) (by decide +kernel) (by decide +kernel) (by decide +kernel) (by decide +kernel) ?_
  refine lj_callV C (ν := m_Ls_chance) (d' := 6) (a := 1) (c := 10) (av := [.int (xs (i + 1)), .int (xs (i + 2)), .int (xs (i + 3)), .int (xs (i + 4))]) (by decide +kernel) lm_Lw_157 ok_Ls_chance (show _ = some 4 by decide +kernel) (kg_1 (by decide)) rfl (by decide) (by decide) (by decide) (by decide) hc hsl (tw_chance (L := L) hq (xs (i + 1)) (xs (i + 2)) (xs (i + 3)) (xs (i + 4))) ?_
  rintro _ M1 ⟨v, rfl, hm⟩
  refine lj_aload_n C (k4 := 2) (x := 134) rfl (by decide +kernel) ?_
  refine lj_arg C hs hX hbz (i := i) rfl rfl 1 (z := 1) (by decide) (by omega) hL (pc6 := 1250) rfl (by decide +kernel) (by decide +kernel) (by decide +kernel) (by decide +kernel) (by decide +kernel) ?_
  refine lj_arg C hs hX hbz (i := i) rfl rfl 2 (z := 2) (by decide) (by omega) hL (pc6 := 1256) rfl (by decide +kernel) (by decide +kernel) (by decide +kernel) (by decide +kernel) (by decide +kernel) ?_
  refine lj_arg C hs hX hbz (i := i) rfl rfl 3 (z := 3) (by decide) (by omega) hL (pc6 := 1262) rfl (by decide +kernel) (by decide +kernel) (by decide +kernel) (by decide +kernel) (by decide +kernel) ?_
  refine lj_arg C hs hX hbz (i := i) rfl rfl 4 (z := 4) (by decide) (by omega) hL (pc6 := 1268) rfl (by decide +kernel) (by decide +kernel) (by decide +kernel) (by decide +kernel) (by decide +kernel) ?_
  refine lj_callV C (ν := m_Mo_chance) (d' := 9) (a := 134) (c := 11) (av := [.int (xs (i + 1)), .int (xs (i + 2)), .int (xs (i + 3)), .int (xs (i + 4))]) (by decide +kernel) lm_Lw_161 ok_Mo_chance (show _ = some 4 by decide +kernel) (kg_134 (by decide)) rfl (by decide) (by decide) (by decide) (Nat.le_of_ble_eq_true rfl) hc hsl hm ?_
  rintro _ M2 ⟨rfl, hiv⟩
  exact lj_icmp_eq C (off := 118) (tgt := 1389) (by decide +kernel) (by decide +kernel) (fun _ => K M2 hiv) (fun z => absurd rfl z)
theorem lw_c32 (C : lC m_Lw p s m args meth cc) (hX : va_X b Lx xs s s.heap) (hbz : b < s.heap.size) (hL : Lx ≤ 3072) (hi : i + 6 ≤ Lx) (hc : cells ≤ 601024) (hsl : slots ≤ 7293034) (h : iv (kT (.inr (5, Lx)) 186) M) (K : ∀ M', iv (kT (.inr (5, Lx)) 186) M' → lJ m_Lw p l e room_1 s m args below meth cc D dA b base Z cells slots 1389 (lwL i) [] (kT (.inr (5, Lx)) 186, M')) : lJ m_Lw p l e room_1 s m args below meth cc D dA b base Z cells slots 1276 (lwL i) [] (kT (.inr (5, Lx)) 186, M) := by
  have hs : (kT (.inr (5, Lx)) 186)[0]? = some (.inr (5, Lx)) := kT_0 (by decide)
  obtain ⟨I, L, P⟩ := M
  obtain ⟨t, t1, np, ns, nd, nx, sz, hq⟩ := h
  refine lj_aload_n C (k4 := 1) (x := 1) rfl (by decide +kernel) ?_
  refine lj_arg C hs hX hbz (i := i) rfl rfl 1 (z := 1) (by decide) (by omega) hL (pc6 := 1283) rfl (by decide +kernel) (by decide +kernel) (by decide +kernel) (by decide +kernel) (by decide +kernel) ?_
  refine lj_arg C hs hX hbz (i := i) rfl rfl 2 (z := 2) (by decide) (by omega) hL (pc6 := 1289) rfl (by decide +kernel) (by decide +kernel) (by decide +kernel) (by decide +kernel) (by decide +kernel) ?_
  refine lj_arg C hs hX hbz (i := i) rfl rfl 3 (z := 3) (by decide) (by omega) hL (pc6 := 1295) rfl (by decide +kernel) (by decide +kernel) (by decide +kernel) (by decide +kernel) (by decide +kernel) ?_
  refine lj_callV C (ν := m_Ls_tried) (d' := 6) (a := 1) (c := 10) (av := [.int (xs (i + 1)), .int (xs (i + 2)), .int (xs (i + 3))]) (by decide +kernel) lm_Lw_162 ok_Ls_tried (show _ = some 3 by decide +kernel) (kg_1 (by decide)) rfl (by decide) (by decide) (by decide) (by decide) hc hsl (tw_tried (L := L) hq (xs (i + 1)) (xs (i + 2)) (xs (i + 3))) ?_
  rintro _ M1 ⟨v, rfl, hm⟩
  refine lj_aload_n C (k4 := 2) (x := 134) rfl (by decide +kernel) ?_
  refine lj_arg C hs hX hbz (i := i) rfl rfl 1 (z := 1) (by decide) (by omega) hL (pc6 := 1305) rfl (by decide +kernel) (by decide +kernel) (by decide +kernel) (by decide +kernel) (by decide +kernel) ?_
  refine lj_arg C hs hX hbz (i := i) rfl rfl 2 (z := 2) (by decide) (by omega) hL (pc6 := 1311) rfl (by decide +kernel) (by decide +kernel) (by decide +kernel) (by decide +kernel) (by decide +kernel) ?_
  refine lj_arg C hs hX hbz (i := i) rfl rfl 3 (z := 3) (by decide) (by omega) hL (pc6 := 1317) rfl (by decide +kernel) (by decide +kernel) (by decide +kernel) (by decide +kernel) (by decide +kernel) ?_
  refine lj_callV C (ν := m_Mo_tried) (d' := 9) (a := 134) (c := 11) (av := [.int (xs (i + 1)), .int (xs (i + 2)), .int (xs (i + 3))]) (by decide +kernel) lm_Lw_165 ok_Mo_tried (show _ = some 3 by decide +kernel) (kg_134 (by decide)) rfl (by decide) (by decide) (by decide) (Nat.le_of_ble_eq_true rfl) hc hsl hm ?_
  rintro _ M2 ⟨rfl, hiv⟩
  exact lj_icmp_eq C (off := 69) (tgt := 1389) (by decide +kernel) (by decide +kernel) (fun _ => K M2 hiv) (fun z => absurd rfl z)
theorem lw_c33 (C : lC m_Lw p s m args meth cc) (hX : va_X b Lx xs s s.heap) (hbz : b < s.heap.size) (hL : Lx ≤ 3072) (hi : i + 6 ≤ Lx) (hc : cells ≤ 601024) (hsl : slots ≤ 7293034) (h : iv (kT (.inr (5, Lx)) 186) M) (K : ∀ M', iv (kT (.inr (5, Lx)) 186) M' → lJ m_Lw p l e room_1 s m args below meth cc D dA b base Z cells slots 1389 (lwL i) [] (kT (.inr (5, Lx)) 186, M')) : lJ m_Lw p l e room_1 s m args below meth cc D dA b base Z cells slots 1325 (lwL i) [] (kT (.inr (5, Lx)) 186, M) := by
  have hs : (kT (.inr (5, Lx)) 186)[0]? = some (.inr (5, Lx)) := kT_0 (by decide)
  obtain ⟨I, L, P⟩ := M
  obtain ⟨t, t1, np, ns, nd, nx, sz, hq⟩ := h
  refine lj_aload_n C (k4 := 1) (x := 1) rfl (by decide +kernel) ?_
  refine lj_callV C (ν := m_Ls_undo) (d' := 2) (a := 1) (c := 10) (av := []) (by decide +kernel) lm_Lw_166 ok_Ls_undo (show _ = some 0 by decide +kernel) (kg_1 (by decide)) rfl (by decide) (by decide) (by decide) (by decide) hc hsl (tw_undo (L := L) hq ) ?_
  rintro _ M1 ⟨v, rfl, hm⟩
  refine lj_aload_n C (k4 := 2) (x := 134) rfl (by decide +kernel) ?_
  refine lj_callV C (ν := m_Mo_undo) (d' := 1) (a := 134) (c := 11) (av := []) (by decide +kernel) lm_Lw_169 ok_Mo_undo (show _ = some 0 by decide +kernel) (kg_134 (by decide)) rfl (by decide) (by decide) (by decide) (Nat.le_of_ble_eq_true rfl) hc hsl hm ?_
  rintro _ M2 ⟨rfl, hiv⟩
  exact lj_icmp_eq C (off := 56) (tgt := 1389) (by decide +kernel) (by decide +kernel) (fun _ => K M2 hiv) (fun z => absurd rfl z)
theorem lw_c34 (C : lC m_Lw p s m args meth cc) (hX : va_X b Lx xs s s.heap) (hbz : b < s.heap.size) (hL : Lx ≤ 3072) (hi : i + 6 ≤ Lx) (hc : cells ≤ 601024) (hsl : slots ≤ 7293034) (h : iv (kT (.inr (5, Lx)) 186) M) (K : ∀ M', iv (kT (.inr (5, Lx)) 186) M' → lJ m_Lw p l e room_1 s m args below meth cc D dA b base Z cells slots 1389 (lwL i) [] (kT (.inr (5, Lx)) 186, M')) : lJ m_Lw p l e room_1 s m args below meth cc D dA b base Z cells slots 1338 (lwL i) [] (kT (.inr (5, Lx)) 186, M) := by
  have hs : (kT (.inr (5, Lx)) 186)[0]? = some (.inr (5, Lx)) := kT_0 (by decide)
  obtain ⟨I, L, P⟩ := M
  obtain ⟨t, t1, np, ns, nd, nx, sz, hq⟩ := h
  refine lj_aload_n C (k4 := 1) (x := 1) rfl (by decide +kernel) ?_
  refine lj_callV C (ν := m_Ls_keep) (d' := 2) (a := 1) (c := 10) (av := []) (by decide +kernel) lm_Lw_170 ok_Ls_keep (show _ = some 0 by decide +kernel) (kg_1 (by decide)) rfl (by decide) (by decide) (by decide) (by decide) hc hsl (tw_keep (L := L) hq ) ?_
  rintro _ M1 ⟨v, rfl, hm⟩
  refine lj_aload_n C (k4 := 2) (x := 134) rfl (by decide +kernel) ?_
  refine lj_callV C (ν := m_Mo_keep) (d' := 1) (a := 134) (c := 11) (av := []) (by decide +kernel) lm_Lw_173 ok_Mo_keep (show _ = some 0 by decide +kernel) (kg_134 (by decide)) rfl (by decide) (by decide) (by decide) (Nat.le_of_ble_eq_true rfl) hc hsl hm ?_
  rintro _ M2 ⟨rfl, hiv⟩
  exact lj_icmp_eq C (off := 43) (tgt := 1389) (by decide +kernel) (by decide +kernel) (fun _ => K M2 hiv) (fun z => absurd rfl z)
theorem lw_c35 (C : lC m_Lw p s m args meth cc) (hX : va_X b Lx xs s s.heap) (hbz : b < s.heap.size) (hL : Lx ≤ 3072) (hi : i + 6 ≤ Lx) (hc : cells ≤ 601024) (hsl : slots ≤ 7293034) (h : iv (kT (.inr (5, Lx)) 186) M) (K : ∀ M', iv (kT (.inr (5, Lx)) 186) M' → lJ m_Lw p l e room_1 s m args below meth cc D dA b base Z cells slots 1389 (lwL i) [] (kT (.inr (5, Lx)) 186, M')) : lJ m_Lw p l e room_1 s m args below meth cc D dA b base Z cells slots 1351 (lwL i) [] (kT (.inr (5, Lx)) 186, M) := by
  have hs : (kT (.inr (5, Lx)) 186)[0]? = some (.inr (5, Lx)) := kT_0 (by decide)
  obtain ⟨I, L, P⟩ := M
  obtain ⟨t, t1, np, ns, nd, nx, sz, hq⟩ := h
  refine lj_aload_n C (k4 := 1) (x := 1) rfl (by decide +kernel) ?_
  refine lj_callV C (ν := m_Ls_back) (d' := 2) (a := 1) (c := 10) (av := []) (by decide +kernel) lm_Lw_174 ok_Ls_back (show _ = some 0 by decide +kernel) (kg_1 (by decide)) rfl (by decide) (by decide) (by decide) (by decide) hc hsl (tw_back (L := L) hq ) ?_
  rintro _ M1 ⟨v, rfl, hm⟩
  refine lj_aload_n C (k4 := 2) (x := 134) rfl (by decide +kernel) ?_
  refine lj_callV C (ν := m_Mo_back) (d' := 1) (a := 134) (c := 11) (av := []) (by decide +kernel) lm_Lw_177 ok_Mo_back (show _ = some 0 by decide +kernel) (kg_134 (by decide)) rfl (by decide) (by decide) (by decide) (Nat.le_of_ble_eq_true rfl) hc hsl hm ?_
  rintro _ M2 ⟨rfl, hiv⟩
  exact lj_icmp_eq C (off := 30) (tgt := 1389) (by decide +kernel) (by decide +kernel) (fun _ => K M2 hiv) (fun z => absurd rfl z)
theorem lw_c36 (C : lC m_Lw p s m args meth cc) (hX : va_X b Lx xs s s.heap) (hbz : b < s.heap.size) (hL : Lx ≤ 3072) (hi : i + 6 ≤ Lx) (hc : cells ≤ 601024) (hsl : slots ≤ 7293034) (h : iv (kT (.inr (5, Lx)) 186) M) (K : ∀ M', iv (kT (.inr (5, Lx)) 186) M' → lJ m_Lw p l e room_1 s m args below meth cc D dA b base Z cells slots 1389 (lwL i) [] (kT (.inr (5, Lx)) 186, M')) : lJ m_Lw p l e room_1 s m args below meth cc D dA b base Z cells slots 1364 (lwL i) [] (kT (.inr (5, Lx)) 186, M) := by
  have hs : (kT (.inr (5, Lx)) 186)[0]? = some (.inr (5, Lx)) := kT_0 (by decide)
  obtain ⟨I, L, P⟩ := M
  obtain ⟨t, t1, np, ns, nd, nx, sz, hq⟩ := h
  refine lj_aload_n C (k4 := 1) (x := 1) rfl (by decide +kernel) ?_
  refine lj_arg C hs hX hbz (i := i) rfl rfl 1 (z := 1) (by decide) (by omega) hL (pc6 := 1371) rfl (by decide +kernel) (by decide +kernel) (by decide +kernel) (by decide +kernel) (by decide +kernel) ?_
  refine lj_callV C (ν := m_Ls_count) (d' := 6) (a := 1) (c := 10) (av := [.int (xs (i + 1))]) (by decide +kernel) lm_Lw_178 ok_Ls_count (show _ = some 1 by decide +kernel) (kg_1 (by decide)) rfl (by decide) (by decide) (by decide) (by decide) hc hsl (tw_count (L := L) hq (xs (i + 1))) ?_
  rintro _ M1 ⟨v, rfl, hm⟩
  refine lj_aload_n C (k4 := 2) (x := 134) rfl (by decide +kernel) ?_
  refine lj_arg C hs hX hbz (i := i) rfl rfl 1 (z := 1) (by decide) (by omega) hL (pc6 := 1381) rfl (by decide +kernel) (by decide +kernel) (by decide +kernel) (by decide +kernel) (by decide +kernel) ?_
  refine lj_callV C (ν := m_Mo_count) (d' := 7) (a := 134) (c := 11) (av := [.int (xs (i + 1))]) (by decide +kernel) lm_Lw_181 ok_Mo_count (show _ = some 1 by decide +kernel) (kg_134 (by decide)) rfl (by decide) (by decide) (by decide) (Nat.le_of_ble_eq_true rfl) hc hsl hm ?_
  rintro _ M2 ⟨rfl, hiv⟩
  exact lj_icmp_eq C (off := 5) (tgt := 1389) (by decide +kernel) (by decide +kernel) (fun _ => K M2 hiv) (fun z => absurd rfl z)
end
