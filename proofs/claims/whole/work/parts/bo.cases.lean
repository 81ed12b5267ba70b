/-- the law's locals at its loop's head -/
def lwL (i : Nat) : List (Option Value) := [some (.ref 0), some (.ref 1), some (.ref 134), some (.ref 185), some (.int (nI i)), none, none]
theorem lgc_self (x : Int64) : lg_cmp x x = 0 := by
  unfold lg_cmp
  simp
/-! ===== the law's cases ===== -/
section
variable {p : Program} {l : Launch} {e : Env} {s : State} {m : MethodId} {args : Array Value} {below : List Frame} {meth : Method} {cc : Code} {D : va_G} {dA : Nat → ClassId} {b base : Nat} {Z : State → Prop} {cells slots i Lx : Nat} {xs : Nat → Int32} {M : pM}
theorem lw_c0 (C : lC m_Lw p s m args meth cc) (hX : va_X b Lx xs s s.heap) (hbz : b < s.heap.size) (hL : Lx ≤ 3072) (hi : i + 6 ≤ Lx) (hc : cells ≤ 601024) (hsl : slots ≤ 7293034) (h : iv (kT (.inr (5, Lx)) 186) M) (K : ∀ M', iv (kT (.inr (5, Lx)) 186) M' → lJ m_Lw p l e room_1 s m args below meth cc D dA b base Z cells slots 1389 (lwL i) [] (kT (.inr (5, Lx)) 186, M')) : lJ m_Lw p l e room_1 s m args below meth cc D dA b base Z cells slots 204 (lwL i) [] (kT (.inr (5, Lx)) 186, M) := by
  have hs : (kT (.inr (5, Lx)) 186)[0]? = some (.inr (5, Lx)) := kT_0 (by decide)
  obtain ⟨I, L, P⟩ := M
  obtain ⟨t, t1, np, ns, nd, nx, sz, hq⟩ := h
  refine lj_aload_n C (k4 := 1) (x := 1) rfl (by decide +kernel) ?_
  refine lj_arg C hs hX hbz (i := i) rfl rfl 1 (z := 1) (by decide) (by omega) hL (pc6 := 211) rfl (by decide +kernel) (by decide +kernel) (by decide +kernel) (by decide +kernel) (by decide +kernel) ?_
  refine lj_arg C hs hX hbz (i := i) rfl rfl 2 (z := 2) (by decide) (by omega) hL (pc6 := 217) rfl (by decide +kernel) (by decide +kernel) (by decide +kernel) (by decide +kernel) (by decide +kernel) ?_
  refine lj_arg C hs hX hbz (i := i) rfl rfl 3 (z := 3) (by decide) (by omega) hL (pc6 := 223) rfl (by decide +kernel) (by decide +kernel) (by decide +kernel) (by decide +kernel) (by decide +kernel) ?_
  refine lj_arg C hs hX hbz (i := i) rfl rfl 4 (z := 4) (by decide) (by omega) hL (pc6 := 229) rfl (by decide +kernel) (by decide +kernel) (by decide +kernel) (by decide +kernel) (by decide +kernel) ?_
  refine lj_arg C hs hX hbz (i := i) rfl rfl 5 (z := 5) (by decide) (by omega) hL (pc6 := 235) rfl (by decide +kernel) (by decide +kernel) (by decide +kernel) (by decide +kernel) (by decide +kernel) ?_
  refine lj_callV C (ν := m_Ls_feed) (d' := 1) (a := 1) (c := 10) (av := [.int (xs (i + 1)), .int (xs (i + 2)), .int (xs (i + 3)), .int (xs (i + 4)), .int (xs (i + 5))]) (by decide +kernel) lm_Lw_21 ok_Ls_feed (show _ = some 5 by decide +kernel) (kg_1 (by decide)) rfl (by decide) (by decide) (by decide) (by decide) hc hsl (tw_feed (L := L) hq (xs (i + 1)) (xs (i + 2)) (xs (i + 3)) (xs (i + 4)) (xs (i + 5))) ?_
  rintro _ M1 ⟨v, rfl, hm⟩
  refine lj_aload_n C (k4 := 2) (x := 134) rfl (by decide +kernel) ?_
  refine lj_arg C hs hX hbz (i := i) rfl rfl 1 (z := 1) (by decide) (by omega) hL (pc6 := 245) rfl (by decide +kernel) (by decide +kernel) (by decide +kernel) (by decide +kernel) (by decide +kernel) ?_
  refine lj_arg C hs hX hbz (i := i) rfl rfl 2 (z := 2) (by decide) (by omega) hL (pc6 := 251) rfl (by decide +kernel) (by decide +kernel) (by decide +kernel) (by decide +kernel) (by decide +kernel) ?_
  refine lj_arg C hs hX hbz (i := i) rfl rfl 3 (z := 3) (by decide) (by omega) hL (pc6 := 257) rfl (by decide +kernel) (by decide +kernel) (by decide +kernel) (by decide +kernel) (by decide +kernel) ?_
  refine lj_arg C hs hX hbz (i := i) rfl rfl 4 (z := 4) (by decide) (by omega) hL (pc6 := 263) rfl (by decide +kernel) (by decide +kernel) (by decide +kernel) (by decide +kernel) (by decide +kernel) ?_
  refine lj_arg C hs hX hbz (i := i) rfl rfl 5 (z := 5) (by decide) (by omega) hL (pc6 := 269) rfl (by decide +kernel) (by decide +kernel) (by decide +kernel) (by decide +kernel) (by decide +kernel) ?_
  refine lj_callV C (ν := m_Mo_feed) (d' := 0) (a := 134) (c := 11) (av := [.int (xs (i + 1)), .int (xs (i + 2)), .int (xs (i + 3)), .int (xs (i + 4)), .int (xs (i + 5))]) (by decide +kernel) lm_Lw_25 ok_Mo_feed (show _ = some 5 by decide +kernel) (kg_134 (by decide)) rfl (by decide) (by decide) (by decide) (Nat.le_of_ble_eq_true rfl) hc hsl hm ?_
  rintro _ M2 ⟨rfl, hiv⟩
  exact lj_icmp_eq C (off := 1117) (tgt := 1389) (by decide +kernel) (by decide +kernel) (fun _ => K M2 hiv) (fun z => absurd rfl z)
theorem lw_c1 (C : lC m_Lw p s m args meth cc) (hX : va_X b Lx xs s s.heap) (hbz : b < s.heap.size) (hL : Lx ≤ 3072) (hi : i + 6 ≤ Lx) (hc : cells ≤ 601024) (hsl : slots ≤ 7293034) (h : iv (kT (.inr (5, Lx)) 186) M) (K : ∀ M', iv (kT (.inr (5, Lx)) 186) M' → lJ m_Lw p l e room_1 s m args below meth cc D dA b base Z cells slots 1389 (lwL i) [] (kT (.inr (5, Lx)) 186, M')) : lJ m_Lw p l e room_1 s m args below meth cc D dA b base Z cells slots 277 (lwL i) [] (kT (.inr (5, Lx)) 186, M) := by
  have hs : (kT (.inr (5, Lx)) 186)[0]? = some (.inr (5, Lx)) := kT_0 (by decide)
  obtain ⟨I, L, P⟩ := M
  obtain ⟨t, t1, np, ns, nd, nx, sz, hq⟩ := h
  refine lj_aload_n C (k4 := 1) (x := 1) rfl (by decide +kernel) ?_
  refine lj_arg C hs hX hbz (i := i) rfl rfl 1 (z := 1) (by decide) (by omega) hL (pc6 := 284) rfl (by decide +kernel) (by decide +kernel) (by decide +kernel) (by decide +kernel) (by decide +kernel) ?_
  obtain ⟨tp, h7, x1, y1, hb⟩ := hq.1.2.2.2.2.2.2.1.2.2.2.2.1
  refine lj_look C (pc' := 294) (ν := m_Mo_text) (d' := 5) (a := 134) (c := 11) (av := [.int (xs (i + 1))]) (by decide +kernel) lm_Lw_30 ok_Mo_text (show _ = some 1 by decide +kernel) (kg_134 (by decide)) rfl (by decide) (by decide) (by decide) hc hsl (ct_Mo_text hq.2.1 (fun k hk => by obtain ⟨x, a1, a2, -⟩ := hb k hk; exact ⟨x, a1, a2⟩) hq.2.2.1.2.1 y1 h7 (xs (i + 1))) (fun hE => ?_)
  have tw := tw_text (L := L) hq (xs (i + 1)) (fun c => by obtain ⟨r, M', w⟩ := hE; exact ⟨r, M', w.1 c⟩)
  refine lj_callV C (ν := m_Ls_text) (d' := 128) (a := 1) (c := 10) (av := [.int (xs (i + 1))]) (by decide +kernel) lm_Lw_26 ok_Ls_text (show _ = some 1 by decide +kernel) (kg_1 (by decide)) rfl (by decide) (by decide) (by decide) (by decide) hc hsl tw ?_
  rintro _ M1 ⟨v, rfl, hm⟩
  refine lj_aload_n C (k4 := 2) (x := 134) rfl (by decide +kernel) ?_
  refine lj_arg C hs hX hbz (i := i) rfl rfl 1 (z := 1) (by decide) (by omega) hL (pc6 := 294) rfl (by decide +kernel) (by decide +kernel) (by decide +kernel) (by decide +kernel) (by decide +kernel) ?_
  refine lj_callV C (ν := m_Mo_text) (d' := 5) (a := 134) (c := 11) (av := [.int (xs (i + 1))]) (by decide +kernel) lm_Lw_30 ok_Mo_text (show _ = some 1 by decide +kernel) (kg_134 (by decide)) rfl (by decide) (by decide) (by decide) (Nat.le_of_ble_eq_true rfl) hc hsl hm ?_
  rintro _ M2 ⟨rfl, hiv⟩
  exact lj_icmp_eq C (off := 1092) (tgt := 1389) (by decide +kernel) (by decide +kernel) (fun _ => K M2 hiv) (fun z => absurd rfl z)
theorem lw_c2 (C : lC m_Lw p s m args meth cc) (hX : va_X b Lx xs s s.heap) (hbz : b < s.heap.size) (hL : Lx ≤ 3072) (hi : i + 6 ≤ Lx) (hc : cells ≤ 601024) (hsl : slots ≤ 7293034) (h : iv (kT (.inr (5, Lx)) 186) M) (K : ∀ M', iv (kT (.inr (5, Lx)) 186) M' → lJ m_Lw p l e room_1 s m args below meth cc D dA b base Z cells slots 1389 (lwL i) [] (kT (.inr (5, Lx)) 186, M')) : lJ m_Lw p l e room_1 s m args below meth cc D dA b base Z cells slots 302 (lwL i) [] (kT (.inr (5, Lx)) 186, M) := by
  have hs : (kT (.inr (5, Lx)) 186)[0]? = some (.inr (5, Lx)) := kT_0 (by decide)
  obtain ⟨I, L, P⟩ := M
  obtain ⟨t, t1, np, ns, nd, nx, sz, hq⟩ := h
  refine lj_aload_n C (k4 := 1) (x := 1) rfl (by decide +kernel) ?_
  refine lj_arg C hs hX hbz (i := i) rfl rfl 1 (z := 1) (by decide) (by omega) hL (pc6 := 309) rfl (by decide +kernel) (by decide +kernel) (by decide +kernel) (by decide +kernel) (by decide +kernel) ?_
  refine lj_callV C (ν := m_Ls_fault) (d' := 0) (a := 1) (c := 10) (av := [.int (xs (i + 1))]) (by decide +kernel) lm_Lw_31 ok_Ls_fault (show _ = some 1 by decide +kernel) (kg_1 (by decide)) rfl (by decide) (by decide) (by decide) (by decide) hc hsl (tw_fault (L := L) hq (xs (i + 1))) ?_
  rintro _ M1 ⟨v, rfl, hm⟩
  refine lj_aload_n C (k4 := 2) (x := 134) rfl (by decide +kernel) ?_
  refine lj_arg C hs hX hbz (i := i) rfl rfl 1 (z := 1) (by decide) (by omega) hL (pc6 := 319) rfl (by decide +kernel) (by decide +kernel) (by decide +kernel) (by decide +kernel) (by decide +kernel) ?_
  refine lj_callV C (ν := m_Mo_fault) (d' := 0) (a := 134) (c := 11) (av := [.int (xs (i + 1))]) (by decide +kernel) lm_Lw_34 ok_Mo_fault (show _ = some 1 by decide +kernel) (kg_134 (by decide)) rfl (by decide) (by decide) (by decide) (Nat.le_of_ble_eq_true rfl) hc hsl hm ?_
  rintro _ M2 ⟨rfl, hiv⟩
  exact lj_icmp_eq C (off := 1067) (tgt := 1389) (by decide +kernel) (by decide +kernel) (fun _ => K M2 hiv) (fun z => absurd rfl z)
theorem lw_c3 (C : lC m_Lw p s m args meth cc) (hX : va_X b Lx xs s s.heap) (hbz : b < s.heap.size) (hL : Lx ≤ 3072) (hi : i + 6 ≤ Lx) (hc : cells ≤ 601024) (hsl : slots ≤ 7293034) (h : iv (kT (.inr (5, Lx)) 186) M) (K : ∀ M', iv (kT (.inr (5, Lx)) 186) M' → lJ m_Lw p l e room_1 s m args below meth cc D dA b base Z cells slots 1389 (lwL i) [] (kT (.inr (5, Lx)) 186, M')) : lJ m_Lw p l e room_1 s m args below meth cc D dA b base Z cells slots 327 (lwL i) [] (kT (.inr (5, Lx)) 186, M) := by
  have hs : (kT (.inr (5, Lx)) 186)[0]? = some (.inr (5, Lx)) := kT_0 (by decide)
  obtain ⟨I, L, P⟩ := M
  obtain ⟨t, t1, np, ns, nd, nx, sz, hq⟩ := h
  refine lj_aload_n C (k4 := 1) (x := 1) rfl (by decide +kernel) ?_
  refine lj_arg C hs hX hbz (i := i) rfl rfl 1 (z := 1) (by decide) (by omega) hL (pc6 := 334) rfl (by decide +kernel) (by decide +kernel) (by decide +kernel) (by decide +kernel) (by decide +kernel) ?_
  refine lj_callV C (ν := m_Ls_named) (d' := 1) (a := 1) (c := 10) (av := [.int (xs (i + 1))]) (by decide +kernel) lm_Lw_35 ok_Ls_named (show _ = some 1 by decide +kernel) (kg_1 (by decide)) rfl (by decide) (by decide) (by decide) (by decide) hc hsl (tw_named (L := L) hq (xs (i + 1))) ?_
  rintro _ M1 ⟨v, rfl, hm⟩
  refine lj_aload_n C (k4 := 2) (x := 134) rfl (by decide +kernel) ?_
  refine lj_arg C hs hX hbz (i := i) rfl rfl 1 (z := 1) (by decide) (by omega) hL (pc6 := 344) rfl (by decide +kernel) (by decide +kernel) (by decide +kernel) (by decide +kernel) (by decide +kernel) ?_
  refine lj_callV C (ν := m_Mo_named) (d' := 1) (a := 134) (c := 11) (av := [.int (xs (i + 1))]) (by decide +kernel) lm_Lw_38 ok_Mo_named (show _ = some 1 by decide +kernel) (kg_134 (by decide)) rfl (by decide) (by decide) (by decide) (Nat.le_of_ble_eq_true rfl) hc hsl hm ?_
  rintro _ M2 ⟨rfl, hiv⟩
  exact lj_icmp_eq C (off := 1042) (tgt := 1389) (by decide +kernel) (by decide +kernel) (fun _ => K M2 hiv) (fun z => absurd rfl z)
theorem lw_c5 (C : lC m_Lw p s m args meth cc) (hX : va_X b Lx xs s s.heap) (hbz : b < s.heap.size) (hL : Lx ≤ 3072) (hi : i + 6 ≤ Lx) (hc : cells ≤ 601024) (hsl : slots ≤ 7293034) (h : iv (kT (.inr (5, Lx)) 186) M) (K : ∀ M', iv (kT (.inr (5, Lx)) 186) M' → lJ m_Lw p l e room_1 s m args below meth cc D dA b base Z cells slots 1389 (lwL i) [] (kT (.inr (5, Lx)) 186, M')) : lJ m_Lw p l e room_1 s m args below meth cc D dA b base Z cells slots 420 (lwL i) [] (kT (.inr (5, Lx)) 186, M) := by
  have hs : (kT (.inr (5, Lx)) 186)[0]? = some (.inr (5, Lx)) := kT_0 (by decide)
  obtain ⟨I, L, P⟩ := M
  obtain ⟨t, t1, np, ns, nd, nx, sz, hq⟩ := h
  refine lj_aload_n C (k4 := 1) (x := 1) rfl (by decide +kernel) ?_
  refine lj_arg C hs hX hbz (i := i) rfl rfl 1 (z := 1) (by decide) (by omega) hL (pc6 := 427) rfl (by decide +kernel) (by decide +kernel) (by decide +kernel) (by decide +kernel) (by decide +kernel) ?_
  refine lj_arg C hs hX hbz (i := i) rfl rfl 2 (z := 2) (by decide) (by omega) hL (pc6 := 433) rfl (by decide +kernel) (by decide +kernel) (by decide +kernel) (by decide +kernel) (by decide +kernel) ?_
  refine lj_callV C (ν := m_Ls_person) (d' := 6) (a := 1) (c := 10) (av := [.int (xs (i + 1)), .int (xs (i + 2))]) (by decide +kernel) lm_Lw_49 ok_Ls_person (show _ = some 2 by decide +kernel) (kg_1 (by decide)) rfl (by decide) (by decide) (by decide) (by decide) hc hsl (tw_person (L := L) hq (xs (i + 1)) (xs (i + 2))) ?_
  rintro _ M1 ⟨v, rfl, hm⟩
  refine lj_aload_n C (k4 := 2) (x := 134) rfl (by decide +kernel) ?_
  refine lj_arg C hs hX hbz (i := i) rfl rfl 1 (z := 1) (by decide) (by omega) hL (pc6 := 443) rfl (by decide +kernel) (by decide +kernel) (by decide +kernel) (by decide +kernel) (by decide +kernel) ?_
  refine lj_arg C hs hX hbz (i := i) rfl rfl 2 (z := 2) (by decide) (by omega) hL (pc6 := 449) rfl (by decide +kernel) (by decide +kernel) (by decide +kernel) (by decide +kernel) (by decide +kernel) ?_
  refine lj_callV C (ν := m_Mo_person) (d' := 7) (a := 134) (c := 11) (av := [.int (xs (i + 1)), .int (xs (i + 2))]) (by decide +kernel) lm_Lw_52 ok_Mo_person (show _ = some 2 by decide +kernel) (kg_134 (by decide)) rfl (by decide) (by decide) (by decide) (Nat.le_of_ble_eq_true rfl) hc hsl hm ?_
  rintro _ M2 ⟨rfl, hiv⟩
  exact lj_icmp_eq C (off := 937) (tgt := 1389) (by decide +kernel) (by decide +kernel) (fun _ => K M2 hiv) (fun z => absurd rfl z)
theorem lw_c6 (C : lC m_Lw p s m args meth cc) (hX : va_X b Lx xs s s.heap) (hbz : b < s.heap.size) (hL : Lx ≤ 3072) (hi : i + 6 ≤ Lx) (hc : cells ≤ 601024) (hsl : slots ≤ 7293034) (h : iv (kT (.inr (5, Lx)) 186) M) (K : ∀ M', iv (kT (.inr (5, Lx)) 186) M' → lJ m_Lw p l e room_1 s m args below meth cc D dA b base Z cells slots 1389 (lwL i) [] (kT (.inr (5, Lx)) 186, M')) : lJ m_Lw p l e room_1 s m args below meth cc D dA b base Z cells slots 457 (lwL i) [] (kT (.inr (5, Lx)) 186, M) := by
  have hs : (kT (.inr (5, Lx)) 186)[0]? = some (.inr (5, Lx)) := kT_0 (by decide)
  obtain ⟨I, L, P⟩ := M
  obtain ⟨t, t1, np, ns, nd, nx, sz, hq⟩ := h
  refine lj_aload_n C (k4 := 1) (x := 1) rfl (by decide +kernel) ?_
  refine lj_arg C hs hX hbz (i := i) rfl rfl 1 (z := 1) (by decide) (by omega) hL (pc6 := 464) rfl (by decide +kernel) (by decide +kernel) (by decide +kernel) (by decide +kernel) (by decide +kernel) ?_
  refine lj_arg C hs hX hbz (i := i) rfl rfl 2 (z := 2) (by decide) (by omega) hL (pc6 := 470) rfl (by decide +kernel) (by decide +kernel) (by decide +kernel) (by decide +kernel) (by decide +kernel) ?_
  refine lj_callV C (ν := m_Ls_debt) (d' := 0) (a := 1) (c := 10) (av := [.int (xs (i + 1)), .int (xs (i + 2))]) (by decide +kernel) lm_Lw_53 ok_Ls_debt (show _ = some 2 by decide +kernel) (kg_1 (by decide)) rfl (by decide) (by decide) (by decide) (by decide) hc hsl (tw_debt (L := L) hq (xs (i + 1)) (xs (i + 2))) ?_
  rintro _ M1 ⟨v, rfl, hm⟩
  refine lj_aload_n C (k4 := 2) (x := 134) rfl (by decide +kernel) ?_
  refine lj_arg C hs hX hbz (i := i) rfl rfl 1 (z := 1) (by decide) (by omega) hL (pc6 := 480) rfl (by decide +kernel) (by decide +kernel) (by decide +kernel) (by decide +kernel) (by decide +kernel) ?_
  refine lj_arg C hs hX hbz (i := i) rfl rfl 2 (z := 2) (by decide) (by omega) hL (pc6 := 486) rfl (by decide +kernel) (by decide +kernel) (by decide +kernel) (by decide +kernel) (by decide +kernel) ?_
  refine lj_callV C (ν := m_Mo_debt) (d' := 0) (a := 134) (c := 11) (av := [.int (xs (i + 1)), .int (xs (i + 2))]) (by decide +kernel) lm_Lw_56 ok_Mo_debt (show _ = some 2 by decide +kernel) (kg_134 (by decide)) rfl (by decide) (by decide) (by decide) (Nat.le_of_ble_eq_true rfl) hc hsl hm ?_
  rintro _ M2 ⟨rfl, hiv⟩
  exact lj_icmp_eq C (off := 900) (tgt := 1389) (by decide +kernel) (by decide +kernel) (fun _ => K M2 hiv) (fun z => absurd rfl z)
theorem lw_c7 (C : lC m_Lw p s m args meth cc) (hX : va_X b Lx xs s s.heap) (hbz : b < s.heap.size) (hL : Lx ≤ 3072) (hi : i + 6 ≤ Lx) (hc : cells ≤ 601024) (hsl : slots ≤ 7293034) (h : iv (kT (.inr (5, Lx)) 186) M) (K : ∀ M', iv (kT (.inr (5, Lx)) 186) M' → lJ m_Lw p l e room_1 s m args below meth cc D dA b base Z cells slots 1389 (lwL i) [] (kT (.inr (5, Lx)) 186, M')) : lJ m_Lw p l e room_1 s m args below meth cc D dA b base Z cells slots 494 (lwL i) [] (kT (.inr (5, Lx)) 186, M) := by
  have hs : (kT (.inr (5, Lx)) 186)[0]? = some (.inr (5, Lx)) := kT_0 (by decide)
  obtain ⟨I, L, P⟩ := M
  obtain ⟨t, t1, np, ns, nd, nx, sz, hq⟩ := h
  refine lj_aload_n C (k4 := 1) (x := 1) rfl (by decide +kernel) ?_
  refine lj_arg C hs hX hbz (i := i) rfl rfl 1 (z := 1) (by decide) (by omega) hL (pc6 := 501) rfl (by decide +kernel) (by decide +kernel) (by decide +kernel) (by decide +kernel) (by decide +kernel) ?_
  refine lj_arg C hs hX hbz (i := i) rfl rfl 2 (z := 2) (by decide) (by omega) hL (pc6 := 507) rfl (by decide +kernel) (by decide +kernel) (by decide +kernel) (by decide +kernel) (by decide +kernel) ?_
  refine lj_callV C (ν := m_Ls_pair) (d' := 4) (a := 1) (c := 10) (av := [.int (xs (i + 1)), .int (xs (i + 2))]) (by decide +kernel) lm_Lw_57 ok_Ls_pair (show _ = some 2 by decide +kernel) (kg_1 (by decide)) rfl (by decide) (by decide) (by decide) (by decide) hc hsl (tw_pair (L := L) hq (xs (i + 1)) (xs (i + 2))) ?_
  rintro _ M1 ⟨v, rfl, hm⟩
  refine lj_aload_n C (k4 := 2) (x := 134) rfl (by decide +kernel) ?_
  refine lj_arg C hs hX hbz (i := i) rfl rfl 1 (z := 1) (by decide) (by omega) hL (pc6 := 517) rfl (by decide +kernel) (by decide +kernel) (by decide +kernel) (by decide +kernel) (by decide +kernel) ?_
  refine lj_arg C hs hX hbz (i := i) rfl rfl 2 (z := 2) (by decide) (by omega) hL (pc6 := 523) rfl (by decide +kernel) (by decide +kernel) (by decide +kernel) (by decide +kernel) (by decide +kernel) ?_
  refine lj_callV C (ν := m_Mo_pair) (d' := 5) (a := 134) (c := 11) (av := [.int (xs (i + 1)), .int (xs (i + 2))]) (by decide +kernel) lm_Lw_60 ok_Mo_pair (show _ = some 2 by decide +kernel) (kg_134 (by decide)) rfl (by decide) (by decide) (by decide) (Nat.le_of_ble_eq_true rfl) hc hsl hm ?_
  rintro _ M2 ⟨rfl, hiv⟩
  exact lj_icmp_eq C (off := 863) (tgt := 1389) (by decide +kernel) (by decide +kernel) (fun _ => K M2 hiv) (fun z => absurd rfl z)
theorem lw_c8 (C : lC m_Lw p s m args meth cc) (hX : va_X b Lx xs s s.heap) (hbz : b < s.heap.size) (hL : Lx ≤ 3072) (hi : i + 6 ≤ Lx) (hc : cells ≤ 601024) (hsl : slots ≤ 7293034) (h : iv (kT (.inr (5, Lx)) 186) M) (K : ∀ M', iv (kT (.inr (5, Lx)) 186) M' → lJ m_Lw p l e room_1 s m args below meth cc D dA b base Z cells slots 1389 (lwL i) [] (kT (.inr (5, Lx)) 186, M')) : lJ m_Lw p l e room_1 s m args below meth cc D dA b base Z cells slots 531 (lwL i) [] (kT (.inr (5, Lx)) 186, M) := by
  have hs : (kT (.inr (5, Lx)) 186)[0]? = some (.inr (5, Lx)) := kT_0 (by decide)
  obtain ⟨I, L, P⟩ := M
  obtain ⟨t, t1, np, ns, nd, nx, sz, hq⟩ := h
  refine lj_aload_n C (k4 := 1) (x := 1) rfl (by decide +kernel) ?_
  refine lj_arg C hs hX hbz (i := i) rfl rfl 1 (z := 1) (by decide) (by omega) hL (pc6 := 538) rfl (by decide +kernel) (by decide +kernel) (by decide +kernel) (by decide +kernel) (by decide +kernel) ?_
  refine lj_arg C hs hX hbz (i := i) rfl rfl 2 (z := 2) (by decide) (by omega) hL (pc6 := 544) rfl (by decide +kernel) (by decide +kernel) (by decide +kernel) (by decide +kernel) (by decide +kernel) ?_
  refine lj_arg C hs hX hbz (i := i) rfl rfl 3 (z := 3) (by decide) (by omega) hL (pc6 := 550) rfl (by decide +kernel) (by decide +kernel) (by decide +kernel) (by decide +kernel) (by decide +kernel) ?_
  refine lj_callV C (ν := m_Ls_law) (d' := 3) (a := 1) (c := 10) (av := [.int (xs (i + 1)), .int (xs (i + 2)), .int (xs (i + 3))]) (by decide +kernel) lm_Lw_61 ok_Ls_law (show _ = some 3 by decide +kernel) (kg_1 (by decide)) rfl (by decide) (by decide) (by decide) (by decide) hc hsl (tw_law (L := L) hq (xs (i + 1)) (xs (i + 2)) (xs (i + 3))) ?_
  rintro _ M1 ⟨v, rfl, hm⟩
  refine lj_aload_n C (k4 := 2) (x := 134) rfl (by decide +kernel) ?_
  refine lj_arg C hs hX hbz (i := i) rfl rfl 1 (z := 1) (by decide) (by omega) hL (pc6 := 560) rfl (by decide +kernel) (by decide +kernel) (by decide +kernel) (by decide +kernel) (by decide +kernel) ?_
  refine lj_arg C hs hX hbz (i := i) rfl rfl 2 (z := 2) (by decide) (by omega) hL (pc6 := 566) rfl (by decide +kernel) (by decide +kernel) (by decide +kernel) (by decide +kernel) (by decide +kernel) ?_
  refine lj_arg C hs hX hbz (i := i) rfl rfl 3 (z := 3) (by decide) (by omega) hL (pc6 := 572) rfl (by decide +kernel) (by decide +kernel) (by decide +kernel) (by decide +kernel) (by decide +kernel) ?_
  refine lj_callV C (ν := m_Mo_law) (d' := 3) (a := 134) (c := 11) (av := [.int (xs (i + 1)), .int (xs (i + 2)), .int (xs (i + 3))]) (by decide +kernel) lm_Lw_65 ok_Mo_law (show _ = some 3 by decide +kernel) (kg_134 (by decide)) rfl (by decide) (by decide) (by decide) (Nat.le_of_ble_eq_true rfl) hc hsl hm ?_
  rintro _ M2 ⟨rfl, hiv⟩
  refine lj_lcmp C (by decide +kernel) ?_
  rw [lgc_self]
  exact lj_if_eq C (off := 813) (tgt := 1389) (by decide +kernel) (by decide +kernel) (fun _ => K M2 hiv) (fun z => absurd rfl z)
theorem lw_c9 (C : lC m_Lw p s m args meth cc) (hX : va_X b Lx xs s s.heap) (hbz : b < s.heap.size) (hL : Lx ≤ 3072) (hi : i + 6 ≤ Lx) (hc : cells ≤ 601024) (hsl : slots ≤ 7293034) (h : iv (kT (.inr (5, Lx)) 186) M) (K : ∀ M', iv (kT (.inr (5, Lx)) 186) M' → lJ m_Lw p l e room_1 s m args below meth cc D dA b base Z cells slots 1389 (lwL i) [] (kT (.inr (5, Lx)) 186, M')) : lJ m_Lw p l e room_1 s m args below meth cc D dA b base Z cells slots 581 (lwL i) [] (kT (.inr (5, Lx)) 186, M) := by
  have hs : (kT (.inr (5, Lx)) 186)[0]? = some (.inr (5, Lx)) := kT_0 (by decide)
  obtain ⟨I, L, P⟩ := M
  obtain ⟨t, t1, np, ns, nd, nx, sz, hq⟩ := h
  refine lj_aload_n C (k4 := 1) (x := 1) rfl (by decide +kernel) ?_
  refine lj_arg C hs hX hbz (i := i) rfl rfl 1 (z := 1) (by decide) (by omega) hL (pc6 := 588) rfl (by decide +kernel) (by decide +kernel) (by decide +kernel) (by decide +kernel) (by decide +kernel) ?_
  refine lj_arg C hs hX hbz (i := i) rfl rfl 2 (z := 2) (by decide) (by omega) hL (pc6 := 594) rfl (by decide +kernel) (by decide +kernel) (by decide +kernel) (by decide +kernel) (by decide +kernel) ?_
  refine lj_arg C hs hX hbz (i := i) rfl rfl 3 (z := 3) (by decide) (by omega) hL (pc6 := 600) rfl (by decide +kernel) (by decide +kernel) (by decide +kernel) (by decide +kernel) (by decide +kernel) ?_
  refine lj_callV C (ν := m_Ls_pay) (d' := 5) (a := 1) (c := 10) (av := [.int (xs (i + 1)), .int (xs (i + 2)), .int (xs (i + 3))]) (by decide +kernel) lm_Lw_66 ok_Ls_pay (show _ = some 3 by decide +kernel) (kg_1 (by decide)) rfl (by decide) (by decide) (by decide) (by decide) hc hsl (tw_pay (L := L) hq (xs (i + 1)) (xs (i + 2)) (xs (i + 3))) ?_
  rintro _ M1 ⟨v, rfl, hm⟩
  refine lj_aload_n C (k4 := 2) (x := 134) rfl (by decide +kernel) ?_
  refine lj_arg C hs hX hbz (i := i) rfl rfl 1 (z := 1) (by decide) (by omega) hL (pc6 := 610) rfl (by decide +kernel) (by decide +kernel) (by decide +kernel) (by decide +kernel) (by decide +kernel) ?_
  refine lj_arg C hs hX hbz (i := i) rfl rfl 2 (z := 2) (by decide) (by omega) hL (pc6 := 616) rfl (by decide +kernel) (by decide +kernel) (by decide +kernel) (by decide +kernel) (by decide +kernel) ?_
  refine lj_arg C hs hX hbz (i := i) rfl rfl 3 (z := 3) (by decide) (by omega) hL (pc6 := 622) rfl (by decide +kernel) (by decide +kernel) (by decide +kernel) (by decide +kernel) (by decide +kernel) ?_
  refine lj_callV C (ν := m_Mo_pay) (d' := 8) (a := 134) (c := 11) (av := [.int (xs (i + 1)), .int (xs (i + 2)), .int (xs (i + 3))]) (by decide +kernel) lm_Lw_70 ok_Mo_pay (show _ = some 3 by decide +kernel) (kg_134 (by decide)) rfl (by decide) (by decide) (by decide) (Nat.le_of_ble_eq_true rfl) hc hsl hm ?_
  rintro _ M2 ⟨rfl, hiv⟩
  exact lj_icmp_eq C (off := 764) (tgt := 1389) (by decide +kernel) (by decide +kernel) (fun _ => K M2 hiv) (fun z => absurd rfl z)
theorem lw_c10 (C : lC m_Lw p s m args meth cc) (hX : va_X b Lx xs s s.heap) (hbz : b < s.heap.size) (hL : Lx ≤ 3072) (hi : i + 6 ≤ Lx) (hc : cells ≤ 601024) (hsl : slots ≤ 7293034) (h : iv (kT (.inr (5, Lx)) 186) M) (K : ∀ M', iv (kT (.inr (5, Lx)) 186) M' → lJ m_Lw p l e room_1 s m args below meth cc D dA b base Z cells slots 1389 (lwL i) [] (kT (.inr (5, Lx)) 186, M')) : lJ m_Lw p l e room_1 s m args below meth cc D dA b base Z cells slots 630 (lwL i) [] (kT (.inr (5, Lx)) 186, M) := by
  have hs : (kT (.inr (5, Lx)) 186)[0]? = some (.inr (5, Lx)) := kT_0 (by decide)
  obtain ⟨I, L, P⟩ := M
  obtain ⟨t, t1, np, ns, nd, nx, sz, hq⟩ := h
  refine lj_aload_n C (k4 := 1) (x := 1) rfl (by decide +kernel) ?_
  refine lj_arg C hs hX hbz (i := i) rfl rfl 1 (z := 1) (by decide) (by omega) hL (pc6 := 637) rfl (by decide +kernel) (by decide +kernel) (by decide +kernel) (by decide +kernel) (by decide +kernel) ?_
  refine lj_arg C hs hX hbz (i := i) rfl rfl 2 (z := 2) (by decide) (by omega) hL (pc6 := 643) rfl (by decide +kernel) (by decide +kernel) (by decide +kernel) (by decide +kernel) (by decide +kernel) ?_
  refine lj_callV C (ν := m_Ls_give) (d' := 3) (a := 1) (c := 10) (av := [.int (xs (i + 1)), .int (xs (i + 2))]) (by decide +kernel) lm_Lw_71 ok_Ls_give (show _ = some 2 by decide +kernel) (kg_1 (by decide)) rfl (by decide) (by decide) (by decide) (by decide) hc hsl (tw_give (L := L) hq (xs (i + 1)) (xs (i + 2))) ?_
  rintro _ M1 ⟨v, rfl, hm⟩
  refine lj_aload_n C (k4 := 2) (x := 134) rfl (by decide +kernel) ?_
  refine lj_arg C hs hX hbz (i := i) rfl rfl 1 (z := 1) (by decide) (by omega) hL (pc6 := 653) rfl (by decide +kernel) (by decide +kernel) (by decide +kernel) (by decide +kernel) (by decide +kernel) ?_
  refine lj_arg C hs hX hbz (i := i) rfl rfl 2 (z := 2) (by decide) (by omega) hL (pc6 := 659) rfl (by decide +kernel) (by decide +kernel) (by decide +kernel) (by decide +kernel) (by decide +kernel) ?_
  refine lj_callV C (ν := m_Mo_give) (d' := 2) (a := 134) (c := 11) (av := [.int (xs (i + 1)), .int (xs (i + 2))]) (by decide +kernel) lm_Lw_75 ok_Mo_give (show _ = some 2 by decide +kernel) (kg_134 (by decide)) rfl (by decide) (by decide) (by decide) (Nat.le_of_ble_eq_true rfl) hc hsl hm ?_
  rintro _ M2 ⟨rfl, hiv⟩
  exact lj_icmp_eq C (off := 727) (tgt := 1389) (by decide +kernel) (by decide +kernel) (fun _ => K M2 hiv) (fun z => absurd rfl z)
theorem lw_c11 (C : lC m_Lw p s m args meth cc) (hX : va_X b Lx xs s s.heap) (hbz : b < s.heap.size) (hL : Lx ≤ 3072) (hi : i + 6 ≤ Lx) (hc : cells ≤ 601024) (hsl : slots ≤ 7293034) (h : iv (kT (.inr (5, Lx)) 186) M) (K : ∀ M', iv (kT (.inr (5, Lx)) 186) M' → lJ m_Lw p l e room_1 s m args below meth cc D dA b base Z cells slots 1389 (lwL i) [] (kT (.inr (5, Lx)) 186, M')) : lJ m_Lw p l e room_1 s m args below meth cc D dA b base Z cells slots 667 (lwL i) [] (kT (.inr (5, Lx)) 186, M) := by
  have hs : (kT (.inr (5, Lx)) 186)[0]? = some (.inr (5, Lx)) := kT_0 (by decide)
  obtain ⟨I, L, P⟩ := M
  obtain ⟨t, t1, np, ns, nd, nx, sz, hq⟩ := h
  refine lj_aload_n C (k4 := 1) (x := 1) rfl (by decide +kernel) ?_
  refine lj_arg C hs hX hbz (i := i) rfl rfl 1 (z := 1) (by decide) (by omega) hL (pc6 := 674) rfl (by decide +kernel) (by decide +kernel) (by decide +kernel) (by decide +kernel) (by decide +kernel) ?_
  refine lj_callV C (ν := m_Ls_on) (d' := 2) (a := 1) (c := 10) (av := [.int (xs (i + 1))]) (by decide +kernel) lm_Lw_76 ok_Ls_on (show _ = some 1 by decide +kernel) (kg_1 (by decide)) rfl (by decide) (by decide) (by decide) (by decide) hc hsl (tw_on (L := L) hq (xs (i + 1))) ?_
  rintro _ M1 ⟨v, rfl, hm⟩
  refine lj_aload_n C (k4 := 2) (x := 134) rfl (by decide +kernel) ?_
  refine lj_arg C hs hX hbz (i := i) rfl rfl 1 (z := 1) (by decide) (by omega) hL (pc6 := 684) rfl (by decide +kernel) (by decide +kernel) (by decide +kernel) (by decide +kernel) (by decide +kernel) ?_
  refine lj_callV C (ν := m_Mo_on) (d' := 2) (a := 134) (c := 11) (av := [.int (xs (i + 1))]) (by decide +kernel) lm_Lw_80 ok_Mo_on (show _ = some 1 by decide +kernel) (kg_134 (by decide)) rfl (by decide) (by decide) (by decide) (Nat.le_of_ble_eq_true rfl) hc hsl hm ?_
  rintro _ M2 ⟨rfl, hiv⟩
  exact lj_icmp_eq C (off := 702) (tgt := 1389) (by decide +kernel) (by decide +kernel) (fun _ => K M2 hiv) (fun z => absurd rfl z)
theorem lw_c12 (C : lC m_Lw p s m args meth cc) (hX : va_X b Lx xs s s.heap) (hbz : b < s.heap.size) (hL : Lx ≤ 3072) (hi : i + 6 ≤ Lx) (hc : cells ≤ 601024) (hsl : slots ≤ 7293034) (h : iv (kT (.inr (5, Lx)) 186) M) (K : ∀ M', iv (kT (.inr (5, Lx)) 186) M' → lJ m_Lw p l e room_1 s m args below meth cc D dA b base Z cells slots 1389 (lwL i) [] (kT (.inr (5, Lx)) 186, M')) : lJ m_Lw p l e room_1 s m args below meth cc D dA b base Z cells slots 692 (lwL i) [] (kT (.inr (5, Lx)) 186, M) := by
  have hs : (kT (.inr (5, Lx)) 186)[0]? = some (.inr (5, Lx)) := kT_0 (by decide)
  obtain ⟨I, L, P⟩ := M
  obtain ⟨t, t1, np, ns, nd, nx, sz, hq⟩ := h
  refine lj_aload_n C (k4 := 1) (x := 1) rfl (by decide +kernel) ?_
  refine lj_arg C hs hX hbz (i := i) rfl rfl 1 (z := 1) (by decide) (by omega) hL (pc6 := 699) rfl (by decide +kernel) (by decide +kernel) (by decide +kernel) (by decide +kernel) (by decide +kernel) ?_
  refine lj_callV C (ν := m_Ls_off) (d' := 2) (a := 1) (c := 10) (av := [.int (xs (i + 1))]) (by decide +kernel) lm_Lw_81 ok_Ls_off (show _ = some 1 by decide +kernel) (kg_1 (by decide)) rfl (by decide) (by decide) (by decide) (by decide) hc hsl (tw_off (L := L) hq (xs (i + 1))) ?_
  rintro _ M1 ⟨v, rfl, hm⟩
  refine lj_aload_n C (k4 := 2) (x := 134) rfl (by decide +kernel) ?_
  refine lj_arg C hs hX hbz (i := i) rfl rfl 1 (z := 1) (by decide) (by omega) hL (pc6 := 709) rfl (by decide +kernel) (by decide +kernel) (by decide +kernel) (by decide +kernel) (by decide +kernel) ?_
  refine lj_callV C (ν := m_Mo_off) (d' := 2) (a := 134) (c := 11) (av := [.int (xs (i + 1))]) (by decide +kernel) lm_Lw_84 ok_Mo_off (show _ = some 1 by decide +kernel) (kg_134 (by decide)) rfl (by decide) (by decide) (by decide) (Nat.le_of_ble_eq_true rfl) hc hsl hm ?_
  rintro _ M2 ⟨rfl, hiv⟩
  exact lj_icmp_eq C (off := 677) (tgt := 1389) (by decide +kernel) (by decide +kernel) (fun _ => K M2 hiv) (fun z => absurd rfl z)
end
