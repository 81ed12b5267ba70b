/-! ===== the law from its entry (the rows behind whole_start are the kit's skeleton, with the launch's flags) ===== -/
theorem kF_sum : (kFs.map pSz1).sum ≤ 60000 ∧ kFs.take 185 = kFs := by decide +kernel
theorem kT_bd {x0 : pSh} {n : Nat} (h1 : 1 ≤ n) (h : n ≤ 186) : pSz1 x0 ≤ pSz (kT x0 n) ∧ pSz (kT x0 n) ≤ pSz1 x0 + 60000 := by
  have e1 : pSz (kT x0 1) = pSz1 x0 := by
    show ((([x0] : List pSh)).map pSz1).sum = _
    simp
  have e2 : pSz (kT x0 186) ≤ pSz1 x0 + 60000 := by
    have q : kT x0 186 = x0 :: kFs := by
      show x0 :: kFs.take 185 = _
      rw [kF_sum.2]
    rw [q]
    show ((x0 :: kFs).map pSz1).sum ≤ _
    rw [List.map_cons, List.sum_cons]
    have := kF_sum.1
    omega
  have a := kT_sz (x0 := x0) h1
  have b := kT_sz (x0 := x0) h
  omega
set_option maxHeartbeats 2000000 in
theorem lw_first {p : Program} {l : Launch} {e : Env} {s : State} {m : MethodId} {below : List Frame} {meth : Method} {c : Code} {D : va_G} {dA : Nat → ClassId} {b Lx : Nat} {xs : Nat → Int32} {I : Nat → Nat → Int32} {L : Nat → Nat → Int64} {P : Nat → Nat → Option Nat} (htl : ∀ e, l.admits e → e.platform.stackTraces = false) (C : lC m_Lw p s m #[Value.ref b] meth c) (hx : xW s.heap.size s s.heap) (hX : va_X b Lx xs s s.heap) (hbz : b < s.heap.size) (hL : Lx ≤ 3072) :
    lJ m_Lw p l e room_1 s m #[Value.ref b] below meth c D dA b s.heap.size (lw_Z below #[Value.ref b] s) 0 0 0 [some (.ref 0), none, none, none, none, none, none] [] (kT (.inr (5, Lx)) 1, (I, L, P)) := by
  have len : ∀ n, n ≤ 186 → (kT (.inr (5, Lx)) n).length = n := fun n h => kT_len h
  have b2 := kT_bd (x0 := .inr (5, Lx)) (n := 2) (by decide) (by decide)
  have b134 := kT_bd (x0 := .inr (5, Lx)) (n := 134) (by decide) (by decide)
  have b135 := kT_bd (x0 := .inr (5, Lx)) (n := 135) (by decide) (by decide)
  have b185 := kT_bd (x0 := .inr (5, Lx)) (n := 185) (by decide) (by decide)
  refine lj_new C (c := 10) (by decide +kernel) (by decide) lk_Lw_8 ins_Ls ini_Ls (by rw [len 1 (by decide)]; decide) (by decide) (by decide) ?_
  rw [kT_push (n := 1) (s := .inl 10) (by decide) (by decide +kernel), len 1 (by decide)]
  show lJ m_Lw p l e room_1 s m #[Value.ref b] below meth c D dA b s.heap.size (lw_Z below #[Value.ref b] s) (0 + 1) (0 + pNf 10) 3 [some (.ref 0), none, none, none, none, none, none] [.ref 1] (kT (.inr (5, Lx)) 2, (zI I 1, zL L 1, zP P 1))
  refine lj_dup C rfl (by decide +kernel) ?_
  refine lj_callI C (ν := m_Ls_init) (d' := 6) (a := 1) (av := []) (by decide +kernel) lm_Lw_17 ok_Ls_init rfl (show _ = some 0 by decide +kernel) (by decide) (by decide) (by decide) ?_ ?_ (ct_Ls1_init (x0 := .inr (5, Lx)) (I := zI I 1) (L := zL L 1) (P := zP P 1)) ?_
  · show 0 + 1 + ((kT (.inr (5, Lx)) 134).length - (kT (.inr (5, Lx)) 2).length) ≤ 601024
    rw [len 134 (by decide), len 2 (by decide)]; decide
  · show 0 + 16 + (pSz (kT (.inr (5, Lx)) 134) - pSz (kT (.inr (5, Lx)) 2)) ≤ 7293034
    omega
  rintro _ ⟨s', M'⟩ ⟨rfl, rfl, rfl⟩ - -
  refine lj_astore_n C (k4 := 1) (Nat.le_of_ble_eq_true rfl) (by decide +kernel) ?_
  show lJ m_Lw p l e room_1 s m #[Value.ref b] below meth c D dA b s.heap.size (lw_Z below #[Value.ref b] s) (0 + 1 + ((kT (.inr (5, Lx)) 134).length - (kT (.inr (5, Lx)) 2).length)) (0 + 16 + (pSz (kT (.inr (5, Lx)) 134) - pSz (kT (.inr (5, Lx)) 2))) 8 [some (.ref 0), some (.ref 1), none, none, none, none, none] [] (kT (.inr (5, Lx)) 134, (iLs1I (zI I 1), iLs1L (zL L 1), iLs1P (zP P 1)))
  rw [len 134 (by decide), len 2 (by decide)]
  generalize hz1 : 0 + 16 + (pSz (kT (.inr (5, Lx)) 134) - pSz (kT (.inr (5, Lx)) 2)) = z1
  have hz1b : z1 ≤ 70000 := by omega
  refine lj_new C (c := 11) (by decide +kernel) (by decide) lk_Lw_18 ins_Mo ini_Mo (by rw [len 134 (by decide)]; decide) (by decide) (by show z1 + 93 ≤ 7293034; omega) ?_
  rw [kT_push (n := 134) (s := .inl 11) (by decide) (by decide +kernel), len 134 (by decide)]
  show lJ m_Lw p l e room_1 s m #[Value.ref b] below meth c D dA b s.heap.size (lw_Z below #[Value.ref b] s) (0 + 1 + (134 - 2) + 1) (z1 + 93) 11 [some (.ref 0), some (.ref 1), none, none, none, none, none] [.ref 134] (kT (.inr (5, Lx)) 135, (zI (iLs1I (zI I 1)) 134, zL (iLs1L (zL L 1)) 134, zP (iLs1P (zP P 1)) 134))
  refine lj_dup C rfl (by decide +kernel) ?_
  refine lj_callI C (ν := m_Mo_init) (d' := 2) (a := 134) (av := []) (by decide +kernel) lm_Lw_20 ok_Mo_init rfl (show _ = some 0 by decide +kernel) (by decide) (by decide) (by decide) ?_ ?_ (ct_Mo_init (x0 := .inr (5, Lx)) (I := zI (iLs1I (zI I 1)) 134) (L := zL (iLs1L (zL L 1)) 134) (P := zP (iLs1P (zP P 1)) 134) (kPc_134 ls_kPc)) ?_
  · show 0 + 1 + (134 - 2) + 1 + ((kT (.inr (5, Lx)) 185).length - (kT (.inr (5, Lx)) 135).length) ≤ 601024
    rw [len 185 (by decide), len 135 (by decide)]; decide
  · show z1 + 93 + (pSz (kT (.inr (5, Lx)) 185) - pSz (kT (.inr (5, Lx)) 135)) ≤ 7293034
    omega
  rintro _ ⟨s', M'⟩ ⟨rfl, rfl, rfl⟩ - -
  refine lj_astore_n C (k4 := 2) (Nat.le_of_ble_eq_true rfl) (by decide +kernel) ?_
  show lJ m_Lw p l e room_1 s m #[Value.ref b] below meth c D dA b s.heap.size (lw_Z below #[Value.ref b] s) (0 + 1 + (134 - 2) + 1 + ((kT (.inr (5, Lx)) 185).length - (kT (.inr (5, Lx)) 135).length)) (z1 + 93 + (pSz (kT (.inr (5, Lx)) 185) - pSz (kT (.inr (5, Lx)) 135))) 16 [some (.ref 0), some (.ref 1), some (.ref 134), none, none, none, none] [] (kT (.inr (5, Lx)) 185, (yKt (yPlain (moI (zI (iLs1I (zI I 1)) 134))), moL (zL (iLs1L (zL L 1)) 134), moP (zP (iLs1P (zP P 1)) 134)))
  rw [len 185 (by decide), len 135 (by decide)]
  generalize hz2 : z1 + 93 + (pSz (kT (.inr (5, Lx)) 185) - pSz (kT (.inr (5, Lx)) 135)) = z2
  have hz2b : z2 ≤ 200000 := by omega
  refine lj_iconst C (n := 1) (v := 1) (by decide) (by decide +kernel) ?_
  refine lj_newL C (n := 1) (by decide +kernel) ac_L (by decide) (by decide) (by decide) (by rw [len 185 (by decide)]; decide) (by decide) (by show z2 + 1 ≤ 7293034; omega) ?_
  rw [kT_push (n := 185) (s := .inr (3, 1)) (by decide) (by decide +kernel), len 185 (by decide)]
  show lJ m_Lw p l e room_1 s m #[Value.ref b] below meth c D dA b s.heap.size (lw_Z below #[Value.ref b] s) (0 + 1 + (134 - 2) + 1 + (185 - 135) + 1) (z2 + 1) 19 [some (.ref 0), some (.ref 1), some (.ref 134), none, none, none, none] [.ref 185] (kT (.inr (5, Lx)) 186, (stI I, stL L, stP P))
  refine lj_astore_n C (k4 := 3) (Nat.le_of_ble_eq_true rfl) (by decide +kernel) ?_
  refine lj_iconst C (n := 0) (v := 0) (by decide) (by decide +kernel) ?_
  refine lj_istore C (i := 4) (Nat.le_of_ble_eq_true rfl) (by decide +kernel) ?_
  show lJ m_Lw p l e room_1 s m #[Value.ref b] below meth c D dA b s.heap.size (lw_Z below #[Value.ref b] s) (0 + 1 + (134 - 2) + 1 + (185 - 135) + 1) (z2 + 1) 23 (lwL 0) [] (kT (.inr (5, Lx)) 186, (stI I, stL L, stP P))
  exact lw_loop htl C hx hX hbz hL Lx 0 _ _ _ (by omega) (by decide) (by decide) (by omega) st_iq.v
theorem lw_tr {l : Launch} (hfl : l.flags = flags0) : ∀ e, l.admits e → e.platform.stackTraces = false := fun e he => by
  have h : l.stackTraces = false := by
    unfold Launch.stackTraces
    rw [hfl]
    decide +kernel
  rw [Launch.admits.platform he]
  exact h
set_option maxHeartbeats 1000000 in
theorem whole_start {p : Program} {e : Env} {s : State} {m : MethodId} {below : List Frame} {meth : Method} {c : Code} (l : Launch) (hfl : l.flags = flags0) {b L : Nat} {xs : Nat → Int32} (hL : L ≤ 3072) (C0 : lw_At p s m meth c b L xs) : W p l e room_1 s m #[Value.ref b] below meth c s.heap [] 0 0 (lw_Z below #[Value.ref b] s) (entryFrame m ([Value.ref b] : List Value).toArray 7) := by
  obtain ⟨hx, hb, hr, hml, hown, hts, hX, hbl, hlocks, hgv⟩ := C0
  obtain ⟨D, dA, hK⟩ := ws_K hts
  have C : lC m_Lw p s m #[Value.ref b] meth c := ⟨hx, hb, hr, hml, hown, fun w hw => hts w (List.mem_filter.mp hw).1, hlocks⟩
  have hR : pRel D dA b s.heap.size (kT (.inr (5, L)) 1, ((fun _ => xs), (fun _ _ => 0), (fun _ _ => none))) s s.heap := by
    refine ⟨⟨hK, ws_N hts⟩, fun k q h => ?_, ⟨⟨Nat.le_refl _, fun _ => rfl, fun q cell hq he => ?_⟩, ws_X hts hgv⟩, hbl, L, rfl, hX⟩
    · have e : pWs dA b s.heap.size (kT (.inr (5, L)) 1, ((fun _ => xs), (fun _ _ => 0), (fun _ _ => none))) = [] := rfl
      rw [e] at h
      cases h
    · have := (Array.getElem?_eq_some_iff.mp he).1
      have hq' : s.heap.size + 1 ≤ q + 1 := hq
      omega
  exact lj_ent (μ := m_Lw) (av := [.ref 0]) (Nat.le_of_ble_eq_true rfl) hR (lw_first (lw_tr hfl) C (ws_W hts hgv) hX hbl hL)
set_option maxHeartbeats 4000000 in
theorem lw_walk (l : Launch) (hfl : l.flags = flags0) (b : Addr) (xs : List Int32) : MetFree l x (headSpec (Jvm.Cond.code x code maxLocals ret :: tables_1) room_1) (lw_P b xs) (fun _ _ _ _ _ => True) lw_Q := by
  refine MetFree.of_bodyS (code := code) (maxLocals := maxLocals) (ret := ret) (by decide) ?_ ?_
  · intro args s m h hn
    obtain ⟨meth, c, h1, h2, h3, h4, h5, h6, -, -⟩ := Cond.code_spec hn (atoms_spec (ws := Jvm.Cond.code x code maxLocals ret :: tables_1) h _ List.mem_cons_self)
    exact ⟨meth, c, h1, h2, h3, h4, h5, h6⟩
  · intro p e s m args below meth c s₁ B hml0 hP _
    obtain ⟨rfl, hx, hbd, hgv⟩ := hP
    obtain ⟨scr, harrAt, hlist, hof, hsmall⟩ := hx
    obtain ⟨hcb, hkn, -, -⟩ := State.arrayAt?_spec harrAt
    have hown : s.vm.findClass R_law = some m.cls := findClass_of_methodNamed B.named
    have hts0 : ∀ c ∈ (Jvm.Cond.code x code maxLocals ret :: tables_1), c.before #[Value.ref b] s = true := atoms_spec (ws := Jvm.Cond.code x code maxLocals ret :: tables_1) B.pre
    have hts : ∀ w ∈ lw_tbl, w.before #[Value.ref b] s = true := k2_hts_sels lw_privs (fun w hw => hts0 w (List.mem_cons_of_mem _ hw)) lw_privs_ok
    have hml : c.maxLocals = 7 := B.maxLocals_eq (hts0 _ List.mem_cons_self)
    have X₀ : Stand p l e room_1 s m #[Value.ref b] below meth c s₁ [] 0 0 := Stand.of_body B
    have hh0 : s₁.heap = s.heap := by rw [B.state]; rfl
    have hsz : scr.slots.size = xs.length := by rw [← Array.length_toList, hlist, List.length_map]
    have hval : ∀ j : Nat, j < xs.length → scr.slots[j]? = some (.int (xs.getD j 0)) := fun j hj => by
      rw [← Array.getElem?_toList, hlist]
      simp [hj]
    have hbl : b < s.heap.size := (Array.getElem?_eq_some_iff.mp hcb).1
    have hX : va_X b xs.length (fun j => xs.getD j 0) s s.heap := ⟨scr, hcb, hof, hkn, hsz, hval⟩
    have K : W p l e room_1 s m #[Value.ref b] below meth c s₁.heap [] 0 0 (lw_Z below #[Value.ref b] s) (entryFrame m ([Value.ref b] : List Value).toArray 7) := by
      rw [hh0]
      exact whole_start l hfl hbd ⟨B.exec, B.bytes, B.returns, hml, hown, hts, hX, hbl, B.notSynchronized, hgv⟩
    obtain ⟨t, a1, o, b1, b2, b3⟩ := K s₁ rfl X₀
    exact ⟨t, o, a1, b1, b2, b3⟩
theorem lw_pre_spec {args : Array Value} {s : State} (h : (Jvm.Cond.and given_1 narrow_1).before args s = true) (hr : rest_1_c.before args s = true) : ∃ (b : Addr) (xs : List Int32), lw_P b xs args s := by
  have hs := flat_of_before _ h
  have hq := flat_of_before _ hr
  have hc : (Cond.count 1).before args s = true := hs _ (by decide +kernel)
  have harr : (Cond.arrayOf (.arg 0) .int).before args s = true := hs _ (by decide +kernel)
  have hle : (Cond.le (.length (.arg 0)) (.int 3072)).before args s = true := hs _ (by decide +kernel)
  have hlen : (Cond.isInt (.length (.arg 0))).before args s = true := hq _ (by decide +kernel)
  have hall : (Cond.all (.arg 0) (.isInt (.elem (.arg 0) (.index 0)))).before args s = true := hq _ (by decide +kernel)
  obtain ⟨b, xs, hb, hx⟩ := State.ints_of_pre rfl harr hlen hall
  have hsm : xs.length < 2 ^ 31 := hx.choose_spec.2.2.2
  have hev : (Term.length (.arg 0)).eval args s none [] s = some (.int xs.length.toInt32) := hx.length_eval hb
  have hv := Cond.le_ints hev (show (Term.int 3072).eval args s none [] s = some (.int 3072) from rfl)
  have hd : xs.length.toInt32 ≤ 3072 := by
    simpa [Cond.before, Cond.holds, hv] using hle
  have hN : xs.length ≤ 3072 := (Int32.ofNat_le_ofNat hsm (by decide)).mp (show Int32.ofNat xs.length ≤ Int32.ofNat 3072 from hd)
  exact ⟨b, xs, Cond.one_arg hc (show args[0]? = some (.ref b) from hb), hx, hN, h⟩
theorem lw_comes (l : Launch) (hfl : l.flags = flags0) : Comes l x (Jvm.Cond.code x code maxLocals ret :: tables_1) room_1 (fun tb e args s => Calls_1 tb e args s ∧ rest_1 tb e args s ∧ Pre_1 tb e args s)
    (fun _ _ args s o t => lw_Q args s o t) := by
  intro p e ha hc hk s m args below hf hfit hheap happ hpre
  obtain ⟨b, xs, hP⟩ := lw_pre_spec hpre.2.2 hpre.2.1
  obtain ⟨k, o, h1, h2, h3, hQ⟩ := lw_walk l hfl b xs p e ha hc hk s m args below hf ((Spec.applies_iff_loose hf).mp happ).1 hP trivial
  exact ⟨k, o, h1, h2, h3, hQ⟩
theorem lw_frame {s t : State} {o : Outcome} {args : Array Value} (h : Framed s o t [] 601024 7293034) :
    Framed s o t (fieldLocs frame_1_writes args s ++ arrayLocs frame_1_arrays args s ++ staticLocs frame_1_statics s) 601024 7293034 := h
theorem lw_limb (L : Cond) (hL : ∀ (args : Array Value) (s t : State), L.after args s (.returned (some (.int 1))) t = true) :
    ArmFor flags0 classFile x code maxLocals ret World_1 tables_1 room_1 Calls_1 rest_1 Pre_1
      (fun tb e a s o t => postC L tb e a s o t ∧ Framed s o t (fieldLocs frame_1_writes a s ++ arrayLocs frame_1_arrays a s ++ staticLocs frame_1_statics s) 601024 7293034) := by
  intro l hfl _ _ p e ha hc hk s m args below hf hfit hheap happ hpre
  obtain ⟨k, o, h1, h2, h3, rfl, hF⟩ := lw_comes l hfl p e ha hc hk s m args below hf hfit hheap happ hpre
  exact ⟨k, _, h1, h2, h3, hL args s _, lw_frame hF⟩
theorem i_vc : Claimed_1_1 ∧ Claimed_1_2 := ⟨lw_limb limb_1_1 (fun args s t => by simp [limb_1_1, Cond.after, Cond.holds, Cond.value]), lw_limb limb_1_2 (fun args s t => Cond.after_iff.mpr (by
  first | (rw [show limb_1_2 = Cond.eq .result (.int 1) from rfl, Cond.eq_ints (x := 1) (y := 1) rfl rfl]; simp; done) | (simp [limb_1_2, Cond.value, Term.eval]; done)))⟩
