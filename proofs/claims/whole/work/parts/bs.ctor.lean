/-! ===== exceptions: an exception of the class is made and told its text ===== -/
theorem va_Zq_v {C n d : String} {A : Nat → Prop} {U : State} {H : Heap} (h : va_Zq C n d A U H) : ∃ v : Value, v.isRef = true ∧ va_Z C n d v A U H := by
  rcases h with h | ⟨t, h⟩
  · exact ⟨.null, rfl, h⟩
  · exact ⟨.ref t, rfl, h⟩
set_option maxHeartbeats 2000000 in
theorem xt_ctor {p : Program} {l : Launch} {e : Env} {R : Room} {s : State} {m : MethodId} {args : Array Value} {below : List Frame} {meth : Method} {c : Code} {T : State} {locs : List Loc} {cells slots base : Nat}
    (X : Stand p l e R s m args below meth c T locs cells slots) (hexec : p.tables.exec = Jvm.exec) (htr : e.platform.stackTraces = false) (hts : ∀ w ∈ lw_g, w.before args s = true) (hx : xW base s s.heap) (hw : pXw base s T.heap) (hown : s.vm.findClass "LeftShoes" = some m.cls)
    {cls : String} {ic ix cl : Nat} {rx : ByteArray} (hcls : Bundle.fit cls = true) (d0 : decode rx 0 = .ok (.aload_n 0, 1)) (d1 : decode rx 1 = .ok (.aload_n 1, 1)) (d2 : decode rx 2 = .ok (.invokespecial ix, 3)) (d5 : decode rx 5 = .ok (.return_, 1))
    (hps : ∀ w ∈ Bundle.passSAtoms cls "java/lang/RuntimeException" ix rx, w.before args s = true) (hxo : ∀ w ∈ xo cls ic cl, w.before args s = true)
    {a : Nat} (hab : base ≤ a) {cX : ClassId} {kX : Class} (hfX : s.vm.findClass cls = some cX) (hkX : s.vm.classes[cX]? = some kX) (hcell : T.heap[a]? = some (freshCell cX kX))
    {msg : Value} (hmsg : msg.isRef = true) {g : JFrame} (hg : g.method = m) (hsize : g.locals.size = c.maxLocals) {rest : List Value} (hstack : g.stack = msg :: .ref a :: .ref a :: rest) (hd : decode c.code g.pc = .ok (.invokespecial ic, 3))
    (hRf : 5 < R.frames) (hRl : 2 * g.monitorRoom + ((Value.ref a :: rest).map fun v => v.category).sum + 81 ≤ R.locals) :
    ∃ (vm' : Vm) (cN : Cell) (L : List Loc), Stand p l e R s m args below meth c ((T.setVm vm').setCell a cN) (locs ++ L) cells slots ∧ (∀ q ∈ L, q.base = a) ∧ cN.cls = cX ∧ cN.vm = .none ∧
      ∀ target, Steps p.tables e below (((T.setVm vm').setCell a cN).setTop { g with pc := g.pc + 3, stack := .ref a :: rest }) target → Steps p.tables e below (T.setTop g) target := by
  have hpl : e.platform.magicAccessors = ({} : Platform).magicAccessors := by rw [X.admits.platform]
  obtain ⟨T0, Z0, LT, -, Y⟩ := ThrowableC.of_atoms (args := args) (pl := e.platform) (by rw [X.admits.platform]) (by rw [X.admits.platform]) hpl (xa_t hts hx)
  obtain ⟨Z, M, LZ, LM, hnZ⟩ := Init0T.ofS_atoms (args := args) hpl LT Y (xa_s hts hx)
  obtain ⟨P1, L1, hm1, hs1⟩ := PassC.ofS_atoms (args := args) (s := s) hpl (X := cls) (Y := "java/lang/RuntimeException") (Bundle.fit_spec hcls).1 (by decide) d0 d1 d2 d5 hps
  obtain ⟨P2, Ps, hlen, L2, hLs, hm2, hk2, hk3⟩ := Bundle.chainS (args := args) hpl hnZ ["java/lang/Exception"] "java/lang/RuntimeException" (by decide) (by decide) (xa_c hts hx)
  have h12 : P1.sup = P2.m := Option.some.inj (hs1.symm.trans hm2)
  have hfP : s.vm.findClass cls = some P1.m.cls := findClass_of_methodNamed hm1
  have hPc : P1.m.cls = cX := Option.some.inj (hfP.symm.trans hfX)
  have at_ : ∀ (i : Nat) (w : Cond), (xo cls ic cl)[i]? = some w → w.before args s = true := fun i w h => hxo w (List.mem_of_getElem? h)
  obtain ⟨c1, k1, hc1, hk1, hord, -, -, -⟩ := Cond.instantiable_spec (at_ 1 (.instantiable cls 6) rfl)
  cases Option.some.inj (hc1.symm.trans hfX)
  cases Option.some.inj (hk1.symm.trans hkX)
  have sel : ∀ (y : MethodName) (r : MethodId), (Cond.selects cls y y).before args s = true → s.methodNamed? y = some r → (y.cls ≠ "java/lang/invoke/MethodHandle" ∧ y.cls ≠ "java/lang/invoke/VarHandle") → selectMethod e.platform s.vm cX r = .method r := fun y r hw hr hy => by
    obtain ⟨c2, r2, m2, q1, q2, q3, q4, -⟩ := Cond.selects_spec hw
    cases Option.some.inj (q1.symm.trans hfX)
    cases Option.some.inj (q2.symm.trans (State.methodFound?_of_named hr hy))
    cases Option.some.inj (q3.symm.trans hr)
    rw [Launch.admits_selectMethod X.admits]
    exact q4
  obtain ⟨vu, hvu, cf, kf, fi, ff, aS, cellS, u1, -, -, u4, u5, u6, u7, u8⟩ := va_Zq_v hw.1
  cases Option.some.inj (u1.symm.trans Y.unassigned)
  have eS : aS = T0.aS := Option.some.inj (u4.symm.trans LT.statics)
  obtain ⟨vn, hvn, cf2, kf2, fi2, ff2, aS2, cellS2, n1, -, -, n4, n5, n6, n7, n8⟩ := va_Zq_v hw.2.1
  cases Option.some.inj (n1.symm.trans Y.sentinel)
  have eS2 : aS2 = T0.aS := Option.some.inj (n4.symm.trans LT.statics)
  subst eS
  subst eS2
  cases Option.some.inj (u5.symm.trans n5)
  have hne : T0.aS ≠ a := fun w => u8 (by rw [w]; exact hab)
  have hkn : cellS.vm ≠ .unknown := fun w => by rw [w] at u6; cases u6
  obtain ⟨iM, hfM⟩ := Y.msg
  obtain ⟨ciB, iB, fB, b1, b2, b3, b4, -, hnB, htB, hfB⟩ := Cond.ownField (t := .object "java/lang/Object") Y.found LT.cls (by decide +kernel) (hts _ xa_b.1) (hts _ xa_b.2) e.platform hpl
  obtain ⟨tyC, dC, hdC, hnC⟩ := Cond.laysAt hfX hkX Y.cause (at_ 5 (.lays cls Bundle.tN "cause" "Ljava/lang/Throwable;") rfl)
  obtain ⟨tyS, dS, hdS, hnS⟩ := Cond.laysAt hfX hkX Y.stack (at_ 6 (.lays cls Bundle.tN "stackTrace" Bundle.steD) rfl)
  obtain ⟨tyP, dP, hdP, hnP⟩ := Cond.laysAt hfX hkX Y.supp (at_ 7 (.lays cls Bundle.tN "suppressedExceptions" Bundle.listD) rfl)
  obtain ⟨tyM, dM, hdM, hnM⟩ := Cond.laysAt hfX hkX hfM (at_ 8 (.lays cls Bundle.tN "detailMessage" "Ljava/lang/String;") rfl)
  obtain ⟨tyB, dB, hdB, hnBB⟩ := Cond.laysAt hfX hkX hfB (at_ 9 (.lays cls Bundle.tN "backtrace" "Ljava/lang/Object;") rfl)
  have bC := Cond.laysApart hdB hdC hnBB hnC (by rw [hnB, Y.causeName]; decide)
  have bS := Cond.laysApart hdB hdS hnBB hnS (by rw [hnB, Y.stackName]; decide)
  have bP := Cond.laysApart hdB hdP hnBB hnP (by rw [hnB, Y.suppName]; decide)
  have hnul : ((preparedCellV T0.toThrowableT (freshCell cX kX) a ⟨vu, hvu⟩ ⟨vn, hvn⟩).withEntry T.cur).slots[fB.slot]? = some .null := by
    have q := fresh_default (c := cX) tyB
    rw [htB] at q
    simpa [preparedCellV, Cell.setSlot, Cell.withEntry, Array.getElem?_setIfInBounds, bC, bS, bP, bC.symm, bS.symm, bP.symm, defaultValue] using q
  obtain ⟨tm, mC, cC, kC, vm1, hnm, -, -, -, -, -, -, -, hW1, st1⟩ := Steps.initColdS (tb := p.tables) (e := e) (below := below) (s := s) (U := T) X.here hexec X.warmed hpl hown (t := Bundle.initS cls) rfl rfl (Bundle.fit_spec hcls).2
    (at_ 0 (.methodLink "LeftShoes" ic (Bundle.initS cls)) rfl) (hps _ (List.mem_of_getElem? (i := 0) rfl)) (bytes := rx) (maxL := 2) (hps _ (List.mem_of_getElem? (i := 1) rfl)) (f := g) hg (a := a) (msg := msg) (rest := .ref a :: rest) hstack hd
  cases Option.some.inj (hnm.symm.trans hm1)
  have X1 := X.noted hW1
  obtain ⟨vm2, X2, st2⟩ := X1.ctorMessageOffV hexec (g := { g with stack := .ref a :: rest }) hg hsize T0 LT Z LZ M LM (P1 :: P2 :: Ps)
    (fun P hP => by
      rcases List.mem_cons.mp hP with rfl | hP
      · exact L1
      · rcases List.mem_cons.mp hP with rfl | hP
        · exact L2
        · exact hLs P hP) ⟨h12, hk2, hk3⟩ (u0 := ⟨vu, hvu⟩) (sen := ⟨vn, hvn⟩) (self := a) hmsg (cell := freshCell cX kX) (cellS := cellS)
    hcell (fun _ => by simp) (by simp) rfl rfl (sel Bundle.tFill0 _ (at_ 3 _ rfl) Y.fill0 (by decide)) (sel Bundle.tFill _ (at_ 4 _ rfl) Y.fill (by decide)) u5 hne hkn u7 n7
    (Takes.of_laid hkX hord tyC (by rw [Y.causeType]; rfl)) (Takes.of_laid hkX hord tyS (by rw [Y.stackType]; exact fits_refV_array _ ⟨vu, hvu⟩)) (Takes.of_laid hkX hord tyP (by rw [Y.suppType]; exact fits_refV_object _ ⟨vn, hvn⟩))
    (Takes.of_laid hkX hord tyM (by rw [Y.msgType]; exact fits_refV_object _ ⟨msg, hmsg⟩)) Y.objLocals ⟨{ ci198 := ciB, i198 := iB, fBack := fB }, ⟨b1, b2, b3, b4⟩, hnul, fun _ _ => rfl⟩ htr [] hd
    (by simp only [List.length_cons, hlen]; simp; omega) (by simp only [List.length_cons, hlen]; simpa using hRl)
  refine ⟨vm2, plainBareV T0.toThrowableT (freshCell cX kX) a ⟨vu, hvu⟩ ⟨vn, hvn⟩ msg, _, X2, ?_, rfl, rfl, fun target h => st1 _ (fun acts => ?_)⟩
  · intro q hq
    simp only [List.mem_cons, List.not_mem_nil, or_false] at hq
    rcases hq with rfl | rfl | rfl | rfl | rfl <;> rfl
  · rw [doInvoke_state]
    exact st2 _ h
