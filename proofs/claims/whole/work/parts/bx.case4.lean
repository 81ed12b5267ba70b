/-! ===== the law's walk: its shoe is called ===== -/
section
variable {p : Program} {l : Launch} {e : Env} {Rm : Room} {s : State} {m : MethodId} {args : Array Value} {below : List Frame} {meth : Method} {cc : Code} {D : va_G} {dA : Nat → ClassId} {b base : Nat} {Z : State → Prop} {cells slots pc : Nat}
set_option maxHeartbeats 1000000 in
theorem lj_runSW {H : Heap} {locs : List Loc} {arr : Array Slot} {ls : List (Option Value)} {rm : Room} {Pc : Array Value → State → Prop} {Qc : Array Value → State → Outcome → State → Prop} {mc ms : Nat} {av st : List Value} (C : lC m_Lw p s m args meth cc) (hd : decode m_Lw.2.1 pc = .ok (.invokestatic 39, 3)) (hav : av.length = 4)
    (hM : Met l m_LwS.1 (Cond.codeWith m_LwS.1 m_LwS.2.1 m_LwS.2.2.1 m_LwS.2.2.2 hLwS :: lw_g) rm Pc Qc mc ms (fun q => base ≤ q)) (hbl : FrameBlind Pc) (hrc : rm.cells = mc) (hrs : rm.slots = ms) (hRf : rm.frames + 1 ≤ Rm.frames) (hRl : 24 + rm.locals ≤ Rm.locals) (hNC : cells + mc ≤ Rm.cells) (hNS : slots + ms ≤ Rm.slots)
    (hst : (st.map fun v => v.category).sum ≤ 8) (L : pLs arr m_Lw.2.2.1 (pAd b base) ls) (hP : ∀ U : State, U.heap = H → s.WarmedH U.vm → Pc ((av.map (pUp (pAd b base))).toArray) U) :
    va_Run p l e Rm s m args below meth cc H locs cells slots mc ms (F0 m pc arr ((av.reverse ++ st).map (pUp (pAd b base)))) (st.map (pUp (pAd b base))) (Qc ((av.map (pUp (pAd b base))).toArray)) (fun q => base ≤ q) := by
  have hts := C.2.2.2.2.2.1
  have hGI : GoodIn lw_g (Cond.codeWith m_LwS.1 m_LwS.2.1 m_LwS.2.2.1 m_LwS.2.2.2 hLwS :: lw_g) := pGoodIn (by
    intro w hw
    rcases List.mem_cons.mp hw with rfl | q
    · exact cw_LwS
    · exact q)
  have hpay := pay_in hts hGI
  have hK : Back l Rm p e below s args m_LwS.1 3 8 (PreOf Rm mc ms Pc) (PostOf Qc mc ms (fun q => base ≤ q)) := va_backW (hh := hLwS) (bytes := m_LwS.2.1) (maxL := m_LwS.2.2.1) (ret := m_LwS.2.2.2) hM hbl hrc hrs hRf (by show 8 + (5 + 11) + rm.locals ≤ Rm.locals; omega) hpay List.mem_cons_self (fun a' U hW => hpay _ (List.mem_cons_of_mem _ ini_Law) a' U hW)
  obtain ⟨mk, methM, cM, hnamed, hmethM, -, -, -, -, -, -, hsigM⟩ := Cond.codeWith_spec (hts _ cw_LwS)
  have hstatic : methM.isStatic = true := Cond.static_spec hnamed hmethM (hts _ st_LwS)
  obtain ⟨kP, hkP, -⟩ := className_of_methodNamed hnamed
  have hinitP : kP.init = .initialized := Cond.initialized_spec (findClass_of_methodNamed hnamed) hkP (hts _ ini_Law)
  have hb := C.2.1
  have hlen : (av.map (pUp (pAd b base))).length = methM.sig.parameters.length := by
    have e1 : (parseMethodDescriptor m_LwS.1.desc).map (fun z => z.parameters.length) = some 4 := by decide +kernel
    rw [hsigM, Option.map_some] at e1
    rw [List.length_map, hav]
    exact (Option.some.inj e1).symm
  intro T hT X
  have hdg : decode cc.code pc = .ok (.invokestatic 39, 3) := by rw [hb]; exact hd
  obtain ⟨vm1, X1, st1⟩ := X.invokestatic C.1 C.2.2.2.2.1 (hts _ lm_Lw_39) hnamed hmethM hstatic hkP hinitP (by decide) (g := F0 m pc arr ((av.reverse ++ st).map (pUp (pAd b base)))) rfl (argsL := av.map (pUp (pAd b base))) (rest := st.map (pUp (pAd b base))) hlen (by rw [List.map_append, List.map_reverse]) hdg
  obtain ⟨v, Bp, X2, ⟨g', mk', t, L', e1, e2, hq, h1, hL', h2, h3⟩, hsteps⟩ := hK m meth cc ⟨T.setVm vm1, locs, cells, slots⟩ { F0 m pc arr ((av.reverse ++ st).map (pUp (pAd b base))) with stack := st.map (pUp (pAd b base)) } (.invokestatic 39) mk ((av.map (pUp (pAd b base))).toArray) X1 rfl (L.1.1.trans C.2.2.2.1.symm) hdg (lv_room (by rw [pUp_cats]; exact hst)) (X1.named hnamed) ⟨hNC, hNS, hP (T.setVm vm1) hT X1.warmed⟩
  obtain ⟨U', l2, c2, s2⟩ := Bp
  dsimp only [Pt.U, Pt.locs, Pt.cells, Pt.slots] at X2 e1 e2 h1 h2 h3 hsteps
  subst h1 h2 h3
  exact ⟨v, (T.setVm vm1).calling g' mk' ((av.map (pUp (pAd b base))).toArray), t, U', L', hT, X2, hL', e1, e2, hq, fun target h => st1 _ fun acts => by rw [doInvoke_state]; exact hsteps.trans h⟩
/-- the call that is answered -/
theorem lj_shoeG {sh : List pSh} {M : pM} {av st : List Value} {ls : List (Option Value)} {Q : Option Value → pM → Prop} {d : Nat} (C : lC m_Lw p s m args meth cc) (hd : decode m_Lw.2.1 pc = .ok (.invokestatic 39, 3)) (hav : av.length = 4) (hpal : (pAL av).length ≤ 5) (hw : pWn m_LwS d sh Q 0 (pEnt 5 av) [] M) (hRf : d + 1 ≤ Rm.frames) (hRl : 24 + 64 * d ≤ Rm.locals) (hNC : cells ≤ Rm.cells) (hNS : slots ≤ Rm.slots) (hst : (st.map fun v => v.category).sum ≤ 8)
    (k : ∀ r M', Q r M' → lJ m_Lw p l e Rm s m args below meth cc D dA b base Z cells slots (pc + 3) ls (r.toList ++ st) (sh, M')) : lJ m_Lw p l e Rm s m args below meth cc D dA b base Z cells slots pc ls (av.reverse ++ st) (sh, M) := by
  intro H locs arr R S L
  have hM := pCtW_of (hh := hLwS) (μ := m_LwS) (av := av) (by decide +kernel) hpal (Nat.le_refl _) (Nat.le_refl _) hw l D dA b base
  have hrun := lj_runSW (st := st) (locs := locs) (cells := cells) (slots := slots) (below := below) (e := e) (H := H) C hd hav hM pPc_blind rfl rfl hRf hRl (by rw [Nat.sub_self]; exact hNC) (by rw [Nat.sub_self]; exact hNS) hst L (fun U hU hW => pPc_pre (av := av) R U hU hW)
  rw [Nat.sub_self, Nat.sub_self] at hrun
  refine lj_after R S L hrun (fun r h' hq h1 h2 => ?_)
  obtain ⟨s', M'⟩ := h'
  obtain ⟨rfl, hq⟩ := hq
  exact k r M' hq
/-- the call that throws within -/
theorem lj_shoeT {sh : List pSh} {I : Nat → Nat → Int32} {Lg : Nat → Nat → Int64} {P : Nat → Nat → Option Nat} {st : List Value} {ls : List (Option Value)} (htl : ∀ e, l.admits e → e.platform.stackTraces = false) (C : lC m_Lw p s m args meth cc) (hx : xW base s s.heap) (hd : decode m_Lw.2.1 pc = .ok (.invokestatic 39, 3)) (h186 : sh.length = 186) (hA : kA sh P) {t : Nat} (ht : t = 3 ∨ t = 30) (hxt : P 1 2 = some t) (sv qv v : Int32)
    (hcase : (¬ (0 ≤ sv ∧ sv < I t 6) ∧ v = 1) ∨ ((0 ≤ sv ∧ sv < I t 6) ∧ (qv.toInt < 0 ∨ 6 < qv.toInt) ∧ v = 2)) (hRf : 13 ≤ Rm.frames) (hRl : 792 ≤ Rm.locals) (hNC : cells + 1 ≤ Rm.cells) (hNS : slots + 6 ≤ Rm.slots) (hst : (st.map fun v => v.category).sum ≤ 8)
    (k : lJ m_Lw p l e Rm s m args below meth cc D dA b base Z (cells + 1) (slots + 6) (pc + 3) ls (.int v :: st) (sh, (I, Lg, P))) : lJ m_Lw p l e Rm s m args below meth cc D dA b base Z cells slots pc ls (.ref 185 :: .int qv :: .int sv :: .ref 1 :: st) (sh, (I, Lg, P)) := by
  intro H locs arr R S L
  have hkeep : ∀ q : Nat, q < s.heap.size → ¬ base ≤ q → H[q]? = s.heap[q]? := S.2.1
  have hrun := lj_runSW (av := [.ref 1, .int sv, .int qv, .ref 185]) (st := st) (locs := locs) (cells := cells) (slots := slots) (below := below) (e := e) (H := H) C hd rfl (ct_LwT htl h186 hA ht hxt sv qv v hcase D dA b base) (fun a U g mk w => ⟨w.1, pRel_blind rfl rfl w.2.1, (xW.same (u := U) (U := U.calling g mk a) (H := U.heap) rfl w.2.2 : xW base (U.calling g mk a) U.heap)⟩) rfl rfl hRf (by show 24 + 64 * 12 ≤ Rm.locals; omega) hNC hNS hst L (fun U hU hW => ⟨rfl, (pPc_pre (av := [.ref 1, .int sv, .int qv, .ref 185]) R U hU hW).2, ((hx.kept fun q hq1 hq2 => by rw [hU]; exact hkeep q hq1 hq2).warm hW : xW base U U.heap)⟩)
  intro T hT X
  obtain ⟨w, st₀, t', T', L', h0, X', hL', g1, g2, ⟨ho, hR', hF⟩, stp⟩ := hrun T hT X
  have hvv : w = some (.int v) := by injection ho
  subst hvv
  have hal : t'.vm.Alike s.vm := by rw [← g2]; exact X'.warmed.alike.symm
  obtain ⟨-, hP, hz, hb, L0, hL0, hX⟩ := hR'
  have hS' : va_S (fun q => base ≤ q) s.heap t'.heap (locs ++ L') := by
    refine ⟨Nat.le_trans S.1 (by rw [← h0]; exact hF.1), fun q hq1 hq2 => ?_, fun q hq => ?_⟩
    · rw [hF.2 q (by rw [h0]; exact Nat.lt_of_lt_of_le hq1 S.1) hq2, h0]
      exact S.2.1 q hq1 hq2
    · rcases List.mem_append.mp hq with z | z
      · exact S.2.2 q z
      · exact hL' q z
  obtain ⟨t2, a1, b1⟩ := k t'.heap (locs ++ L') arr ⟨R.1, hP, ⟨hz.1, R.2.2.1.2.kept fun q hq1 hq2 => by rw [hF.2 q (by rw [h0]; exact hq1) hq2, h0]⟩, hb, L0, hL0, va_X.moved hal hX⟩ hS' L T' g1 X'
  exact ⟨t2, stp t2 a1, b1⟩
end
