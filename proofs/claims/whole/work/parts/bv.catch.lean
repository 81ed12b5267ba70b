/-! ===== the law's own shoe: it catches ===== -/
def m_LwS : pMeth := (⟨"LeftShoesLaw", "shoe", "(LLeftShoes;II[J)I"⟩, method_3_code, 5, some .int)
def hLwS : List (Nat × Nat × Nat × Nat) := [(0, 10, 13, 13), (0, 10, 17, 15)]
theorem cw_LwS : Cond.codeWith m_LwS.1 m_LwS.2.1 m_LwS.2.2.1 m_LwS.2.2.2 hLwS ∈ lw_g := pG (inT5 _ (List.mem_of_getElem? (i := 197) rfl)) rfl
theorem st_LwS : Cond.static m_LwS.1 ∈ lw_g := pG (inT5 _ (List.mem_of_getElem? (i := 196) rfl)) rfl
theorem lm_Lw_39 : Cond.methodLink "LeftShoesLaw" 39 m_LwS.1 ∈ lw_g := pG (inT5 _ (List.mem_of_getElem? (i := 195) rfl)) rfl
theorem ini_Law : Cond.initialized "LeftShoesLaw" ∈ lw_g := pG (inT1 _ (List.mem_of_getElem? (i := 0) rfl)) rfl
/-- which exception, and where it is caught -/
def xKd (cls : String) (hp : Nat) : Prop := (cls = "java/lang/IndexOutOfBoundsException" ∧ hp = 13) ∨ (cls = "java/util/NoSuchElementException" ∧ hp = 17)
section
variable {p : Program} {l : Launch} {e : Env} {Rm : Room} {s : State} {m : MethodId} {args : Array Value} {below : List Frame} {meth : Method} {cc : Code} {D : va_G} {dA : Nat → ClassId} {b base : Nat} {Z : State → Prop} {cells slots : Nat} {sh : List pSh} {M : pM}
set_option maxHeartbeats 4000000 in
theorem lj_catch (C : lC m_LwS p s m args meth cc) (hx : xW base s s.heap) (htab : cc.exceptionTable.toList = tableOf hLwS) {cls : String} {hp : Nat} (hkd : xKd cls hp) {av : List Value} (hav : av.length = 2)
    (hM : MetFree l m_Ls_shoe.1 (headSpec (Cond.code m_Ls_shoe.1 m_Ls_shoe.2.1 m_Ls_shoe.2.2.1 m_Ls_shoe.2.2.2 :: lw_g) (pRm 8 1 6)) (fun v U => v = ((Value.ref 1 :: av).map (pUp (pAd b base))).toArray ∧ pRel D dA b base (sh, M) U U.heap ∧ xW base U U.heap) (fun _ _ _ _ _ => True) (tQ D dA b base (sh, M) cls))
    (hs : sh[1]? = some (.inl 10)) (hRf : 9 ≤ Rm.frames) (hRl : 700 ≤ Rm.locals) (hNC : cells + 1 ≤ Rm.cells) (hNS : slots + 6 ≤ Rm.slots) {ls : List (Option Value)} {st : List Value} (hst : (st.map fun v => v.category).sum ≤ 8)
    (k : ∀ x : Nat, lJ m_LwS p l e Rm s m args below meth cc D dA b base Z (cells + 1) (slots + 6) hp ls [.ref x] (sh, M)) :
    lJ m_LwS p l e Rm s m args below meth cc D dA b base Z cells slots 5 ls (av.reverse ++ .ref 1 :: st) (sh, M) := by
  intro H locs arr R S L T hT X
  have hts := C.2.2.2.2.2.1
  obtain ⟨o1, o2, o3, o4, o5, o6⟩ := ok_Ls_shoe
  have hlink := hts _ lm_Lw_7
  obtain ⟨mk, methM, hnamed, hmethM, hstM, habM⟩ := Cond.instanceMethod_spec (hts _ o1)
  obtain ⟨methM', cM, hmethM', -, -, -, -, -, -, hsigM⟩ := Cond.code_spec hnamed (hts _ o4)
  cases hmethM.symm.trans hmethM'
  obtain ⟨c2, r2, m2, q1, q2, q3, q4, kP, hkP, hkPi⟩ := Cond.selects_spec (hts _ o2)
  obtain ⟨a', ea, he, -⟩ := pRel_at R hs (fun _ q => by cases q)
  have ea0 : a' = 0 := by omega
  subst ea0
  obtain ⟨cellB, hcB, hoB, hclB⟩ := va_recv R.1.1 R.2.1 (pCl_ok 10 (by decide)) he
  have hclB' : s.vm.findClass m_Ls_shoe.1.cls = some cellB.cls := hclB
  cases hclB'.symm.trans q1
  cases (State.methodFound?_of_named hnamed o5).symm.trans q2
  cases hnamed.symm.trans q3
  have hselP : selectMethod e.platform s.vm cellB.cls mk = .method mk := by rw [Launch.admits_selectMethod X.admits]; exact q4
  have hb := C.2.1
  have hd5 : decode cc.code 5 = .ok (.invokevirtual 7, 3) := by rw [hb]; decide +kernel
  have hlen : ∀ sig, parseMethodDescriptor m_Ls_shoe.1.desc = some sig → (av.map (pUp (pAd b base))).length = sig.parameters.length := fun sig h => by
    have e1 : (parseMethodDescriptor m_Ls_shoe.1.desc).map (fun z => z.parameters.length) = some 2 := by decide +kernel
    rw [h] at e1
    rw [List.length_map, hav]
    injection e1 with e1
    exact e1.symm
  obtain ⟨vm1, X1, st1⟩ := X.invokevirtual C.1 C.2.2.2.2.1 hlink hnamed hmethM hstM hkP hkPi o5 (a := base + 0) (cell := cellB) (by rw [hT]; exact hcB)
    (fun z h => by rw [h] at hoB; cases hoB) hselP hmethM habM hkP hkPi (g := F0 m 5 arr ((av.reverse ++ .ref 1 :: st).map (pUp (pAd b base)))) rfl (argsL := av.map (pUp (pAd b base))) (rest := st.map (pUp (pAd b base))) (hlen _ hsigM) (by rw [List.map_append, List.map_reverse]; rfl) hd5
  have hGI : GoodIn lw_g (Cond.code m_Ls_shoe.1 m_Ls_shoe.2.1 m_Ls_shoe.2.2.1 m_Ls_shoe.2.2.2 :: lw_g) := pGoodIn (by
    intro w hw
    rcases List.mem_cons.mp hw with rfl | q
    · exact o4
    · exact q)
  have hpay := pay_in hts hGI
  have hini : ∀ (a' : Array Value) (U : State), s.WarmedH U.vm → (Cond.initialized m_Ls_shoe.1.cls).before a' U = true := fun a' U hW => hpay _ (List.mem_cons_of_mem _ o3) a' U hW
  have hK : BackT l Rm p e below s args m_Ls_shoe.1 3 8 (fun A a => A.cells + 1 ≤ Rm.cells ∧ A.slots + 6 ≤ Rm.slots ∧ (a = ((Value.ref 1 :: av).map (pUp (pAd b base))).toArray ∧ pRel D dA b base (sh, M) A.U A.U.heap ∧ xW base A.U A.U.heap))
      (fun A a v B => ∃ (g : JFrame) (mk : MethodId) (t : State) (L : List Loc), B.U.heap = t.heap ∧ B.U.vm = t.vm ∧ tQ D dA b base (sh, M) cls a (A.U.calling g mk a) (.threw v) t ∧ B.locs = A.locs ++ L ∧ (∀ q ∈ L, base ≤ q.base) ∧ B.cells = A.cells + 1 ∧ B.slots = A.slots + 6) := by
    refine BackT.of_free (bytes := m_Ls_shoe.2.1) (maxL := m_Ls_shoe.2.2.1) (ret := m_Ls_shoe.2.2.2) (E := fun _ _ _ _ L k n => k = 1 ∧ n = 6 ∧ ∀ q ∈ L, base ≤ q.base) hM hRf (by show 8 + (3 + 11) + 64 * 8 ≤ Rm.locals; omega) ?_ ?_ (fun _ _ _ _ _ _ _ _ _ => trivial) ?_ ?_
    · intro m' meth' c' A a X' hp
      exact ⟨atoms_intro fun w hw => hpay w hw _ _ X'.warmed, hpay _ List.mem_cons_self _ _ X'.warmed, hini _ _ X'.warmed, hp.1, hp.2.1⟩
    · intro m' meth' c' A a g mk' X' hp
      exact ⟨hp.2.2.1, pRel_blind rfl rfl hp.2.2.2.1, (xW.same (u := A.U) (U := A.U.calling g mk' a) (H := A.U.heap) rfl hp.2.2.2.2 : xW base (A.U.calling g mk' a) A.U.heap)⟩
    · rintro a first o t ⟨x, L, ce, rfl, w1, w2, w3, w4⟩
      exact ⟨L, 1, 6, ⟨⟨x, rfl⟩, w1, w2⟩, rfl, rfl, w3⟩
    · rintro m' meth' c' A a g mk' v t L k n X' hp hq hF ⟨rfl, rfl, hL⟩
      exact ⟨g, mk', t, L, rfl, rfl, hq, rfl, hL, rfl, rfl⟩
  have hkeep : ∀ q : Nat, q < s.heap.size → ¬ base ≤ q → H[q]? = s.heap[q]? := S.2.1
  obtain ⟨v, Bp, X2, ⟨g', mk', t, L', g1, g2, ⟨x, L9, ce, ex, w1, w2, w3, w4, w5, w6, w7, w8, w9⟩, hl2, hL', hc2, hs2⟩, hsteps⟩ := hK m meth cc ⟨T.setVm vm1, locs, cells, slots⟩ { F0 m 5 arr ((av.reverse ++ .ref 1 :: st).map (pUp (pAd b base))) with stack := st.map (pUp (pAd b base)) } (.invokevirtual 7) mk ((Value.ref 1 :: av).map (pUp (pAd b base))).toArray X1 rfl (L.1.1.trans C.2.2.2.1.symm) hd5 (lv_room (by rw [pUp_cats]; exact hst)) (X1.named hnamed)
    ⟨hNC, hNS, rfl, (pPc_pre (av := Value.ref 1 :: av) R (T.setVm vm1) hT X1.warmed).2, ((hx.kept fun q hq1 hq2 => by
      show T.heap[q]? = _
      rw [hT]
      exact hkeep q hq1 hq2).warm X1.warmed : xW base (T.setVm vm1) T.heap)⟩
  cases ex
  obtain ⟨U', locs', cells', slots'⟩ := Bp
  dsimp only [Pt.U, Pt.locs, Pt.cells, Pt.slots] at g1 g2 hl2 hc2 hs2 X2 hsteps
  subst hl2 hc2 hs2
  have hpl : e.platform.magicAccessors = ({} : Platform).magicAccessors := by rw [X.admits.platform]
  have hcal : ((T.setVm vm1).calling g' mk' ((Value.ref 1 :: av).map (pUp (pAd b base))).toArray).vm = vm1 := rfl
  have hfc : s.vm.findClass cls = some ce.cls := by
    have q := w7
    rw [hcal] at q
    rw [← X1.warmed.alike.findClass]
    exact q
  have hown := C.2.2.2.2.1
  obtain ⟨c13, hc13, hcl13⟩ := Cond.classLink_spec hown (hts _ xl_13) e.platform hpl
  obtain ⟨c15, hc15, hcl15⟩ := Cond.classLink_spec hown (hts _ xl_15) e.platform hpl
  have hcast : ∀ (i : Nat) (nm : String), xFw[i]? = some (.castable nm nm) → ∀ c0, s.vm.findClass nm = some c0 → s.vm.assignable c0 c0 = true := fun i nm hi c0 h0 => by
    obtain ⟨u1, u2, k1, k2, k3⟩ := Cond.castable_spec (hx.2.2.1 _ (List.mem_of_getElem? hi) #[])
    cases h0.symm.trans k1
    cases h0.symm.trans k2
    exact k3
  have hck : ∃ kk, s.vm.classes[ce.cls]? = some kk := by
    obtain ⟨kk, h1, -⟩ := Vm.findClass_spec hfc
    exact ⟨kk, h1⟩
  have hcome := st1 _ (fun acts => by rw [doInvoke_state]; exact hsteps)
  have key : ∃ vm', Stand p l e Rm s m args below meth cc (U'.setVm vm') (locs ++ L') (cells + 1) (slots + 6) ∧ Steps p.tables e below (T.setTop (F0 m 5 arr ((av.reverse ++ .ref 1 :: st).map (pUp (pAd b base))))) ((U'.setVm vm').setTop (F0 m hp arr [.ref v])) := by
    rcases hkd with ⟨rfl, rfl⟩ | ⟨rfl, rfl⟩
    · cases hc13.symm.trans hfc
      exact X2.thenCaughtThrough v (g := { F0 m 5 arr ((av.reverse ++ .ref 1 :: st).map (pUp (pAd b base))) with stack := st.map (pUp (pAd b base)) }) rfl hcome (by rw [g1]; exact w6) (by rw [w8]; rfl) hck [] ⟨0, 10, 13, 13⟩ [⟨0, 10, 17, 15⟩] htab (fun y hy => by cases hy) rfl
        (Or.inr ⟨by decide, _, hcl13, hcast 3 _ rfl _ hfc⟩)
    · cases hc15.symm.trans hfc
      exact X2.thenCaughtThrough v (g := { F0 m 5 arr ((av.reverse ++ .ref 1 :: st).map (pUp (pAd b base))) with stack := st.map (pUp (pAd b base)) }) rfl hcome (by rw [g1]; exact w6) (by rw [w8]; rfl) hck [⟨0, 10, 13, 13⟩] ⟨0, 10, 17, 15⟩ [] htab (fun y hy => by
          rw [List.mem_singleton] at hy
          subst hy
          exact Or.inr ⟨by decide, _, hcl13, hx.2.2.2 _ _ hfc hc13⟩) rfl
        (Or.inr ⟨by decide, _, hcl15, hcast 4 _ rfl _ hfc⟩)
  obtain ⟨vm2, X3, hst3⟩ := key
  have hal : t.vm.Alike s.vm := by rw [← g2]; exact X2.warmed.alike.symm
  obtain ⟨-, hP, hz, hbb, L0, hL0, hXx⟩ := w4
  have hHt : ∀ q : Nat, q < H.size → ¬ base ≤ q → t.heap[q]? = H[q]? := fun q hq1 hq2 => by
    have e0 : ((T.setVm vm1).calling g' mk' ((Value.ref 1 :: av).map (pUp (pAd b base))).toArray).heap = H := hT
    have := w5.2 q (by rw [e0]; exact hq1) hq2
    rw [this, e0]
  have hsz : H.size ≤ t.heap.size := by
    have e0 : ((T.setVm vm1).calling g' mk' ((Value.ref 1 :: av).map (pUp (pAd b base))).toArray).heap = H := hT
    have := w5.1
    rw [e0] at this
    exact this
  have hS' : va_S (fun q => base ≤ q) s.heap t.heap (locs ++ L') := by
    refine ⟨Nat.le_trans S.1 hsz, fun q hq1 hq2 => ?_, fun q hq => ?_⟩
    · rw [hHt q (Nat.lt_of_lt_of_le hq1 S.1) hq2]
      exact S.2.1 q hq1 hq2
    · rcases List.mem_append.mp hq with z | z
      · exact S.2.2 q z
      · exact hL' q z
  obtain ⟨t2, a1, b1⟩ := k (v - base + 1) t.heap (locs ++ L') arr ⟨R.1, hP, ⟨hz.1, R.2.2.1.2.kept hHt⟩, hbb, L0, hL0, va_X.moved hal hXx⟩ hS' L (U'.setVm vm2) g1 X3
  refine ⟨t2, hst3.trans ?_, b1⟩
  have ev : pUp (pAd b base) (.ref (v - base + 1)) = .ref v := by
    show Value.ref (base + (v - base)) = _
    rw [show base + (v - base) = v by omega]
  rw [List.map_cons, ev] at a1
  exact a1
end
