/-! ===== LeftShoes.shoe where it throws ===== -/
/-- what is left when an exception of the class cls has been thrown -/
def tQ (D : va_G) (dA : Nat → ClassId) (b base : Nat) (h : pH) (cls : String) : Array Value → State → Outcome → State → Prop := fun _ st o t =>
  ∃ (x : Addr) (L : List Loc) (ce : Cell), o = .threw x ∧ st.WarmedH t.vm ∧ st.sameButNew ({ t with vm := st.vm } : State) L 1 6 ∧ (∀ q ∈ L, base ≤ q.base) ∧ pRel D dA b base h t t.heap ∧ va_F (fun q => base ≤ q) st t ∧ t.heap[x]? = some ce ∧ st.vm.findClass cls = some ce.cls ∧ ce.vm = .none ∧ base ≤ x
def tZ (D : va_G) (dA : Nat → ClassId) (b base : Nat) (h : pH) (cls : String) (below : List Frame) (args : Array Value) (s : State) : State → Prop := fun t => ∃ o, t.status = .running ∧ Ended t below o ∧ tQ D dA b base h cls args s o t
theorem pRel_exc {D : va_G} {dA : Nat → ClassId} {b base : Nat} {h : pH} {s U : State} {H H2 : Heap} {cN : Cell} (h186 : h.1.length = 186) (R : pRel D dA b base h s H) (hW : s.WarmedH U.vm) (o : ∀ q, q < H.size → H2[q]? = H[q]?) (hn : H2[H.size]? = some cN) (hz : H2.size = H.size + 1) (hv : cN.vm = .none) : pRel D dA b base h U H2 := by
  obtain ⟨⟨hK, hN⟩, hP, hz0, hb, L, hL, hX⟩ := R
  have hs : base + 186 ≤ H.size + 1 := by have := hz0.1.1; rw [h186] at this; exact this
  refine ⟨⟨va_K.moved hW.alike hK, pNw.warm hW hN⟩, hP.kept fun k q hq => o q.1 (hP k q hq).lt, ⟨⟨?_, fun w => ?_, fun q cell hq he => ?_⟩, (hz0.2.kept fun q hq _ => o q hq).warm hW⟩, hb, L, hL, va_X.moved hW.alike (va_X.kept hX (o b (by omega)))⟩
  · rw [h186]; omega
  · rw [h186] at w; omega
  · by_cases hlt : q < H.size
    · rw [o q hlt] at he
      exact hz0.1.2.2 q cell hq he
    · have hql : q < H2.size := (Array.getElem?_eq_some_iff.mp he).1
      rw [show q = H.size by omega, hn] at he
      cases he
      rw [hv]
      rfl
section
variable {p : Program} {l : Launch} {e : Env} {s : State} {m : MethodId} {args : Array Value} {below : List Frame} {meth : Method} {cc : Code} {D : va_G} {dA : Nat → ClassId} {b base d pc : Nat} {ls : List (Option Value)} {h : pH}
set_option maxHeartbeats 2000000 in
theorem lj_throw (C : lC m_Ls_shoe p s m args meth cc) (htr : e.platform.stackTraces = false) (hx : xW base s s.heap) (hex : cc.exceptionTable.isEmpty = true) (h186 : h.1.length = 186) (hd : 6 ≤ d)
    {cls tx : String} {ic ix cl k : Nat} {rx : ByteArray} (hcls : Bundle.fit cls = true) (d0 : decode rx 0 = .ok (.aload_n 0, 1)) (d1 : decode rx 1 = .ok (.aload_n 1, 1)) (d2 : decode rx 2 = .ok (.invokespecial ix, 3)) (d5 : decode rx 5 = .ok (.return_, 1))
    (hps : ∀ w ∈ Bundle.passSAtoms cls "java/lang/RuntimeException" ix rx, w.before args s = true) (hxo : ∀ w ∈ xo cls ic cl, w.before args s = true)
    (hmsg : ∀ H, pXw base s H → ∃ q, vk_R "LeftShoes" k tx q s)
    (h0 : decode m_Ls_shoe.2.1 pc = .ok (.new cl, 3)) (h3 : decode m_Ls_shoe.2.1 (pc + 3) = .ok (.dup, 1)) (h4 : decode m_Ls_shoe.2.1 (pc + 3 + 1) = .ok (.ldc k, 2)) (h6 : decode m_Ls_shoe.2.1 (pc + 3 + 1 + 2) = .ok (.invokespecial ic, 3)) (h9 : decode m_Ls_shoe.2.1 (pc + 3 + 1 + 2 + 3) = .ok (.athrow, 1)) :
    lJ m_Ls_shoe p l e (pRm d 1 6) s m args below meth cc D dA b base (tZ D dA b base h cls below args s) 0 0 pc ls [] h := by
  intro H locs arr R S L
  have hts := C.2.2.2.2.2.1
  have at_ : ∀ (i : Nat) (w : Cond), (xo cls ic cl)[i]? = some w → w.before args s = true := fun i w h => hxo w (List.mem_of_getElem? h)
  obtain ⟨cX, kX, hfX, hkX, -⟩ := Cond.instantiable_spec (at_ 1 (.instantiable cls 6) rfl)
  have hbs : base ≤ H.size := by have := R.2.2.1.1.1; rw [h186] at this; omega
  refine W.newcK C.1 C.2.1 C.2.2.2.2.1 (at_ 10 (.classLink "LeftShoes" cl cls) rfl) (at_ 1 (.instantiable cls 6) rfl) (at_ 11 (.initialized cls) rfl) rfl h0 (by show 0 + 1 ≤ 1; omega) (by show 0 + 6 ≤ 6; omega) hfX rfl fun H1 kC hkC g1 z1 o1 => ?_
  cases Option.some.inj (hkC.symm.trans hkX)
  refine lv_dup C.1 C.2.1 h3 rfl ?_
  obtain ⟨q, hq⟩ := hmsg H R.2.2.1.2
  refine va_ldcS C.1 C.2.1 C.2.2.2.2.1 hq h4 ?_
  intro T hT X
  have hb := C.2.1
  have hlk := C.2.2.2.2.2.2
  obtain ⟨vm', cN, L5, X2, hL5, hcN, hvN, st⟩ := xt_ctor X C.1 htr hts hx (by rw [hT]; exact R.2.2.1.2.kept fun a ha _ => o1 a ha) C.2.2.2.2.1 hcls d0 d1 d2 d5 hps hxo (a := H.size) hbs hfX hkX (by rw [hT]; exact g1) (msg := .ref q) rfl (g := F0 m (pc + 3 + 1 + 2) arr [.ref q, .ref H.size, .ref H.size]) rfl (L.1.1.trans C.2.2.2.1.symm) (rest := []) rfl (by rw [hb]; exact h6) (by show 5 < d; omega) (by show _ ≤ 64 * d; simp [Value.category, JFrame.monitorRoom]; omega)
  obtain ⟨hwalk, hrun, hend, hWU, hsame⟩ := X2.athrowLeaves C.1 (g := { F0 m (pc + 3 + 1 + 2) arr [.ref q, .ref H.size, .ref H.size] with pc := pc + 3 + 1 + 2 + 3, stack := [.ref H.size] }) rfl rfl rfl (covers_of_empty hex _) (a := H.size) (rest := []) rfl (by rw [hb]; exact h9) hlk
  have hsz : H1.size = H.size + 1 := z1
  have hset : (((T.setVm vm').setCell H.size cN).setFrames (.throwing H.size :: below)).heap = H1.set H.size cN (by omega) := by
    show ((T.setVm vm').setCell H.size cN).heap = _
    simp [State.setCell, hT, Array.setIfInBounds, hsz]
  have hn : (((T.setVm vm').setCell H.size cN).setFrames (.throwing H.size :: below)).heap[H.size]? = some cN := by rw [hset]; simp
  have ho : ∀ q, q < H.size → (((T.setVm vm').setCell H.size cN).setFrames (.throwing H.size :: below)).heap[q]? = H[q]? := fun q hq => by
    rw [hset, Array.getElem?_set_ne _ (by omega)]
    exact o1 q hq
  have hz2 : (((T.setVm vm').setCell H.size cN).setFrames (.throwing H.size :: below)).heap.size = H.size + 1 := by rw [hset]; simp [hsz]
  refine ⟨_, st _ hwalk, .threw H.size, hrun, hend, H.size, locs ++ L5, cN, rfl, hWU, hsame, fun q hq => ?_, pRel_exc h186 R hWU ho hn hz2 hvN, ⟨?_, fun q hq1 hq2 => ?_⟩, hn, by rw [hcN]; exact hfX, hvN, hbs⟩
  · rcases List.mem_append.mp hq with z | z
    · exact S.2.2 q z
    · rw [hL5 q z]; exact hbs
  · rw [hz2]
    exact Nat.le_trans S.1 (by omega)
  · rw [ho q (Nat.lt_of_lt_of_le hq1 S.1)]
    exact S.2.1 q hq1 hq2
end
