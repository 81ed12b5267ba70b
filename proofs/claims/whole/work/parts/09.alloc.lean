/-! ===== cells that are made; switches; arraycopy ===== -/
def pNewM (M : pM) (a : Nat) : pM := (va_up M.1 a (fun _ => 0), va_up M.2.1 a (fun _ => 0), va_up M.2.2 a (fun _ => none))
theorem pSz_push (sh : List pSh) (x : pSh) : pSz (sh ++ [x]) = pSz sh + pSz1 x := by simp [pSz]
theorem pRel_push {D : va_G} {dA : Nat → ClassId} {b base : Nat} {sh : List pSh} {M M' : pM} {s : State} {H H1 : Heap} {x : pSh} (hlt : sh.length < 186) (R : pRel D dA b base (sh, M) s H)
    (h1 : ∀ q, q ≠ sh.length → M'.1 q = M.1 q) (h2 : ∀ q, q ≠ sh.length → M'.2.1 q = M.2.1 q) (h3 : ∀ q, q ≠ sh.length → M'.2.2 q = M.2.2 q) (ha : va_at D vwCl (H.size, pCell dA (pAd b base) M' sh.length x) H1) (z : H1.size = H.size + 1) (o : ∀ q, q < H.size → H1[q]? = H[q]?) : pRel D dA b base (sh ++ [x], M') s H1 := by
  obtain ⟨hK, hP, hz, hb, L, hL, hX⟩ := R
  have h0 : 0 < sh.length := (List.getElem?_eq_some_iff.mp hL).1
  have hz' : H.size + 1 = base + sh.length := hz.1.2.1 hlt
  refine ⟨hK, ?_, ?_, hb, L, ?_, ?_⟩
  · rw [pWs_push h0 h1 h2 h3]
    refine (hP.kept fun k q hq => o q.1 (hP k q hq).lt).app fun k q hq => ?_
    have hk : k < 1 := (List.getElem?_eq_some_iff.mp hq).1
    rw [show k = 0 by omega] at hq
    cases hq
    rw [show base + (sh.length - 1) = H.size by omega]
    exact ha
  · have e9 : H1.size + 1 = base + (sh ++ [x]).length := by
      rw [List.length_append, List.length_singleton]
      omega
    refine ⟨⟨Nat.le_of_eq e9.symm, fun _ => e9, fun q cell hq he => ?_⟩, hz.2.kept fun q hq _ => o q hq⟩
    have hql : q < H1.size := (Array.getElem?_eq_some_iff.mp he).1
    have hq' : base + (sh ++ [x]).length ≤ q + 1 := hq
    rw [← e9] at hq'
    omega
  · show (sh ++ [x])[0]? = _
    rw [List.getElem?_append_left h0]
    exact hL
  · show va_X b L (M'.1 0) s H1
    rw [h1 0 (by omega)]
    exact va_X.kept hX (o b (by omega))
section
variable {μ : pMeth} {d NC NS : Nat} {Q : Option Value → pH → Prop} {pc : Nat} {ls : List (Option Value)} {st : List Value} {h : pH} {sh : List pSh} {M : pM} {a n c i idx : Nat}
theorem pw_new (hd : decode μ.2.1 pc = .ok (.new i, 3)) (hc : c < 12) (hl : Cond.classLink μ.1.cls i (pRn c) ∈ lw_g) (hi : Cond.instantiable (pRn c) (pNf c) ∈ lw_g) (hini : Cond.initialized (pRn c) ∈ lw_g) (h186 : sh.length < 186) (hNC : sh.length + 1 ≤ NC) (hNS : pSz sh + pNf c ≤ NS)
    (k : pWP μ d NC NS Q (pc + 3) ls (.ref sh.length :: st) (sh ++ [.inl c], pNewM M sh.length)) : pWP μ d NC NS Q pc ls st (sh, M) := by
  intro p l e s m args below meth cc D dA b base H locs arr mc ms cells slots nc ns C R S B L e1 e2 e3 e4
  have hts := C.2.2.2.2.2.1
  have hKn := R.1.1.1 c _ (pCl_ok c hc)
  have hz : H.size + 1 = base + sh.length := R.2.2.1.1.2.1 h186
  have h0 : 0 < sh.length := (List.getElem?_eq_some_iff.mp R.2.2.2.2.choose_spec.1).1
  have e3' : cells + nc = sh.length := e3
  have e4' : slots + ns = pSz sh := e4
  refine W.newcK C.1 C.2.1 C.2.2.2.2.1 (hts _ hl) (hts _ hi) (hts _ hini) rfl hd (by show cells + 1 ≤ mc; omega) (by show slots + pNf c ≤ ms; omega) hKn.2.1 rfl fun H1 kC hkC g1 z1 o1 => ?_
  have R1 : pRel D dA b base (sh ++ [.inl c], pNewM M sh.length) s H1 := by
    refine pRel_push h186 R (fun q hq => va_up_ne2 _ _ hq) (fun q hq => va_up_ne2 _ _ hq) (fun q hq => va_up_ne2 _ _ hq) ?_ z1 o1
    refine ⟨_, pCl_ok c hc, (u_born (pTyF c) hts (pIn_ok c hc) hKn hkC g1 (pTy_ok c hc)).to fun j hj => ?_⟩
    have hj' : j < pNf c := hj
    rw [vp_V, List.getD_eq_getElem?_getD, pFs_get hj']
    have hk := pKd_ok c hc j hj'
    show defaultValue (pTyF c j) = pFv _ _ _ (pFk c j) j
    revert hk
    rcases hT : pFk c j with _ | _ | _ | _ | _ <;> cases pTyF c j <;> simp [pKdT, pFv, pNewM, va_up, defaultValue, va_rf]
  have key := k p l e s m args below meth cc D dA b base H1 locs arr mc ms (cells + 1) (slots + pNf c) nc ns C R1 ⟨Nat.le_trans S.1 (by omega), fun q hq1 hq2 => (o1 q (Nat.lt_of_lt_of_le hq1 S.1)).trans (S.2.1 q hq1 hq2), S.2.2⟩ B L e1 e2 (by show cells + 1 + nc = (sh ++ [Sum.inl c]).length; rw [List.length_append, List.length_singleton]; omega) (by show slots + pNf c + ns = pSz (sh ++ [Sum.inl c]); rw [pSz_push]; show _ = _ + pNf c; omega)
  have ha : pAd b base sh.length = H.size := by
    obtain ⟨j, hj⟩ : ∃ j, sh.length = j + 1 := ⟨sh.length - 1, by omega⟩
    rw [hj]
    show base + j = H.size
    omega
  rw [List.map_cons, show pUp (pAd b base) (.ref sh.length) = .ref H.size from congrArg Value.ref ha] at key
  exact key
theorem pw_newa {t : Nat} {atype : ArrayType} {ty : FieldType} {x : Int32} (hd : decode μ.2.1 pc = .ok (.newarray atype, 2)) (hty : newarray.typeOf atype = ty) (ht : ∀ dA, (pTys dA)[t]? = some (dA t, ty)) (ht4 : t < 4) (hdef : ∀ (cA : ClassId) (g : Nat → Nat), vp_cell cA (n, match t with | 3 => .inr (.inl fun _ => 0) | 4 => .inr (.inr (.inr (.inr fun _ => none))) | _ => .inl fun _ => 0) = arrV cA n (fun _ => defaultValue ty)) (hcl : Cond.arrayClass ty ∈ lw_g) (hx : ¬ x < 0) (hn : x.toNatClampNeg = n) (hb : n * componentBytes ty ≤ 536870912) (h186 : sh.length < 186) (hNC : sh.length + 1 ≤ NC) (hNS : pSz sh + n ≤ NS)
    (k : pWP μ d NC NS Q (pc + 2) ls (.ref sh.length :: st) (sh ++ [.inr (t, n)], pNewM M sh.length)) : pWP μ d NC NS Q pc ls (.int x :: st) (sh, M) := by
  subst hty
  intro p l e s m args below meth cc D dA b base H locs arr mc ms cells slots nc ns C R S B L e1 e2 e3 e4
  have hts := C.2.2.2.2.2.1
  have hz : H.size + 1 = base + sh.length := R.2.2.1.1.2.1 h186
  have h0 : 0 < sh.length := (List.getElem?_eq_some_iff.mp R.2.2.2.2.choose_spec.1).1
  have e3' : cells + nc = sh.length := e3
  have e4' : slots + ns = pSz sh := e4
  refine va_newaK C.1 C.2.1 (hts _ hcl) rfl hd rfl hx hn hb (by show cells + 1 ≤ mc; omega) (by show slots + n ≤ ms; omega) rfl fun H1 cA g1 z1 o1 hAr hNm => ?_
  have hcA : cA = dA t := by
    have h1 := (R.1.1.2 t _ (ht dA)).2
    have h2 : s.vm.findClass ("[" ++ (newarray.typeOf atype).toString) = some (dA t) := by
      revert h1
      cases atype <;> exact id
    exact Option.some.inj (hNm.symm.trans h2)
  subst hcA
  have R1 : pRel D dA b base (sh ++ [.inr (t, n)], pNewM M sh.length) s H1 := by
    refine pRel_push h186 R (fun q hq => va_up_ne2 _ _ hq) (fun q hq => va_up_ne2 _ _ hq) (fun q hq => va_up_ne2 _ _ hq) ?_ z1 o1
    refine g1.trans (congrArg some ?_)
    rw [← hdef (dA t) (pAd b base)]
    match t, ht4 with
    | 0, _ => simp [pNewM, va_up, vp_cell]
    | 1, _ => simp [pNewM, va_up, vp_cell]
    | 2, _ => simp [pNewM, va_up, vp_cell]
    | 3, _ => simp [pNewM, va_up, vp_cell]
    | q + 4, hq => exact absurd hq (by omega)
  have key := k p l e s m args below meth cc D dA b base H1 locs arr mc ms (cells + 1) (slots + n) nc ns C R1 ⟨Nat.le_trans S.1 (by omega), fun q hq1 hq2 => (o1 q (Nat.lt_of_lt_of_le hq1 S.1)).trans (S.2.1 q hq1 hq2), S.2.2⟩ B L e1 e2 (by show cells + 1 + nc = (sh ++ [Sum.inr (t, n)]).length; rw [List.length_append, List.length_singleton]; omega) (by show slots + n + ns = pSz (sh ++ [Sum.inr (t, n)]); rw [pSz_push]; show _ = _ + n; omega)
  have ha : pAd b base sh.length = H.size := by
    obtain ⟨j, hj⟩ : ∃ j, sh.length = j + 1 := ⟨sh.length - 1, by omega⟩
    rw [hj]
    show base + j = H.size
    omega
  rw [List.map_cons, show pUp (pAd b base) (.ref sh.length) = .ref H.size from congrArg Value.ref ha] at key
  exact key
theorem pw_newI {x : Int32} (hd : decode μ.2.1 pc = .ok (.newarray .int, 2)) (hcl : Cond.arrayClass .int ∈ lw_g) (hx : ¬ x < 0) (hn : x.toNatClampNeg = n) (hb : n ≤ 100000) (h186 : sh.length < 186) (hNC : sh.length + 1 ≤ NC) (hNS : pSz sh + n ≤ NS) (k : pWP μ d NC NS Q (pc + 2) ls (.ref sh.length :: st) (sh ++ [.inr (0, n)], pNewM M sh.length)) : pWP μ d NC NS Q pc ls (.int x :: st) (sh, M) :=
  pw_newa hd rfl (fun _ => rfl) (by decide) (fun _ _ => rfl) hcl hx hn (by show n * 4 ≤ _; omega) h186 hNC hNS k
theorem pw_newB {x : Int32} (hd : decode μ.2.1 pc = .ok (.newarray .byte, 2)) (hcl : Cond.arrayClass .byte ∈ lw_g) (hx : ¬ x < 0) (hn : x.toNatClampNeg = n) (hb : n ≤ 100000) (h186 : sh.length < 186) (hNC : sh.length + 1 ≤ NC) (hNS : pSz sh + n ≤ NS) (k : pWP μ d NC NS Q (pc + 2) ls (.ref sh.length :: st) (sh ++ [.inr (1, n)], pNewM M sh.length)) : pWP μ d NC NS Q pc ls (.int x :: st) (sh, M) :=
  pw_newa hd rfl (fun _ => rfl) (by decide) (fun _ _ => rfl) hcl hx hn (by show n * 1 ≤ _; omega) h186 hNC hNS k
theorem pw_newZ {x : Int32} (hd : decode μ.2.1 pc = .ok (.newarray .boolean, 2)) (hcl : Cond.arrayClass .boolean ∈ lw_g) (hx : ¬ x < 0) (hn : x.toNatClampNeg = n) (hb : n ≤ 100000) (h186 : sh.length < 186) (hNC : sh.length + 1 ≤ NC) (hNS : pSz sh + n ≤ NS) (k : pWP μ d NC NS Q (pc + 2) ls (.ref sh.length :: st) (sh ++ [.inr (2, n)], pNewM M sh.length)) : pWP μ d NC NS Q pc ls (.int x :: st) (sh, M) :=
  pw_newa hd rfl (fun _ => rfl) (by decide) (fun _ _ => rfl) hcl hx hn (by show n * 1 ≤ _; omega) h186 hNC hNS k
theorem pw_newL {x : Int32} (hd : decode μ.2.1 pc = .ok (.newarray .long, 2)) (hcl : Cond.arrayClass .long ∈ lw_g) (hx : ¬ x < 0) (hn : x.toNatClampNeg = n) (hb : n ≤ 100000) (h186 : sh.length < 186) (hNC : sh.length + 1 ≤ NC) (hNS : pSz sh + n ≤ NS) (k : pWP μ d NC NS Q (pc + 2) ls (.ref sh.length :: st) (sh ++ [.inr (3, n)], pNewM M sh.length)) : pWP μ d NC NS Q pc ls (.int x :: st) (sh, M) :=
  pw_newa hd rfl (fun _ => rfl) (by decide) (fun _ _ => rfl) hcl hx hn (by show n * 8 ≤ _; omega) h186 hNC hNS k
theorem pw_objInit (hd : decode μ.2.1 pc = .ok (.invokespecial i, 3)) (hl : Cond.methodLink μ.1.cls i objectInit ∈ lw_g) (hi : Cond.instanceMethod objectInit ∈ lw_g) (hc : Cond.code objectInit ⟨#[0xb1]⟩ 1 none ∈ lw_g) (hdd : 1 ≤ d) (hst : (st.map fun v => v.category).sum ≤ 8) (k : pWP μ d NC NS Q (pc + 3) ls st h) : pWP μ d NC NS Q pc ls (.ref a :: st) h := by
  intro p l e s m args below meth cc D dA b base H locs arr mc ms cells slots nc ns C R S B L e1 e2 e3 e4
  have hts := C.2.2.2.2.2.1
  refine W.objInit C.1 C.2.1 C.2.2.2.2.1 (hts _ hl) (hts _ hi) (hts _ hc) rfl (L.1.1.trans C.2.2.2.1.symm) rfl hd hdd ?_ (k p l e s m args below meth cc D dA b base H locs arr mc ms cells slots nc ns C R S B L e1 e2 e3 e4)
  have := lv_room (m := m) (pc := pc) (ls := arr) (rest := (.ref a :: st).map (pUp (pAd b base))) (st := st.map (pUp (pAd b base))) (by rw [pUp_cats]; exact hst)
  show _ ≤ 64 * d
  omega
theorem pw_tableOut {dflt lo hi : Int} {offs : Array Int} {len tgt : Nat} {x : Int32} (hd : decode μ.2.1 pc = .ok (.tableswitch dflt lo hi offs, len)) (hx : x.toInt < lo ∨ hi < x.toInt) (ht : (pc : Int) + dflt = (tgt : Int)) (k : pWP μ d NC NS Q tgt ls st h) : pWP μ d NC NS Q pc ls (.int x :: st) h := by
  intro p l e s m args below meth cc D dA b base H locs arr mc ms cells slots nc ns C R S B L e1 e2 e3 e4
  exact lv_tableOut C.1 C.2.1 hd hx ht (k p l e s m args below meth cc D dA b base H locs arr mc ms cells slots nc ns C R S B L e1 e2 e3 e4)
theorem pw_tableIn {dflt lo hi off : Int} {offs : Array Int} {len tgt : Nat} {x : Int32} (hd : decode μ.2.1 pc = .ok (.tableswitch dflt lo hi offs, len)) (h1 : ¬ x.toInt < lo) (h2 : ¬ hi < x.toInt) (ho : offs[(x.toInt - lo).toNat]? = some off) (ht : (pc : Int) + off = (tgt : Int)) (k : pWP μ d NC NS Q tgt ls st h) : pWP μ d NC NS Q pc ls (.int x :: st) h := by
  intro p l e s m args below meth cc D dA b base H locs arr mc ms cells slots nc ns C R S B L e1 e2 e3 e4
  exact lv_tableIn C.1 C.2.1 hd h1 h2 ho ht (k p l e s m args below meth cc D dA b base H locs arr mc ms cells slots nc ns C R S B L e1 e2 e3 e4)
theorem pw_lookup {dflt off : Int} {ps : Array (Int × Int)} {len tgt : Nat} {x : Int32} (hd : decode μ.2.1 pc = .ok (.lookupswitch dflt ps, len)) (hp : (ps.toList.zip (ps.toList.drop 1)).all (fun (a, next) => a.1 < next.1) = true) (ho : Op.lookupswitch.offset ps.toList dflt x.toInt = off) (ht : (pc : Int) + off = (tgt : Int)) (k : pWP μ d NC NS Q tgt ls st h) : pWP μ d NC NS Q pc ls (.int x :: st) h := by
  intro p l e s m args below meth cc D dA b base H locs arr mc ms cells slots nc ns C R S B L e1 e2 e3 e4
  exact lv_lookup C.1 C.2.1 hd hp ho ht (k p l e s m args below meth cc D dA b base H locs arr mc ms cells slots nc ns C R S B L e1 e2 e3 e4)
end
