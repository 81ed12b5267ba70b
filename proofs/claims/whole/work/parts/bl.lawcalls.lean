/-! ===== the law's walk: new, calls ===== -/
section
variable {μ : pMeth} {p : Program} {l : Launch} {e : Env} {Rm : Room} {s : State} {m : MethodId} {args : Array Value} {below : List Frame} {meth : Method} {cc : Code} {D : va_G} {dA : Nat → ClassId} {b base : Nat} {Z : State → Prop} {cells slots pc i c n : Nat} {ls : List (Option Value)} {st : List Value} {sh : List pSh} {M : pM}
theorem lj_new (C : lC μ p s m args meth cc) (hd : decode μ.2.1 pc = .ok (.new i, 3)) (hc : c < 12) (hl : Cond.classLink μ.1.cls i (pRn c) ∈ lw_g) (hi : Cond.instantiable (pRn c) (pNf c) ∈ lw_g) (hini : Cond.initialized (pRn c) ∈ lw_g) (h186 : sh.length < 186) (hNC : cells + 1 ≤ Rm.cells) (hNS : slots + pNf c ≤ Rm.slots)
    (k : lJ μ p l e Rm s m args below meth cc D dA b base Z (cells + 1) (slots + pNf c) (pc + 3) ls (.ref sh.length :: st) (sh ++ [.inl c], pNewM M sh.length)) : lJ μ p l e Rm s m args below meth cc D dA b base Z cells slots pc ls st (sh, M) := by
  intro H locs arr R S L
  have hts := C.2.2.2.2.2.1
  have hKn := R.1.1.1 c _ (pCl_ok c hc)
  have hz : H.size + 1 = base + sh.length := R.2.2.1.1.2.1 h186
  have h0 : 0 < sh.length := (List.getElem?_eq_some_iff.mp R.2.2.2.2.choose_spec.1).1
  refine W.newcK C.1 C.2.1 C.2.2.2.2.1 (hts _ hl) (hts _ hi) (hts _ hini) rfl hd hNC hNS hKn.2.1 rfl fun H1 kC hkC g1 z1 o1 => ?_
  have R1 : pRel D dA b base (sh ++ [.inl c], pNewM M sh.length) s H1 := by
    refine pRel_push h186 R (fun q hq => va_up_ne2 _ _ hq) (fun q hq => va_up_ne2 _ _ hq) (fun q hq => va_up_ne2 _ _ hq) ?_ z1 o1
    refine ⟨_, pCl_ok c hc, (u_born (pTyF c) hts (pIn_ok c hc) hKn hkC g1 (pTy_ok c hc)).to fun j hj => ?_⟩
    have hj' : j < pNf c := hj
    rw [vp_V, List.getD_eq_getElem?_getD, pFs_get hj']
    have hk := pKd_ok c hc j hj'
    show defaultValue (pTyF c j) = pFv _ _ _ (pFk c j) j
    revert hk
    rcases hT : pFk c j with _ | _ | _ | _ | _ <;> cases pTyF c j <;> simp [pKdT, pFv, pNewM, va_up, defaultValue, va_rf]
  have key := k H1 locs arr R1 ⟨Nat.le_trans S.1 (by omega), fun q hq1 hq2 => (o1 q (Nat.lt_of_lt_of_le hq1 S.1)).trans (S.2.1 q hq1 hq2), S.2.2⟩ L
  have ha : pAd b base sh.length = H.size := by
    obtain ⟨j, hj⟩ : ∃ j, sh.length = j + 1 := ⟨sh.length - 1, by omega⟩
    rw [hj]
    show base + j = H.size
    omega
  rw [List.map_cons, show pUp (pAd b base) (.ref sh.length) = .ref H.size from congrArg Value.ref ha] at key
  exact key
theorem lj_newa (C : lC μ p s m args meth cc) {t : Nat} {atype : ArrayType} {ty : FieldType} {x : Int32} (hd : decode μ.2.1 pc = .ok (.newarray atype, 2)) (hty : newarray.typeOf atype = ty) (ht : ∀ dA, (pTys dA)[t]? = some (dA t, ty)) (ht4 : t < 4) (hdef : ∀ (cA : ClassId) (g : Nat → Nat), vp_cell cA (n, match t with | 3 => .inr (.inl fun _ => 0) | 4 => .inr (.inr (.inr (.inr fun _ => none))) | _ => .inl fun _ => 0) = arrV cA n (fun _ => defaultValue ty)) (hcl : Cond.arrayClass ty ∈ lw_g) (hx : ¬ x < 0) (hn : x.toNatClampNeg = n) (hb : n * componentBytes ty ≤ 536870912) (h186 : sh.length < 186) (hNC : cells + 1 ≤ Rm.cells) (hNS : slots + n ≤ Rm.slots)
    (k : lJ μ p l e Rm s m args below meth cc D dA b base Z (cells + 1) (slots + n) (pc + 2) ls (.ref sh.length :: st) (sh ++ [.inr (t, n)], pNewM M sh.length)) : lJ μ p l e Rm s m args below meth cc D dA b base Z cells slots pc ls (.int x :: st) (sh, M) := by
  subst hty
  intro H locs arr R S L
  have hts := C.2.2.2.2.2.1
  have hz : H.size + 1 = base + sh.length := R.2.2.1.1.2.1 h186
  have h0 : 0 < sh.length := (List.getElem?_eq_some_iff.mp R.2.2.2.2.choose_spec.1).1
  refine va_newaK C.1 C.2.1 (hts _ hcl) rfl hd rfl hx hn hb hNC hNS rfl fun H1 cA g1 z1 o1 hAr hNm => ?_
  have hcA : cA = dA t := by
    have h1 := (R.1.1.2 t _ (ht dA)).2
    have h2 : s.vm.findClass ("[" ++ (newarray.typeOf atype).toString) = some (dA t) := by
      revert h1
      cases atype <;> exact id
    exact Option.some.inj (hNm.symm.trans h2)
  subst hcA
  have R1 : pRel D dA b base (sh ++ [.inr (t, n)], pNewM M sh.length) s H1 := by
    refine pRel_push h186 R (fun q hq => va_up_ne2 _ _ hq) (fun q hq => va_up_ne2 _ _ hq) (fun q hq => va_up_ne2 _ _ hq) ?_ z1 o1
    refine g1.trans (congrArg some ?_)
    rw [← hdef (dA t) (pAd b base)]
    match t, ht4 with
    | 0, _ => simp [pNewM, va_up, vp_cell]
    | 1, _ => simp [pNewM, va_up, vp_cell]
    | 2, _ => simp [pNewM, va_up, vp_cell]
    | 3, _ => simp [pNewM, va_up, vp_cell]
    | q + 4, hq => exact absurd hq (by omega)
  have key := k H1 locs arr R1 ⟨Nat.le_trans S.1 (by omega), fun q hq1 hq2 => (o1 q (Nat.lt_of_lt_of_le hq1 S.1)).trans (S.2.1 q hq1 hq2), S.2.2⟩ L
  have ha : pAd b base sh.length = H.size := by
    obtain ⟨j, hj⟩ : ∃ j, sh.length = j + 1 := ⟨sh.length - 1, by omega⟩
    rw [hj]
    show base + j = H.size
    omega
  rw [List.map_cons, show pUp (pAd b base) (.ref sh.length) = .ref H.size from congrArg Value.ref ha] at key
  exact key
theorem lj_newL (C : lC μ p s m args meth cc) {x : Int32} (hd : decode μ.2.1 pc = .ok (.newarray .long, 2)) (hcl : Cond.arrayClass .long ∈ lw_g) (hx : ¬ x < 0) (hn : x.toNatClampNeg = n) (hb : n ≤ 100000) (h186 : sh.length < 186) (hNC : cells + 1 ≤ Rm.cells) (hNS : slots + n ≤ Rm.slots) (k : lJ μ p l e Rm s m args below meth cc D dA b base Z (cells + 1) (slots + n) (pc + 2) ls (.ref sh.length :: st) (sh ++ [.inr (3, n)], pNewM M sh.length)) : lJ μ p l e Rm s m args below meth cc D dA b base Z cells slots pc ls (.int x :: st) (sh, M) :=
  lj_newa C hd rfl (fun _ => rfl) (by decide) (fun _ _ => rfl) hcl hx hn (by show n * 8 ≤ _; omega) h186 hNC hNS k
end
section
variable {μ ν : pMeth} {p : Program} {l : Launch} {e : Env} {Rm : Room} {s : State} {m : MethodId} {args : Array Value} {below : List Frame} {meth : Method} {cc : Code} {D : va_G} {dA : Nat → ClassId} {b base : Nat} {Z : State → Prop} {cells slots pc idx a c d' NC' NS' mc ms : Nat} {ls : List (Option Value)} {st stk av : List Value} {h : pH} {a' : Array Value} {Q' : Option Value → pH → Prop}
theorem lj_after {H : Heap} {locs : List Loc} {arr : Array Slot} (R : pRel D dA b base h s H) (S : va_S (fun q => base ≤ q) s.heap H locs) (L : pLs arr μ.2.2.1 (pAd b base) ls)
    (hrun : va_Run p l e Rm s m args below meth cc H locs cells slots mc ms (F0 m pc arr stk) (st.map (pUp (pAd b base))) (pQc D dA b base NC' NS' Q' a') (fun q => base ≤ q))
    (k : ∀ r h', Q' r h' → h'.1.length = NC' → pSz h'.1 = NS' → lJ μ p l e Rm s m args below meth cc D dA b base Z (cells + mc) (slots + ms) (pc + 3) ls (r.toList ++ st) h') :
    W p l e Rm s m args below meth cc H locs cells slots Z (F0 m pc arr stk) := by
  intro T hT X
  obtain ⟨v, st₀, t, T', L', h0, X', hL', g1, g2, ⟨r, h', hv, hq, hR', hF, hc', hs'⟩, st⟩ := hrun T hT X
  have hvv : v = r.map (pUp (pAd b base)) := by injection hv
  have hal : t.vm.Alike s.vm := by rw [← g2]; exact X'.warmed.alike.symm
  obtain ⟨-, hP, hz, hb, L0, hL0, hX⟩ := hR'
  have hS' : va_S (fun q => base ≤ q) s.heap t.heap (locs ++ L') := by
    refine ⟨Nat.le_trans S.1 (by rw [← h0]; exact hF.1), fun q hq1 hq2 => ?_, fun q hq => ?_⟩
    · rw [hF.2 q (by rw [h0]; exact Nat.lt_of_lt_of_le hq1 S.1) hq2, h0]
      exact S.2.1 q hq1 hq2
    · rcases List.mem_append.mp hq with z | z
      · exact S.2.2 q z
      · exact hL' q z
  obtain ⟨t2, a1, b1⟩ := k r h' hq hc' hs' t.heap (locs ++ L') arr ⟨R.1, hP, ⟨hz.1, R.2.2.1.2.kept fun q hq1 hq2 => by rw [hF.2 q (by rw [h0]; exact hq1) hq2, h0]⟩, hb, L0, hL0, va_X.moved hal hX⟩ hS' L T' g1 X'
  refine ⟨t2, st t2 ?_, b1⟩
  rw [pUp_list, ← hvv] at a1
  exact a1
set_option maxHeartbeats 1000000 in
theorem lj_runV (C : lC μ p s m args meth cc) (hd : decode μ.2.1 pc = .ok (.invokevirtual idx, 3)) (hlk : Cond.methodLink μ.1.cls idx ν.1 ∈ lw_g) (hok : pOkV ν) (hn : (parseMethodDescriptor ν.1.desc).map (fun z => z.parameters.length) = some av.length) (hs : h.1[a]? = some (.inl c)) (hc : pRn c = ν.1.cls) (hc2 : c < 12)
    (hdd : d' + 1 ≤ Rm.frames) (hdl : 64 + 64 * d' ≤ Rm.locals) (hst : (st.map fun v => v.category).sum ≤ 8) (hNC : cells + (NC' - h.1.length) ≤ Rm.cells) (hNS : slots + (NS' - pSz h.1) ≤ Rm.slots) (hC : pCt ν d' NC' NS' (.ref a :: av) h Q')
    {H : Heap} {locs : List Loc} {arr : Array Slot} (R : pRel D dA b base h s H) (L : pLs arr μ.2.2.1 (pAd b base) ls) :
    va_Run p l e Rm s m args below meth cc H locs cells slots (NC' - h.1.length) (NS' - pSz h.1) (F0 m pc arr ((av.reverse ++ .ref a :: st).map (pUp (pAd b base)))) (st.map (pUp (pAd b base))) (pQc D dA b base NC' NS' Q' ((Value.ref a :: av).map (pUp (pAd b base))).toArray) (fun q => base ≤ q) := by
  obtain ⟨o1, o2, o3, o4, o5, o6⟩ := hok
  have hGI : GoodIn lw_g (wsV μ.1.cls idx ν.1.cls ν.1 (Cond.code ν.1 ν.2.1 ν.2.2.1 ν.2.2.2 :: lw_g)) := pGoodIn (by
    intro w hw
    unfold wsV at hw
    rcases List.mem_append.mp hw with q | q
    · simp only [List.mem_cons, List.not_mem_nil, or_false] at q
      rcases q with rfl | rfl | rfl | rfl <;> assumption
    · rcases List.mem_cons.mp q with rfl | q
      · exact o4
      · exact q)
  obtain ⟨a', rfl, he, -⟩ := pRel_at R hs (fun _ q => by cases q)
  have hrec := va_recv R.1.1 R.2.1 (pCl_ok c hc2) he
  dsimp only at hrec
  rw [hc] at hrec
  have hcw := cwV (R := Rm) (rm := pRm d' (NC' - h.1.length) (NS' - pSz h.1)) (mc := NC' - h.1.length) (ms := NS' - pSz h.1) av.length C.2.2.2.2.2.1 hGI rfl rfl rfl ⟨rfl, o5.1, o5.2, hn⟩ ⟨hdd, by show 8 + (ν.2.2.1 + 11) + 64 * d' ≤ Rm.locals; omega⟩
  exact va_runV (p := p) (l := l) (e := e) (below := below) (meth := meth) (H := H) (locs := locs) (cells := cells) (slots := slots) (b := base + a') (As := av.map (pUp (pAd b base))) (rest := st.map (pUp (pAd b base))) (g := F0 m pc arr ((av.reverse ++ .ref (a' + 1) :: st).map (pUp (pAd b base)))) ⟨C.1, C.2.1, C.2.2.2.1, C.2.2.2.2.1, C.2.2.2.2.2.1⟩ (hC l D dA b base) hcw ⟨pPc_blind, hrec, fun U hU hW => pPc_pre (av := .ref (a' + 1) :: av) R U hU hW⟩ rfl (by simp) L.1.1 (by rw [List.map_append, List.map_reverse]; rfl) (lv_room (by rw [pUp_cats]; exact hst)) hd ⟨hNC, hNS⟩
set_option maxHeartbeats 1000000 in
theorem lj_callI (C : lC μ p s m args meth cc) (hd : decode μ.2.1 pc = .ok (.invokespecial idx, 3)) (hlk : Cond.methodLink μ.1.cls idx ν.1 ∈ lw_g) (hok : pOkI ν) (hr : ν.2.2.2 = none) (hn : (parseMethodDescriptor ν.1.desc).map (fun z => z.parameters.length) = some av.length)
    (hdd : d' + 1 ≤ Rm.frames) (hdl : 64 + 64 * d' ≤ Rm.locals) (hst : (st.map fun v => v.category).sum ≤ 8) (hNC : cells + (NC' - h.1.length) ≤ Rm.cells) (hNS : slots + (NS' - pSz h.1) ≤ Rm.slots) (hC : pCt ν d' NC' NS' (.ref a :: av) h Q')
    (k : ∀ r h', Q' r h' → h'.1.length = NC' → pSz h'.1 = NS' → lJ μ p l e Rm s m args below meth cc D dA b base Z (cells + (NC' - h.1.length)) (slots + (NS' - pSz h.1)) (pc + 3) ls (r.toList ++ st) h') : lJ μ p l e Rm s m args below meth cc D dA b base Z cells slots pc ls (av.reverse ++ .ref a :: st) h := by
  intro H locs arr R S L
  obtain ⟨o1, o2, o3, o4, o5, o6⟩ := hok
  have hGI : GoodIn lw_g (Cond.code ν.1 ν.2.1 ν.2.2.1 none :: lw_g) := pGoodIn (by
    intro w hw
    rcases List.mem_cons.mp hw with rfl | q
    · rw [← hr]; exact o4
    · exact q)
  have hts := C.2.2.2.2.2.1
  have hM := hC l D dA b base
  rw [hr] at hM
  have hcw := cwI (R := Rm) (rm := pRm d' (NC' - h.1.length) (NS' - pSz h.1)) (mc := NC' - h.1.length) (ms := NS' - pSz h.1) (own := μ.1.cls) (index := idx) av.length hts hGI rfl rfl rfl (hts _ o3) (hts _ hlk) (hts _ o1) o2 ⟨o5.1, o5.2, hn⟩ ⟨hdd, by show 8 + (ν.2.2.1 + 11) + 64 * d' ≤ Rm.locals; omega⟩
  have hrun := va_runI (p := p) (l := l) (e := e) (below := below) (meth := meth) (H := H) (locs := locs) (cells := cells) (slots := slots) (b := pAd b base a) (As := av.map (pUp (pAd b base))) (rest := st.map (pUp (pAd b base))) (g := F0 m pc arr ((av.reverse ++ .ref a :: st).map (pUp (pAd b base)))) ⟨C.1, C.2.1, C.2.2.2.1, C.2.2.2.2.1, C.2.2.2.2.2.1⟩ hM hcw ⟨pPc_blind, fun U hU hW => pPc_pre (av := .ref a :: av) R U hU hW⟩ rfl (by simp) L.1.1 (by rw [List.map_append, List.map_reverse]; rfl) (lv_room (by rw [pUp_cats]; exact hst)) hd ⟨hNC, hNS⟩
  exact lj_after R S L hrun k
end
section
variable {μ ν : pMeth} {p : Program} {l : Launch} {e : Env} {Rm : Room} {s : State} {m : MethodId} {args : Array Value} {below : List Frame} {meth : Method} {cc : Code} {D : va_G} {dA : Nat → ClassId} {b base : Nat} {Z : State → Prop} {cells slots pc idx a c d' : Nat} {ls : List (Option Value)} {st av : List Value} {sh : List pSh} {M : pM} {Q' : Option Value → pM → Prop}
/-- a call whose heap doesn't grow -/
theorem lj_callV (C : lC μ p s m args meth cc) (hd : decode μ.2.1 pc = .ok (.invokevirtual idx, 3)) (hlk : Cond.methodLink μ.1.cls idx ν.1 ∈ lw_g) (hok : pOkV ν) (hn : (parseMethodDescriptor ν.1.desc).map (fun z => z.parameters.length) = some av.length) (hs : sh[a]? = some (.inl c)) (hc : pRn c = ν.1.cls) (hc2 : c < 12)
    (hdd : d' + 1 ≤ Rm.frames) (hdl : 64 + 64 * d' ≤ Rm.locals) (hst : (st.map fun v => v.category).sum ≤ 8) (hNC : cells ≤ Rm.cells) (hNS : slots ≤ Rm.slots) (hC : pCn ν d' (.ref a :: av) sh M Q')
    (k : ∀ r M', Q' r M' → lJ μ p l e Rm s m args below meth cc D dA b base Z cells slots (pc + 3) ls (r.toList ++ st) (sh, M')) : lJ μ p l e Rm s m args below meth cc D dA b base Z cells slots pc ls (av.reverse ++ .ref a :: st) (sh, M) := by
  intro H locs arr R S L
  have hrun := lj_runV (l := l) (e := e) (below := below) (locs := locs) (cells := cells) (slots := slots) (st := st) C hd hlk hok hn hs hc hc2 hdd hdl hst (by rw [Nat.sub_self]; exact hNC) (by rw [Nat.sub_self]; exact hNS) hC R L
  rw [Nat.sub_self, Nat.sub_self] at hrun
  refine lj_after R S L hrun (fun r h' hq h1 h2 => ?_)
  obtain ⟨s', M'⟩ := h'
  obtain ⟨rfl, hq⟩ := hq
  exact k r M' hq
/-- what a call would answer, is there -/
theorem lj_look {pc' : Nat} (C : lC μ p s m args meth cc) (hd : decode μ.2.1 pc' = .ok (.invokevirtual idx, 3)) (hlk : Cond.methodLink μ.1.cls idx ν.1 ∈ lw_g) (hok : pOkV ν) (hn : (parseMethodDescriptor ν.1.desc).map (fun z => z.parameters.length) = some av.length) (hs : sh[a]? = some (.inl c)) (hc : pRn c = ν.1.cls) (hc2 : c < 12)
    (hdd : d' + 1 ≤ Rm.frames) (hdl : 64 + 64 * d' ≤ Rm.locals) (hNC : cells ≤ Rm.cells) (hNS : slots ≤ Rm.slots) (hC : pCn ν d' (.ref a :: av) sh M Q')
    (k : (∃ r M', Q' r M') → lJ μ p l e Rm s m args below meth cc D dA b base Z cells slots pc ls st (sh, M)) : lJ μ p l e Rm s m args below meth cc D dA b base Z cells slots pc ls st (sh, M) := by
  intro H locs arr R S L T hT X
  have hrun := lj_runV (l := l) (e := e) (below := below) (locs := locs) (cells := cells) (slots := slots) (st := []) C hd hlk hok hn hs hc hc2 hdd hdl (by decide) (by rw [Nat.sub_self]; exact hNC) (by rw [Nat.sub_self]; exact hNS) hC R L
  obtain ⟨v, st₀, t, T', L', h0, X', hL', g1, g2, ⟨r, h', hv, hq, hR', hF, hc', hs'⟩, st⟩ := hrun T hT X
  exact k ⟨r, h'.2, hq.2⟩ H locs arr R S L T hT X
end
