/-! ===== calls ===== -/
/-- what the tables say of a method that is called on an object, of a static one, of a constructor -/
def pOkV (ν : pMeth) : Prop := Cond.instanceMethod ν.1 ∈ lw_g ∧ Cond.selects ν.1.cls ν.1 ν.1 ∈ lw_g ∧ Cond.initialized ν.1.cls ∈ lw_g ∧ Cond.code ν.1 ν.2.1 ν.2.2.1 ν.2.2.2 ∈ lw_g ∧ (ν.1.cls ≠ "java/lang/invoke/MethodHandle" ∧ ν.1.cls ≠ "java/lang/invoke/VarHandle") ∧ ν.2.2.1 ≤ 45
def pOkS (ν : pMeth) : Prop := Cond.static ν.1 ∈ lw_g ∧ Cond.initialized ν.1.cls ∈ lw_g ∧ Cond.code ν.1 ν.2.1 ν.2.2.1 ν.2.2.2 ∈ lw_g ∧ (ν.1.cls ≠ "java/lang/invoke/MethodHandle" ∧ ν.1.cls ≠ "java/lang/invoke/VarHandle") ∧ ν.2.2.1 ≤ 45
def pOkI (ν : pMeth) : Prop := Cond.instanceMethod ν.1 ∈ lw_g ∧ ν.1.name = "<init>" ∧ Cond.initialized ν.1.cls ∈ lw_g ∧ Cond.code ν.1 ν.2.1 ν.2.2.1 ν.2.2.2 ∈ lw_g ∧ (ν.1.cls ≠ "java/lang/invoke/MethodHandle" ∧ ν.1.cls ≠ "java/lang/invoke/VarHandle") ∧ ν.2.2.1 ≤ 45
theorem pGoodIn {ws : List Cond} (h : ∀ w ∈ ws, w ∈ lw_g) : GoodIn lw_g ws := fun w hw => ⟨h w hw, good_of_word (pG_good w (h w hw))⟩
theorem pUp_list (g : Nat → Nat) (r : Option Value) (st : List Value) : (r.toList ++ st).map (pUp g) = (r.map (pUp g)).toList ++ st.map (pUp g) := by cases r <;> rfl
theorem pUp_cats (g : Nat → Nat) (st : List Value) : ((st.map (pUp g)).map fun v => v.category) = st.map fun v => v.category := by
  rw [List.map_map]
  exact List.map_congr_left fun v _ => pUp_cat g v
theorem pRel_blind {D : va_G} {dA : Nat → ClassId} {b base : Nat} {h : pH} {u U : State} (e : u.vm = U.vm) (e2 : u.heap = U.heap) (R : pRel D dA b base h u u.heap) : pRel D dA b base h U U.heap := by
  obtain ⟨⟨hK, hN⟩, hP, hz, hb, L, hL, hX⟩ := R
  have ha : u.vm.Alike U.vm := e ▸ Vm.Alike.refl u.vm
  exact ⟨⟨va_K.moved ha hK, pNw.same e hN⟩, e2 ▸ hP, ⟨e2 ▸ hz.1, e2 ▸ hz.2.same e⟩, hb, L, hL, e2 ▸ va_X.moved ha hX⟩
section
variable {p : Program} {l : Launch} {e : Env} {s : State} {m : MethodId} {args : Array Value} {below : List Frame} {meth : Method} {c : Code} {D : va_G} {dA : Nat → ClassId} {b base : Nat} {H : Heap} {locs : List Loc} {arr : Array Slot} {mc ms cells slots nc ns : Nat}
variable {μ ν : pMeth} {d d' NC NS NC' NS' : Nat} {Q Q' : Option Value → pH → Prop} {pc : Nat} {ls : List (Option Value)} {st stk : List Value} {h : pH} {a' : Array Value}
theorem pPc_blind {av : List Value} : FrameBlind (fun v U => v = (av.map (pUp (pAd b base))).toArray ∧ pRel D dA b base h U U.heap) := fun a U g mk q => ⟨q.1, pRel_blind rfl rfl q.2⟩
theorem pPc_pre {av : List Value} (R : pRel D dA b base h s H) (U : State) (hU : U.heap = H) (hW : s.WarmedH U.vm) : (fun (v : Array Value) (U : State) => v = (av.map (pUp (pAd b base))).toArray ∧ pRel D dA b base h U U.heap) (av.map (pUp (pAd b base))).toArray U := by
  obtain ⟨⟨hK, hN⟩, hP, hz, hb, L, hL, hX⟩ := R
  exact ⟨rfl, ⟨va_K.moved hW.alike hK, pNw.warm hW hN⟩, by rw [hU]; exact hP, ⟨by rw [hU]; exact hz.1, by rw [hU]; exact hz.2.warm hW⟩, hb, L, hL, by rw [hU]; exact va_X.moved hW.alike hX⟩
/-- behind a call -/
theorem pw_after (C : pCx μ p s m args meth c) (R : pRel D dA b base h s H) (S : va_S (fun q => base ≤ q) s.heap H locs) (B : base ≤ s.heap.size) (L : pLs arr μ.2.2.1 (pAd b base) ls)
    (e1 : mc + nc = NC) (e2 : ms + ns = NS) (e3 : cells + nc = h.1.length) (e4 : slots + ns = pSz h.1) (hle : h.1.length ≤ NC') (hls : pSz h.1 ≤ NS')
    (hrun : va_Run p l e (pRm d mc ms) s m args below meth c H locs cells slots (NC' - h.1.length) (NS' - pSz h.1) (F0 m pc arr stk) (st.map (pUp (pAd b base))) (pQc D dA b base NC' NS' Q' a') (fun q => base ≤ q))
    (k : ∀ r h', Q' r h' → h'.1.length = NC' → pSz h'.1 = NS' → pWP μ d NC NS Q (pc + 3) ls (r.toList ++ st) h') :
    W p l e (pRm d mc ms) s m args below meth c H locs cells slots (MQ below (pQc D dA b base NC NS Q) args s mc ms (fun q => base ≤ q)) (F0 m pc arr stk) := by
  intro T hT X
  obtain ⟨v, st₀, t, T', L', h0, X', hL', g1, g2, ⟨r, h', hv, hq, hR', hF, hc', hs'⟩, st⟩ := hrun T hT X
  have hvv : v = r.map (pUp (pAd b base)) := by injection hv
  have hal : t.vm.Alike s.vm := by rw [← g2]; exact X'.warmed.alike.symm
  obtain ⟨-, hP, hz, hb, L0, hL0, hX⟩ := hR'
  have hS' : va_S (fun q => base ≤ q) s.heap t.heap (locs ++ L') := by
    refine ⟨Nat.le_trans S.1 (by rw [← h0]; exact hF.1), fun q hq1 hq2 => ?_, fun q hq => ?_⟩
    · rw [hF.2 q (by rw [h0]; exact Nat.lt_of_lt_of_le hq1 S.1) hq2, h0]
      exact S.2.1 q hq1 hq2
    · rcases List.mem_append.mp hq with z | z
      · exact S.2.2 q z
      · exact hL' q z
  obtain ⟨t2, a1, b1⟩ := k r h' hq hc' hs' p l e s m args below meth c D dA b base t.heap (locs ++ L') arr mc ms (cells + (NC' - h.1.length)) (slots + (NS' - pSz h.1)) nc ns C ⟨R.1, hP, ⟨hz.1, R.2.2.1.2.kept fun q hq1 hq2 => by rw [hF.2 q (by rw [h0]; exact hq1) hq2, h0]⟩, hb, L0, hL0, va_X.moved hal hX⟩ hS' B L e1 e2 (by omega) (by omega) T' g1 X'
  refine ⟨t2, st t2 ?_, b1⟩
  rw [pUp_list, ← hvv] at a1
  exact a1
end
section
variable {μ ν : pMeth} {d d' NC NS NC' NS' : Nat} {Q Q' : Option Value → pH → Prop} {pc idx n a c : Nat} {ls : List (Option Value)} {st av : List Value} {h : pH}
set_option maxHeartbeats 1000000 in
theorem pw_callV (hd : decode μ.2.1 pc = .ok (.invokevirtual idx, 3)) (hlk : Cond.methodLink μ.1.cls idx ν.1 ∈ lw_g) (hok : pOkV ν) (hn : (parseMethodDescriptor ν.1.desc).map (fun z => z.parameters.length) = some av.length) (hs : h.1[a]? = some (.inl c)) (hc : pRn c = ν.1.cls) (hc2 : c < 12)
    (hdd : d' + 1 ≤ d) (hst : (st.map fun v => v.category).sum ≤ 8) (hle : h.1.length ≤ NC') (hls : pSz h.1 ≤ NS') (hNC : NC' ≤ NC) (hNS : NS' ≤ NS) (hC : pCt ν d' NC' NS' (.ref a :: av) h Q')
    (k : ∀ r h', Q' r h' → h'.1.length = NC' → pSz h'.1 = NS' → pWP μ d NC NS Q (pc + 3) ls (r.toList ++ st) h') : pWP μ d NC NS Q pc ls (av.reverse ++ .ref a :: st) h := by
  intro p l e s m args below meth cc D dA b base H locs arr mc ms cells slots nc ns C R S B L e1 e2 e3 e4
  obtain ⟨o1, o2, o3, o4, o5, o6⟩ := hok
  have hGI : GoodIn lw_g (wsV μ.1.cls idx ν.1.cls ν.1 (Cond.code ν.1 ν.2.1 ν.2.2.1 ν.2.2.2 :: lw_g)) := pGoodIn (by
    intro w hw
    unfold wsV at hw
    rcases List.mem_append.mp hw with q | q
    · simp only [List.mem_cons, List.not_mem_nil, or_false] at q
      rcases q with rfl | rfl | rfl | rfl <;> assumption
    · rcases List.mem_cons.mp q with rfl | q
      · exact o4
      · exact q)
  obtain ⟨a', rfl, he, -⟩ := pRel_at R hs (fun _ q => by cases q)
  have hrec := va_recv R.1.1 R.2.1 (pCl_ok c hc2) he
  dsimp only at hrec
  rw [hc] at hrec
  have hcw := cwV (R := pRm d mc ms) (rm := pRm d' (NC' - h.1.length) (NS' - pSz h.1)) (mc := NC' - h.1.length) (ms := NS' - pSz h.1) av.length C.2.2.2.2.2.1 hGI rfl rfl rfl ⟨rfl, o5.1, o5.2, hn⟩ ⟨hdd, by show 8 + (ν.2.2.1 + 11) + 64 * d' ≤ 64 * d; omega⟩
  have hrun := va_runV (p := p) (l := l) (e := e) (below := below) (meth := meth) (H := H) (locs := locs) (cells := cells) (slots := slots) (b := base + a') (As := av.map (pUp (pAd b base))) (rest := st.map (pUp (pAd b base))) (g := F0 m pc arr ((av.reverse ++ .ref (a' + 1) :: st).map (pUp (pAd b base)))) ⟨C.1, C.2.1, C.2.2.2.1, C.2.2.2.2.1, C.2.2.2.2.2.1⟩ (hC l D dA b base) hcw ⟨pPc_blind, hrec, fun U hU hW => pPc_pre (av := .ref (a' + 1) :: av) R U hU hW⟩ rfl (by simp) L.1.1 (by rw [List.map_append, List.map_reverse]; rfl) (lv_room (by rw [pUp_cats]; exact hst)) hd ⟨by show cells + (NC' - h.1.length) ≤ mc; omega, by show slots + (NS' - pSz h.1) ≤ ms; omega⟩
  exact pw_after C R S B L e1 e2 e3 e4 hle hls hrun k
set_option maxHeartbeats 1000000 in
theorem pw_callS (hd : decode μ.2.1 pc = .ok (.invokestatic idx, 3)) (hlk : Cond.methodLink μ.1.cls idx ν.1 ∈ lw_g) (hok : pOkS ν) (hn : (parseMethodDescriptor ν.1.desc).map (fun z => z.parameters.length) = some av.length)
    (hdd : d' + 1 ≤ d) (hst : (st.map fun v => v.category).sum ≤ 8) (hle : h.1.length ≤ NC') (hls : pSz h.1 ≤ NS') (hNC : NC' ≤ NC) (hNS : NS' ≤ NS) (hC : pCt ν d' NC' NS' av h Q')
    (k : ∀ r h', Q' r h' → h'.1.length = NC' → pSz h'.1 = NS' → pWP μ d NC NS Q (pc + 3) ls (r.toList ++ st) h') : pWP μ d NC NS Q pc ls (av.reverse ++ st) h := by
  intro p l e s m args below meth cc D dA b base H locs arr mc ms cells slots nc ns C R S B L e1 e2 e3 e4
  obtain ⟨o1, o3, o4, o5, o6⟩ := hok
  have hGI : GoodIn lw_g (Cond.code ν.1 ν.2.1 ν.2.2.1 ν.2.2.2 :: lw_g) := pGoodIn (by
    intro w hw
    rcases List.mem_cons.mp hw with rfl | q
    · exact o4
    · exact q)
  have hts := C.2.2.2.2.2.1
  have hcw := callB_of (R := pRm d mc ms) (rm := pRm d' (NC' - h.1.length) (NS' - pSz h.1)) (mc := NC' - h.1.length) (ms := NS' - pSz h.1) (own := μ.1.cls) (index := idx) av.length hts hGI rfl rfl rfl (hts _ o3) (hts _ hlk) ⟨o5.1, o5.2, hn⟩ ⟨hdd, by show 8 + (ν.2.2.1 + 11) + 64 * d' ≤ 64 * d; omega⟩
  have hrun := va_runS (p := p) (l := l) (e := e) (below := below) (meth := meth) (H := H) (locs := locs) (cells := cells) (slots := slots) (As := av.map (pUp (pAd b base))) (rest := st.map (pUp (pAd b base))) (g := F0 m pc arr ((av.reverse ++ st).map (pUp (pAd b base)))) ⟨C.1, C.2.1, C.2.2.2.1, C.2.2.2.2.1, C.2.2.2.2.2.1⟩ (hC l D dA b base) ⟨hcw, hts _ o1⟩ ⟨pPc_blind, fun U hU hW => pPc_pre (av := av) R U hU hW⟩ rfl (by simp) L.1.1 (by rw [List.map_append, List.map_reverse]) (lv_room (by rw [pUp_cats]; exact hst)) hd ⟨by show cells + (NC' - h.1.length) ≤ mc; omega, by show slots + (NS' - pSz h.1) ≤ ms; omega⟩
  exact pw_after C R S B L e1 e2 e3 e4 hle hls hrun k
set_option maxHeartbeats 1000000 in
theorem pw_callI (hd : decode μ.2.1 pc = .ok (.invokespecial idx, 3)) (hlk : Cond.methodLink μ.1.cls idx ν.1 ∈ lw_g) (hok : pOkI ν) (hr : ν.2.2.2 = none) (hn : (parseMethodDescriptor ν.1.desc).map (fun z => z.parameters.length) = some av.length)
    (hdd : d' + 1 ≤ d) (hst : (st.map fun v => v.category).sum ≤ 8) (hle : h.1.length ≤ NC') (hls : pSz h.1 ≤ NS') (hNC : NC' ≤ NC) (hNS : NS' ≤ NS) (hC : pCt ν d' NC' NS' (.ref a :: av) h Q')
    (k : ∀ r h', Q' r h' → h'.1.length = NC' → pSz h'.1 = NS' → pWP μ d NC NS Q (pc + 3) ls (r.toList ++ st) h') : pWP μ d NC NS Q pc ls (av.reverse ++ .ref a :: st) h := by
  intro p l e s m args below meth cc D dA b base H locs arr mc ms cells slots nc ns C R S B L e1 e2 e3 e4
  obtain ⟨o1, o2, o3, o4, o5, o6⟩ := hok
  have hGI : GoodIn lw_g (Cond.code ν.1 ν.2.1 ν.2.2.1 none :: lw_g) := pGoodIn (by
    intro w hw
    rcases List.mem_cons.mp hw with rfl | q
    · rw [← hr]; exact o4
    · exact q)
  have hts := C.2.2.2.2.2.1
  have hM := hC l D dA b base
  rw [hr] at hM
  have hcw := cwI (R := pRm d mc ms) (rm := pRm d' (NC' - h.1.length) (NS' - pSz h.1)) (mc := NC' - h.1.length) (ms := NS' - pSz h.1) (own := μ.1.cls) (index := idx) av.length hts hGI rfl rfl rfl (hts _ o3) (hts _ hlk) (hts _ o1) o2 ⟨o5.1, o5.2, hn⟩ ⟨hdd, by show 8 + (ν.2.2.1 + 11) + 64 * d' ≤ 64 * d; omega⟩
  have hrun := va_runI (p := p) (l := l) (e := e) (below := below) (meth := meth) (H := H) (locs := locs) (cells := cells) (slots := slots) (b := pAd b base a) (As := av.map (pUp (pAd b base))) (rest := st.map (pUp (pAd b base))) (g := F0 m pc arr ((av.reverse ++ .ref a :: st).map (pUp (pAd b base)))) ⟨C.1, C.2.1, C.2.2.2.1, C.2.2.2.2.1, C.2.2.2.2.2.1⟩ hM hcw ⟨pPc_blind, fun U hU hW => pPc_pre (av := .ref a :: av) R U hU hW⟩ rfl (by simp) L.1.1 (by rw [List.map_append, List.map_reverse]; rfl) (lv_room (by rw [pUp_cats]; exact hst)) hd ⟨by show cells + (NC' - h.1.length) ≤ mc; omega, by show slots + (NS' - pSz h.1) ≤ ms; omega⟩
  exact pw_after C R S B L e1 e2 e3 e4 hle hls hrun k
set_option maxHeartbeats 1000000 in
theorem pw_callN (hd : decode μ.2.1 pc = .ok (.invokespecial idx, 3)) (hlk : (μ.1.cls, idx, ν.1) ∈ pNws) (hok : pOkI ν) (hr : ν.2.2.2 = none) (hn : (parseMethodDescriptor ν.1.desc).map (fun z => z.parameters.length) = some av.length)
    (hdd : d' + 1 ≤ d) (hst : (st.map fun v => v.category).sum ≤ 8) (hle : h.1.length ≤ NC') (hls : pSz h.1 ≤ NS') (hNC : NC' ≤ NC) (hNS : NS' ≤ NS) (hC : pCt ν d' NC' NS' (.ref a :: av) h Q')
    (k : ∀ r h', Q' r h' → h'.1.length = NC' → pSz h'.1 = NS' → pWP μ d NC NS Q (pc + 3) ls (r.toList ++ st) h') : pWP μ d NC NS Q pc ls (av.reverse ++ .ref a :: st) h := by
  intro p l e s m args below meth cc D dA b base H locs arr mc ms cells slots nc ns C R S B L e1 e2 e3 e4
  obtain ⟨o1, o2, o3, o4, o5, o6⟩ := hok
  have hGI : GoodIn lw_g (Cond.code ν.1 ν.2.1 ν.2.2.1 none :: lw_g) := pGoodIn (by
    intro w hw
    rcases List.mem_cons.mp hw with rfl | q
    · rw [← hr]; exact o4
    · exact q)
  have hts := C.2.2.2.2.2.1
  have hM := hC l D dA b base
  rw [hr] at hM
  have hcw := va_cnB (R := pRm d mc ms) (rm := pRm d' (NC' - h.1.length) (NS' - pSz h.1)) (mc := NC' - h.1.length) (ms := NS' - pSz h.1) (own := μ.1.cls) (index := idx) (host := "LeftShoes") av.length hts hGI rfl rfl rfl (R.1.2.1 _ hlk) (hts _ o3) ⟨o5.1, o5.2, hn⟩ ⟨hdd, by show 8 + (ν.2.2.1 + 11) + 64 * d' ≤ 64 * d; omega⟩
  have hrun := va_runIN (p := p) (l := l) (e := e) (below := below) (meth := meth) (H := H) (locs := locs) (cells := cells) (slots := slots) (b := pAd b base a) (As := av.map (pUp (pAd b base))) (rest := st.map (pUp (pAd b base))) (g := F0 m pc arr ((av.reverse ++ .ref a :: st).map (pUp (pAd b base)))) ⟨C.1, C.2.1, C.2.2.2.1, C.2.2.2.2.1, C.2.2.2.2.2.1⟩ hM ⟨hcw, o2, hts _ o1⟩ ⟨pPc_blind, fun U hU hW => pPc_pre (av := .ref a :: av) R U hU hW⟩ rfl (by simp) L.1.1 (by rw [List.map_append, List.map_reverse]; rfl) (lv_room (by rw [pUp_cats]; exact hst)) hd ⟨by show cells + (NC' - h.1.length) ≤ mc; omega, by show slots + (NS' - pSz h.1) ≤ ms; omega⟩
  exact pw_after C R S B L e1 e2 e3 e4 hle hls hrun k
end
