/-! ===== a method's entry, its end, and calls ===== -/
def pAL : List Value → List (Option Value)
  | [] => []
  | v :: vs => if v.category = 2 then some v :: none :: pAL vs else some v :: pAL vs
theorem pAL_mem (g : Nat → Nat) : ∀ (av : List Value) (k i n : Nat) (v : Value), (pAL av ++ List.replicate n none)[i]? = some (some v) → (k + i, pUp g v) ∈ lv_args k (av.map (pUp g))
  | [], k, i, n, v, h => by
    simp [pAL, List.getElem?_replicate] at h
  | x :: xs, k, i, n, v, h => by
    unfold pAL at h
    show (k + i, pUp g v) ∈ (k, pUp g x) :: lv_args (if (pUp g x).category = 2 then k + 2 else k + 1) (xs.map (pUp g))
    rw [pUp_cat]
    by_cases hc : x.category = 2
    · rw [if_pos hc] at h ⊢
      match i, h with
      | 0, h =>
        simp at h
        subst h
        exact List.mem_cons_self
      | 1, h => simp at h
      | j + 2, h =>
        have h' : (pAL xs ++ List.replicate n none)[j]? = some (some v) := by simpa using h
        have := pAL_mem g xs (k + 2) j n v h'
        rw [show k + (j + 2) = k + 2 + j by omega]
        exact List.mem_cons_of_mem _ this
    · rw [if_neg hc] at h ⊢
      match i, h with
      | 0, h =>
        simp at h
        subst h
        exact List.mem_cons_self
      | j + 1, h =>
        have h' : (pAL xs ++ List.replicate n none)[j]? = some (some v) := by simpa using h
        have := pAL_mem g xs (k + 1) j n v h'
        rw [show k + (j + 1) = k + 1 + j by omega]
        exact List.mem_cons_of_mem _ this
theorem pAL_len (g : Nat → Nat) : ∀ av : List Value, (lg_sl (av.map (pUp g))).length = (pAL av).length
  | [] => rfl
  | x :: xs => by
    have ih := pAL_len g xs
    by_cases hc : x.category = 2 <;> simp [lg_sl, pAL, pUp_cat, hc] at ih ⊢ <;> omega
/-- the locals at a method's entry -/
def pEnt (n : Nat) (av : List Value) : List (Option Value) := pAL av ++ List.replicate (n - (pAL av).length) none
set_option maxHeartbeats 1000000 in
theorem pCt_of {μ : pMeth} {d NC NS : Nat} {av : List Value} {h : pH} {Q : Option Value → pH → Prop} (hy : plainName μ.1.cls = true) (hl : (pAL av).length ≤ μ.2.2.1) (hc : h.1.length ≤ NC) (hs : pSz h.1 ≤ NS) (hw : pWP μ d NC NS Q 0 (pEnt μ.2.2.1 av) [] h) : pCt μ d NC NS av h Q := by
  intro l D dA b base
  refine Met.ofW (cc := μ.2.1) (maxL := μ.2.2.1) (ret := μ.2.2.2) hy rfl ?_
  intro p e s m args below meth c s₁ B hml hv
  obtain ⟨rfl, hR⟩ := hv
  have hts := atoms_spec (ws := Cond.code μ.1 μ.2.1 μ.2.2.1 μ.2.2.2 :: lw_g) B.pre
  have hown : s.vm.findClass μ.1.cls = some m.cls := findClass_of_methodNamed B.named
  have hcx : pCx μ p s m ((av.map (pUp (pAd b base))).toArray) meth c := ⟨B.exec, B.bytes, B.returns, hml, hown, fun w hw => hts w (List.mem_cons_of_mem _ hw), B.notSynchronized, (name_of_methodNamed B.named B.method).1⟩
  have hle := lv_entry (av.map (pUp (pAd b base))) (n := μ.2.2.1) (by rw [pAL_len]; exact hl)
  have h0 : 0 < h.1.length := by
    obtain ⟨-, -, -, -, L, hL, -⟩ := hR
    exact (List.getElem?_eq_some_iff.mp hL).1
  have hbs : base ≤ s.heap.size := by
    have : base + h.1.length ≤ s.heap.size + 1 := hR.2.2.1.1.1
    omega
  rw [lg_entry_eq]
  refine hw p l e s m _ below meth c D dA b base s.heap [] _ (NC - h.1.length) (NS - pSz h.1) 0 0 h.1.length (pSz h.1) hcx hR va_S.rf hbs ⟨⟨hle.1, hle.2.1, fun q hq => ?_⟩, ?_⟩ (by omega) (by omega) (by omega) (by omega)
  · obtain ⟨i, w⟩ := q
    obtain ⟨v, hv, rfl⟩ := pLv_mem.mp hq
    refine hle.2.2 (i, pUp (pAd b base) v) ?_
    have := pAL_mem (pAd b base) av 0 i _ v hv
    rwa [Nat.zero_add] at this
  · unfold pEnt
    rw [List.length_append, List.length_replicate]
    omega
section
variable {μ : pMeth} {d NC NS : Nat} {Q : Option Value → pH → Prop} {pc : Nat} {ls : List (Option Value)} {st : List Value} {h : pH}
theorem pw_iret {v : Int32} (hr : μ.2.2.2 = some .int) (hc : h.1.length = NC) (hs : pSz h.1 = NS) (hd : decode μ.2.1 pc = .ok (.ireturn, 1)) (hq : Q (some (.int v)) h) : pWP μ d NC NS Q pc ls [.int v] h := by
  intro p l e s m args below meth cc D dA b base H locs arr mc ms cells slots nc ns C R S B L e1 e2 e3 e4
  have hlk := C.2.2.2.2.2.2.1
  rw [show mc = cells by omega, show ms = slots by omega]
  exact W.iret C.1 C.2.1 (C.2.2.1.trans hr) (fun t ht hW => ⟨some (.int v), h, rfl, hq, ⟨⟨va_K.moved hW.alike R.1.1, pNw.warm hW R.1.2⟩, by rw [ht]; exact R.2.1, ⟨by rw [ht]; exact R.2.2.1.1, by rw [ht]; exact R.2.2.1.2.warm hW⟩, R.2.2.2.1, R.2.2.2.2.choose, R.2.2.2.2.choose_spec.1, by rw [ht]; exact va_X.moved hW.alike R.2.2.2.2.choose_spec.2⟩, S.F ht, hc, hs⟩) S.2.2 hd hlk
theorem pw_zret {v : Int32} (hr : μ.2.2.2 = some .boolean) (hv : v = 0 ∨ v = 1) (hc : h.1.length = NC) (hs : pSz h.1 = NS) (hd : decode μ.2.1 pc = .ok (.ireturn, 1)) (hq : Q (some (.int v)) h) : pWP μ d NC NS Q pc ls [.int v] h := by
  intro p l e s m args below meth cc D dA b base H locs arr mc ms cells slots nc ns C R S B L e1 e2 e3 e4
  have hlk := C.2.2.2.2.2.2.1
  rw [show mc = cells by omega, show ms = slots by omega]
  exact W.zret C.1 C.2.1 (C.2.2.1.trans hr) (by rcases hv with rfl | rfl <;> rfl) (fun t ht hW => ⟨some (.int v), h, rfl, hq, ⟨⟨va_K.moved hW.alike R.1.1, pNw.warm hW R.1.2⟩, by rw [ht]; exact R.2.1, ⟨by rw [ht]; exact R.2.2.1.1, by rw [ht]; exact R.2.2.1.2.warm hW⟩, R.2.2.2.1, R.2.2.2.2.choose, R.2.2.2.2.choose_spec.1, by rw [ht]; exact va_X.moved hW.alike R.2.2.2.2.choose_spec.2⟩, S.F ht, hc, hs⟩) S.2.2 hd hlk
theorem pw_lret {v : Int64} (hr : μ.2.2.2 = some .long) (hc : h.1.length = NC) (hs : pSz h.1 = NS) (hd : decode μ.2.1 pc = .ok (.lreturn, 1)) (hq : Q (some (.long v)) h) : pWP μ d NC NS Q pc ls [.long v] h := by
  intro p l e s m args below meth cc D dA b base H locs arr mc ms cells slots nc ns C R S B L e1 e2 e3 e4
  have hlk := C.2.2.2.2.2.2.1
  rw [show mc = cells by omega, show ms = slots by omega]
  exact W.lret C.1 C.2.1 (C.2.2.1.trans hr) (fun t ht hW => ⟨some (.long v), h, rfl, hq, ⟨⟨va_K.moved hW.alike R.1.1, pNw.warm hW R.1.2⟩, by rw [ht]; exact R.2.1, ⟨by rw [ht]; exact R.2.2.1.1, by rw [ht]; exact R.2.2.1.2.warm hW⟩, R.2.2.2.1, R.2.2.2.2.choose, R.2.2.2.2.choose_spec.1, by rw [ht]; exact va_X.moved hW.alike R.2.2.2.2.choose_spec.2⟩, S.F ht, hc, hs⟩) S.2.2 hd hlk
theorem pw_vret (hr : μ.2.2.2 = none) (hc : h.1.length = NC) (hs : pSz h.1 = NS) (hd : decode μ.2.1 pc = .ok (.return_, 1)) (hq : Q none h) : pWP μ d NC NS Q pc ls [] h := by
  intro p l e s m args below meth cc D dA b base H locs arr mc ms cells slots nc ns C R S B L e1 e2 e3 e4
  have hlk := C.2.2.2.2.2.2.1
  rw [show mc = cells by omega, show ms = slots by omega]
  exact W.vret C.1 C.2.1 (C.2.2.1.trans hr) (fun t ht hW => ⟨none, h, rfl, hq, ⟨⟨va_K.moved hW.alike R.1.1, pNw.warm hW R.1.2⟩, by rw [ht]; exact R.2.1, ⟨by rw [ht]; exact R.2.2.1.1, by rw [ht]; exact R.2.2.1.2.warm hW⟩, R.2.2.2.1, R.2.2.2.2.choose, R.2.2.2.2.choose_spec.1, by rw [ht]; exact va_X.moved hW.alike R.2.2.2.2.choose_spec.2⟩, S.F ht, hc, hs⟩) S.2.2 hd hlk
end
