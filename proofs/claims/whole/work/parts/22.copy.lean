/-! ===== System.arraycopy of int rows from 0 on ===== -/
theorem ac_nat : Cond.native arraycopyName ∈ lw_g := pG (inT4 _ (List.mem_of_getElem? (i := 121) rfl)) rfl
theorem ac_stat : Cond.static arraycopyName ∈ lw_g := pG (inT4 _ (List.mem_of_getElem? (i := 120) rfl)) rfl
theorem ac_ini : Cond.initialized "java/lang/System" ∈ lw_g := pG (inT1 _ (List.mem_of_getElem? (i := 24) rfl)) rfl
theorem ac_Hi : Cond.methodLink "LeftShoes$History" 32 arraycopyName ∈ lw_g := pG (inT4 _ (List.mem_of_getElem? (i := 119) rfl)) rfl
theorem ac_Wo : Cond.methodLink "LeftShoes$World" 52 arraycopyName ∈ lw_g := pG (inT5 _ (List.mem_of_getElem? (i := 136) rfl)) rfl
theorem ac_words : nativeFrameWords "java/lang/System" "arraycopy" 5 ≤ 40 := by decide +kernel
set_option maxHeartbeats 1000000 in
theorem pq_copy {μ : pMeth} {d NC NS : Nat} {Q : Option Value → pH → Prop} {pc idx : Nat} {ls : List (Option Value)} {st : List Value} {sh : List pSh} {I : Nat → Nat → Int32} {L : Nat → Nat → Int64} {P : Nat → Nat → Option Nat} {a0 a n0 n1 : Nat} {x : Int32} (N : Nat) (hx : x = nI N) (hN0 : N ≤ n0) (hN1 : N ≤ n1) (hN : N < 2 ^ 31) (hs0 : sh[a0]? = some (.inr (0, n0))) (hs1 : sh[a]? = some (.inr (0, n1)))
    (hd : decode μ.2.1 pc = .ok (.invokestatic idx, 3)) (hlk : Cond.methodLink μ.1.cls idx arraycopyName ∈ lw_g) (hdd : 1 ≤ d) (hst : (st.map fun v => v.category).sum ≤ 8)
    (k : pWP μ d NC NS Q (pc + 3) ls st (sh, (aU I a (va_cpy (I a0) (I a) 0 0 N), L, P))) : pWP μ d NC NS Q pc ls (.int x :: .int 0 :: .ref a :: .int 0 :: .ref a0 :: st) (sh, (I, L, P)) := by
  subst hx
  intro p l e s m args below meth cc D dA b base H locs arr mc ms cells slots nc ns C R S B Lo e1 e2 e3 e4
  obtain ⟨s', rfl, -, hc0⟩ := pRel_at R hs0 (fun _ q => by cases q)
  obtain ⟨a', rfl, -, hc1⟩ := pRel_at R hs1 (fun _ q => by cases q)
  have hts := C.2.2.2.2.2.1
  have hAr := (R.1.1.2 0 _ (pTy0 dA)).1
  obtain ⟨-, k0, hk0, cm0, hkk0⟩ := hAr n0 (fun j => .int (I (s' + 1) j))
  obtain ⟨-, k1, hk1, cm1, hkk1⟩ := hAr n1 (fun j => .int (I (a' + 1) j))
  have hc0' : H[base + s']? = some (arrV (dA 0) n0 (fun j => .int (I (s' + 1) j))) := hc0
  have hc1' : H[base + a']? = some (arrV (dA 0) n1 (fun j => .int (I (a' + 1) j))) := hc1
  have hz0 : (nI N).toInt = (N : Int) := nI_toInt hN
  have hcl : (nI N).toNatClampNeg = N := nI_clamp hN
  intro T hT X
  obtain ⟨vm', X', step⟩ := X.arraycopy C.1 C.2.2.2.2.1 (hts _ hlk) (hts _ ac_nat) (hts _ ac_stat) (hts _ ac_ini) (src := base + s') (dst := base + a') (cs := arrV (dA 0) n0 (fun j => .int (I (s' + 1) j))) (cd := arrV (dA 0) n1 (fun j => .int (I (a' + 1) j))) (srcPos := 0) (destPos := 0) (n := nI N) (by rw [hT]; exact hc0') (by rw [hT]; exact hc1') (fun _ h => by cases h) (fun _ h => by cases h) (fun h => by cases h) (fun h => by cases h) hk0 hk1 hkk0 hkk1 rfl (by decide) (by decide) (nI_pos hN)
    (by rw [hz0, arrV_size]; show ¬ ((0 : Int) + N > n0); omega) (by rw [hz0, arrV_size]; show ¬ ((0 : Int) + N > n1); omega)
    (fun vm₁ _ i hi => by
      rw [hcl] at hi
      have e : (arrV (dA 0) n0 (fun j => .int (I (s' + 1) j))).slots.getD ((0 : Int32).toNatClampNeg + i) .null = .int (I (s' + 1) i) := by
        rw [Array.getD_eq_getD_getElem?, show (0 : Int32).toNatClampNeg + i = i from Nat.zero_add i, arrV_read _ _ (by omega)]
        rfl
      rw [e]
      exact ⟨rfl, trivial⟩)
    (g := F0 m pc arr ((.int (nI N) :: .int 0 :: .ref (a' + 1) :: .int 0 :: .ref (s' + 1) :: st).map (pUp (pAd b base)))) rfl (Lo.1.1.trans C.2.2.2.1.symm) (rest := st.map (pUp (pAd b base))) rfl (by rw [C.2.1]; exact hd) hdd (by
      have hm := lv_room (m := m) (pc := pc) (ls := arr) (rest := (.int (nI N) :: .int 0 :: .ref (a' + 1) :: .int 0 :: .ref (s' + 1) :: st).map (pUp (pAd b base))) (st := st.map (pUp (pAd b base))) (by rw [pUp_cats]; exact hst)
      have := ac_words
      show _ ≤ 64 * d
      omega)
  have ec : copied (arrV (dA 0) n0 (fun j => .int (I (s' + 1) j))) (arrV (dA 0) n1 (fun j => .int (I (a' + 1) j))) 0 0 (nI N) = arrV (dA 0) n1 (fun j => .int (va_cpy (I (s' + 1)) (I (a' + 1)) 0 0 N j)) := by
    have := va_copied (fun z => Value.int z) (dA 0) (dA 0) (n0 := n0) (n1 := n1) (sp := 0) (dp := 0) (n := N) (I (s' + 1)) (I (a' + 1)) (by omega)
    rw [← this]
    unfold copied
    rw [hcl]
    rfl
  rw [ec] at X' step
  have hlt : base + a' < H.size := (Array.getElem?_eq_some_iff.mp hc1').1
  generalize hcn : arrV (dA 0) n1 (fun j => .int (va_cpy (I (s' + 1)) (I (a' + 1)) 0 0 N j)) = cn at X' step
  have hh : ((T.setVm vm').setCell (base + a') cn).heap[base + a']? = some cn := heapAt_setCell_self _ (by show base + a' < T.heap.size; rw [hT]; exact hlt)
  have hzz : ((T.setVm vm').setCell (base + a') cn).heap.size = H.size := by rw [size_setCell]; show T.heap.size = _; rw [hT]
  have ho : ∀ q, q ≠ base + a' → ((T.setVm vm').setCell (base + a') cn).heap[q]? = H[q]? := fun q hq => by
    rw [heapAt_setCell_ne _ (Ne.symm hq)]
    show T.heap[q]? = _
    rw [hT]
  have R1 : pRel D dA b base (sh, (aU I (a' + 1) (va_cpy (I (s' + 1)) (I (a' + 1)) 0 0 N), L, P)) s ((T.setVm vm').setCell (base + a') cn).heap := by
    refine pRel_set R hs1 (fun q hq => va_up_ne2 _ _ hq) (fun _ _ => rfl) (fun _ _ => rfl) ?_ hzz ho
    refine hh.trans (congrArg some ?_)
    rw [← hcn]
    show _ = arrV (dA 0) n1 (fun j => .int (aU I (a' + 1) (va_cpy (I (s' + 1)) (I (a' + 1)) 0 0 N) (a' + 1) j))
    rw [aU_eq]
  obtain ⟨t2, g1, g2⟩ := k p l e s m args below meth cc D dA b base _ _ arr mc ms cells slots nc ns C R1 ⟨by rw [hzz]; exact S.1, fun q hq1 hq2 => (ho q (fun z => hq2 (by rw [z]; exact Nat.le_add_right _ _))).trans (S.2.1 q hq1 hq2), fun q hq => (List.mem_append.mp hq).elim (S.2.2 q) (fun z => by
    obtain ⟨y, -, rfl⟩ := List.mem_map.mp z
    exact Nat.le_add_right _ _)⟩ B Lo e1 e2 e3 e4 _ rfl X'
  exact ⟨t2, step t2 g1, g2⟩
