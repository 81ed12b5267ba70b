/-! ===== the law: its loop (the first rows begin with the kit's skeleton) ===== -/
def R_law : String := "LeftShoesLaw"
def lw_P (b : Addr) (xs : List Int32) (args : Array Value) (s : State) : Prop := args = #[.ref b] ∧ s.IntsAt b xs ∧ xs.length ≤ 3072 ∧ (Jvm.Cond.and given_1 narrow_1).before args s = true
def lw_Q (_ : Array Value) (s : State) (o : Outcome) (t : State) : Prop := o = .returned (some (.int 1)) ∧ Framed s o t [] 601024 7293034
def lw_Z (below : List Frame) (a : Array Value) (s : State) : State → Prop := fun t => ∃ o, t.status = .running ∧ Ended t below o ∧ lw_Q a s o t
/-- the law's own end, with 1 on the stack, nothing written that was there before, its room as the claim has it -/
theorem lw_ret {p : Program} {l : Launch} {e : Env} {s : State} {m : MethodId} {below : List Frame} {meth : Method} {c : Code} {b : Nat} (hx : p.tables.exec = Jvm.exec) (hb : c.code = code) (hr : meth.sig.returnType = ret) (hlocks : meth.locks = false) {pc : Nat} {H : Heap} {ls : Array Slot} (hdg : decode code pc = .ok (.ireturn, 1)) : W p l e room_1 s m #[Value.ref b] below meth c H [] 601024 7293034 (lw_Z below #[Value.ref b] s) (F0 m pc ls [.int 1]) := by
  intro T hT X
  obtain ⟨fs, hret, hrun, hended, hW, hframe⟩ := X.leave (v := some (.int 1)) (hlocks := hlocks) (fun h => by rw [hr] at h; cases h)
  have hmeth' : T.vm.method? m = some meth := X.method'
  refine ⟨T.setFrames fs, ?_, .returned (some (.int 1)), hrun, hended, rfl, ⟨_, rfl⟩, hW, hframe⟩
  jvm_step X.here [X.here.top, hx, hb, hdg, hmeth', hr, ret, narrow_b1]
  (try refine ⟨rfl, ?_⟩); (try refine ⟨rfl, ?_⟩)
  first | (intro acts; rw [hret _ acts rfl rfl rfl]) | rw [hret _ _ rfl rfl rfl]
  exact Steps.refl _
/-- what holds at the law's entry: the machine, the code, the tables' words (any of lw_tbl by 'hts w (by decide +kernel)'), the script of L ints xs at the cell b, what the Statement gives of the start (any of its parts by flat_of_before) -/
def lw_At (p : Program) (s : State) (m : MethodId) (meth : Method) (c : Code) (b L : Nat) (xs : Nat → Int32) : Prop :=
  p.tables.exec = Jvm.exec ∧ c.code = code ∧ meth.sig.returnType = ret ∧ c.maxLocals = 7 ∧ s.vm.findClass R_law = some m.cls ∧ (∀ w ∈ lw_tbl, w.before #[Value.ref b] s = true) ∧ va_X b L xs s s.heap ∧ b < s.heap.size ∧ meth.locks = false ∧ (Jvm.Cond.and given_1 narrow_1).before #[Value.ref b] s = true

theorem lw_cmp {i n : Nat} (hi : i ≤ 4000) (hn : n ≤ 3072) : (Int32.ofNat n - 6 < nI i) ↔ ¬ i + 6 ≤ n := by
  have e : (Int32.ofNat n - 6).toInt = (n : Int) - 6 := by
    rw [Int32.toInt_sub, show (Int32.ofNat n).toInt = (n : Int) from nI_toInt (by omega)]
    show ((n : Int) - 6).bmod (2 ^ 32) = _
    exact Int.bmod_eq_of_le (by omega) (by omega)
  rw [Int32.lt_iff_toInt_lt, e, nI_toInt (by omega)]
  omega
section
variable {p : Program} {l : Launch} {e : Env} {s : State} {m : MethodId} {below : List Frame} {meth : Method} {cc : Code} {D : va_G} {dA : Nat → ClassId} {b : Nat}
theorem lj_end {cells slots : Nat} {ls : List (Option Value)} {h : pH} (C : lC m_Lw p s m #[Value.ref b] meth cc) (hc : cells ≤ 601024) (hs : slots ≤ 7293034) : lJ m_Lw p l e room_1 s m #[Value.ref b] below meth cc D dA b s.heap.size (lw_Z below #[Value.ref b] s) cells slots 1395 ls [] h := by
  refine lj_iconst C (n := 1) (v := 1) (by decide) (by decide +kernel) ?_
  intro H locs arr R S L
  refine va_forget (fun q hq => S.2.2 q hq) ?_
  refine W.widen hc hs ?_
  exact lw_ret C.1 C.2.1 C.2.2.1 C.2.2.2.2.2.2 (by decide +kernel)
set_option maxHeartbeats 4000000 in
theorem lw_body {Lx i cells slots : Nat} {xs : Nat → Int32} {M : pM} (htl : ∀ e, l.admits e → e.platform.stackTraces = false) (C : lC m_Lw p s m #[Value.ref b] meth cc) (hx : xW s.heap.size s s.heap) (hX : va_X b Lx xs s s.heap) (hbz : b < s.heap.size) (hL : Lx ≤ 3072) (hi : i + 6 ≤ Lx) (hc : cells + 1 ≤ 601024) (hsl : slots + 6 ≤ 7293034) (h : iv (kT (.inr (5, Lx)) 186) M)
    (K : ∀ M' c' s', c' ≤ cells + 1 → s' ≤ slots + 6 → iv (kT (.inr (5, Lx)) 186) M' → lJ m_Lw p l e room_1 s m #[Value.ref b] below meth cc D dA b s.heap.size (lw_Z below #[Value.ref b] s) c' s' 1389 (lwL i) [] (kT (.inr (5, Lx)) 186, M')) : lJ m_Lw p l e room_1 s m #[Value.ref b] below meth cc D dA b s.heap.size (lw_Z below #[Value.ref b] s) cells slots 33 (lwL i) [] (kT (.inr (5, Lx)) 186, M) := by
  have hs : (kT (.inr (5, Lx)) 186)[0]? = some (.inr (5, Lx)) := kT_0 (by decide)
  have hc0 : cells ≤ 601024 := by omega
  have hs0 : slots ≤ 7293034 := by omega
  have K0 : ∀ M', iv (kT (.inr (5, Lx)) 186) M' → lJ m_Lw p l e room_1 s m #[Value.ref b] below meth cc D dA b s.heap.size (lw_Z below #[Value.ref b] s) cells slots 1389 (lwL i) [] (kT (.inr (5, Lx)) 186, M') := fun M' hM => K M' _ _ (by omega) (by omega) hM
  refine lj_aload_n C (k4 := 0) (x := 0) rfl (by decide +kernel) ?_
  refine lj_iload C (i := 4) (x := nI i) rfl (by decide +kernel) ?_
  obtain ⟨q1, q2⟩ := pIdx (i := nI i) (j := i) (n := Lx) rfl (by omega) (by omega)
  refine lj_scr hs hX hbz (fun hM => ?_)
  refine lj_sald C (n := Lx) hs q1 (by decide +kernel) ?_
  refine lj_bipush C (n := 63) (v := 63) (by decide) (by decide +kernel) ?_
  refine lj_iand C (by decide +kernel) ?_
  have hsw : decode m_Lw.2.1 40 = .ok (.tableswitch 1349 0 36 #[164, 237, 262, 287, 312, 380, 417, 454, 491, 541, 590, 627, 652, 677, 702, 715, 752, 789, 802, 827, 876, 913, 962, 987, 1012, 1049, 1074, 1099, 1112, 1137, 1150, 1175, 1236, 1285, 1298, 1311, 1324], 164) := by decide +kernel
  generalize (((kT (.inr (5, Lx)) 186, M) : pH).2.1 0 (nI i).toNatClampNeg &&& 63) = y
  rcases swIn y 0 36 (by decide) (by decide) with z | ⟨k, k1, k2, rfl⟩
  · exact lj_tableOut C (tgt := 1389) hsw z (by decide +kernel) (K0 M h)
  · have hk : k < 37 := by omega
    by_cases e0 : k = 0
    · subst e0
      exact lj_tableIn C (off := 164) (tgt := 204) hsw (by decide) (by decide) (by decide) (by decide +kernel) (lw_c0 C hX hbz hL hi hc0 hs0 h K0)
    by_cases e1 : k = 1
    · subst e1
      exact lj_tableIn C (off := 237) (tgt := 277) hsw (by decide) (by decide) (by decide) (by decide +kernel) (lw_c1 C hX hbz hL hi hc0 hs0 h K0)
    by_cases e2 : k = 2
    · subst e2
      exact lj_tableIn C (off := 262) (tgt := 302) hsw (by decide) (by decide) (by decide) (by decide +kernel) (lw_c2 C hX hbz hL hi hc0 hs0 h K0)
    by_cases e3 : k = 3
    · subst e3
      exact lj_tableIn C (off := 287) (tgt := 327) hsw (by decide) (by decide) (by decide) (by decide +kernel) (lw_c3 C hX hbz hL hi hc0 hs0 h K0)
    by_cases e4 : k = 4
    · subst e4
      exact lj_tableIn C (off := 312) (tgt := 352) hsw (by decide) (by decide) (by decide) (by decide +kernel) (lw_c4 htl C hx hX hbz hL hi hc hsl h K)
    by_cases e5 : k = 5
    · subst e5
      exact lj_tableIn C (off := 380) (tgt := 420) hsw (by decide) (by decide) (by decide) (by decide +kernel) (lw_c5 C hX hbz hL hi hc0 hs0 h K0)
    by_cases e6 : k = 6
    · subst e6
      exact lj_tableIn C (off := 417) (tgt := 457) hsw (by decide) (by decide) (by decide) (by decide +kernel) (lw_c6 C hX hbz hL hi hc0 hs0 h K0)
    by_cases e7 : k = 7
    · subst e7
      exact lj_tableIn C (off := 454) (tgt := 494) hsw (by decide) (by decide) (by decide) (by decide +kernel) (lw_c7 C hX hbz hL hi hc0 hs0 h K0)
    by_cases e8 : k = 8
    · subst e8
      exact lj_tableIn C (off := 491) (tgt := 531) hsw (by decide) (by decide) (by decide) (by decide +kernel) (lw_c8 C hX hbz hL hi hc0 hs0 h K0)
    by_cases e9 : k = 9
    · subst e9
      exact lj_tableIn C (off := 541) (tgt := 581) hsw (by decide) (by decide) (by decide) (by decide +kernel) (lw_c9 C hX hbz hL hi hc0 hs0 h K0)
    by_cases e10 : k = 10
    · subst e10
      exact lj_tableIn C (off := 590) (tgt := 630) hsw (by decide) (by decide) (by decide) (by decide +kernel) (lw_c10 C hX hbz hL hi hc0 hs0 h K0)
    by_cases e11 : k = 11
    · subst e11
      exact lj_tableIn C (off := 627) (tgt := 667) hsw (by decide) (by decide) (by decide) (by decide +kernel) (lw_c11 C hX hbz hL hi hc0 hs0 h K0)
    by_cases e12 : k = 12
    · subst e12
      exact lj_tableIn C (off := 652) (tgt := 692) hsw (by decide) (by decide) (by decide) (by decide +kernel) (lw_c12 C hX hbz hL hi hc0 hs0 h K0)
    by_cases e13 : k = 13
    · subst e13
      exact lj_tableIn C (off := 677) (tgt := 717) hsw (by decide) (by decide) (by decide) (by decide +kernel) (lw_c13 C hX hbz hL hi hc0 hs0 h K0)
    by_cases e14 : k = 14
    · subst e14
      exact lj_tableIn C (off := 702) (tgt := 742) hsw (by decide) (by decide) (by decide) (by decide +kernel) (lw_c14 C hX hbz hL hi hc0 hs0 h K0)
    by_cases e15 : k = 15
    · subst e15
      exact lj_tableIn C (off := 715) (tgt := 755) hsw (by decide) (by decide) (by decide) (by decide +kernel) (lw_c15 C hX hbz hL hi hc0 hs0 h K0)
    by_cases e16 : k = 16
    · subst e16
      exact lj_tableIn C (off := 752) (tgt := 792) hsw (by decide) (by decide) (by decide) (by decide +kernel) (lw_c16 C hX hbz hL hi hc0 hs0 h K0)
    by_cases e17 : k = 17
    · subst e17
      exact lj_tableIn C (off := 789) (tgt := 829) hsw (by decide) (by decide) (by decide) (by decide +kernel) (lw_c17 C hX hbz hL hi hc0 hs0 h K0)
    by_cases e18 : k = 18
    · subst e18
      exact lj_tableIn C (off := 802) (tgt := 842) hsw (by decide) (by decide) (by decide) (by decide +kernel) (lw_c18 C hX hbz hL hi hc0 hs0 h K0)
    by_cases e19 : k = 19
    · subst e19
      exact lj_tableIn C (off := 827) (tgt := 867) hsw (by decide) (by decide) (by decide) (by decide +kernel) (lw_c19 C hX hbz hL hi hc0 hs0 h K0)
    by_cases e20 : k = 20
    · subst e20
      exact lj_tableIn C (off := 876) (tgt := 916) hsw (by decide) (by decide) (by decide) (by decide +kernel) (lw_c20 C hX hbz hL hi hc0 hs0 h K0)
    by_cases e21 : k = 21
    · subst e21
      exact lj_tableIn C (off := 913) (tgt := 953) hsw (by decide) (by decide) (by decide) (by decide +kernel) (lw_c21 C hX hbz hL hi hc0 hs0 h K0)
    by_cases e22 : k = 22
    · subst e22
      exact lj_tableIn C (off := 962) (tgt := 1002) hsw (by decide) (by decide) (by decide) (by decide +kernel) (lw_c22 C hX hbz hL hi hc0 hs0 h K0)
    by_cases e23 : k = 23
    · subst e23
      exact lj_tableIn C (off := 987) (tgt := 1027) hsw (by decide) (by decide) (by decide) (by decide +kernel) (lw_c23 C hX hbz hL hi hc0 hs0 h K0)
    by_cases e24 : k = 24
    · subst e24
      exact lj_tableIn C (off := 1012) (tgt := 1052) hsw (by decide) (by decide) (by decide) (by decide +kernel) (lw_c24 C hX hbz hL hi hc0 hs0 h K0)
    by_cases e25 : k = 25
    · subst e25
      exact lj_tableIn C (off := 1049) (tgt := 1089) hsw (by decide) (by decide) (by decide) (by decide +kernel) (lw_c25 C hX hbz hL hi hc0 hs0 h K0)
    by_cases e26 : k = 26
    · subst e26
      exact lj_tableIn C (off := 1074) (tgt := 1114) hsw (by decide) (by decide) (by decide) (by decide +kernel) (lw_c26 C hX hbz hL hi hc0 hs0 h K0)
    by_cases e27 : k = 27
    · subst e27
      exact lj_tableIn C (off := 1099) (tgt := 1139) hsw (by decide) (by decide) (by decide) (by decide +kernel) (lw_c27 C hX hbz hL hi hc0 hs0 h K0)
    by_cases e28 : k = 28
    · subst e28
      exact lj_tableIn C (off := 1112) (tgt := 1152) hsw (by decide) (by decide) (by decide) (by decide +kernel) (lw_c28 C hX hbz hL hi hc0 hs0 h K0)
    by_cases e29 : k = 29
    · subst e29
      exact lj_tableIn C (off := 1137) (tgt := 1177) hsw (by decide) (by decide) (by decide) (by decide +kernel) (lw_c29 C hX hbz hL hi hc0 hs0 h K0)
    by_cases e30 : k = 30
    · subst e30
      exact lj_tableIn C (off := 1150) (tgt := 1190) hsw (by decide) (by decide) (by decide) (by decide +kernel) (lw_c30 C hX hbz hL hi hc0 hs0 h K0)
    by_cases e31 : k = 31
    · subst e31
      exact lj_tableIn C (off := 1175) (tgt := 1215) hsw (by decide) (by decide) (by decide) (by decide +kernel) (lw_c31 C hX hbz hL hi hc0 hs0 h K0)
    by_cases e32 : k = 32
    · subst e32
      exact lj_tableIn C (off := 1236) (tgt := 1276) hsw (by decide) (by decide) (by decide) (by decide +kernel) (lw_c32 C hX hbz hL hi hc0 hs0 h K0)
    by_cases e33 : k = 33
    · subst e33
      exact lj_tableIn C (off := 1285) (tgt := 1325) hsw (by decide) (by decide) (by decide) (by decide +kernel) (lw_c33 C hX hbz hL hi hc0 hs0 h K0)
    by_cases e34 : k = 34
    · subst e34
      exact lj_tableIn C (off := 1298) (tgt := 1338) hsw (by decide) (by decide) (by decide) (by decide +kernel) (lw_c34 C hX hbz hL hi hc0 hs0 h K0)
    by_cases e35 : k = 35
    · subst e35
      exact lj_tableIn C (off := 1311) (tgt := 1351) hsw (by decide) (by decide) (by decide) (by decide +kernel) (lw_c35 C hX hbz hL hi hc0 hs0 h K0)
    by_cases e36 : k = 36
    · subst e36
      exact lj_tableIn C (off := 1324) (tgt := 1364) hsw (by decide) (by decide) (by decide) (by decide +kernel) (lw_c36 C hX hbz hL hi hc0 hs0 h K0)
    omega
theorem lw_loop {Lx : Nat} {xs : Nat → Int32} (htl : ∀ e, l.admits e → e.platform.stackTraces = false) (C : lC m_Lw p s m #[Value.ref b] meth cc) (hx : xW s.heap.size s s.heap) (hX : va_X b Lx xs s s.heap) (hbz : b < s.heap.size) (hL : Lx ≤ 3072) : ∀ (n i cells slots : Nat) (M : pM), Lx ≤ i + n → i ≤ 3500 → cells ≤ 200 + i → slots ≤ 1000000 + 6 * i → iv (kT (.inr (5, Lx)) 186) M → lJ m_Lw p l e room_1 s m #[Value.ref b] below meth cc D dA b s.heap.size (lw_Z below #[Value.ref b] s) cells slots 23 (lwL i) [] (kT (.inr (5, Lx)) 186, M) := by
  have hs : (kT (.inr (5, Lx)) 186)[0]? = some (.inr (5, Lx)) := kT_0 (by decide)
  intro n
  induction n with
  | zero =>
    intro i cells slots M hn hi hc hsl h
    refine lj_iload C (i := 4) (x := nI i) rfl (by decide +kernel) ?_
    refine lj_aload_n C (k4 := 0) (x := 0) rfl (by decide +kernel) ?_
    refine lj_slen C (n := Lx) hs (by decide +kernel) ?_
    refine lj_bipush C (n := 6) (v := 6) (by decide) (by decide +kernel) ?_
    refine lj_isub C (by decide +kernel) ?_
    exact lj_icmp_gt C (off := 1365) (tgt := 1395) (by decide +kernel) (by decide +kernel) (fun _ => lj_end C (by omega) (by omega)) (fun z => absurd ((lw_cmp (by omega) hL).mpr (by omega)) z)
  | succ n ih =>
    intro i cells slots M hn hi hc hsl h
    refine lj_iload C (i := 4) (x := nI i) rfl (by decide +kernel) ?_
    refine lj_aload_n C (k4 := 0) (x := 0) rfl (by decide +kernel) ?_
    refine lj_slen C (n := Lx) hs (by decide +kernel) ?_
    refine lj_bipush C (n := 6) (v := 6) (by decide) (by decide +kernel) ?_
    refine lj_isub C (by decide +kernel) ?_
    refine lj_icmp_gt C (off := 1365) (tgt := 1395) (by decide +kernel) (by decide +kernel) (fun _ => lj_end C (by omega) (by omega)) (fun z => ?_)
    have h6 : i + 6 ≤ Lx := Decidable.byContradiction fun w => z ((lw_cmp (by omega) hL).mpr w)
    refine lw_body htl C hx hX hbz hL h6 (by omega) (by omega) h (fun M' c' s' hc' hs' hM => ?_)
    refine lj_iinc C (i := 4) (n := 6) (x := nI i) (v := nI (i + 6)) rfl (nI_add i 6) (by decide +kernel) ?_
    refine lj_goto C (off := -1369) (tgt := 23) (by decide +kernel) (by decide +kernel) ?_
    exact ih (i + 6) c' s' M' (by omega) (by omega) (by omega) (by omega) hM
end
