/-! ===== the reader is made ===== -/
theorem pXw_sF {base : Nat} {s : State} {H : Heap} (h : pXw base s H) : ∃ q t : Nat, vk_R "LeftShoes$Reader" 19 pLan q s ∧ sF (fun x => base ≤ x) q t 126 (fun j => (pByt.getD 0 []).getD j 0) s H := by
  obtain ⟨-, -, hz, adK, adV, h4, h5, -⟩ := h
  exact ⟨adK 0, adV 0, h5, hz, h4.1 0 (by decide)⟩
section
variable {p : Program} {l : Launch} {e : Env} {s : State} {m : MethodId} {args : Array Value} {below : List Frame} {meth : Method} {c : Code} {D : va_G} {dA : Nat → ClassId} {b base : Nat} {H : Heap} {locs : List Loc} {arr : Array Slot} {mc ms cells slots nc ns : Nat}
variable {μ ν : pMeth} {d d' NC NS : Nat} {Q : Option Value → pH → Prop} {pc idx q t n : Nat} {f : Nat → Int32} {ls : List (Option Value)} {st As : List Value} {h : pH}
set_option maxHeartbeats 1000000 in
theorem sx_call {v : Int32} (C : pCx μ p s m args meth c) (R : pRel D dA b base h s H) (S : va_S (fun q => base ≤ q) s.heap H locs) (B : base ≤ s.heap.size) (L : pLs arr μ.2.2.1 (pAd b base) ls)
    (e1 : mc + nc = NC) (e2 : ms + ns = NS) (e3 : cells + nc = h.1.length) (e4 : slots + ns = pSz h.1) (hc : h.1.length ≤ NC) (hs : pSz h.1 ≤ NS) (hF : sF (fun x => base ≤ x) q t n f s H) (hd : decode μ.2.1 pc = .ok (.invokevirtual idx, 3)) (hlk : Cond.methodLink μ.1.cls idx ν.1 ∈ lw_g) (hok : pOkV ν) (hcs : ν.1.cls = "java/lang/String")
    (hn : (parseMethodDescriptor ν.1.desc).map (fun z => z.parameters.length) = some As.length) (hdd : d' + 1 ≤ d) (hst : (st.map fun v => v.category).sum ≤ 8) (hC : sCt ν d' q t n f (.ref q :: As) (some (.int v))) (k : pWP μ d NC NS Q (pc + 3) ls (.int v :: st) h) :
    W p l e (pRm d mc ms) s m args below meth c H locs cells slots (MQ below (pQc D dA b base NC NS Q) args s mc ms (fun q => base ≤ q)) (F0 m pc arr (As.reverse ++ .ref q :: st.map (pUp (pAd b base)))) := by
  obtain ⟨o1, o2, o3, o4, o5, o6⟩ := hok
  have hGI : GoodIn lw_g (wsV μ.1.cls idx ν.1.cls ν.1 (Cond.code ν.1 ν.2.1 ν.2.2.1 ν.2.2.2 :: lw_g)) := pGoodIn (by
    intro w hw
    unfold wsV at hw
    rcases List.mem_append.mp hw with q | q
    · simp only [List.mem_cons, List.not_mem_nil, or_false] at q
      rcases q with rfl | rfl | rfl | rfl <;> assumption
    · rcases List.mem_cons.mp q with rfl | q
      · exact o4
      · exact q)
  have hrec : ∃ cell : Cell, H[q]? = some cell ∧ cell.vm.isStatics = false ∧ s.vm.findClass ν.1.cls = some cell.cls := by
    obtain ⟨cell, h1, h2, h3, -⟩ := hF.2.1
    exact ⟨cell, h1, h2, by rw [hcs]; exact h3⟩
  have hcw := cwV (R := pRm d mc ms) (rm := pRm d' 0 0) (mc := 0) (ms := 0) As.length C.2.2.2.2.2.1 hGI rfl rfl rfl ⟨rfl, o5.1, o5.2, hn⟩ ⟨hdd, by show 8 + (ν.2.2.1 + 11) + 64 * d' ≤ 64 * d; omega⟩
  have hrun := va_runV (p := p) (l := l) (e := e) (below := below) (meth := meth) (H := H) (locs := locs) (cells := cells) (slots := slots) (b := q) (As := As) (rest := st.map (pUp (pAd b base))) (g := F0 m pc arr (As.reverse ++ .ref q :: st.map (pUp (pAd b base)))) ⟨C.1, C.2.1, C.2.2.2.1, C.2.2.2.2.1, C.2.2.2.2.2.1⟩ (hC l (fun q => base ≤ q)) hcw ⟨fun a U g mk q => ⟨q.1, q.2⟩, hrec, fun U hU hW => ⟨rfl, by rw [hU]; exact hF.moved hW.alike⟩⟩ rfl (by simp) L.1.1 rfl (lv_room (by rw [pUp_cats]; exact hst)) hd ⟨by show cells + 0 ≤ mc; omega, by show slots + 0 ≤ ms; omega⟩
  intro T hT X
  obtain ⟨w, st₀, t', T', L', h0, X', hL', g1, g2, ⟨hv, hh⟩, stp⟩ := hrun T hT X
  have hvv : w = some (.int v) := by injection hv
  subst hvv
  have hTh : T'.heap = H := by rw [g1, hh, h0]
  obtain ⟨t2, a1, b1⟩ := k p l e s m args below meth c D dA b base H (locs ++ L') arr mc ms cells slots nc ns C R ⟨S.1, S.2.1, fun q hq => by
    rcases List.mem_append.mp hq with z | z
    · exact S.2.2 q z
    · exact hL' q z⟩ B L e1 e2 e3 e4 T' hTh X'
  exact ⟨t2, stp t2 a1, b1⟩
end
def lanB (i : Nat) : Int32 := (pByt.getD 0 []).getD i 0
theorem lanB_ok : ∀ i, i < 126 → ((lanB i &&& 255).toUInt32 % 65536).toInt32 = lanB i ∧ narrow .char (.int (lanB i)) = .int (lanB i) := by decide +kernel
theorem nI_lan : ∀ i, i < 126 → (nI i).toNatClampNeg = i ∧ ¬ nI i < 0 ∧ nI i < 126 := by decide +kernel
section
variable {μ : pMeth} {d NC NS : Nat} {Q : Option Value → pH → Prop} {pc : Nat} {ls : List (Option Value)} {st : List Value} {h : pH}
theorem pw_lanLen (hcl : μ.1.cls = "LeftShoes$Reader") (hc : h.1.length ≤ NC) (hs : pSz h.1 ≤ NS) (hd1 : decode μ.2.1 pc = .ok (.ldc 19, 2)) (hd2 : decode μ.2.1 (pc + 2) = .ok (.invokevirtual 21, 3)) (hdd : 2 ≤ d) (hst : (st.map fun v => v.category).sum ≤ 8) (k : pWP μ d NC NS Q (pc + 2 + 3) ls (.int 126 :: st) h) : pWP μ d NC NS Q pc ls st h := by
  intro p l e s m args below meth c D dA b base H locs arr mc ms cells slots nc ns C R S B L e1 e2 e3 e4
  obtain ⟨q, t, hR, hF⟩ := pXw_sF R.2.2.1.2
  have hown := C.2.2.2.2.1
  rw [hcl] at hown
  refine va_ldcS C.1 C.2.1 hown hR hd1 ?_
  exact sx_call (ν := m_Sg_length) (d' := 1) (As := []) (v := 126) C R S B L e1 e2 e3 e4 hc hs hF hd2 (by rw [hcl]; exact lm_Re_21) ok_Sg_length rfl (show _ = some 0 by decide +kernel) hdd hst st_length k
theorem pw_lanAt {i : Nat} (hi : i < 126) (hcl : μ.1.cls = "LeftShoes$Reader") (hc : h.1.length ≤ NC) (hs : pSz h.1 ≤ NS) (hl : ls[3]? = some (some (.int (nI i)))) (hd1 : decode μ.2.1 pc = .ok (.ldc 19, 2)) (hd2 : decode μ.2.1 (pc + 2) = .ok (.iload_n 3, 1)) (hd3 : decode μ.2.1 (pc + 2 + 1) = .ok (.invokevirtual 27, 3)) (hdd : 4 ≤ d) (hst : (st.map fun v => v.category).sum ≤ 8) (k : pWP μ d NC NS Q (pc + 2 + 1 + 3) ls (.int (lanB i) :: st) h) : pWP μ d NC NS Q pc ls st h := by
  intro p l e s m args below meth c D dA b base H locs arr mc ms cells slots nc ns C R S B L e1 e2 e3 e4
  obtain ⟨q, t, hR, hF⟩ := pXw_sF R.2.2.1.2
  have hown := C.2.2.2.2.1
  rw [hcl] at hown
  obtain ⟨n1, n2, n3⟩ := nI_lan i hi
  obtain ⟨k1, k2⟩ := lanB_ok i hi
  refine va_ldcS C.1 C.2.1 hown hR hd1 ?_
  refine lv_iload_n C.1 C.2.1 hd2 rfl (pLs_at L hl) ?_
  have hch := st_charAt (a := q) (t := t) (n := 126) (f := fun j => (pByt.getD 0 []).getD j 0) (x := nI i) n2 n3 (fun z => by rcases z with z | z; exact n2 z; rw [n1] at z; omega) (by rw [n1]; exact k1) (by rw [n1]; exact k2)
  rw [n1] at hch
  exact sx_call (ν := m_Sg_charAt) (d' := 3) (As := [.int (nI i)]) (v := lanB i) C R S B L e1 e2 e3 e4 hc hs hF hd3 (by rw [hcl]; exact lm_Re_27) ok_Sg_charAt rfl (show _ = some 1 by decide +kernel) hdd hst hch k
end
/-- the loop over the words' text: word, letters, the packed words -/
def rdS : Nat → Nat × Nat × List Int32
  | 0 => (0, 0, List.replicate 25 0)
  | i + 1 => let (w, k, z) := rdS i
    if lanB i = 32 then (w + 1, 0, z.set w (z.getD w 0 <<< ((5 * (6 - nI k)) &&& 31))) else (w, k + 1, z.set w (z.getD w 0 <<< (5 &&& 31) ||| (lanB i - 97 + 1)))
def rdZ (i : Nat) : Nat → Int32 := fun j => (rdS i).2.2.getD j 0
def reW : List Int32 := ((rdS 126).2.2).set 24 (((rdS 126).2.2).getD 24 0 <<< ((5 * (6 - nI (rdS 126).2.1)) &&& 31))
theorem rdS_ok : ∀ i, i < 127 → (rdS i).1 < 25 ∧ (rdS i).2.1 < 7 ∧ (rdS i).2.2.length = 25 ∧ ¬ (25 : Int32) ≤ nI (rdS i).1 := by decide +kernel
theorem upd_set {z : List Int32} {w : Nat} {x : Int32} (h : w < z.length) : upd (fun j => z.getD j 0) w x = fun j => (z.set w x).getD j 0 := by
  funext j
  unfold upd
  by_cases e : j = w
  · subst e
    rw [if_pos rfl, List.getD_eq_getElem?_getD, List.getElem?_set_self h]
    rfl
  · rw [if_neg e]
    show z.getD j 0 = _
    rw [List.getD_eq_getElem?_getD, List.getD_eq_getElem?_getD, List.getElem?_set_ne (Ne.symm e)]
theorem rdS_sp {i : Nat} (h : lanB i = 32) : rdS (i + 1) = ((rdS i).1 + 1, 0, (rdS i).2.2.set (rdS i).1 ((rdS i).2.2.getD (rdS i).1 0 <<< ((5 * (6 - nI (rdS i).2.1)) &&& 31))) := by
  show (if lanB i = 32 then _ else _) = _
  rw [if_pos h]
theorem rdS_le {i : Nat} (h : ¬ lanB i = 32) : rdS (i + 1) = ((rdS i).1, (rdS i).2.1 + 1, (rdS i).2.2.set (rdS i).1 ((rdS i).2.2.getD (rdS i).1 0 <<< (5 &&& 31) ||| (lanB i - 97 + 1))) := by
  show (if lanB i = 32 then _ else _) = _
  rw [if_neg h]
def iRe58I (I : Nat → Nat → Int32) : Nat → Nat → Int32 := aU (zI I 59) 60 (fun j => reW.getD j 0)
def iRe58L (L : Nat → Nat → Int64) : Nat → Nat → Int64 := zL (zL L 59) 60
def iRe58P (P : Nat → Nat → Option Nat) : Nat → Nat → Option Nat := sP (zP (sP (zP P 59) 58 3 59) 60) 58 6 60
set_option maxHeartbeats 4000000 in
theorem ct_Re58_loop {x0 : pSh} {I : Nat → Nat → Int32} {L : Nat → Nat → Int64} {P : Nat → Nat → Option Nat} (hP : P 58 6 = some 60) : ∀ (g i : Nat) (o : Option Value), i + g = 126 → kWP m_Re_init 4 x0 61 (rV (aU I 60 (fun j => reW.getD j 0), L, P)) 25 [some (.ref 58), some (.int (nI (rdS i).1)), some (.int (nI (rdS i).2.1)), some (.int (nI i)), o] [] 61 (aU I 60 (rdZ i), L, P)
  | 0, i, o, hg => by
    have hi : i = 126 := by omega
    subst hi
    obtain ⟨r1, r2, r3, r4⟩ := rdS_ok 126 (by decide)
    refine pw_iload_n (k4 := 3) rfl (by decide +kernel) ?_
    refine pw_lanLen rfl (Nat.le_refl _) (Nat.le_refl _) (by decide +kernel) (by decide +kernel) (by decide) (Nat.le_of_ble_eq_true rfl) ?_
    refine pw_icmp_ge (off := 78) (tgt := 109) (by decide) (by decide +kernel) (fun _ => ?_) (fun z => absurd (by decide) z)
    refine pw_aload_n (k4 := 0) rfl (by decide +kernel) ?_
    refine pq_getP (c := 3) (k := 6) (kg_58 (by decide)) (by decide) (by decide) (q := 60) hP lf_Re_15 (by decide +kernel) ?_
    refine pw_bipush (n := 24) (v := 24) (by decide) (by decide +kernel) ?_
    refine pw_dup2 rfl rfl (by decide +kernel) ?_
    refine pq_iald 24 (by decide) (by decide) (by decide) (kg_60 (by decide)) (by decide +kernel) ?_
    refine pw_iconst (n := 5) (v := 5) (by decide) (by decide +kernel) ?_
    refine pw_bipush (n := 6) (v := 6) (by decide) (by decide +kernel) ?_
    refine pw_iload_n (k4 := 2) rfl (by decide +kernel) ?_
    refine pw_isub (by decide +kernel) ?_
    refine pw_imul (by decide +kernel) ?_
    refine pw_ishl (by decide +kernel) ?_
    refine pq_iast 24 (by decide) (by decide) (by decide) (kg_60 (by decide)) (by decide +kernel) ?_
    refine kw_vret rfl (by decide +kernel) ⟨rfl, ?_⟩
    rw [sI_aU2, aU_eq]
    unfold rdZ
    rw [upd_set (by rw [r3]; decide)]
    rfl
  | g + 1, i, o, hg => by
    have hi : i < 126 := by omega
    obtain ⟨r1, r2, r3, r4⟩ := rdS_ok i (by omega)
    obtain ⟨n1, n2, n3⟩ := nI_lan i hi
    refine pw_iload_n (k4 := 3) rfl (by decide +kernel) ?_
    refine pw_lanLen rfl (Nat.le_refl _) (Nat.le_refl _) (by decide +kernel) (by decide +kernel) (by decide) (Nat.le_of_ble_eq_true rfl) ?_
    refine pw_icmp_ge (off := 78) (tgt := 109) (by decide) (by decide +kernel) (fun z => absurd z (Int32.not_le.mpr n3)) (fun _ => ?_)
    refine pw_iload_n (k4 := 1) rfl (by decide +kernel) ?_
    refine pw_bipush (n := 25) (v := 25) (by decide) (by decide +kernel) ?_
    refine pw_icmp_ge (off := 72) (tgt := 109) (by decide) (by decide +kernel) (fun z => absurd z r4) (fun _ => ?_)
    refine pw_lanAt hi rfl (Nat.le_refl _) (Nat.le_refl _) rfl (by decide +kernel) (by decide +kernel) (by decide +kernel) (by decide) (Nat.le_of_ble_eq_true rfl) ?_
    refine pq_istore (i := 4) (Nat.le_of_ble_eq_true rfl) rfl (by decide +kernel) ?_
    refine pw_iload (i := 4) rfl (by decide +kernel) ?_
    refine pw_bipush (n := 32) (v := 32) (by decide) (by decide +kernel) ?_
    refine pw_icmp_ne (off := 26) (tgt := 78) (by decide) (by decide +kernel) (fun z => ?_) (fun z => ?_)
    · have e := rdS_le z
      refine pw_aload_n (k4 := 0) rfl (by decide +kernel) ?_
      refine pq_getP (c := 3) (k := 6) (kg_58 (by decide)) (by decide) (by decide) (q := 60) hP lf_Re_15 (by decide +kernel) ?_
      refine pw_iload_n (k4 := 1) rfl (by decide +kernel) ?_
      refine pw_aload_n (k4 := 0) rfl (by decide +kernel) ?_
      refine pq_getP (c := 3) (k := 6) (kg_58 (by decide)) (by decide) (by decide) (q := 60) hP lf_Re_15 (by decide +kernel) ?_
      refine pw_iload_n (k4 := 1) rfl (by decide +kernel) ?_
      refine pq_iald (rdS i).1 rfl r1 (by decide) (kg_60 (by decide)) (by decide +kernel) ?_
      refine pw_iconst (n := 5) (v := 5) (by decide) (by decide +kernel) ?_
      refine pw_ishl (by decide +kernel) ?_
      refine pw_iload (i := 4) rfl (by decide +kernel) ?_
      refine pw_bipush (n := 97) (v := 97) (by decide) (by decide +kernel) ?_
      refine pw_isub (by decide +kernel) ?_
      refine pw_iconst (n := 1) (v := 1) (by decide) (by decide +kernel) ?_
      refine pw_iadd (by decide +kernel) ?_
      refine pw_ior (by decide +kernel) ?_
      refine pq_iast (rdS i).1 rfl r1 (by decide) (kg_60 (by decide)) (by decide +kernel) ?_
      refine pq_iinc (i := 2) (n := 1) 1 rfl (by decide) rfl (by decide +kernel) ?_
      refine pq_iinc (i := 3) (n := 1) 1 rfl (by decide) rfl (by decide +kernel) ?_
      refine pw_goto (off := -81) (tgt := 25) (by decide) (by decide +kernel) ?_
      have key := ct_Re58_loop (x0 := x0) (I := I) (L := L) hP g (i + 1) (some (.int (lanB i))) (by omega)
      rw [e] at key
      dsimp only at key
      rw [← nI_1 i, ← nI_1 (rdS i).2.1] at key
      have em : sI (aU I 60 (rdZ i)) 60 (rdS i).1 (aU I 60 (rdZ i) 60 (rdS i).1 <<< (5 &&& 31) ||| (lanB i - 97 + 1)) = aU I 60 (rdZ (i + 1)) := by
        rw [sI_aU2, aU_eq]
        unfold rdZ
        rw [e, upd_set (by rw [r3]; exact r1)]
      rw [em]
      exact key
    · have e := rdS_sp z
      refine pw_aload_n (k4 := 0) rfl (by decide +kernel) ?_
      refine pq_getP (c := 3) (k := 6) (kg_58 (by decide)) (by decide) (by decide) (q := 60) hP lf_Re_15 (by decide +kernel) ?_
      refine pw_iload_n (k4 := 1) rfl (by decide +kernel) ?_
      refine pw_dup2 rfl rfl (by decide +kernel) ?_
      refine pq_iald (rdS i).1 rfl r1 (by decide) (kg_60 (by decide)) (by decide +kernel) ?_
      refine pw_iconst (n := 5) (v := 5) (by decide) (by decide +kernel) ?_
      refine pw_bipush (n := 6) (v := 6) (by decide) (by decide +kernel) ?_
      refine pw_iload_n (k4 := 2) rfl (by decide +kernel) ?_
      refine pw_isub (by decide +kernel) ?_
      refine pw_imul (by decide +kernel) ?_
      refine pw_ishl (by decide +kernel) ?_
      refine pq_iast (rdS i).1 rfl r1 (by decide) (kg_60 (by decide)) (by decide +kernel) ?_
      refine pw_iconst (n := 0) (v := 0) (by decide) (by decide +kernel) ?_
      refine pq_istore_n (k4 := 2) (Nat.le_of_ble_eq_true rfl) rfl (by decide +kernel) ?_
      refine pq_iinc (i := 1) (n := 1) 1 rfl (by decide) rfl (by decide +kernel) ?_
      refine pw_goto (off := 28) (tgt := 103) (by decide) (by decide +kernel) ?_
      refine pq_iinc (i := 3) (n := 1) 1 rfl (by decide) rfl (by decide +kernel) ?_
      refine pw_goto (off := -81) (tgt := 25) (by decide) (by decide +kernel) ?_
      have key := ct_Re58_loop (x0 := x0) (I := I) (L := L) hP g (i + 1) (some (.int (lanB i))) (by omega)
      rw [e] at key
      dsimp only at key
      rw [← nI_1 i, ← nI_1 (rdS i).1] at key
      have em : sI (aU I 60 (rdZ i)) 60 (rdS i).1 (aU I 60 (rdZ i) 60 (rdS i).1 <<< ((5 * (6 - nI (rdS i).2.1)) &&& 31)) = aU I 60 (rdZ (i + 1)) := by
        rw [sI_aU2, aU_eq]
        unfold rdZ
        rw [e, upd_set (by rw [r3]; exact r1)]
      rw [em]
      exact key
set_option maxHeartbeats 2000000 in
theorem ct_Re58_init {x0 : pSh} {I : Nat → Nat → Int32} {L : Nat → Nat → Int64} {P : Nat → Nat → Option Nat} : kCt m_Re_init 4 x0 59 61 [.ref 58] (I, L, P) (rV (iRe58I I, iRe58L L, iRe58P P)) := by
  refine kCt_of (by decide +kernel) (Nat.le_of_ble_eq_true rfl) (by decide) (by decide) ?_
  refine pw_aload_n (k4 := 0) rfl (by decide +kernel) ?_
  refine pw_objInit (by decide +kernel) lo_Re oi_i oi_c (by decide) (Nat.le_of_ble_eq_true rfl) ?_
  refine pw_aload_n (k4 := 0) rfl (by decide +kernel) ?_
  refine pw_iconst (n := 0) (v := 0) (by decide) (by decide +kernel) ?_
  refine kw_newB 59 0 (by decide +kernel) (by decide) (by decide) (by decide) (by decide +kernel) (by decide) (by decide) (by decide) ?_
  refine pq_putP (c := 3) (k := 3) (kg_58 (by decide)) (by decide) (by decide) lf_Re_9 (Or.inl rfl) (by decide +kernel) ?_
  refine pw_aload_n (k4 := 0) rfl (by decide +kernel) ?_
  refine pw_bipush (n := 25) (v := 25) (by decide) (by decide +kernel) ?_
  refine kw_newI 60 25 (by decide +kernel) (by decide) (by decide) (by decide) (by decide +kernel) (by decide) (by decide) (by decide) ?_
  refine pq_putP (c := 3) (k := 6) (kg_58 (by decide)) (by decide) (by decide) lf_Re_15 (Or.inr ⟨rfl, rfl⟩) (by decide +kernel) ?_
  refine pw_iconst (n := 0) (v := 0) (by decide) (by decide +kernel) ?_
  refine pq_istore_n (k4 := 1) (Nat.le_of_ble_eq_true rfl) rfl (by decide +kernel) ?_
  refine pw_iconst (n := 0) (v := 0) (by decide) (by decide +kernel) ?_
  refine pq_istore_n (k4 := 2) (Nat.le_of_ble_eq_true rfl) rfl (by decide +kernel) ?_
  refine pw_iconst (n := 0) (v := 0) (by decide) (by decide +kernel) ?_
  refine pq_istore_n (k4 := 3) (Nat.le_of_ble_eq_true rfl) rfl (by decide +kernel) ?_
  have key := ct_Re58_loop (x0 := x0) (I := zI I 59) (L := zL (zL L 59) 60) (P := iRe58P P) rfl 126 0 none rfl
  have em : aU (zI I 59) 60 (rdZ 0) = zI (zI I 59) 60 := by
    show va_up _ _ _ = va_up _ _ _
    congr 1
    funext j
    show (List.replicate 25 (0 : Int32)).getD j 0 = 0
    rw [List.getD_eq_getElem?_getD, List.getElem?_replicate]
    split <;> rfl
  rw [em] at key
  exact key
