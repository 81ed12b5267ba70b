/-! ===== LeftShoes.shoe ===== -/
def xShoe (I : Nat → Nat → Int32) (t w j : Nat) : Nat → Int32
  | 0 => I (t + 6) j | 1 => I (t + 7) j | 2 => I (w + 2) j | 3 => I (t + 9) j | 4 => I (w + 3) j | 5 => xWorthNow I t w j | _ => B (xWorn I t w j)
theorem ct_Ls_shoe {sh : List pSh} {I : Nat → Nat → Int32} {L : Nat → Nat → Int64} {P : Nat → Nat → Option Nat} (hA : kA sh P) {t : Nat} (ht : t = 3 ∨ t = 30) (hwt : P 62 0 = some t) (hxt : P 1 2 = some t) {np ns nd : Nat} (hn : tOK I t np ns nd) (hl : lOK I t) {j k : Nat} (hj : j < ns) (hk : k < 7) : pCn m_Ls_shoe 5 [.ref 1, .int (nI j), .int (nI k)] sh (I, L, P) (rIx (xShoe I t 62 j k) I P) := by
  have hw : (62 : Nat) = 62 ∨ (62 : Nat) = 68 ∨ (62 : Nat) = 74 := Or.inl rfl
  have h16 := hn.2.2.2.1
  have hxw := kp_x_world hA
  refine pCn_of (by decide +kernel) (Nat.le_of_ble_eq_true rfl) ?_
  refine pw_aload_n (k4 := 0) rfl (by decide +kernel) ?_
  refine pq_getP (c := 10) (k := 2) (ks_x hA) (by decide) (by decide) hxt lf_Ls_18 (by decide +kernel) ?_
  refine pw_iload_n (k4 := 1) rfl (by decide +kernel) ?_
  refine pq_callV (ν := m_Ta_hasShoe) (d' := 0) (av := [_]) (c := 7) (by decide +kernel) lm_Ls_125 ok_Ta_hasShoe (show _ = some 1 by decide +kernel) (ks_t hA ht) rfl (by decide) (by omega) (Nat.le_of_ble_eq_true rfl) (ct_Ta_hasShoe hA ht (nI j)) ?_
  rintro _ _ ⟨rfl, rfl⟩
  have hyes : 0 ≤ nI j ∧ nI j < I t 6 := by
    rw [hn.2.2.1]
    exact ⟨by rw [Int32.le_iff_toInt_le, nI_toInt (by omega)]; show (0 : Int) ≤ _; omega, by rw [Int32.lt_iff_toInt_lt, nI_toInt (by omega), nI_toInt (by omega)]; omega⟩
  refine pw_if_ne (off := 13) (tgt := 21) (by decide +kernel) (by decide +kernel) (fun z8 => ?_) (fun z8 => absurd z8 (B_ne.mpr hyes))
  refine pw_iload_n (k4 := 2) rfl (by decide +kernel) ?_
  have hsw : decode m_Ls_shoe.2.1 22 = .ok (.tableswitch 118 0 6 #[42, 52, 62, 72, 82, 92, 101], 42) := by decide +kernel
  rcases (show k = 0 ∨ k = 1 ∨ k = 2 ∨ k = 3 ∨ k = 4 ∨ k = 5 ∨ k = 6 by omega) with rfl | rfl | rfl | rfl | rfl | rfl | rfl
  · refine pw_tableIn (off := 42) (tgt := 64) hsw (by decide) (by decide) (by decide) (by decide +kernel) ?_
    refine pw_aload_n (k4 := 0) rfl (by decide +kernel) ?_
    refine pq_getP (c := 10) (k := 2) (ks_x hA) (by decide) (by decide) hxt lf_Ls_18 (by decide +kernel) ?_
    refine pq_getP (c := 7) (k := 7) (ks_t hA ht) (by decide) (by decide) (kp_t_side hA ht) lf_Ls_136 (by decide +kernel) ?_
    refine pw_iload_n (k4 := 1) rfl (by decide +kernel) ?_
    refine pq_iald j rfl (by omega) (by decide) (ks_t_side hA ht) (by decide +kernel) ?_
    exact pq_iret rfl (by decide +kernel) ⟨rfl, L, rfl⟩
  · refine pw_tableIn (off := 52) (tgt := 74) hsw (by decide) (by decide) (by decide) (by decide +kernel) ?_
    refine pw_aload_n (k4 := 0) rfl (by decide +kernel) ?_
    refine pq_getP (c := 10) (k := 2) (ks_x hA) (by decide) (by decide) hxt lf_Ls_18 (by decide +kernel) ?_
    refine pq_getP (c := 7) (k := 8) (ks_t hA ht) (by decide) (by decide) (kp_t_size hA ht) lf_Ls_139 (by decide +kernel) ?_
    refine pw_iload_n (k4 := 1) rfl (by decide +kernel) ?_
    refine pq_iald j rfl (by omega) (by decide) (ks_t_size hA ht) (by decide +kernel) ?_
    exact pq_iret rfl (by decide +kernel) ⟨rfl, L, rfl⟩
  · refine pw_tableIn (off := 62) (tgt := 84) hsw (by decide) (by decide) (by decide) (by decide +kernel) ?_
    refine pw_aload_n (k4 := 0) rfl (by decide +kernel) ?_
    refine pq_getP (c := 10) (k := 7) (ks_x hA) (by decide) (by decide) hxw lf_Ls_43 (by decide +kernel) ?_
    refine pq_getP (c := 9) (k := 5) (ks_w hA hw) (by decide) (by decide) (kp_w_used hA hw) lf_Ls_142 (by decide +kernel) ?_
    refine pw_iload_n (k4 := 1) rfl (by decide +kernel) ?_
    refine pq_iald j rfl (by omega) (by decide) (ks_w_used hA hw) (by decide +kernel) ?_
    exact pq_iret rfl (by decide +kernel) ⟨rfl, L, rfl⟩
  · refine pw_tableIn (off := 72) (tgt := 94) hsw (by decide) (by decide) (by decide) (by decide +kernel) ?_
    refine pw_aload_n (k4 := 0) rfl (by decide +kernel) ?_
    refine pq_getP (c := 10) (k := 2) (ks_x hA) (by decide) (by decide) hxt lf_Ls_18 (by decide +kernel) ?_
    refine pq_getP (c := 7) (k := 10) (ks_t hA ht) (by decide) (by decide) (kp_t_kind hA ht) lf_Ls_145 (by decide +kernel) ?_
    refine pw_iload_n (k4 := 1) rfl (by decide +kernel) ?_
    refine pq_iald j rfl (by omega) (by decide) (ks_t_kind hA ht) (by decide +kernel) ?_
    exact pq_iret rfl (by decide +kernel) ⟨rfl, L, rfl⟩
  · refine pw_tableIn (off := 82) (tgt := 104) hsw (by decide) (by decide) (by decide) (by decide +kernel) ?_
    refine pw_aload_n (k4 := 0) rfl (by decide +kernel) ?_
    refine pq_getP (c := 10) (k := 7) (ks_x hA) (by decide) (by decide) hxw lf_Ls_43 (by decide +kernel) ?_
    refine pq_getP (c := 9) (k := 6) (ks_w hA hw) (by decide) (by decide) (kp_w_owner hA hw) lf_Ls_148 (by decide +kernel) ?_
    refine pw_iload_n (k4 := 1) rfl (by decide +kernel) ?_
    refine pq_iald j rfl (by omega) (by decide) (ks_w_owner hA hw) (by decide +kernel) ?_
    exact pq_iret rfl (by decide +kernel) ⟨rfl, L, rfl⟩
  · refine pw_tableIn (off := 92) (tgt := 114) hsw (by decide) (by decide) (by decide) (by decide +kernel) ?_
    refine pw_aload_n (k4 := 0) rfl (by decide +kernel) ?_
    refine pq_getP (c := 10) (k := 7) (ks_x hA) (by decide) (by decide) hxw lf_Ls_43 (by decide +kernel) ?_
    refine pw_iload_n (k4 := 1) rfl (by decide +kernel) ?_
    refine pq_callV (ν := m_Wo_worthOf) (d' := 4) (av := [_]) (c := 9) (by decide +kernel) lm_Ls_151 ok_Wo_worthOf (show _ = some 1 by decide +kernel) (ks_w hA hw) rfl (by decide) (by omega) (Nat.le_of_ble_eq_true rfl) (ct_Wo_worthOf hA hw ht hwt hn hl j hj) ?_
    rintro _ _ ⟨rfl, L', rfl⟩
    exact pq_iret rfl (by decide +kernel) ⟨rfl, L', rfl⟩
  · refine pw_tableIn (off := 101) (tgt := 123) hsw (by decide) (by decide) (by decide) (by decide +kernel) ?_
    refine pw_aload_n (k4 := 0) rfl (by decide +kernel) ?_
    refine pq_getP (c := 10) (k := 7) (ks_x hA) (by decide) (by decide) hxw lf_Ls_43 (by decide +kernel) ?_
    refine pw_iload_n (k4 := 1) rfl (by decide +kernel) ?_
    refine pq_callV (ν := m_Wo_isWorn) (d' := 1) (av := [_]) (c := 9) (by decide +kernel) lm_Ls_154 ok_Wo_isWorn (show _ = some 1 by decide +kernel) (ks_w hA hw) rfl (by decide) (by omega) (Nat.le_of_ble_eq_true rfl) (ct_Wo_isWorn hA hw ht hwt hn j hj) ?_
    rintro _ _ ⟨rfl, rfl⟩
    refine pw_if_eq (off := 7) (tgt := 138) (by decide +kernel) (by decide +kernel) (fun z => ?_) (fun z => ?_)
    · refine pw_iconst (n := 0) (v := 0) (by decide) (by decide +kernel) ?_
      exact pq_iret rfl (by decide +kernel) ⟨by rw [show xShoe I t 62 j 6 = B (xWorn I t 62 j) from rfl, z], L, rfl⟩
    · refine pw_iconst (n := 1) (v := 1) (by decide) (by decide +kernel) ?_
      refine pw_goto (off := 4) (tgt := 139) (by decide +kernel) (by decide +kernel) ?_
      exact pq_iret rfl (by decide +kernel) ⟨by rw [show xShoe I t 62 j 6 = B (xWorn I t 62 j) from rfl, (B_01 _).resolve_left z], L, rfl⟩
section
variable {p : Program} {l : Launch} {e : Env} {Rm : Room} {s : State} {m : MethodId} {args : Array Value} {below : List Frame} {meth : Method} {cc : Code} {D : va_G} {dA : Nat → ClassId} {b base : Nat} {sh : List pSh} {I : Nat → Nat → Int32} {L : Nat → Nat → Int64} {P : Nat → Nat → Option Nat}
theorem lj_ent {μ : pMeth} {Z : State → Prop} {h : pH} {av : List Value} {cells slots : Nat} (hl : (pAL av).length ≤ μ.2.2.1) (hR : pRel D dA b base h s s.heap) (k : lJ μ p l e Rm s m args below meth cc D dA b base Z cells slots 0 (pEnt μ.2.2.1 av) [] h) : W p l e Rm s m args below meth cc s.heap [] cells slots Z (entryFrame m ((av.map (pUp (pAd b base))).toArray) μ.2.2.1) := by
  have hle := lv_entry (av.map (pUp (pAd b base))) (n := μ.2.2.1) (by rw [pAL_len]; exact hl)
  rw [lg_entry_eq]
  refine k s.heap [] _ hR va_S.rf ⟨⟨hle.1, hle.2.1, fun q hq => ?_⟩, ?_⟩
  · obtain ⟨i, w⟩ := q
    obtain ⟨v, hv, rfl⟩ := pLv_mem.mp hq
    refine hle.2.2 (i, pUp (pAd b base) v) ?_
    have := pAL_mem (pAd b base) av 0 i _ v hv
    rwa [Nat.zero_add] at this
  · unfold pEnt
    rw [List.length_append, List.length_replicate]
    omega
theorem lj_getP {μ : pMeth} {Z : State → Prop} {cells slots pc a c k i q : Nat} {ls : List (Option Value)} {st : List Value} (C : lC μ p s m args meth cc) (hs : sh[a]? = some (.inl c)) (hk : k < pNf c) (hk0 : pFk c k = 3) (hp : P a k = some q) (hf : Cond.fieldLink μ.1.cls i (pF c k).1 (pF c k).2.1 (pF c k).2.2.1 ∈ lw_g) (hd : decode μ.2.1 pc = .ok (.getfield i, 3)) (kk : lJ μ p l e Rm s m args below meth cc D dA b base Z cells slots (pc + 3) ls (.ref q :: st) (sh, (I, L, P))) : lJ μ p l e Rm s m args below meth cc D dA b base Z cells slots pc ls (.ref a :: st) (sh, (I, L, P)) := by
  refine lj_getfield C hs hk hf hd ?_
  have e : pGv (I, L, P) a (pFk c k) k = .ref q := by
    rw [hk0]
    show va_rf (P a k) = _
    rw [hp]
    rfl
  rw [e]
  exact kk
set_option maxHeartbeats 2000000 in
theorem lj_shoe (C : lC m_Ls_shoe p s m args meth cc) (htr : e.platform.stackTraces = false) (hx : xW base s s.heap) (hex : cc.exceptionTable.isEmpty = true) (h186 : sh.length = 186) (hA : kA sh P) {t : Nat} (ht : t = 3 ∨ t = 30) (hxt : P 1 2 = some t) (sv qv : Int32) {cls : String}
    (hcase : (¬ (0 ≤ sv ∧ sv < I t 6) ∧ cls = "java/lang/IndexOutOfBoundsException") ∨ ((0 ≤ sv ∧ sv < I t 6) ∧ (qv.toInt < 0 ∨ 6 < qv.toInt) ∧ cls = "java/util/NoSuchElementException")) :
    lJ m_Ls_shoe p l e (pRm 8 1 6) s m args below meth cc D dA b base (tZ D dA b base (sh, (I, L, P)) cls below args s) 0 0 0 [some (.ref 1), some (.int sv), some (.int qv)] [] (sh, (I, L, P)) := by
  have hts := C.2.2.2.2.2.1
  refine lj_aload_n C (k4 := 0) (x := 1) rfl (by decide +kernel) ?_
  refine lj_getP C (c := 10) (k := 2) (ks_x hA) (by decide) (by decide) hxt lf_Ls_18 (by decide +kernel) ?_
  refine lj_iload_n C (k4 := 1) (x := sv) rfl (by decide +kernel) ?_
  refine lj_callV C (ν := m_Ta_hasShoe) (d' := 0) (a := t) (c := 7) (av := [.int sv]) (by decide +kernel) lm_Ls_125 ok_Ta_hasShoe (show _ = some 1 by decide +kernel) (ks_t hA ht) rfl (by decide) (by decide) (by decide) (by decide) (by decide) (by decide) (ct_Ta_hasShoe hA ht sv) ?_
  rintro _ _ ⟨rfl, rfl⟩
  rcases hcase with ⟨hno, rfl⟩ | ⟨hyes, hq, rfl⟩
  · refine lj_if_ne C (off := 13) (tgt := 21) (by decide +kernel) (by decide +kernel) (fun z => absurd (B_ne.mp z) hno) (fun _ => ?_)
    exact lj_throw C htr hx hex h186 (by decide) (ic := 133) (cl := 129) (k := 131) (tx := "no such shoe") (by decide) (by decide +kernel) (by decide +kernel) (by decide +kernel) (by decide +kernel) (xp_io hts hx) (xo_io hts hx) (fun H w => by
      obtain ⟨_, _, _, adK, adV, _, _, w2, _⟩ := w
      exact ⟨_, w2⟩) (by decide +kernel) (by decide +kernel) (by decide +kernel) (by decide +kernel) (by decide +kernel)
  · refine lj_if_ne C (off := 13) (tgt := 21) (by decide +kernel) (by decide +kernel) (fun _ => ?_) (fun z => absurd z (B_ne.mpr hyes))
    refine lj_iload_n C (k4 := 2) (x := qv) rfl (by decide +kernel) ?_
    have hsw : decode m_Ls_shoe.2.1 22 = .ok (.tableswitch 118 0 6 #[42, 52, 62, 72, 82, 92, 101], 42) := by decide +kernel
    refine lj_tableOut C (tgt := 140) hsw hq (by decide +kernel) ?_
    exact lj_throw C htr hx hex h186 (by decide) (ic := 161) (cl := 157) (k := 159) (tx := "no such what") (by decide) (by decide +kernel) (by decide +kernel) (by decide +kernel) (by decide +kernel) (xp_ns hts hx) (xo_ns hts hx) (fun H w => by
      obtain ⟨_, _, _, adK, adV, _, _, _, w3⟩ := w
      exact ⟨_, w3⟩) (by decide +kernel) (by decide +kernel) (by decide +kernel) (by decide +kernel) (by decide +kernel)
end
set_option maxHeartbeats 1000000 in
theorem ct_tS {l : Launch} (htl : ∀ e, l.admits e → e.platform.stackTraces = false) {sh : List pSh} {I : Nat → Nat → Int32} {L : Nat → Nat → Int64} {P : Nat → Nat → Option Nat} (h186 : sh.length = 186) (hA : kA sh P) {t : Nat} (ht : t = 3 ∨ t = 30) (hxt : P 1 2 = some t) (sv qv : Int32) {cls : String}
    (hcase : (¬ (0 ≤ sv ∧ sv < I t 6) ∧ cls = "java/lang/IndexOutOfBoundsException") ∨ ((0 ≤ sv ∧ sv < I t 6) ∧ (qv.toInt < 0 ∨ 6 < qv.toInt) ∧ cls = "java/util/NoSuchElementException")) (D : va_G) (dA : Nat → ClassId) (b base : Nat) :
    MetFree l m_Ls_shoe.1 (headSpec (Cond.code m_Ls_shoe.1 m_Ls_shoe.2.1 m_Ls_shoe.2.2.1 m_Ls_shoe.2.2.2 :: lw_g) (pRm 8 1 6)) (fun v U => v = (([Value.ref 1, .int sv, .int qv]).map (pUp (pAd b base))).toArray ∧ pRel D dA b base (sh, (I, L, P)) U U.heap ∧ xW base U U.heap) (fun _ _ _ _ _ => True) (tQ D dA b base (sh, (I, L, P)) cls) := by
  refine MetFree.of_bodyS (code := m_Ls_shoe.2.1) (maxLocals := m_Ls_shoe.2.2.1) (ret := m_Ls_shoe.2.2.2) (by decide +kernel) ?_ ?_
  · intro args s m h hn
    obtain ⟨meth, c, h1, h2, h3, h4, h5, h6, -, -⟩ := Cond.code_spec hn (atoms_spec (ws := Cond.code m_Ls_shoe.1 m_Ls_shoe.2.1 m_Ls_shoe.2.2.1 m_Ls_shoe.2.2.2 :: lw_g) h _ List.mem_cons_self)
    exact ⟨meth, c, h1, h2, h3, h4, h5, h6⟩
  · intro p e s m args below meth c s₁ Bd hml hP _
    obtain ⟨rfl, hR, hx⟩ := hP
    have hts := atoms_spec (ws := Cond.code m_Ls_shoe.1 m_Ls_shoe.2.1 m_Ls_shoe.2.2.1 m_Ls_shoe.2.2.2 :: lw_g) Bd.pre
    have X0 := Stand.of_body Bd
    have C : lC m_Ls_shoe p s m _ meth c := ⟨Bd.exec, Bd.bytes, Bd.returns, hml, findClass_of_methodNamed Bd.named, fun w hw => hts w (List.mem_cons_of_mem _ hw), Bd.notSynchronized⟩
    have hh0 : s₁.heap = s.heap := by rw [Bd.state]; rfl
    have K := lj_ent (μ := m_Ls_shoe) (av := [Value.ref 1, .int sv, .int qv]) (Nat.le_of_ble_eq_true rfl) hR (lj_shoe (l := l) (e := e) (below := below) C (htl e X0.admits) hx (Bd.noHandlers (hts _ List.mem_cons_self)) h186 hA ht hxt sv qv hcase)
    obtain ⟨t, a1, o, b1, b2, b3⟩ := K s₁ hh0 X0
    exact ⟨t, o, a1, b1, b2, b3⟩
