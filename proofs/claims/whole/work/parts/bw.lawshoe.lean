/-! ===== the reference's shoe once more: it leaves the law's own row of longs ===== -/
def rSh2 (I : Nat → Nat → Int32) (L : Nat → Nat → Int64) (P : Nat → Nat → Option Nat) (np : Nat) (s q : Int32) : Option Value → pM → Prop := fun r M => ∃ v I' L', r = some (.int v) ∧ M = (I', L', P) ∧ lfm L' L ∧ rep I' I ∧ (¬ yHasS I s → I' 134 2 = 1) ∧ (yHasS I s → (∀ j, j < 7 → q = nI j → I' 134 2 = 0 ∧ v = yShoe I np s j) ∧ ((∀ j, j < 7 → ¬ q = nI j) → I' 134 2 = 2))
theorem ct_Mo_shoe2 {sh : List pSh} {I : Nat → Nat → Int32} {L : Nat → Nat → Int64} {P : Nat → Nat → Option Nat} (hA : kA sh P) {np ns nd : Nat} (hm : mOK I np ns nd) (hwf : wfL I) (ho : oOK I 0 np ns) (s q : Int32) : pCn m_Mo_shoe 6 [.ref 134, .int s, .int q] sh (I, L, P) (rSh2 I L P np s q) := by
  refine pCn_of (by decide +kernel) (Nat.le_of_ble_eq_true rfl) ?_
  have h5 := hm.2.1
  have h16 := hm.2.2.2.1
  have h8 := hm.2.2.2.2.2
  have hoo := ho.five h5
  refine pw_aload_n (k4 := 0) rfl (by decide +kernel) ?_
  refine pw_iconst (n := 0) (v := 0) (by decide) (by decide +kernel) ?_
  refine pq_putI (c := 11) (k := 2) (ks_m hA) (by decide) (by decide) lf_Mo_175 (Or.inl rfl) (by decide +kernel) ?_
  refine pw_aload_n (k4 := 0) rfl (by decide +kernel) ?_
  refine pw_iload_n (k4 := 1) rfl (by decide +kernel) ?_
  refine pq_callV (ν := m_Mo_isShoe) (d' := 0) (av := [_]) (c := 11) (by decide +kernel) lm_Mo_399 ok_Mo_isShoe (show _ = some 1 by decide +kernel) (ks_m hA) rfl (by decide) (by omega) (Nat.le_of_ble_eq_true rfl) (ct_Mo_isShoe hA _) ?_
  rintro _ _ ⟨rfl, rfl⟩
  refine pn_ifB_ne (off := 9) (tgt := 19) (by decide +kernel) (by decide +kernel) (fun z10 => ?_) (fun z10 => ?_)
  · obtain ⟨j, hj, rfl⟩ := nIn hm.2.2.1 (by omega) z10
    refine pw_iload_n (k4 := 2) rfl (by decide +kernel) ?_
    have hsw20 : decode m_Mo_shoe.2.1 20 = .ok (.tableswitch 101 0 6 #[44, 51, 58, 65, 72, 79, 86], 44) := by decide +kernel
    rcases swIn q 0 6 (by decide) (by decide) with z20 | ⟨j20, z20, y20, e20⟩
    · refine pw_tableOut (tgt := 121) hsw20 z20 (by decide +kernel) ?_
      refine pw_aload_n (k4 := 0) rfl (by decide +kernel) ?_
      refine pw_iconst (n := 2) (v := 2) (by decide) (by decide +kernel) ?_
      refine pq_callV (ν := m_Mo_fails) (d' := 0) (av := [_]) (c := 11) (by decide +kernel) lm_Mo_431 ok_Mo_fails (show _ = some 1 by decide +kernel) (ks_m hA) rfl (by decide) (by omega) (Nat.le_of_ble_eq_true rfl) (ct_Mo_fails hA _) ?_
      rintro _ _ ⟨rfl, rfl⟩
      exact pq_iret rfl (by decide +kernel) ⟨_, _, _, rfl, rfl, (fun _ _ _ => rfl), rep_tt, fun h => absurd z10 h, fun _ => ⟨fun j hj e => absurd e (sw_ne z20 (by omega) (by omega) (by omega)), fun _ => sI_rs⟩⟩
    · rcases (show j20 = 0 ∨ j20 = 1 ∨ j20 = 2 ∨ j20 = 3 ∨ j20 = 4 ∨ j20 = 5 ∨ j20 = 6 by omega) with rfl | rfl | rfl | rfl | rfl | rfl | rfl
      · refine pw_tableIn (off := 44) (tgt := 64) hsw20 (by rw [e20]; decide) (by rw [e20]; decide) (by rw [e20]; decide) (by decide +kernel) ?_
        refine pw_aload_n (k4 := 0) rfl (by decide +kernel) ?_
        refine pq_getP (c := 11) (k := 28) (ks_m hA) (by decide) (by decide) (kp_m_sideOf hA) lf_Mo_35 (by decide +kernel) ?_
        refine pw_iload_n (k4 := 1) rfl (by decide +kernel) ?_
        refine pq_iald j rfl (by omega) (by decide) (ks_m_sideOf hA) (by decide +kernel) ?_
        exact pq_iret rfl (by decide +kernel) ⟨_, _, _, rfl, rfl, (fun _ _ _ => rfl), rep_t, sh_eq z10 (by decide) e20 rfl (by show _ = I 142 (ixn (nI j)); rw [ixn_nI (by omega)]; rfl)⟩
      · refine pw_tableIn (off := 51) (tgt := 71) hsw20 (by rw [e20]; decide) (by rw [e20]; decide) (by rw [e20]; decide) (by decide +kernel) ?_
        refine pw_aload_n (k4 := 0) rfl (by decide +kernel) ?_
        refine pq_getP (c := 11) (k := 29) (ks_m hA) (by decide) (by decide) (kp_m_sizeOf hA) lf_Mo_38 (by decide +kernel) ?_
        refine pw_iload_n (k4 := 1) rfl (by decide +kernel) ?_
        refine pq_iald j rfl (by omega) (by decide) (ks_m_sizeOf hA) (by decide +kernel) ?_
        exact pq_iret rfl (by decide +kernel) ⟨_, _, _, rfl, rfl, (fun _ _ _ => rfl), rep_t, sh_eq z10 (by decide) e20 rfl (by show _ = I 143 (ixn (nI j)); rw [ixn_nI (by omega)]; rfl)⟩
      · refine pw_tableIn (off := 58) (tgt := 78) hsw20 (by rw [e20]; decide) (by rw [e20]; decide) (by rw [e20]; decide) (by decide +kernel) ?_
        refine pw_aload_n (k4 := 0) rfl (by decide +kernel) ?_
        refine pq_getP (c := 11) (k := 55) (ks_m hA) (by decide) (by decide) (kp_m_used hA) lf_Mo_97 (by decide +kernel) ?_
        refine pw_iload_n (k4 := 1) rfl (by decide +kernel) ?_
        refine pq_iald j rfl (by omega) (by decide) (ks_m_used hA) (by decide +kernel) ?_
        exact pq_iret rfl (by decide +kernel) ⟨_, _, _, rfl, rfl, (fun _ _ _ => rfl), rep_t, sh_eq z10 (by decide) e20 rfl (by show _ = I 162 (ixn (nI j)); rw [ixn_nI (by omega)]; rfl)⟩
      · refine pw_tableIn (off := 65) (tgt := 85) hsw20 (by rw [e20]; decide) (by rw [e20]; decide) (by rw [e20]; decide) (by decide +kernel) ?_
        refine pw_aload_n (k4 := 0) rfl (by decide +kernel) ?_
        refine pq_getP (c := 11) (k := 31) (ks_m hA) (by decide) (by decide) (kp_m_kindOf hA) lf_Mo_44 (by decide +kernel) ?_
        refine pw_iload_n (k4 := 1) rfl (by decide +kernel) ?_
        refine pq_iald j rfl (by omega) (by decide) (ks_m_kindOf hA) (by decide +kernel) ?_
        exact pq_iret rfl (by decide +kernel) ⟨_, _, _, rfl, rfl, (fun _ _ _ => rfl), rep_t, sh_eq z10 (by decide) e20 rfl (by show _ = I 145 (ixn (nI j)); rw [ixn_nI (by omega)]; rfl)⟩
      · refine pw_tableIn (off := 72) (tgt := 92) hsw20 (by rw [e20]; decide) (by rw [e20]; decide) (by rw [e20]; decide) (by decide +kernel) ?_
        refine pw_aload_n (k4 := 0) rfl (by decide +kernel) ?_
        refine pq_getP (c := 11) (k := 56) (ks_m hA) (by decide) (by decide) (kp_m_whose hA) lf_Mo_100 (by decide +kernel) ?_
        refine pw_iload_n (k4 := 1) rfl (by decide +kernel) ?_
        refine pq_iald j rfl (by omega) (by decide) (ks_m_whose hA) (by decide +kernel) ?_
        exact pq_iret rfl (by decide +kernel) ⟨_, _, _, rfl, rfl, (fun _ _ _ => rfl), rep_t, sh_eq z10 (by decide) e20 rfl (by show _ = I 163 (ixn (nI j)); rw [ixn_nI (by omega)]; rfl)⟩
      · refine pw_tableIn (off := 79) (tgt := 99) hsw20 (by rw [e20]; decide) (by rw [e20]; decide) (by rw [e20]; decide) (by decide +kernel) ?_
        refine pw_aload_n (k4 := 0) rfl (by decide +kernel) ?_
        refine pw_iconst (n := 0) (v := 0) (by decide) (by decide +kernel) ?_
        refine pw_iload_n (k4 := 1) rfl (by decide +kernel) ?_
        refine pq_callV (ν := m_Mo_worthOf) (d' := 5) (av := [_, _]) (c := 11) (by decide +kernel) lm_Mo_434 ok_Mo_worthOf (show _ = some 2 by decide +kernel) (ks_m hA) rfl (by decide) (by omega) (Nat.le_of_ble_eq_true rfl) (ct_Mo_worthOf hA (by exact hwf) (b := 0) (j := j) (by decide) (by omega) (by exact hoo j hj)) ?_
        rintro _ _ ⟨rfl, ev, L2, rfl, hL2⟩
        exact pq_iret rfl (by decide +kernel) ⟨_, _, _, rfl, rfl, hL2, rep_te, sh_eq z10 (by decide) e20 rfl (by show _ = yWorth I 0 (ixn (nI j)); rw [ixn_nI (by omega)]; rfl)⟩
      · refine pw_tableIn (off := 86) (tgt := 106) hsw20 (by rw [e20]; decide) (by rw [e20]; decide) (by rw [e20]; decide) (by decide +kernel) ?_
        refine pw_aload_n (k4 := 0) rfl (by decide +kernel) ?_
        refine pw_iconst (n := 0) (v := 0) (by decide) (by decide +kernel) ?_
        refine pw_iload_n (k4 := 1) rfl (by decide +kernel) ?_
        refine pq_callV (ν := m_Mo_isWorn) (d' := 0) (av := [_, _]) (c := 11) (by decide +kernel) lm_Mo_437 ok_Mo_isWorn (show _ = some 2 by decide +kernel) (ks_m hA) rfl (by decide) (by omega) (Nat.le_of_ble_eq_true rfl) (ct_Mo_isWorn hA (by exact hm) (b := 0) (by decide) _) ?_
        rintro _ _ ⟨rfl, rfl⟩
        refine pn_ifB_eq (off := 7) (tgt := 119) (by decide +kernel) (by decide +kernel) (fun z112 => ?_) (fun z112 => ?_)
        · refine pw_iconst (n := 0) (v := 0) (by decide) (by decide +kernel) ?_
          exact pq_iret rfl (by decide +kernel) ⟨_, _, _, rfl, rfl, (fun _ _ _ => rfl), rep_t, sh_eq z10 (by decide) e20 rfl (by show _ = B (yWornA I 0 (nI j) np); rw [B_f (show ¬ yWornA I 0 (nI j) np from z112)])⟩
        · refine pw_iconst (n := 1) (v := 1) (by decide) (by decide +kernel) ?_
          refine pw_goto (off := 4) (tgt := 120) (by decide +kernel) (by decide +kernel) ?_
          exact pq_iret rfl (by decide +kernel) ⟨_, _, _, rfl, rfl, (fun _ _ _ => rfl), rep_t, sh_eq z10 (by decide) e20 rfl (by show _ = B (yWornA I 0 (nI j) np); rw [B_t (show yWornA I 0 (nI j) np from z112)])⟩
  · refine pw_aload_n (k4 := 0) rfl (by decide +kernel) ?_
    refine pw_iconst (n := 1) (v := 1) (by decide) (by decide +kernel) ?_
    refine pq_callV (ν := m_Mo_fails) (d' := 0) (av := [_]) (c := 11) (by decide +kernel) lm_Mo_431 ok_Mo_fails (show _ = some 1 by decide +kernel) (ks_m hA) rfl (by decide) (by omega) (Nat.le_of_ble_eq_true rfl) (ct_Mo_fails hA _) ?_
    rintro _ _ ⟨rfl, rfl⟩
    exact pq_iret rfl (by decide +kernel) ⟨_, _, _, rfl, rfl, (fun _ _ _ => rfl), rep_tt, fun _ => sI_rs, fun h => absurd h z10⟩
/-! ===== contracts of the law's shoe ===== -/
set_option maxHeartbeats 1000000 in
theorem pCtW_of {μ : pMeth} {d NC NS : Nat} {av : List Value} {h : pH} {Q : Option Value → pH → Prop} {hh : List (Nat × Nat × Nat × Nat)} (hy : plainName μ.1.cls = true) (hl : (pAL av).length ≤ μ.2.2.1) (hc : h.1.length ≤ NC) (hs : pSz h.1 ≤ NS) (hw : pWP μ d NC NS Q 0 (pEnt μ.2.2.1 av) [] h) (l : Launch) (D : va_G) (dA : Nat → ClassId) (b base : Nat) :
    Met l μ.1 (Cond.codeWith μ.1 μ.2.1 μ.2.2.1 μ.2.2.2 hh :: lw_g) (pRm d (NC - h.1.length) (NS - pSz h.1)) (fun v U => v = (av.map (pUp (pAd b base))).toArray ∧ pRel D dA b base h U U.heap) (pQc D dA b base NC NS Q) (NC - h.1.length) (NS - pSz h.1) (fun q => base ≤ q) := by
  refine va_MetW (cc := μ.2.1) (maxL := μ.2.2.1) (ret := μ.2.2.2) (hh := hh) hy rfl ?_
  intro p e s m args below meth c s₁ B hml hv
  obtain ⟨rfl, hR⟩ := hv
  have hts := atoms_spec (ws := Cond.codeWith μ.1 μ.2.1 μ.2.2.1 μ.2.2.2 hh :: lw_g) B.pre
  have hown : s.vm.findClass μ.1.cls = some m.cls := findClass_of_methodNamed B.named
  have hcx : pCx μ p s m ((av.map (pUp (pAd b base))).toArray) meth c := ⟨B.exec, B.bytes, B.returns, hml, hown, fun w hw => hts w (List.mem_cons_of_mem _ hw), B.notSynchronized, (name_of_methodNamed B.named B.method).1⟩
  have hle := lv_entry (av.map (pUp (pAd b base))) (n := μ.2.2.1) (by rw [pAL_len]; exact hl)
  have h0 : 0 < h.1.length := by
    obtain ⟨-, -, -, -, L, hL, -⟩ := hR
    exact (List.getElem?_eq_some_iff.mp hL).1
  have hbs : base ≤ s.heap.size := by
    have : base + h.1.length ≤ s.heap.size + 1 := hR.2.2.1.1.1
    omega
  rw [lg_entry_eq]
  refine hw p l e s m _ below meth c D dA b base s.heap [] _ (NC - h.1.length) (NS - pSz h.1) 0 0 h.1.length (pSz h.1) hcx hR va_S.rf hbs ⟨⟨hle.1, hle.2.1, fun q hq => ?_⟩, ?_⟩ (by omega) (by omega) (by omega) (by omega)
  · obtain ⟨i, w⟩ := q
    obtain ⟨v, hv, rfl⟩ := pLv_mem.mp hq
    refine hle.2.2 (i, pUp (pAd b base) v) ?_
    have := pAL_mem (pAd b base) av 0 i _ v hv
    rwa [Nat.zero_add] at this
  · unfold pEnt
    rw [List.length_append, List.length_replicate]
    omega
/-- the law's shoe where the class's answers -/
def rLwS (v : Int32) (I : Nat → Nat → Int32) (P : Nat → Nat → Option Nat) : Option Value → pM → Prop := fun r M => r = some (.int 0) ∧ ∃ L', M = (I, sL L' 185 0 v.toInt64, P)
theorem wp_LwS {sh : List pSh} {I : Nat → Nat → Int32} {L : Nat → Nat → Int64} {P : Nat → Nat → Option Nat} (hA : kA sh P) (h185 : sh[185]? = some (.inr (3, 1))) {t : Nat} (ht : t = 3 ∨ t = 30) (hwt : P 62 0 = some t) (hxt : P 1 2 = some t) {np ns nd : Nat} (hn : tOK I t np ns nd) (hl : lOK I t) {j k : Nat} (hj : j < ns) (hk : k < 7) :
    pWn m_LwS 6 sh (rLwS (xShoe I t 62 j k) I P) 0 (pEnt 5 [.ref 1, .int (nI j), .int (nI k), .ref 185]) [] (I, L, P) := by
  refine pw_aload_n (k4 := 3) (x := 185) rfl (by decide +kernel) ?_
  refine pw_iconst (n := 0) (v := 0) (by decide) (by decide +kernel) ?_
  refine pw_aload_n (k4 := 0) (x := 1) rfl (by decide +kernel) ?_
  refine pw_iload_n (k4 := 1) rfl (by decide +kernel) ?_
  refine pw_iload_n (k4 := 2) rfl (by decide +kernel) ?_
  refine pq_callV (ν := m_Ls_shoe) (d' := 5) (av := [_, _]) (c := 10) (by decide +kernel) lm_Lw_7 ok_Ls_shoe (show _ = some 2 by decide +kernel) (ks_x hA) rfl (by decide) (by omega) (Nat.le_of_ble_eq_true rfl) (ct_Ls_shoe hA ht hwt hxt hn hl hj hk) ?_
  rintro _ _ ⟨rfl, L', rfl⟩
  refine pw_i2l (by decide +kernel) ?_
  refine pq_last 0 rfl (by decide) (by decide) h185 (by decide +kernel) ?_
  refine pw_goto (off := 11) (tgt := 21) (by decide +kernel) (by decide +kernel) ?_
  refine pw_iconst (n := 0) (v := 0) (by decide) (by decide +kernel) ?_
  exact pq_iret rfl (by decide +kernel) ⟨rfl, L', rfl⟩
/-- the law's shoe where the class's throws -/
def tQc (D : va_G) (dA : Nat → ClassId) (b base : Nat) (h : pH) (v : Int32) : Array Value → State → Outcome → State → Prop := fun _ st o t => o = .returned (some (.int v)) ∧ pRel D dA b base h t t.heap ∧ va_F (fun q => base ≤ q) st t
set_option maxHeartbeats 2000000 in
theorem ct_LwT {l : Launch} (htl : ∀ e, l.admits e → e.platform.stackTraces = false) {sh : List pSh} {I : Nat → Nat → Int32} {L : Nat → Nat → Int64} {P : Nat → Nat → Option Nat} (h186 : sh.length = 186) (hA : kA sh P) {t : Nat} (ht : t = 3 ∨ t = 30) (hxt : P 1 2 = some t) (sv qv v : Int32)
    (hcase : (¬ (0 ≤ sv ∧ sv < I t 6) ∧ v = 1) ∨ ((0 ≤ sv ∧ sv < I t 6) ∧ (qv.toInt < 0 ∨ 6 < qv.toInt) ∧ v = 2)) (D : va_G) (dA : Nat → ClassId) (b base : Nat) :
    Met l m_LwS.1 (Cond.codeWith m_LwS.1 m_LwS.2.1 m_LwS.2.2.1 m_LwS.2.2.2 hLwS :: lw_g) (pRm 12 1 6) (fun v U => v = (([Value.ref 1, .int sv, .int qv, .ref 185]).map (pUp (pAd b base))).toArray ∧ pRel D dA b base (sh, (I, L, P)) U U.heap ∧ xW base U U.heap) (tQc D dA b base (sh, (I, L, P)) v) 1 6 (fun q => base ≤ q) := by
  refine va_MetW (cc := m_LwS.2.1) (maxL := m_LwS.2.2.1) (ret := m_LwS.2.2.2) (hh := hLwS) (by decide +kernel) rfl ?_
  intro p e s m args below meth c s₁ Bd hml hP
  obtain ⟨rfl, hR, hx⟩ := hP
  have hts := atoms_spec (ws := Cond.codeWith m_LwS.1 m_LwS.2.1 m_LwS.2.2.1 m_LwS.2.2.2 hLwS :: lw_g) Bd.pre
  have X0 := Stand.of_body Bd
  have C : lC m_LwS p s m (([Value.ref 1, .int sv, .int qv, .ref 185]).map (pUp (pAd b base))).toArray meth c := ⟨Bd.exec, Bd.bytes, Bd.returns, hml, findClass_of_methodNamed Bd.named, fun w hw => hts w (List.mem_cons_of_mem _ hw), Bd.notSynchronized⟩
  have htab : c.exceptionTable.toList = tableOf hLwS := by
    obtain ⟨m9, meth9, c9, hn9, h1, h2, h3, h4, h5, -⟩ := Cond.codeWith_spec (hts _ List.mem_cons_self)
    cases Bd.named.symm.trans hn9
    cases Bd.method.symm.trans h1
    cases X0.code.symm.trans h2
    rw [← h5]
    exact (table_eq _).symm
  have fin : ∀ (hp : Nat) (x : Nat) (d0 : decode m_LwS.2.1 hp = .ok (.astore 4, 2)) (z : Int) (hz : Int32.ofInt z = v) (d2 : decode m_LwS.2.1 (hp + 2) = .ok (.iconst z, 1)) (d3 : decode m_LwS.2.1 (hp + 2 + 1) = .ok (.ireturn, 1)), lJ m_LwS p l e (pRm 12 1 6) s m (([Value.ref 1, .int sv, .int qv, .ref 185]).map (pUp (pAd b base))).toArray below meth c D dA b base (MQ below (tQc D dA b base (sh, (I, L, P)) v) (([Value.ref 1, .int sv, .int qv, .ref 185]).map (pUp (pAd b base))).toArray s 1 6 (fun q => base ≤ q)) (0 + 1) (0 + 6) hp [some (.ref 1), some (.int sv), some (.int qv), some (.ref 185), none] [.ref x] (sh, (I, L, P)) := by
    intro hp x d0 z hz d2 d3
    refine lj_astore C (Nat.le_of_ble_eq_true rfl) d0 ?_
    refine lj_iconst C hz d2 ?_
    intro H locs arr R S L
    exact W.iret C.1 C.2.1 (C.2.2.1.trans rfl) (fun t ht hW => ⟨rfl, ⟨⟨va_K.moved hW.alike R.1.1, pNw.warm hW R.1.2⟩, by rw [ht]; exact R.2.1, ⟨by rw [ht]; exact R.2.2.1.1, by rw [ht]; exact R.2.2.1.2.warm hW⟩, R.2.2.2.1, R.2.2.2.2.choose, R.2.2.2.2.choose_spec.1, by rw [ht]; exact va_X.moved hW.alike R.2.2.2.2.choose_spec.2⟩, S.F ht⟩) S.2.2 d3 C.2.2.2.2.2.2
  refine lj_ent (μ := m_LwS) (av := [Value.ref 1, .int sv, .int qv, .ref 185]) (Nat.le_of_ble_eq_true rfl) hR ?_
  show lJ m_LwS p l e (pRm 12 1 6) s m (([Value.ref 1, .int sv, .int qv, .ref 185]).map (pUp (pAd b base))).toArray below meth c D dA b base (MQ below (tQc D dA b base (sh, (I, L, P)) v) (([Value.ref 1, .int sv, .int qv, .ref 185]).map (pUp (pAd b base))).toArray s 1 6 (fun q => base ≤ q)) 0 0 0 [some (.ref 1), some (.int sv), some (.int qv), some (.ref 185), none] [] (sh, (I, L, P))
  refine lj_aload_n C (k4 := 3) (x := 185) rfl (by decide +kernel) ?_
  refine lj_iconst C (n := 0) (v := 0) (by decide) (by decide +kernel) ?_
  refine lj_aload_n C (k4 := 0) (x := 1) rfl (by decide +kernel) ?_
  refine lj_iload_n C (k4 := 1) (x := sv) rfl (by decide +kernel) ?_
  refine lj_iload_n C (k4 := 2) (x := qv) rfl (by decide +kernel) ?_
  rcases hcase with ⟨hno, rfl⟩ | ⟨hyes, hq, rfl⟩
  · exact lj_catch C hx htab (cls := "java/lang/IndexOutOfBoundsException") (hp := 13) (Or.inl ⟨rfl, rfl⟩) (av := [.int sv, .int qv]) rfl (ct_tS htl h186 hA ht hxt sv qv (Or.inl ⟨hno, rfl⟩) D dA b base) (ks_x hA) (by decide) (by decide) (by decide) (by decide) (by decide) (fun x => fin 13 x (by decide +kernel) 1 (by decide) (by decide +kernel) (by decide +kernel))
  · exact lj_catch C hx htab (cls := "java/util/NoSuchElementException") (hp := 17) (Or.inr ⟨rfl, rfl⟩) (av := [.int sv, .int qv]) rfl (ct_tS htl h186 hA ht hxt sv qv (Or.inr ⟨hyes, hq, rfl⟩) D dA b base) (ks_x hA) (by decide) (by decide) (by decide) (by decide) (by decide) (fun x => fin 17 x (by decide +kernel) 2 (by decide) (by decide +kernel) (by decide +kernel))
