/-! ===== rows that read and write memory ===== -/
/-- what a field of a kind holds -/
def pGv (M : pM) (a kd k : Nat) : Value := match kd with
  | 2 => .long (M.2.1 a k)
  | 3 => va_rf (M.2.2 a k)
  | _ => .int (M.1 a k)
theorem pUp_rf (g : Nat → Nat) (o : Option Nat) : pUp g (va_rf o) = va_rf (o.map g) := by cases o <;> rfl
theorem pUp_gv (g : Nat → Nat) (M : pM) (a kd k : Nat) : pUp g (pGv M a kd k) = pFv g M a kd k := by
  match kd with
  | 0 => rfl
  | 1 => rfl
  | 2 => rfl
  | 3 => exact pUp_rf g _
  | n + 4 => rfl
theorem pRel_set {D : va_G} {dA : Nat → ClassId} {b base a : Nat} {sh : List pSh} {M M' : pM} {s : State} {H H1 : Heap} {x : pSh} (R : pRel D dA b base (sh, M) s H) (hx : sh[a + 1]? = some x)
    (h1 : ∀ q, q ≠ a + 1 → M'.1 q = M.1 q) (h2 : ∀ q, q ≠ a + 1 → M'.2.1 q = M.2.1 q) (h3 : ∀ q, q ≠ a + 1 → M'.2.2 q = M.2.2 q) (ha : va_at D vwCl (base + a, pCell dA (pAd b base) M' (a + 1) x) H1) (z : H1.size = H.size) (o : ∀ q, q ≠ base + a → H1[q]? = H[q]?) : pRel D dA b base (sh, M') s H1 := by
  obtain ⟨hK, hP, hz, hb, L, hL, hX⟩ := R
  have hla : a + 1 < sh.length := (List.getElem?_eq_some_iff.mp hx).1
  have hz1 : pSzO base sh.length H1 := by
    obtain ⟨z1, z2, z3⟩ := hz.1
    have z1' : base + sh.length ≤ H.size + 1 := z1
    have z2' : sh.length < 186 → H.size + 1 = base + sh.length := z2
    exact ⟨by rw [z]; exact z1', by rw [z]; exact z2', fun q cell hq he => z3 q cell hq (by rw [← o q (by omega)]; exact he)⟩
  refine ⟨hK, ?_, ⟨hz1, hz.2.kept fun q _ hq => o q (by omega)⟩, hb, L, hL, ?_⟩
  · rw [pWs_set hx h1 h2 h3]
    exact va_P.set hP pWs_D (pWs_get (h := (sh, M)) hx) ha o
  · show va_X b L (M'.1 0) s H1
    rw [h1 0 (by omega)]
    exact va_X.kept hX (o b (by omega))
theorem pRel_at {D : va_G} {dA : Nat → ClassId} {b base a : Nat} {h : pH} {s : State} {H : Heap} {x : pSh} (R : pRel D dA b base h s H) (hx : h.1[a]? = some x) (hne : ∀ L, x ≠ .inr (5, L)) : ∃ a', a = a' + 1 ∧ (pWs dA b base h)[a']? = some (base + a', pCell dA (pAd b base) h.2 (a' + 1) x) ∧ va_at D vwCl (base + a', pCell dA (pAd b base) h.2 (a' + 1) x) H := by
  obtain ⟨hK, hP, hz, hb, L, hL, hX⟩ := R
  cases a with
  | zero =>
    rw [hL] at hx
    cases hx
    exact absurd rfl (hne L)
  | succ a => exact ⟨a, rfl, pWs_get hx, hP a _ (pWs_get hx)⟩
theorem pFs_get {c k : Nat} (hk : k < pNf c) (f : Nat → Value) : ((List.range (pNf c)).map f)[k]? = some (f k) := by
  rw [List.getElem?_map, List.getElem?_range hk]
  rfl
theorem pFs_set {c k : Nat} (f f' : Nat → Value) (hne : ∀ j, j ≠ k → f' j = f j) : ((List.range (pNf c)).map f).set k (f' k) = (List.range (pNf c)).map f' := by
  apply List.ext_getElem?
  intro j
  by_cases hj : j = k
  · subst hj
    by_cases hl : j < pNf c
    · rw [List.getElem?_set_self (by simp; exact hl), pFs_get hl]
    · rw [List.getElem?_eq_none (by simp; omega), List.getElem?_eq_none (by simp; omega)]
  · rw [List.getElem?_set_ne (Ne.symm hj)]
    by_cases hl : j < pNf c
    · rw [pFs_get hl, pFs_get hl, hne j hj]
    · rw [List.getElem?_eq_none (by simp; omega), List.getElem?_eq_none (by simp; omega)]
theorem pw_getfield {μ : pMeth} {d NC NS : Nat} {Q : Option Value → pH → Prop} {pc : Nat} {ls : List (Option Value)} {st : List Value} {h : pH} {a c k i : Nat} (hs : h.1[a]? = some (.inl c)) (hk : k < pNf c) (hf : Cond.fieldLink μ.1.cls i (pF c k).1 (pF c k).2.1 (pF c k).2.2.1 ∈ lw_g)
    (hd : decode μ.2.1 pc = .ok (.getfield i, 3)) (kk : pWP μ d NC NS Q (pc + 3) ls (pGv h.2 a (pFk c k) k :: st) h) : pWP μ d NC NS Q pc ls (.ref a :: st) h := by
  intro p l e s m args below meth cc D dA b base H locs arr mc ms cells slots nc ns C R S B L e1 e2 e3 e4
  have hc : c < 12 := pNf_lt hk
  obtain ⟨a', rfl, he, -⟩ := pRel_at R hs (fun _ q => by cases q)
  have kk1 := kk p l e s m args below meth cc D dA b base H locs arr mc ms cells slots nc ns C R S B L e1 e2 e3 e4
  rw [List.map_cons, pUp_gv] at kk1
  exact va_get (own := μ.1.cls) (ref := (pF c k).1) (C := pRn c) (T := pF c) (N := pNf c) (ci := c) C.1 C.2.1 C.2.2.2.2.2.1 (pIn_ok c hc) C.2.2.2.2.1 R.1.1 R.2.1 a' he (pCl_ok c hc) k hk (C.2.2.2.2.2.1 _ hf) (fun x q => q) (pFs_get hk _) hd kk1
/-- a put, of whatever kind -/
theorem pw_putG {μ : pMeth} {d NC NS : Nat} {Q : Option Value → pH → Prop} {pc : Nat} {ls : List (Option Value)} {st : List Value} {sh : List pSh} {M M' : pM} {a c k i : Nat} {v : Value} (hs : sh[a]? = some (.inl c)) (hk : k < pNf c) (hf : Cond.fieldLink μ.1.cls i (pF c k).1 (pF c k).2.1 (pF c k).2.2.1 ∈ lw_g)
    (hfin : pFin c k = false ∨ (μ.1.name = "<init>" ∧ (pF c k).1 = μ.1.cls)) (h1 : ∀ q, q ≠ a → M'.1 q = M.1 q) (h2 : ∀ q, q ≠ a → M'.2.1 q = M.2.1 q) (h3 : ∀ q, q ≠ a → M'.2.2 q = M.2.2 q)
    (hv : ∀ g, pFv g M' a (pFk c k) k = pUp g v) (hne : ∀ g j, j ≠ k → pFv g M' a (pFk c j) j = pFv g M a (pFk c j) j) (hn : ∀ g, narrow (pTyF c k) (pUp g v) = pUp g v) (hfit : ∀ g, fits (pTyF c k) (pUp g v) = true)
    (hd : decode μ.2.1 pc = .ok (.putfield i, 3)) (kk : pWP μ d NC NS Q (pc + 3) ls st (sh, M')) : pWP μ d NC NS Q pc ls (v :: .ref a :: st) (sh, M) := by
  intro p l e s m args below meth cc D dA b base H locs arr mc ms cells slots nc ns C R S B L e1 e2 e3 e4
  have hc : c < 12 := pNf_lt hk
  obtain ⟨a', rfl, he, r, hr, cell, q1, q2, q3, q4⟩ := pRel_at R hs (fun _ q => by cases q)
  have hrr : r = (pRn c, pF c, pNf c) := Option.some.inj (hr.symm.trans (pCl_ok c hc))
  subst hrr
  have hts := C.2.2.2.2.2.1
  have hin := pIn_ok c hc
  have hap := va_apart (own := μ.1.cls) hts hin (pTyF c) (pTy_ok c hc) (pNm_ok c hc) R.1.1 (pCl_ok c hc)
  obtain ⟨hS, hfc, kC, hkC, hkind⟩ := R.1.1.1 c _ (pCl_ok c hc)
  obtain ⟨cf, kf, fi, f, hi, hsl⟩ := hS k hk
  have hlay := hts _ (hin _ (u_in_lay hk))
  unfold u_lay at hlay
  have hst := (u_facts hfc hkC (u_lays hts hin hk) hi).1
  have fin : ∀ H' : Heap, H'[base + a']? = some (cell.setSlot f.slot (pUp (pAd b base) v)) → H'.size = H.size → (∀ q, q ≠ base + a' → H'[q]? = H[q]?) → W p l e (pRm d mc ms) s m args below meth cc H' (locs ++ [⟨base + a', f.slot⟩]) cells slots (MQ below (pQc D dA b base NC NS Q) args s mc ms (fun q => base ≤ q)) (F0 m (pc + 3) arr (st.map (pUp (pAd b base)))) := by
    intro H' g1 g2 g3
    refine kk p l e s m args below meth cc D dA b base H' _ arr mc ms cells slots nc ns C (pRel_set R hs h1 h2 h3 ?_ g2 g3) (S.put g2 g3 (Nat.le_add_right base a')) B L e1 e2 e3 e4
    rw [hsl] at g1
    refine ⟨_, pCl_ok c hc, t_OB.to (V := updV (vp_V ((List.range (pNf c)).map fun j => pFv (pAd b base) M (a' + 1) (pFk c j) j)) k (pUp (pAd b base) v)) ⟨_, g1, q2, q3, t_set q4 hap hk _⟩ (fun j _ => ?_)⟩
    rw [vp_updV_set (by simp; exact hk)]
    congr 1
    have hs2 := pFs_set (c := c) (k := k) (fun j => pFv (pAd b base) M (a' + 1) (pFk c j) j) (fun j => pFv (pAd b base) M' (a' + 1) (pFk c j) j) (fun j hj => hne _ j hj)
    rw [hv] at hs2
    exact hs2
  cases hb : pFin c k with
  | false =>
    rw [if_neg (by rw [pFin_ok c hc k hk, hb]; decide)] at hlay
    have h6 := u_store hfc hkC hkind hlay hi (pTy_ok c hc k hk) (hn _) (hfit (pAd b base))
    exact W.putK C.1 C.2.1 (f := f) ⟨C.2.2.2.2.1, hts _ hf, ⟨_, _, _, hi⟩, hst⟩ (by rw [q2]; exact h6) q1 q3 (by rw [hsl]; exact k2_hasslot (q4 k hk)) rfl rfl hd fin
  | true =>
    rw [if_pos (by rw [pFin_ok c hc k hk, hb])] at hlay
    rcases hfin with q | ⟨hi1, hi2⟩
    · rw [hb] at q; cases q
    have hcf : m.cls = cf := by
      obtain ⟨_, _, c', _, _, _, -, -, hf', -, -, -, hown2, -⟩ := Cond.laysFinal_spec hlay
      have e1 : c' = cf := by have := hi.symm.trans hf'; simp at this; exact this.1.symm
      rw [hi2] at hown2
      rw [← e1]; exact Option.some.inj (C.2.2.2.2.1.symm.trans hown2)
    have h6 := u_fits hfc hkC hkind (Or.inr hlay) hi (pTy_ok c hc k hk) (hn _) (hfit (pAd b base))
    exact W.putFinK C.1 C.2.1 C.2.2.2.2.1 (hts _ hf) hi hst hcf (by rw [C.2.2.2.2.2.2.2]; exact hi1) (by rw [q2]; exact h6) q1 q3 (by rw [hsl]; exact k2_hasslot (q4 k hk)) rfl rfl hd fin
def pSI (M : pM) (a k : Nat) (x : Int32) : pM := (va_up M.1 a (upd (M.1 a) k x), M.2.1, M.2.2)
def pSL (M : pM) (a k : Nat) (x : Int64) : pM := (M.1, va_up M.2.1 a (vp_updL (M.2.1 a) k x), M.2.2)
def pSP (M : pM) (a k : Nat) (x : Option Nat) : pM := (M.1, M.2.1, va_up M.2.2 a (va_up (M.2.2 a) k x))
theorem va_up_ne2 {α : Type} (f : Nat → α) {a q : Nat} (v : α) (h : q ≠ a) : va_up f a v q = f q := by simp [va_up, h]
theorem va_up_eq2 {α : Type} (f : Nat → α) (a : Nat) (v : α) : va_up f a v a = v := by simp [va_up]
theorem pKd_0 {c k : Nat} (hk : k < pNf c) (h : pFk c k = 0) : pTyF c k = .int := by
  have := pKd_ok c (pNf_lt hk) k hk
  rw [h] at this
  revert this
  cases pTyF c k <;> simp [pKdT]
theorem pKd_1 {c k : Nat} (hk : k < pNf c) (h : pFk c k = 1) : pTyF c k = .boolean := by
  have := pKd_ok c (pNf_lt hk) k hk
  rw [h] at this
  revert this
  cases pTyF c k <;> simp [pKdT]
theorem pKd_2 {c k : Nat} (hk : k < pNf c) (h : pFk c k = 2) : pTyF c k = .long := by
  have := pKd_ok c (pNf_lt hk) k hk
  rw [h] at this
  revert this
  cases pTyF c k <;> simp [pKdT]
theorem pKd_3 {c k : Nat} (hk : k < pNf c) (h : pFk c k = 3) : (∃ n, pTyF c k = .object n) ∨ ∃ t, pTyF c k = .array t := by
  have := pKd_ok c (pNf_lt hk) k hk
  rw [h] at this
  revert this
  cases pTyF c k <;> simp [pKdT]
theorem pFv_I (g : Nat → Nat) (M : pM) (a kd k : Nat) (h : kd ≠ 2) (h3 : kd ≠ 3) : pFv g M a kd k = .int (M.1 a k) := by
  match kd with
  | 0 => rfl
  | 1 => rfl
  | 2 => exact absurd rfl h
  | 3 => exact absurd rfl h3
  | n + 4 => rfl
theorem pFv_congr (g : Nat → Nat) {M M' : pM} {a kd k : Nat} (h1 : M'.1 a k = M.1 a k) (h2 : M'.2.1 a k = M.2.1 a k) (h3 : M'.2.2 a k = M.2.2 a k) : pFv g M' a kd k = pFv g M a kd k := by
  match kd with
  | 0 => simp only [pFv, h1]
  | 1 => simp only [pFv, h1]
  | 2 => simp only [pFv, h2]
  | 3 => simp only [pFv, h3]
  | n + 4 => simp only [pFv, h1]
section
variable {μ : pMeth} {d NC NS : Nat} {Q : Option Value → pH → Prop} {pc : Nat} {ls : List (Option Value)} {st : List Value} {sh : List pSh} {M : pM} {a c k i : Nat}
theorem pw_putI {x : Int32} (hs : sh[a]? = some (.inl c)) (hk : k < pNf c) (hk0 : pFk c k = 0) (hf : Cond.fieldLink μ.1.cls i (pF c k).1 (pF c k).2.1 (pF c k).2.2.1 ∈ lw_g) (hfin : pFin c k = false ∨ (μ.1.name = "<init>" ∧ (pF c k).1 = μ.1.cls))
    (hd : decode μ.2.1 pc = .ok (.putfield i, 3)) (kk : pWP μ d NC NS Q (pc + 3) ls st (sh, pSI M a k x)) : pWP μ d NC NS Q pc ls (.int x :: .ref a :: st) (sh, M) := by
  refine pw_putG (M' := pSI M a k x) (v := .int x) hs hk hf hfin (fun q hq => va_up_ne2 _ _ hq) (fun _ _ => rfl) (fun _ _ => rfl) (fun g => ?_) (fun g j hj => ?_) (fun g => ?_) (fun g => ?_) hd kk
  · rw [hk0]; show Value.int _ = _; simp [pSI, va_up, upd, pUp]
  · exact pFv_congr g (by simp [pSI, va_up, upd, hj]) rfl rfl
  · rw [pKd_0 hk hk0]; rfl
  · rw [pKd_0 hk hk0]; rfl
theorem pw_putZ {x : Int32} (hs : sh[a]? = some (.inl c)) (hk : k < pNf c) (hk0 : pFk c k = 1) (hx : x = 0 ∨ x = 1) (hf : Cond.fieldLink μ.1.cls i (pF c k).1 (pF c k).2.1 (pF c k).2.2.1 ∈ lw_g) (hfin : pFin c k = false ∨ (μ.1.name = "<init>" ∧ (pF c k).1 = μ.1.cls))
    (hd : decode μ.2.1 pc = .ok (.putfield i, 3)) (kk : pWP μ d NC NS Q (pc + 3) ls st (sh, pSI M a k x)) : pWP μ d NC NS Q pc ls (.int x :: .ref a :: st) (sh, M) := by
  refine pw_putG (M' := pSI M a k x) (v := .int x) hs hk hf hfin (fun q hq => va_up_ne2 _ _ hq) (fun _ _ => rfl) (fun _ _ => rfl) (fun g => ?_) (fun g j hj => ?_) (fun g => ?_) (fun g => ?_) hd kk
  · rw [hk0]; show Value.int _ = _; simp [pSI, va_up, upd, pUp]
  · exact pFv_congr g (by simp [pSI, va_up, upd, hj]) rfl rfl
  · rw [pKd_1 hk hk0]; rcases hx with rfl | rfl <;> rfl
  · rw [pKd_1 hk hk0]; rcases hx with rfl | rfl <;> rfl
theorem pw_putL {x : Int64} (hs : sh[a]? = some (.inl c)) (hk : k < pNf c) (hk0 : pFk c k = 2) (hf : Cond.fieldLink μ.1.cls i (pF c k).1 (pF c k).2.1 (pF c k).2.2.1 ∈ lw_g) (hfin : pFin c k = false ∨ (μ.1.name = "<init>" ∧ (pF c k).1 = μ.1.cls))
    (hd : decode μ.2.1 pc = .ok (.putfield i, 3)) (kk : pWP μ d NC NS Q (pc + 3) ls st (sh, pSL M a k x)) : pWP μ d NC NS Q pc ls (.long x :: .ref a :: st) (sh, M) := by
  refine pw_putG (M' := pSL M a k x) (v := .long x) hs hk hf hfin (fun _ _ => rfl) (fun q hq => va_up_ne2 _ _ hq) (fun _ _ => rfl) (fun g => ?_) (fun g j hj => ?_) (fun g => ?_) (fun g => ?_) hd kk
  · rw [hk0]; show Value.long _ = _; simp [pSL, va_up, vp_updL, pUp]
  · exact pFv_congr g rfl (by simp [pSL, va_up, vp_updL, hj]) rfl
  · rw [pKd_2 hk hk0]; rfl
  · rw [pKd_2 hk hk0]; rfl
theorem pw_putP {q : Nat} (hs : sh[a]? = some (.inl c)) (hk : k < pNf c) (hk0 : pFk c k = 3) (hf : Cond.fieldLink μ.1.cls i (pF c k).1 (pF c k).2.1 (pF c k).2.2.1 ∈ lw_g) (hfin : pFin c k = false ∨ (μ.1.name = "<init>" ∧ (pF c k).1 = μ.1.cls))
    (hd : decode μ.2.1 pc = .ok (.putfield i, 3)) (kk : pWP μ d NC NS Q (pc + 3) ls st (sh, pSP M a k (some q))) : pWP μ d NC NS Q pc ls (.ref q :: .ref a :: st) (sh, M) := by
  refine pw_putG (M' := pSP M a k (some q)) (v := .ref q) hs hk hf hfin (fun _ _ => rfl) (fun _ _ => rfl) (fun x hx => va_up_ne2 _ _ hx) (fun g => ?_) (fun g j hj => ?_) (fun g => ?_) (fun g => ?_) hd kk
  · rw [hk0]; show va_rf (Option.map g _) = _; simp [pSP, va_up, pUp, va_rf]
  · exact pFv_congr g rfl rfl (by simp [pSP, va_up, hj])
  · rcases pKd_3 hk hk0 with ⟨n, e⟩ | ⟨t, e⟩ <;> rw [e] <;> rfl
  · rcases pKd_3 hk hk0 with ⟨n, e⟩ | ⟨t, e⟩ <;> rw [e] <;> rfl
end
