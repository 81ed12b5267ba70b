/-! ===== the judgement of the law's own walk: any target, any room, cells and slots as they are ===== -/
def lC (μ : pMeth) (p : Program) (s : State) (m : MethodId) (args : Array Value) (meth : Method) (c : Code) : Prop := p.tables.exec = Jvm.exec ∧ c.code = μ.2.1 ∧ meth.sig.returnType = μ.2.2.2 ∧ c.maxLocals = μ.2.2.1 ∧ s.vm.findClass μ.1.cls = some m.cls ∧ (∀ w ∈ lw_g, w.before args s = true) ∧ meth.locks = false
def lJ (μ : pMeth) (p : Program) (l : Launch) (e : Env) (Rm : Room) (s : State) (m : MethodId) (args : Array Value) (below : List Frame) (meth : Method) (c : Code) (D : va_G) (dA : Nat → ClassId) (b base : Nat) (Z : State → Prop) (cells slots : Nat) (pc : Nat) (ls : List (Option Value)) (st : List Value) (h : pH) : Prop :=
  ∀ (H : Heap) (locs : List Loc) (arr : Array Slot), pRel D dA b base h s H → va_S (fun q => base ≤ q) s.heap H locs → pLs arr μ.2.2.1 (pAd b base) ls → W p l e Rm s m args below meth c H locs cells slots Z (F0 m pc arr (st.map (pUp (pAd b base))))
section
variable {μ : pMeth} {p : Program} {l : Launch} {e : Env} {Rm : Room} {s : State} {m : MethodId} {args : Array Value} {below : List Frame} {meth : Method} {cc : Code} {D : va_G} {dA : Nat → ClassId} {b base : Nat} {Z : State → Prop} {cells slots pc idx n a j : Nat} {ls : List (Option Value)} {st : List Value} {h : pH}
theorem lj_iconst (C : lC μ p s m args meth cc) {n : Int} {v : Int32} (hv : Int32.ofInt n = v) (hd : decode μ.2.1 pc = .ok (.iconst n, 1)) (k : lJ μ p l e Rm s m args below meth cc D dA b base Z cells slots (pc + 1) ls (.int v :: st) h) : lJ μ p l e Rm s m args below meth cc D dA b base Z cells slots pc ls (st) h := by
  intro H locs arr R S L
  exact lv_iconst C.1 C.2.1 hd hv (k H locs arr R S L)
theorem lj_bipush (C : lC μ p s m args meth cc) {n : Int} {v : Int32} (hv : (Int8.ofInt n).toInt32 = v) (hd : decode μ.2.1 pc = .ok (.bipush n, 2)) (k : lJ μ p l e Rm s m args below meth cc D dA b base Z cells slots (pc + 2) ls (.int v :: st) h) : lJ μ p l e Rm s m args below meth cc D dA b base Z cells slots pc ls (st) h := by
  intro H locs arr R S L
  exact lv_bipush C.1 C.2.1 hd hv (k H locs arr R S L)
theorem lj_iload_n (C : lC μ p s m args meth cc) {k4 : Fin 4} {x : Int32} (hl : ls[(k4 : Nat)]? = some (some (.int x))) (hd : decode μ.2.1 pc = .ok (.iload_n k4, 1)) (k : lJ μ p l e Rm s m args below meth cc D dA b base Z cells slots (pc + 1) ls (.int x :: st) h) : lJ μ p l e Rm s m args below meth cc D dA b base Z cells slots pc ls (st) h := by
  intro H locs arr R S L
  exact lv_iload_n C.1 C.2.1 hd rfl (pLs_at L hl) (k H locs arr R S L)
theorem lj_iload (C : lC μ p s m args meth cc) {i : Nat} {x : Int32} (hl : ls[i]? = some (some (.int x))) (hd : decode μ.2.1 pc = .ok (.iload i, 2)) (k : lJ μ p l e Rm s m args below meth cc D dA b base Z cells slots (pc + 2) ls (.int x :: st) h) : lJ μ p l e Rm s m args below meth cc D dA b base Z cells slots pc ls (st) h := by
  intro H locs arr R S L
  exact lv_iload C.1 C.2.1 hd (pLs_at L hl) (k H locs arr R S L)
theorem lj_aload_n (C : lC μ p s m args meth cc) {k4 : Fin 4} {x : Nat} (hl : ls[(k4 : Nat)]? = some (some (.ref x))) (hd : decode μ.2.1 pc = .ok (.aload_n k4, 1)) (k : lJ μ p l e Rm s m args below meth cc D dA b base Z cells slots (pc + 1) ls (.ref x :: st) h) : lJ μ p l e Rm s m args below meth cc D dA b base Z cells slots pc ls (st) h := by
  intro H locs arr R S L
  exact lv_aload_n C.1 C.2.1 hd rfl (pLs_at L hl) (k H locs arr R S L)
theorem lj_aload (C : lC μ p s m args meth cc) {i : Nat} {x : Nat} (hl : ls[i]? = some (some (.ref x))) (hd : decode μ.2.1 pc = .ok (.aload i, 2)) (k : lJ μ p l e Rm s m args below meth cc D dA b base Z cells slots (pc + 2) ls (.ref x :: st) h) : lJ μ p l e Rm s m args below meth cc D dA b base Z cells slots pc ls (st) h := by
  intro H locs arr R S L
  exact lv_aload C.1 C.2.1 hd (pLs_at L hl) (k H locs arr R S L)
theorem lj_istore_n (C : lC μ p s m args meth cc) {k4 : Fin 4} {x : Int32} (hn : (k4 : Nat) < ls.length) (hd : decode μ.2.1 pc = .ok (.istore_n k4, 1)) (k : lJ μ p l e Rm s m args below meth cc D dA b base Z cells slots (pc + 1) (pSt ls (k4 : Nat) (.int x)) st h) : lJ μ p l e Rm s m args below meth cc D dA b base Z cells slots pc ls (.int x :: st) h := by
  intro H locs arr R S L
  exact lv_istore_n (nL := μ.2.2.1) C.1 C.2.1 hd rfl L.1 (by rw [← L.2]; exact hn) rfl (fun arr' h' => k H locs arr' R S (pLs_st (v := .int x) L h'))
theorem lj_istore (C : lC μ p s m args meth cc) {i : Nat} {x : Int32} (hn : i < ls.length) (hd : decode μ.2.1 pc = .ok (.istore i, 2)) (k : lJ μ p l e Rm s m args below meth cc D dA b base Z cells slots (pc + 2) (pSt ls i (.int x)) st h) : lJ μ p l e Rm s m args below meth cc D dA b base Z cells slots pc ls (.int x :: st) h := by
  intro H locs arr R S L
  exact lv_istore (nL := μ.2.2.1) C.1 C.2.1 hd L.1 (by rw [← L.2]; exact hn) rfl (fun arr' h' => k H locs arr' R S (pLs_st (v := .int x) L h'))
theorem lj_astore_n (C : lC μ p s m args meth cc) {k4 : Fin 4} {x : Nat} (hn : (k4 : Nat) < ls.length) (hd : decode μ.2.1 pc = .ok (.astore_n k4, 1)) (k : lJ μ p l e Rm s m args below meth cc D dA b base Z cells slots (pc + 1) (pSt ls (k4 : Nat) (.ref x)) st h) : lJ μ p l e Rm s m args below meth cc D dA b base Z cells slots pc ls (.ref x :: st) h := by
  intro H locs arr R S L
  exact lv_astore_n (nL := μ.2.2.1) C.1 C.2.1 hd rfl L.1 (by rw [← L.2]; exact hn) rfl (fun arr' h' => k H locs arr' R S (pLs_st (v := .ref x) L h'))
theorem lj_astore (C : lC μ p s m args meth cc) {i : Nat} {x : Nat} (hn : i < ls.length) (hd : decode μ.2.1 pc = .ok (.astore i, 2)) (k : lJ μ p l e Rm s m args below meth cc D dA b base Z cells slots (pc + 2) (pSt ls i (.ref x)) st h) : lJ μ p l e Rm s m args below meth cc D dA b base Z cells slots pc ls (.ref x :: st) h := by
  intro H locs arr R S L
  exact lv_astore (nL := μ.2.2.1) C.1 C.2.1 hd L.1 (by rw [← L.2]; exact hn) rfl (fun arr' h' => k H locs arr' R S (pLs_st (v := .ref x) L h'))
theorem lj_iinc (C : lC μ p s m args meth cc) {i : Nat} {n : Int} {x v : Int32} (hl : ls[i]? = some (some (.int x))) (hv : x + Int32.ofInt n = v) (hd : decode μ.2.1 pc = .ok (.iinc i n, 3)) (k : lJ μ p l e Rm s m args below meth cc D dA b base Z cells slots (pc + 3) (pSt ls i (.int v)) st h) : lJ μ p l e Rm s m args below meth cc D dA b base Z cells slots pc ls st h := by
  intro H locs arr R S L
  obtain ⟨kk, hkk⟩ := List.getElem?_of_mem (pLv_mem.mpr ⟨_, hl, rfl⟩ : (i, pUp (pAd b base) (.int x)) ∈ pLv (pAd b base) ls)
  exact lv_iinc (nL := μ.2.2.1) C.1 C.2.1 hd L.1 hkk hv (by rw [← L.2]; exact (List.getElem?_eq_some_iff.mp hl).1) rfl (fun arr' h' => k H locs arr' R S (pLs_st (v := .int v) L h'))
theorem lj_iadd (C : lC μ p s m args meth cc) {x y : Int32}  (hd : decode μ.2.1 pc = .ok (.iadd, 1)) (k : lJ μ p l e Rm s m args below meth cc D dA b base Z cells slots (pc + 1) ls (.int (x + y) :: st) h) : lJ μ p l e Rm s m args below meth cc D dA b base Z cells slots pc ls (.int y :: .int x :: st) h := by
  intro H locs arr R S L
  exact lv_iadd C.1 C.2.1 hd (k H locs arr R S L)
theorem lj_isub (C : lC μ p s m args meth cc) {x y : Int32}  (hd : decode μ.2.1 pc = .ok (.isub, 1)) (k : lJ μ p l e Rm s m args below meth cc D dA b base Z cells slots (pc + 1) ls (.int (x - y) :: st) h) : lJ μ p l e Rm s m args below meth cc D dA b base Z cells slots pc ls (.int y :: .int x :: st) h := by
  intro H locs arr R S L
  exact lv_isub C.1 C.2.1 hd (k H locs arr R S L)
theorem lj_iand (C : lC μ p s m args meth cc) {x y : Int32}  (hd : decode μ.2.1 pc = .ok (.iand, 1)) (k : lJ μ p l e Rm s m args below meth cc D dA b base Z cells slots (pc + 1) ls (.int (x &&& y) :: st) h) : lJ μ p l e Rm s m args below meth cc D dA b base Z cells slots pc ls (.int y :: .int x :: st) h := by
  intro H locs arr R S L
  exact lv_iand C.1 C.2.1 hd (k H locs arr R S L)
theorem lj_lcmp (C : lC μ p s m args meth cc) {x y : Int64}  (hd : decode μ.2.1 pc = .ok (.lcmp, 1)) (k : lJ μ p l e Rm s m args below meth cc D dA b base Z cells slots (pc + 1) ls (.int (lg_cmp x y) :: st) h) : lJ μ p l e Rm s m args below meth cc D dA b base Z cells slots pc ls (.long y :: .long x :: st) h := by
  intro H locs arr R S L
  exact W.lcmp C.1 C.2.1 hd (k H locs arr R S L)
theorem lj_i2l (C : lC μ p s m args meth cc) {x : Int32}  (hd : decode μ.2.1 pc = .ok (.i2l, 1)) (k : lJ μ p l e Rm s m args below meth cc D dA b base Z cells slots (pc + 1) ls (.long x.toInt64 :: st) h) : lJ μ p l e Rm s m args below meth cc D dA b base Z cells slots pc ls (.int x :: st) h := by
  intro H locs arr R S L
  exact lv_i2l C.1 C.2.1 hd rfl (k H locs arr R S L)
theorem lj_dup (C : lC μ p s m args meth cc) {v : Value} (hv : v.category = 1) (hd : decode μ.2.1 pc = .ok (.dup, 1)) (k : lJ μ p l e Rm s m args below meth cc D dA b base Z cells slots (pc + 1) ls (v :: v :: st) h) : lJ μ p l e Rm s m args below meth cc D dA b base Z cells slots pc ls (v :: st) h := by
  intro H locs arr R S L
  exact lv_dup C.1 C.2.1 hd (by rw [pUp_cat]; exact hv) (k H locs arr R S L)
theorem lj_if_eq (C : lC μ p s m args meth cc) {x : Int32} {off : Int} {tgt : Nat} (ht : (pc : Int) + off = (tgt : Int)) (hd : decode μ.2.1 pc = .ok (.ifCond .eq off, 3)) (kt : x = 0 → lJ μ p l e Rm s m args below meth cc D dA b base Z cells slots tgt ls st h) (kf : ¬ (x = 0) → lJ μ p l e Rm s m args below meth cc D dA b base Z cells slots (pc + 3) ls st h) : lJ μ p l e Rm s m args below meth cc D dA b base Z cells slots pc ls (.int x :: st) h := by
  intro H locs arr R S L
  exact lv_if_eq C.1 C.2.1 hd ht (fun z => kt z H locs arr R S L) (fun z => kf z H locs arr R S L)
theorem lj_if_ne (C : lC μ p s m args meth cc) {x : Int32} {off : Int} {tgt : Nat} (ht : (pc : Int) + off = (tgt : Int)) (hd : decode μ.2.1 pc = .ok (.ifCond .ne off, 3)) (kt : ¬ x = 0 → lJ μ p l e Rm s m args below meth cc D dA b base Z cells slots tgt ls st h) (kf : x = 0 → lJ μ p l e Rm s m args below meth cc D dA b base Z cells slots (pc + 3) ls st h) : lJ μ p l e Rm s m args below meth cc D dA b base Z cells slots pc ls (.int x :: st) h := by
  intro H locs arr R S L
  exact lv_if_ne C.1 C.2.1 hd ht (fun z => kt z H locs arr R S L) (fun z => kf z H locs arr R S L)
theorem lj_icmp_eq (C : lC μ p s m args meth cc) {x y : Int32} {off : Int} {tgt : Nat} (ht : (pc : Int) + off = (tgt : Int)) (hd : decode μ.2.1 pc = .ok (.if_icmp .eq off, 3)) (kt : x = y → lJ μ p l e Rm s m args below meth cc D dA b base Z cells slots tgt ls st h) (kf : ¬ (x = y) → lJ μ p l e Rm s m args below meth cc D dA b base Z cells slots (pc + 3) ls st h) : lJ μ p l e Rm s m args below meth cc D dA b base Z cells slots pc ls (.int y :: .int x :: st) h := by
  intro H locs arr R S L
  exact lv_icmp_eq C.1 C.2.1 hd ht (fun z => kt z H locs arr R S L) (fun z => kf z H locs arr R S L)
theorem lj_icmp_gt (C : lC μ p s m args meth cc) {x y : Int32} {off : Int} {tgt : Nat} (ht : (pc : Int) + off = (tgt : Int)) (hd : decode μ.2.1 pc = .ok (.if_icmp .gt off, 3)) (kt : y < x → lJ μ p l e Rm s m args below meth cc D dA b base Z cells slots tgt ls st h) (kf : ¬ (y < x) → lJ μ p l e Rm s m args below meth cc D dA b base Z cells slots (pc + 3) ls st h) : lJ μ p l e Rm s m args below meth cc D dA b base Z cells slots pc ls (.int y :: .int x :: st) h := by
  intro H locs arr R S L
  exact lv_icmp_gt C.1 C.2.1 hd ht (fun z => kt z H locs arr R S L) (fun z => kf z H locs arr R S L)
theorem lj_goto (C : lC μ p s m args meth cc) {off : Int} {tgt : Nat} (ht : (pc : Int) + off = (tgt : Int)) (hd : decode μ.2.1 pc = .ok (.goto off, 3)) (k : lJ μ p l e Rm s m args below meth cc D dA b base Z cells slots tgt ls st h) : lJ μ p l e Rm s m args below meth cc D dA b base Z cells slots pc ls st h := by
  intro H locs arr R S L
  exact lv_goto C.1 C.2.1 hd ht (k H locs arr R S L)
theorem lj_tableOut (C : lC μ p s m args meth cc) {dflt lo hi : Int} {offs : Array Int} {len tgt : Nat} {x : Int32} (hd : decode μ.2.1 pc = .ok (.tableswitch dflt lo hi offs, len)) (hx : x.toInt < lo ∨ hi < x.toInt) (ht : (pc : Int) + dflt = (tgt : Int)) (k : lJ μ p l e Rm s m args below meth cc D dA b base Z cells slots tgt ls st h) : lJ μ p l e Rm s m args below meth cc D dA b base Z cells slots pc ls (.int x :: st) h := by
  intro H locs arr R S L
  exact lv_tableOut C.1 C.2.1 hd hx ht (k H locs arr R S L)
theorem lj_tableIn (C : lC μ p s m args meth cc) {dflt lo hi off : Int} {offs : Array Int} {len tgt : Nat} {x : Int32} (hd : decode μ.2.1 pc = .ok (.tableswitch dflt lo hi offs, len)) (h1 : ¬ x.toInt < lo) (h2 : ¬ hi < x.toInt) (ho : offs[(x.toInt - lo).toNat]? = some off) (ht : (pc : Int) + off = (tgt : Int)) (k : lJ μ p l e Rm s m args below meth cc D dA b base Z cells slots tgt ls st h) : lJ μ p l e Rm s m args below meth cc D dA b base Z cells slots pc ls (.int x :: st) h := by
  intro H locs arr R S L
  exact lv_tableIn C.1 C.2.1 hd h1 h2 ho ht (k H locs arr R S L)
theorem lj_slen (C : lC μ p s m args meth cc) (hs : h.1[0]? = some (.inr (5, n))) (hd : decode μ.2.1 pc = .ok (.arraylength, 1)) (kk : lJ μ p l e Rm s m args below meth cc D dA b base Z cells slots (pc + 1) ls (.int (Int32.ofNat n) :: st) h) : lJ μ p l e Rm s m args below meth cc D dA b base Z cells slots pc ls (.ref 0 :: st) h := by
  intro H locs arr R S L
  have kk1 := kk H locs arr R S L
  obtain ⟨hK, hP, hz, hb, L', hL, scr, h1, h2, h3, h4, h5⟩ := R
  rw [hs] at hL
  cases hL
  exact W.alen (n := Int32.ofNat n) C.1 C.2.1 h1 h2 (by rw [h4] <;> rfl) rfl rfl hd kk1
theorem lj_sald (C : lC μ p s m args meth cc) {i : Int32} (hs : h.1[0]? = some (.inr (5, n))) (hin : vp_in i n) (hd : decode μ.2.1 pc = .ok (.iaload, 1)) (kk : lJ μ p l e Rm s m args below meth cc D dA b base Z cells slots (pc + 1) ls (.int (h.2.1 0 i.toNatClampNeg) :: st) h) : lJ μ p l e Rm s m args below meth cc D dA b base Z cells slots pc ls (.int i :: .ref 0 :: st) h := by
  intro H locs arr R S L
  have kk1 := kk H locs arr R S L
  obtain ⟨hK, hP, hz, hb, L', hL, scr, h1, h2, h3, h4, h5⟩ := R
  rw [hs] at hL
  cases hL
  have hlt : i.toNatClampNeg < n := Nat.not_le.mp fun q => hin (Or.inr q)
  exact W.iald (v := .int (h.2.1 0 i.toNatClampNeg)) C.1 C.2.1 h1 h2 h3 (by rw [h4]; exact hin) (h5 _ hlt) rfl rfl hd kk1
theorem lj_lald (C : lC μ p s m args meth cc) {i : Int32} (hs : h.1[a]? = some (.inr (3, n))) (hin : vp_in i n) (hd : decode μ.2.1 pc = .ok (.laload, 1)) (kk : lJ μ p l e Rm s m args below meth cc D dA b base Z cells slots (pc + 1) ls (.long (h.2.2.1 a i.toNatClampNeg) :: st) h) : lJ μ p l e Rm s m args below meth cc D dA b base Z cells slots pc ls (.int i :: .ref a :: st) h := by
  intro H locs arr R S L
  obtain ⟨a', rfl, he, -⟩ := pRel_at R hs (fun _ q => by cases q)
  exact va_lald C.1 C.2.1 R.1.1 R.2.1 a' 3 he (pTy3 dA) hin hd (kk H locs arr R S L)
theorem lj_getfield (C : lC μ p s m args meth cc) {a c k i : Nat} (hs : h.1[a]? = some (.inl c)) (hk : k < pNf c) (hf : Cond.fieldLink μ.1.cls i (pF c k).1 (pF c k).2.1 (pF c k).2.2.1 ∈ lw_g)
    (hd : decode μ.2.1 pc = .ok (.getfield i, 3)) (kk : lJ μ p l e Rm s m args below meth cc D dA b base Z cells slots (pc + 3) ls (pGv h.2 a (pFk c k) k :: st) h) : lJ μ p l e Rm s m args below meth cc D dA b base Z cells slots pc ls (.ref a :: st) h := by
  intro H locs arr R S L
  have hc : c < 12 := pNf_lt hk
  obtain ⟨a', rfl, he, -⟩ := pRel_at R hs (fun _ q => by cases q)
  have kk1 := kk H locs arr R S L
  rw [List.map_cons, pUp_gv] at kk1
  exact va_get (own := μ.1.cls) (ref := (pF c k).1) (C := pRn c) (T := pF c) (N := pNf c) (ci := c) C.1 C.2.1 C.2.2.2.2.2.1 (pIn_ok c hc) C.2.2.2.2.1 R.1.1 R.2.1 a' he (pCl_ok c hc) k hk (C.2.2.2.2.2.1 _ hf) (fun x q => q) (pFs_get hk _) hd kk1
end
