/-! ===== rows of rows ===== -/
theorem lk_Hi_9 : Cond.classLink "LeftShoes$History" 9 ("[" ++ (FieldType.array .int).toString) ∈ lw_g := (pG (inT2 _ (List.mem_of_getElem? (i := 141) rfl)) rfl)
theorem arrV_cg {c : ClassId} {N : Nat} {f g : Nat → Value} (h : ∀ j, j < N → f j = g j) : arrV c N f = arrV c N g := by
  unfold arrV
  have : (fun j : Fin N => f j.val) = (fun j : Fin N => g j.val) := funext fun j => h j.val j.isLt
  rw [this]
theorem outer_arr {c : ClassId} {N h0 : Nat} : ∀ i, Jvm.Free.Multi.outerC c N h0 i = arrV c N (fun j => if j < i then .ref (h0 + 1 + j) else .null)
  | 0 => (arrV_new c N .null).trans (arrV_cg fun j _ => (if_neg (by omega)).symm)
  | i + 1 => by
    show (Jvm.Free.Multi.outerC c N h0 i).setSlot i (.ref (h0 + 1 + i)) = _
    rw [outer_arr i, arrV_store]
    refine arrV_cg fun j _ => ?_
    unfold updV
    by_cases e : j = i
    · subst e; rw [if_pos rfl, if_pos (by omega)]
    · rw [if_neg e]
      dsimp only
      by_cases h : j < i
      · rw [if_pos h, if_pos (by omega)]
      · rw [if_neg h, if_neg (by omega)]
def mP (P : Nat → Nat → Option Nat) (n N : Nat) : Nat → Nat → Option Nat := va_up P n (fun j => if j < N then some (n + 1 + j) else none)
def mMs (M : pM) (n N : Nat) : Nat → pM
  | 0 => (zI M.1 n, zL M.2.1 n, mP M.2.2 n N)
  | i + 1 => pNewM (mMs M n N i) (n + 1 + i)
theorem mMs_P {M : pM} {n N : Nat} : ∀ i, (mMs M n N i).2.2 n = fun j => if j < N then some (n + 1 + j) else none
  | 0 => va_up_eq2 _ _ _
  | i + 1 => (va_up_ne2 _ _ (by omega)).trans (mMs_P i)
theorem hx_get {H : Heap} {k q : Nat} (hk : k ≤ H.size) (hq : q < k) : (H.extract 0 k)[q]? = H[q]? := by
  rw [Array.getElem?_extract, if_pos (by omega), Nat.zero_add]
theorem hx_size {H : Heap} {k : Nat} (hk : k ≤ H.size) : (H.extract 0 k).size = k := by
  rw [Array.size_extract]; omega
set_option maxHeartbeats 2000000 in
theorem kR_multi {D : va_G} {dA : Nat → ClassId} {b base : Nat} {x0 : pSh} {M : pM} {s : State} {H Hf : Heap} {n N K : Nat} (hg0 : kFs[n - 1]? = some (.inr (4, N))) (hgi : ∀ i, i < N → kFs[n + i]? = some (.inr (0, K))) (h1 : 1 ≤ n) (hN : n + 1 + N ≤ 186)
    (R : pRel D dA b base (kT x0 n, M) s H) (z : Hf.size = H.size + 1 + N) (o : ∀ q, q < H.size → Hf[q]? = H[q]?) (ho : Hf[H.size]? = some (arrV (dA 4) N (fun j => .ref (H.size + 1 + j)))) (hi : ∀ j, j < N → Hf[H.size + 1 + j]? = some (arrV (dA 0) K (fun _ => .int 0))) :
    ∀ i, i ≤ N → pRel D dA b base (kT x0 (n + 1 + i), mMs M n N i) s (Hf.extract 0 (H.size + 1 + i))
  | 0, _ => by
    have e := kT_len (x0 := x0) (n := n) (by omega)
    have hz : H.size + 1 = base + (kT x0 n).length := R.2.2.1.1.2.1 (by show (kT x0 n).length < 186; rw [e]; omega)
    rw [e] at hz
    have w := pRel_push (x := .inr (4, N)) (M' := mMs M n N 0) (H1 := Hf.extract 0 (H.size + 1)) (by rw [e]; omega) R (fun q hq => va_up_ne2 _ _ (by rw [← e]; exact hq)) (fun q hq => va_up_ne2 _ _ (by rw [← e]; exact hq)) (fun q hq => va_up_ne2 _ _ (by rw [← e]; exact hq)) (by
        rw [e]
        show (Hf.extract 0 (H.size + 1))[H.size]? = some (arrV (dA 4) N (fun j => va_rf (((mMs M n N 0).2.2 n j).map (pAd b base))))
        rw [hx_get (by omega) (by omega), ho]
        refine congrArg some (arrV_cg fun j hj => ?_)
        rw [mMs_P]
        dsimp only
        rw [if_pos hj]
        show Value.ref (H.size + 1 + j) = Value.ref (pAd b base (n + 1 + j))
        rw [show n + 1 + j = (n + j) + 1 by omega]
        show _ = Value.ref (base + (n + j))
        rw [show H.size + 1 + j = base + (n + j) by omega]) (by rw [hx_size (by omega)]) (fun q hq => by rw [hx_get (by omega) (by omega)]; exact o q hq)
    rw [kT_push h1 hg0] at w
    exact w
  | i + 1, hiN => by
    have ih := kR_multi hg0 hgi h1 hN R z o ho hi i (by omega)
    have e := kT_len (x0 := x0) (n := n + 1 + i) (by omega)
    have hs : (Hf.extract 0 (H.size + 1 + i)).size = H.size + 1 + i := hx_size (by omega)
    have w := pRel_push (x := .inr (0, K)) (M' := mMs M n N (i + 1)) (H1 := Hf.extract 0 (H.size + 1 + (i + 1))) (by rw [e]; omega) ih (fun q hq => va_up_ne2 _ _ (by rw [← e]; exact hq)) (fun q hq => va_up_ne2 _ _ (by rw [← e]; exact hq)) (fun q hq => va_up_ne2 _ _ (by rw [← e]; exact hq)) (by
        rw [e, hs]
        show (Hf.extract 0 (H.size + 1 + (i + 1)))[H.size + 1 + i]? = some (arrV (dA 0) K (fun j => .int ((mMs M n N (i + 1)).1 (n + 1 + i) j)))
        rw [hx_get (by omega) (by omega), hi i (by omega)]
        refine congrArg some (arrV_cg fun j hj => ?_)
        show Value.int 0 = Value.int (va_up (mMs M n N i).1 (n + 1 + i) (fun _ => 0) (n + 1 + i) j)
        rw [va_up_eq2]) (by rw [hs, hx_size (by omega)]; omega) (fun q hq => by rw [hs] at hq; rw [hx_get (by omega) (by omega), hx_get (by omega) (by omega)])
    rw [kT_push (by omega) (by rw [show n + 1 + i - 1 = n + i by omega]; exact hgi i (by omega))] at w
    exact w
theorem kT_szM {x0 : pSh} {n N K : Nat} (hg0 : kFs[n - 1]? = some (.inr (4, N))) (hgi : ∀ i, i < N → kFs[n + i]? = some (.inr (0, K))) (h1 : 1 ≤ n) : ∀ i, i ≤ N → pSz (kT x0 (n + 1 + i)) = pSz (kT x0 n) + N + i * K
  | 0, _ => by
    rw [Nat.zero_mul, Nat.add_zero, ← kT_push h1 hg0, pSz_push]
    rfl
  | i + 1, h => by
    rw [show n + 1 + (i + 1) = (n + 1 + i) + 1 by omega, ← kT_push (x0 := x0) (n := n + 1 + i) (s := .inr (0, K)) (by omega) (by rw [show n + 1 + i - 1 = n + i by omega]; exact hgi i (by omega)), pSz_push, kT_szM hg0 hgi h1 i (by omega), Nat.succ_mul]
    show _ + K = _
    omega
section
variable {μ : pMeth} {d N' : Nat} {x0 : pSh} {Q : Option Value → pM → Prop} {pc i : Nat} {ls : List (Option Value)} {st : List Value} {M : pM}
set_option maxHeartbeats 4000000 in
theorem kw_multi (n N K : Nat) {x y : Int32} (hd : decode μ.2.1 pc = .ok (.multianewarray i 2, 4)) (hcl : Cond.classLink μ.1.cls i ("[" ++ (FieldType.array .int).toString) ∈ lw_g) (hx : ¬ x < 0) (hy : ¬ y < 0) (hxn : x.toNatClampNeg = N) (hyn : y.toNatClampNeg = K) (hb : N ≤ 1000) (hb2 : K ≤ 1000)
    (hg0 : kFs[n - 1]? = some (.inr (4, N))) (hgi : ∀ i, i < N → kFs[n + i]? = some (.inr (0, K))) (h1 : 1 ≤ n) (hN : n + 1 + N ≤ N') (hN2 : N' ≤ 186) (k : kWP μ d x0 N' Q (pc + 4) ls (.ref n :: st) (n + 1 + N) (mMs M n N N)) : kWP μ d x0 N' Q pc ls (.int y :: .int x :: st) n M := by
  intro p l e s m args below meth cc D dA b base H locs arr mc ms cells slots nc ns C R S B L e1 e2 e3 e4 T hT X
  have hts := C.2.2.2.2.2.1
  have el := kT_len (x0 := x0) (n := n) (by omega)
  have elN := kT_len (x0 := x0) hN2
  have hz : H.size + 1 = base + (kT x0 n).length := R.2.2.1.1.2.1 (by show (kT x0 n).length < 186; rw [el]; omega)
  have e3' : cells + nc = (kT x0 n).length := e3
  have e4' : slots + ns = pSz (kT x0 n) := e4
  have eS := kT_szM (x0 := x0) hg0 hgi h1 N (Nat.le_refl _)
  have eS2 := kT_sz (x0 := x0) hN
  rw [el] at hz e3'
  rw [elN] at e1
  subst hxn
  subst hyn
  obtain ⟨vm₁, cA, comp, hW, hfA, hfC, -, -, X1, step⟩ := X.multianewarray2F C.1 C.2.2.2.2.1 (hts _ hcl) (pOv (Vm.Alike.refl s.vm) R.1.2.2) (hts _ ac_I) (g := F0 m pc arr ((Value.int y :: Value.int x :: st).map (pUp (pAd b base)))) rfl (by rw [C.2.1]; exact hd) rfl hx hy (by omega) (by show _ * 4 ≤ _; omega) (by omega) rfl rfl (by show _ ≤ mc; omega) (by show _ ≤ ms; omega)
  have hcA : cA = dA 4 := by
    have w : s.vm.findClass ("[" ++ (FieldType.array .int).toString) = some (dA 4) := (R.1.1.2 4 _ rfl).2
    exact Option.some.inj (hfA.symm.trans w)
  have hcC : comp = dA 0 := by
    have w : s.vm.findClass ("[" ++ FieldType.int.toString) = some (dA 0) := (R.1.1.2 0 _ rfl).2
    exact Option.some.inj (hfC.symm.trans w)
  subst hcA
  subst hcC
  subst hT
  obtain ⟨f1, f2, f3, f4⟩ := Jvm.Free.Multi.fill_facts (T.setVm vm₁) (dA 4) (dA 0) x.toNatClampNeg y.toNatClampNeg (defaultValue .int) x.toNatClampNeg
  have hO : Jvm.Free.Multi.outerC (dA 4) x.toNatClampNeg T.heap.size x.toNatClampNeg = arrV (dA 4) x.toNatClampNeg (fun j => .ref (T.heap.size + 1 + j)) := by
    rw [outer_arr]
    exact arrV_cg fun j hj => if_pos hj
  have RR := kR_multi (Hf := (Jvm.Free.Multi.fill (T.setVm vm₁) (dA 4) (dA 0) x.toNatClampNeg y.toNatClampNeg (defaultValue .int) x.toNatClampNeg).heap) hg0 hgi h1 (by omega) R f1 (fun q hq => Jvm.Free.Multi.fill_old (T.setVm vm₁) _ _ _ _ _ hq _) (f2.trans (congrArg some hO)) (fun j hj => (Jvm.Free.Multi.fill_inner (T.setVm vm₁) _ _ _ _ _ _ _ hj).trans (congrArg some (arrV_new _ _ _))) x.toNatClampNeg (Nat.le_refl _)
  have f1' : (Jvm.Free.Multi.fill (T.setVm vm₁) (dA 4) (dA 0) x.toNatClampNeg y.toNatClampNeg (defaultValue .int) x.toNatClampNeg).heap.size = T.heap.size + 1 + x.toNatClampNeg := f1
  rw [← f1', Array.extract_size] at RR
  have eL := kT_len (x0 := x0) (n := n + 1 + x.toNatClampNeg) (by omega)
  have key := k p l e s m args below meth cc D dA b base _ locs arr mc ms (cells + 1 + x.toNatClampNeg) (slots + x.toNatClampNeg + x.toNatClampNeg * y.toNatClampNeg) nc ns C RR ⟨Nat.le_trans S.1 (by rw [f1']; omega), fun q hq1 hq2 => (Jvm.Free.Multi.fill_old (T.setVm vm₁) _ _ _ _ _ (Nat.lt_of_lt_of_le hq1 S.1) _).trans (S.2.1 q hq1 hq2), S.2.2⟩ B L (by rw [elN]; exact e1) e2 (by show _ = (kT x0 _).length; rw [eL]; omega) (by show _ = pSz (kT x0 _); rw [eS]; omega)
  obtain ⟨t2, a1, b1⟩ := key _ rfl X1
  refine ⟨t2, step t2 ?_, b1⟩
  have ha : pAd b base n = T.heap.size := by
    obtain ⟨j, hj⟩ : ∃ j, n = j + 1 := ⟨n - 1, by omega⟩
    rw [hj]
    show base + j = T.heap.size
    omega
  rw [List.map_cons, show pUp (pAd b base) (.ref n) = .ref T.heap.size from congrArg Value.ref ha] at a1
  exact a1
end
def hiM (M : pM) : pM := (fun w : pM => (w.1, w.2.1, sP w.2.2 80 2 81)) (mMs M 81 20 20)
def hiN (M : pM) : pM := (fun w : pM => (w.1, w.2.1, sP w.2.2 80 3 102)) (mMs M 102 20 20)
theorem ct_Hi80_init {x0 : pSh} {M : pM} : kCt m_Hi_init 1 x0 81 123 [.ref 80] M (rV (hiN (hiM M))) := by
  refine kCt_of (by decide +kernel) (Nat.le_of_ble_eq_true rfl) (by decide) (by decide) ?_
  refine pw_aload_n (k4 := 0) rfl (by decide +kernel) ?_
  refine pw_objInit (by decide +kernel) lo_Hi oi_i oi_c (by decide) (Nat.le_of_ble_eq_true rfl) ?_
  refine pw_aload_n (k4 := 0) rfl (by decide +kernel) ?_
  refine pw_bipush (n := 20) (v := 20) (by decide) (by decide +kernel) ?_
  refine pw_bipush (n := 16) (v := 16) (by decide) (by decide +kernel) ?_
  refine kw_multi 81 20 16 (by decide +kernel) lk_Hi_9 (by decide) (by decide) (by decide) (by decide) (by decide) (by decide) (by decide +kernel) (by decide +kernel) (by decide) (by decide) (by decide) ?_
  refine pq_putP (c := 1) (k := 2) (kg_80 (by decide)) (by decide) (by decide) lf_Hi_11 (Or.inr ⟨rfl, rfl⟩) (by decide +kernel) ?_
  refine pw_aload_n (k4 := 0) rfl (by decide +kernel) ?_
  refine pw_bipush (n := 20) (v := 20) (by decide) (by decide +kernel) ?_
  refine pw_bipush (n := 10) (v := 10) (by decide) (by decide +kernel) ?_
  refine kw_multi 102 20 10 (by decide +kernel) lk_Hi_9 (by decide) (by decide) (by decide) (by decide) (by decide) (by decide) (by decide +kernel) (by decide +kernel) (by decide) (by decide) (by decide) ?_
  refine pq_putP (c := 1) (k := 3) (kg_80 (by decide)) (by decide) (by decide) lf_Hi_16 (Or.inr ⟨rfl, rfl⟩) (by decide +kernel) ?_
  exact kw_vret rfl (by decide +kernel) ⟨rfl, rfl⟩
