/-! ===== arrays ===== -/
section
variable {μ : pMeth} {d NC NS : Nat} {Q : Option Value → pH → Prop} {pc : Nat} {ls : List (Option Value)} {st : List Value} {h : pH} {sh : List pSh} {M : pM} {a n : Nat}
theorem pTy0 (dA : Nat → ClassId) : (pTys dA)[0]? = some (dA 0, .int) := rfl
theorem pTy1 (dA : Nat → ClassId) : (pTys dA)[1]? = some (dA 1, .byte) := rfl
theorem pTy2 (dA : Nat → ClassId) : (pTys dA)[2]? = some (dA 2, .boolean) := rfl
theorem pTy3 (dA : Nat → ClassId) : (pTys dA)[3]? = some (dA 3, .long) := rfl
theorem pTy4 (dA : Nat → ClassId) : (pTys dA)[4]? = some (dA 4, .array .int) := rfl
theorem pw_iald {i : Int32} (hs : h.1[a]? = some (.inr (0, n))) (hin : vp_in i n) (hd : decode μ.2.1 pc = .ok (.iaload, 1)) (kk : pWP μ d NC NS Q (pc + 1) ls (.int (h.2.1 a i.toNatClampNeg) :: st) h) : pWP μ d NC NS Q pc ls (.int i :: .ref a :: st) h := by
  intro p l e s m args below meth cc D dA b base H locs arr mc ms cells slots nc ns C R S B L e1 e2 e3 e4
  obtain ⟨a', rfl, he, -⟩ := pRel_at R hs (fun _ q => by cases q)
  exact va_iald C.1 C.2.1 R.1.1 R.2.1 a' 0 he (pTy0 dA) hin hd (kk p l e s m args below meth cc D dA b base H locs arr mc ms cells slots nc ns C R S B L e1 e2 e3 e4)
/-- the script -/
theorem pw_sald {i : Int32} (hs : h.1[0]? = some (.inr (5, n))) (hin : vp_in i n) (hd : decode μ.2.1 pc = .ok (.iaload, 1)) (kk : pWP μ d NC NS Q (pc + 1) ls (.int (h.2.1 0 i.toNatClampNeg) :: st) h) : pWP μ d NC NS Q pc ls (.int i :: .ref 0 :: st) h := by
  intro p l e s m args below meth cc D dA b base H locs arr mc ms cells slots nc ns C R S B L e1 e2 e3 e4
  have kk1 := kk p l e s m args below meth cc D dA b base H locs arr mc ms cells slots nc ns C R S B L e1 e2 e3 e4
  obtain ⟨hK, hP, hz, hb, L', hL, scr, h1, h2, h3, h4, h5⟩ := R
  rw [hs] at hL
  cases hL
  have hlt : i.toNatClampNeg < n := Nat.not_le.mp fun q => hin (Or.inr q)
  exact W.iald (v := .int (h.2.1 0 i.toNatClampNeg)) C.1 C.2.1 h1 h2 h3 (by rw [h4]; exact hin) (h5 _ hlt) rfl rfl hd kk1
theorem pw_slen (hs : h.1[0]? = some (.inr (5, n))) (hd : decode μ.2.1 pc = .ok (.arraylength, 1)) (kk : pWP μ d NC NS Q (pc + 1) ls (.int (Int32.ofNat n) :: st) h) : pWP μ d NC NS Q pc ls (.ref 0 :: st) h := by
  intro p l e s m args below meth cc D dA b base H locs arr mc ms cells slots nc ns C R S B L e1 e2 e3 e4
  have kk1 := kk p l e s m args below meth cc D dA b base H locs arr mc ms cells slots nc ns C R S B L e1 e2 e3 e4
  obtain ⟨hK, hP, hz, hb, L', hL, scr, h1, h2, h3, h4, h5⟩ := R
  rw [hs] at hL
  cases hL
  exact W.alen (n := Int32.ofNat n) C.1 C.2.1 h1 h2 (by rw [h4] <;> rfl) rfl rfl hd kk1
theorem pw_bald {i : Int32} (hs : h.1[a]? = some (.inr (1, n))) (hin : vp_in i n) (hd : decode μ.2.1 pc = .ok (.baload, 1)) (kk : pWP μ d NC NS Q (pc + 1) ls (.int (h.2.1 a i.toNatClampNeg) :: st) h) : pWP μ d NC NS Q pc ls (.int i :: .ref a :: st) h := by
  intro p l e s m args below meth cc D dA b base H locs arr mc ms cells slots nc ns C R S B L e1 e2 e3 e4
  obtain ⟨a', rfl, he, -⟩ := pRel_at R hs (fun _ q => by cases q)
  exact va_bald C.1 C.2.1 R.1.1 R.2.1 a' 1 he (pTy1 dA) hin hd (kk p l e s m args below meth cc D dA b base H locs arr mc ms cells slots nc ns C R S B L e1 e2 e3 e4)
theorem pw_zald {i : Int32} (hs : h.1[a]? = some (.inr (2, n))) (hin : vp_in i n) (hd : decode μ.2.1 pc = .ok (.baload, 1)) (kk : pWP μ d NC NS Q (pc + 1) ls (.int (h.2.1 a i.toNatClampNeg) :: st) h) : pWP μ d NC NS Q pc ls (.int i :: .ref a :: st) h := by
  intro p l e s m args below meth cc D dA b base H locs arr mc ms cells slots nc ns C R S B L e1 e2 e3 e4
  obtain ⟨a', rfl, he, -⟩ := pRel_at R hs (fun _ q => by cases q)
  exact va_zald C.1 C.2.1 R.1.1 R.2.1 a' 2 he (pTy2 dA) hin hd (kk p l e s m args below meth cc D dA b base H locs arr mc ms cells slots nc ns C R S B L e1 e2 e3 e4)
theorem pw_lald {i : Int32} (hs : h.1[a]? = some (.inr (3, n))) (hin : vp_in i n) (hd : decode μ.2.1 pc = .ok (.laload, 1)) (kk : pWP μ d NC NS Q (pc + 1) ls (.long (h.2.2.1 a i.toNatClampNeg) :: st) h) : pWP μ d NC NS Q pc ls (.int i :: .ref a :: st) h := by
  intro p l e s m args below meth cc D dA b base H locs arr mc ms cells slots nc ns C R S B L e1 e2 e3 e4
  obtain ⟨a', rfl, he, -⟩ := pRel_at R hs (fun _ q => by cases q)
  exact va_lald C.1 C.2.1 R.1.1 R.2.1 a' 3 he (pTy3 dA) hin hd (kk p l e s m args below meth cc D dA b base H locs arr mc ms cells slots nc ns C R S B L e1 e2 e3 e4)
theorem pw_aald {i : Int32} {q : Nat} (hs : h.1[a]? = some (.inr (4, n))) (hin : vp_in i n) (hq : h.2.2.2 a i.toNatClampNeg = some q) (hd : decode μ.2.1 pc = .ok (.aaload, 1)) (kk : pWP μ d NC NS Q (pc + 1) ls (.ref q :: st) h) : pWP μ d NC NS Q pc ls (.int i :: .ref a :: st) h := by
  intro p l e s m args below meth cc D dA b base H locs arr mc ms cells slots nc ns C R S B L e1 e2 e3 e4
  obtain ⟨a', rfl, he, hat⟩ := pRel_at R hs (fun _ q => by cases q)
  have hlt : i.toNatClampNeg < n := Nat.not_le.mp fun q => hin (Or.inr q)
  have kk1 := kk p l e s m args below meth cc D dA b base H locs arr mc ms cells slots nc ns C R S B L e1 e2 e3 e4
  refine W.aald (v := .ref (pAd b base q)) (ty := .array .int) C.1 C.2.1 hat ((R.1.1.2 4 _ (pTy4 dA)).1 n (fun j => va_rf ((h.2.2.2 (a' + 1) j).map (pAd b base)))) rfl (fun q => by cases q) (by show ¬ (i < 0 ∨ (arrV _ _ _).slots.size ≤ _); rw [arrV_size]; exact hin) ?_ rfl rfl hd kk1
  show (arrV _ _ _).slots[_]? = _
  rw [arrV_read _ _ hlt]
  show some (va_rf ((h.2.2.2 (a' + 1) i.toNatClampNeg).map (pAd b base))) = _
  rw [hq]
  rfl
theorem pw_alen {t : Nat} (ht : t < 5) (hs : h.1[a]? = some (.inr (t, n))) (hd : decode μ.2.1 pc = .ok (.arraylength, 1)) (kk : pWP μ d NC NS Q (pc + 1) ls (.int (Int32.ofNat n) :: st) h) : pWP μ d NC NS Q pc ls (.ref a :: st) h := by
  intro p l e s m args below meth cc D dA b base H locs arr mc ms cells slots nc ns C R S B L e1 e2 e3 e4
  obtain ⟨a', rfl, he, -⟩ := pRel_at R hs (fun _ q => by cases q; omega)
  have kk1 := kk p l e s m args below meth cc D dA b base H locs arr mc ms cells slots nc ns C R S B L e1 e2 e3 e4
  match t, ht, he with
  | 0, _, he => exact va_alen C.1 C.2.1 R.1.1 R.2.1 a' 0 he (pTy0 dA) rfl hd kk1
  | 1, _, he => exact va_alen C.1 C.2.1 R.1.1 R.2.1 a' 1 he (pTy1 dA) rfl hd kk1
  | 2, _, he => exact va_alen C.1 C.2.1 R.1.1 R.2.1 a' 2 he (pTy2 dA) rfl hd kk1
  | 3, _, he => exact va_alen C.1 C.2.1 R.1.1 R.2.1 a' 3 he (pTy3 dA) rfl hd kk1
  | 4, _, he => exact va_alen C.1 C.2.1 R.1.1 R.2.1 a' 4 he (pTy4 dA) rfl hd kk1
  | n + 5, hn, _ => exact absurd hn (by omega)
theorem arrV_setI (cA : ClassId) (n j : Nat) (f : Nat → Int32) (x : Int32) : (arrV cA n (fun q => .int (f q))).setSlot j (.int x) = arrV cA n (fun q => .int (upd f j x q)) := by
  rw [arrV_store]
  congr 1
  funext q
  by_cases hq : q = j <;> simp [updV, upd, hq]
theorem arrV_setL (cA : ClassId) (n j : Nat) (f : Nat → Int64) (x : Int64) : (arrV cA n (fun q => .long (f q))).setSlot j (.long x) = arrV cA n (fun q => .long (vp_updL f j x q)) := by
  rw [arrV_store]
  congr 1
  funext q
  by_cases hq : q = j <;> simp [updV, vp_updL, hq]
theorem pw_iast {i x : Int32} (hs : sh[a]? = some (.inr (0, n))) (hin : vp_in i n) (hd : decode μ.2.1 pc = .ok (.iastore, 1)) (kk : pWP μ d NC NS Q (pc + 1) ls st (sh, pSI M a i.toNatClampNeg x)) : pWP μ d NC NS Q pc ls (.int x :: .int i :: .ref a :: st) (sh, M) := by
  intro p l e s m args below meth cc D dA b base H locs arr mc ms cells slots nc ns C R S B L e1 e2 e3 e4
  obtain ⟨a', rfl, he, hat⟩ := pRel_at R hs (fun _ q => by cases q)
  refine W.iast C.1 C.2.1 hat ((R.1.1.2 0 _ (pTy0 dA)).1 n (fun j => .int (M.1 (a' + 1) j))) (fun q => by cases q) (by show ¬ (i < 0 ∨ (arrV _ _ _).slots.size ≤ _); rw [arrV_size]; exact hin) rfl rfl hd fun H1 g1 g2 g3 => ?_
  refine kk p l e s m args below meth cc D dA b base H1 _ arr mc ms cells slots nc ns C (pRel_set R hs (fun q hq => va_up_ne2 _ _ hq) (fun _ _ => rfl) (fun _ _ => rfl) ?_ g2 g3) (S.put g2 g3 (Nat.le_add_right base a')) B L e1 e2 e3 e4
  refine g1.trans (congrArg some ?_)
  refine (arrV_setI (dA 0) n i.toNatClampNeg (M.1 (a' + 1)) x).trans ?_
  show _ = arrV (dA 0) n (fun j => .int (va_up M.1 (a' + 1) _ (a' + 1) j))
  rw [va_up_eq2]
theorem pw_bast {i x : Int32} (hs : sh[a]? = some (.inr (1, n))) (hin : vp_in i n) (hd : decode μ.2.1 pc = .ok (.bastore, 1)) (kk : pWP μ d NC NS Q (pc + 1) ls st (sh, pSI M a i.toNatClampNeg x.toInt8.toInt32)) : pWP μ d NC NS Q pc ls (.int x :: .int i :: .ref a :: st) (sh, M) := by
  intro p l e s m args below meth cc D dA b base H locs arr mc ms cells slots nc ns C R S B L e1 e2 e3 e4
  obtain ⟨a', rfl, he, hat⟩ := pRel_at R hs (fun _ q => by cases q)
  refine W.bast C.1 C.2.1 hat ((R.1.1.2 1 _ (pTy1 dA)).1 n (fun j => .int (M.1 (a' + 1) j))) (fun q => by cases q) (by show ¬ (i < 0 ∨ (arrV _ _ _).slots.size ≤ _); rw [arrV_size]; exact hin) rfl rfl hd fun H1 g1 g2 g3 => ?_
  refine kk p l e s m args below meth cc D dA b base H1 _ arr mc ms cells slots nc ns C (pRel_set R hs (fun q hq => va_up_ne2 _ _ hq) (fun _ _ => rfl) (fun _ _ => rfl) ?_ g2 g3) (S.put g2 g3 (Nat.le_add_right base a')) B L e1 e2 e3 e4
  refine g1.trans (congrArg some ?_)
  refine (arrV_setI (dA 1) n i.toNatClampNeg (M.1 (a' + 1)) _).trans ?_
  show _ = arrV (dA 1) n (fun j => .int (va_up M.1 (a' + 1) _ (a' + 1) j))
  rw [va_up_eq2]
theorem pw_zast {i x : Int32} (hs : sh[a]? = some (.inr (2, n))) (hin : vp_in i n) (hd : decode μ.2.1 pc = .ok (.bastore, 1)) (kk : pWP μ d NC NS Q (pc + 1) ls st (sh, pSI M a i.toNatClampNeg (x &&& 1))) : pWP μ d NC NS Q pc ls (.int x :: .int i :: .ref a :: st) (sh, M) := by
  intro p l e s m args below meth cc D dA b base H locs arr mc ms cells slots nc ns C R S B L e1 e2 e3 e4
  obtain ⟨a', rfl, he, hat⟩ := pRel_at R hs (fun _ q => by cases q)
  refine W.zast C.1 C.2.1 hat ((R.1.1.2 2 _ (pTy2 dA)).1 n (fun j => .int (M.1 (a' + 1) j))) (fun q => by cases q) (by show ¬ (i < 0 ∨ (arrV _ _ _).slots.size ≤ _); rw [arrV_size]; exact hin) rfl rfl hd fun H1 g1 g2 g3 => ?_
  refine kk p l e s m args below meth cc D dA b base H1 _ arr mc ms cells slots nc ns C (pRel_set R hs (fun q hq => va_up_ne2 _ _ hq) (fun _ _ => rfl) (fun _ _ => rfl) ?_ g2 g3) (S.put g2 g3 (Nat.le_add_right base a')) B L e1 e2 e3 e4
  refine g1.trans (congrArg some ?_)
  refine (arrV_setI (dA 2) n i.toNatClampNeg (M.1 (a' + 1)) _).trans ?_
  show _ = arrV (dA 2) n (fun j => .int (va_up M.1 (a' + 1) _ (a' + 1) j))
  rw [va_up_eq2]
theorem pw_last {i : Int32} {x : Int64} (hs : sh[a]? = some (.inr (3, n))) (hin : vp_in i n) (hd : decode μ.2.1 pc = .ok (.lastore, 1)) (kk : pWP μ d NC NS Q (pc + 1) ls st (sh, pSL M a i.toNatClampNeg x)) : pWP μ d NC NS Q pc ls (.long x :: .int i :: .ref a :: st) (sh, M) := by
  intro p l e s m args below meth cc D dA b base H locs arr mc ms cells slots nc ns C R S B L e1 e2 e3 e4
  obtain ⟨a', rfl, he, hat⟩ := pRel_at R hs (fun _ q => by cases q)
  refine W.last C.1 C.2.1 hat ((R.1.1.2 3 _ (pTy3 dA)).1 n (fun j => .long (M.2.1 (a' + 1) j))) (fun q => by cases q) (by show ¬ (i < 0 ∨ (arrV _ _ _).slots.size ≤ _); rw [arrV_size]; exact hin) rfl rfl hd fun H1 g1 g2 g3 => ?_
  refine kk p l e s m args below meth cc D dA b base H1 _ arr mc ms cells slots nc ns C (pRel_set R hs (fun _ _ => rfl) (fun q hq => va_up_ne2 _ _ hq) (fun _ _ => rfl) ?_ g2 g3) (S.put g2 g3 (Nat.le_add_right base a')) B L e1 e2 e3 e4
  refine g1.trans (congrArg some ?_)
  refine (arrV_setL (dA 3) n i.toNatClampNeg (M.2.1 (a' + 1)) x).trans ?_
  show _ = arrV (dA 3) n (fun j => .long (va_up M.2.1 (a' + 1) _ (a' + 1) j))
  rw [va_up_eq2]
end
