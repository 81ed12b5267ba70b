/-! ===== class and reference: the best pairs ===== -/
theorem lx_lt {T g h x y : Nat} (hx : x < T) (hg : g < h) : g * T + x < h * T + y := by
  have := Nat.mul_le_mul_right T (show g + 1 ≤ h from hg)
  rw [Nat.succ_mul] at this
  omega
/-- the digits of the reference's choice -/
def dgD (G : Nat → Nat → Nat) (lc rc db : Nat) : Nat → Nat → Nat → Nat → Nat
  | 0, _, _, _ => 0
  | c + 1, l, S, lf => if grR G lc rc l S lf = rc then dgD G lc rc db c (l + 1) S lf else (2 ^ db - 1 - grR G lc rc l S lf) * 2 ^ (db * c) + dgD G lc rc db c (l + 1) (S ^^^ 2 ^ grR G lc rc l S lf) (lf - G l (grR G lc rc l S lf))
theorem grR_is {G : Nat → Nat → Nat} {lc rc l S lf c : Nat} (hc : lc - (l + 1) = c) : (grR G lc rc l S lf = rc ∧ ∀ k, k < rc → S.testBit k = true → ¬ G l k + vF G rc c (l + 1) (S ^^^ 2 ^ k) = lf) ∨ (grR G lc rc l S lf < rc ∧ S.testBit (grR G lc rc l S lf) = true ∧ G l (grR G lc rc l S lf) + vF G rc c (l + 1) (S ^^^ 2 ^ grR G lc rc l S lf) = lf ∧ ∀ k, k < grR G lc rc l S lf → S.testBit k = true → ¬ G l k + vF G rc c (l + 1) (S ^^^ 2 ^ k) = lf) := by
  have no := fa_first_no (fun r => S.testBit r && decide (G l r + vF G rc (lc - (l + 1)) (l + 1) (S ^^^ 2 ^ r) = lf)) rc
  have yes := fa_first_yes (fun r => S.testBit r && decide (G l r + vF G rc (lc - (l + 1)) (l + 1) (S ^^^ 2 ^ r) = lf)) rc
  have le := fa_first_le (fun r => S.testBit r && decide (G l r + vF G rc (lc - (l + 1)) (l + 1) (S ^^^ 2 ^ r) = lf)) rc
  have no' : ∀ k, k < grR G lc rc l S lf → S.testBit k = true → ¬ G l k + vF G rc c (l + 1) (S ^^^ 2 ^ k) = lf := by
    intro k hk hb q
    have := no k hk
    rw [hb, Bool.true_and, hc, decide_eq_true q] at this
    cases this
  rcases Nat.lt_or_ge (grR G lc rc l S lf) rc with q | q
  · have y := yes q
    rw [Bool.and_eq_true, decide_eq_true_eq] at y
    have y2 : G l (grR G lc rc l S lf) + vF G rc (lc - (l + 1)) (l + 1) (S ^^^ 2 ^ grR G lc rc l S lf) = lf := y.2
    rw [hc] at y2
    exact Or.inr ⟨q, y.1, y2, no'⟩
  · have e : grR G lc rc l S lf = rc := Nat.le_antisymm le q
    exact Or.inl ⟨e, fun k hk => no' k (by omega)⟩
theorem vF_dig {G : Nat → Nat → Nat} {lc rc db : Nat} (hrc : rc < 2 ^ db) : ∀ c l S, l + c = lc → dgD G lc rc db c l S (vF G rc c l S) < 2 ^ (db * c) ∧ vF (fun i j => WN db lc (G i j) i j) rc c l S = vF G rc c l S * 2 ^ (db * lc) + dgD G lc rc db c l S (vF G rc c l S)
  | 0, l, S, _ => ⟨by show 0 < _; exact Nat.two_pow_pos _, by show 0 = 0 * _ + 0; rw [Nat.zero_mul]⟩
  | c + 1, l, S, hl => by
    have ih := fun S' => vF_dig hrc (G := G) (lc := lc) c (l + 1) S' (by omega)
    have ec : lc - (l + 1) = c := by omega
    have ec2 : lc - 1 - l = c := by omega
    have pc : 2 ^ (db * (c + 1)) = 2 ^ db * 2 ^ (db * c) := by rw [← Nat.pow_add]; congr 1; rw [Nat.mul_succ, Nat.add_comm]
    have pT : 2 ^ (db * (c + 1)) ≤ 2 ^ (db * lc) := Nat.pow_le_pow_right (by decide) (Nat.mul_le_mul_left _ (by omega))
    have ppos := Nat.two_pow_pos (db * c)
    have hG := bw_mx (vF G rc c (l + 1)) (G l) S rc
    have hW := bw_mx (vF (fun i j => WN db lc (G i j) i j) rc c (l + 1)) (fun j => WN db lc (G l j) l j) S rc
    have eG : vF G rc (c + 1) l S = bw (vF G rc c (l + 1)) (G l) S rc := rfl
    have eW : vF (fun i j => WN db lc (G i j) i j) rc (c + 1) l S = bw (vF (fun i j => WN db lc (G i j) i j) rc c (l + 1)) (fun j => WN db lc (G l j) l j) S rc := rfl
    rw [← eG] at hG
    rw [← eW] at hW
    generalize hlf : vF G rc (c + 1) l S = lf at hG ⊢
    generalize vF (fun i j => WN db lc (G i j) i j) rc (c + 1) l S = M at hW ⊢
    have wv : ∀ i, WN db lc (G l i) l i + vF (fun i j => WN db lc (G i j) i j) rc c (l + 1) (S ^^^ 2 ^ i) = (G l i + vF G rc c (l + 1) (S ^^^ 2 ^ i)) * 2 ^ (db * lc) + ((2 ^ db - 1 - i) * 2 ^ (db * c) + dgD G lc rc db c (l + 1) (S ^^^ 2 ^ i) (vF G rc c (l + 1) (S ^^^ 2 ^ i))) := by
      intro i
      rw [(ih _).2]
      unfold WN
      rw [ec2, Nat.add_mul]
      omega
    have low : ∀ i S', (2 ^ db - 1 - i) * 2 ^ (db * c) + dgD G lc rc db c (l + 1) S' (vF G rc c (l + 1) S') < 2 ^ (db * (c + 1)) := by
      intro i S'
      have a := (ih S').1
      have b := Nat.mul_le_mul_right (2 ^ (db * c)) (show 2 ^ db - 1 - i + 1 ≤ 2 ^ db by omega)
      rw [Nat.succ_mul] at b
      rw [pc]
      omega
    have m0 := hW.2.1
    rw [(ih S).2] at m0
    have dE : dgD G lc rc db (c + 1) l S lf = if grR G lc rc l S lf = rc then dgD G lc rc db c (l + 1) S lf else (2 ^ db - 1 - grR G lc rc l S lf) * 2 ^ (db * c) + dgD G lc rc db c (l + 1) (S ^^^ 2 ^ grR G lc rc l S lf) (lf - G l (grR G lc rc l S lf)) := rfl
    rcases grR_is (G := G) (lc := lc) (rc := rc) (l := l) (S := S) (lf := lf) ec with ⟨g1, g2⟩ | ⟨g1, g2, g3, g4⟩
    · have eV : lf = vF G rc c (l + 1) S := by
        rcases hG.1 with q | ⟨i, i1, i2, q⟩
        · exact q
        · exact absurd q.symm (g2 i i1 i2)
      rw [dE, if_pos g1, eV]
      have d0 := (ih S).1
      refine ⟨by rw [pc]; exact Nat.lt_of_lt_of_le d0 (Nat.le_mul_of_pos_left _ (Nat.two_pow_pos db)), ?_⟩
      rcases hW.1 with q | ⟨i, i1, i2, q⟩
      · rw [q]; exact (ih S).2
      · rw [wv i] at q
        have le := hG.2.2 i i1 i2
        have ne := g2 i i1 i2
        have := lx_lt (T := 2 ^ (db * lc)) (y := dgD G lc rc db c (l + 1) S (vF G rc c (l + 1) S)) (Nat.lt_of_lt_of_le (low i (S ^^^ 2 ^ i)) pT) (show G l i + vF G rc c (l + 1) (S ^^^ 2 ^ i) < vF G rc c (l + 1) S by omega)
        omega
    · generalize grR G lc rc l S lf = r at dE g1 g2 g3 g4
      have ev : lf - G l r = vF G rc c (l + 1) (S ^^^ 2 ^ r) := by omega
      rw [dE, if_neg (by omega), ev]
      refine ⟨low r _, ?_⟩
      have m1 := hW.2.2 r g1 g2
      rw [wv r, g3] at m1
      have one : 1 ≤ 2 ^ db - 1 - r := by omega
      have d1 := Nat.le_mul_of_pos_left (2 ^ (db * c)) one
      rcases hW.1 with q | ⟨i, i1, i2, q⟩
      · rw [(ih S).2] at q
        have d0 := (ih S).1
        rcases Nat.lt_or_ge (vF G rc c (l + 1) S) lf with z | z
        · have := lx_lt (T := 2 ^ (db * lc)) (y := (2 ^ db - 1 - r) * 2 ^ (db * c) + dgD G lc rc db c (l + 1) (S ^^^ 2 ^ r) (vF G rc c (l + 1) (S ^^^ 2 ^ r))) (show dgD G lc rc db c (l + 1) S (vF G rc c (l + 1) S) < 2 ^ (db * lc) by
            have : 2 ^ (db * c) ≤ 2 ^ (db * (c + 1)) := Nat.pow_le_pow_right (by decide) (Nat.mul_le_mul_left _ (by omega))
            omega) z
          omega
        · have e : vF G rc c (l + 1) S = lf := by have := hG.2.1; omega
          rw [e] at q d0
          omega
      · rw [wv i] at q
        have le := hG.2.2 i i1 i2
        rcases Nat.lt_or_ge (G l i + vF G rc c (l + 1) (S ^^^ 2 ^ i)) lf with z | z
        · have := lx_lt (T := 2 ^ (db * lc)) (y := (2 ^ db - 1 - r) * 2 ^ (db * c) + dgD G lc rc db c (l + 1) (S ^^^ 2 ^ r) (vF G rc c (l + 1) (S ^^^ 2 ^ r))) (Nat.lt_of_lt_of_le (low i (S ^^^ 2 ^ i)) pT) z
          omega
        · have e : G l i + vF G rc c (l + 1) (S ^^^ 2 ^ i) = lf := by omega
          rw [e] at q
          have ir : r ≤ i := by
            rcases Nat.lt_or_ge i r with w | w
            · exact absurd e (g4 i w i2)
            · exact w
          by_cases eq : i = r
          · subst eq; exact q
          · have a := (ih (S ^^^ 2 ^ i)).1
            have b := Nat.mul_le_mul_right (2 ^ (db * c)) (show 2 ^ db - 1 - i + 1 ≤ 2 ^ db - 1 - r by omega)
            rw [Nat.succ_mul] at b
            omega
theorem tlF_cg {Ls Rs : List Nat} {db lc rc v : Nat} {f g : Nat → Int32} {s : Nat} (h : f s = g s) : ∀ n, tlF Ls Rs db lc rc v n f s = tlF Ls Rs db lc rc v n g s
  | 0 => h
  | n + 1 => by
    have ih := tlF_cg (Ls := Ls) (Rs := Rs) (db := db) (lc := lc) (rc := rc) (v := v) h n
    unfold tlF
    split
    · unfold upd
      split
      · rfl
      · split
        · rfl
        · exact ih
    · exact ih
theorem gr_tl {G : Nat → Nat → Nat} {LL RR : List Nat} {lc rc db v : Nat} (hrc : rc < 2 ^ db) {f : Nat → Int32} : ∀ c l S lf, l + c = lc → lf = vF G rc c l S → v % 2 ^ (db * c) = dgD G lc rc db c l S lf → grP G LL RR lc rc c l S lf (tlF LL RR db lc rc v l f) = tlF LL RR db lc rc v lc f
  | 0, l, S, lf, hl, _, _ => by rw [show lc = l by omega]; rfl
  | c + 1, l, S, lf, hl, hlf, hv => by
    have ec : lc - (l + 1) = c := by omega
    have ec2 : lc - 1 - l = c := by omega
    have pc : 2 ^ (db * (c + 1)) = 2 ^ (db * c) * 2 ^ db := by rw [← Nat.pow_add]; congr 1
    have ppos := Nat.two_pow_pos (db * c)
    have dE : dgD G lc rc db (c + 1) l S lf = if grR G lc rc l S lf = rc then dgD G lc rc db c (l + 1) S lf else (2 ^ db - 1 - grR G lc rc l S lf) * 2 ^ (db * c) + dgD G lc rc db c (l + 1) (S ^^^ 2 ^ grR G lc rc l S lf) (lf - G l (grR G lc rc l S lf)) := rfl
    have hm : v % 2 ^ (db * c) = v % 2 ^ (db * (c + 1)) % 2 ^ (db * c) := by
      rw [pc, Nat.mod_mul_right_mod]
    have hd : v / 2 ^ (db * c) % 2 ^ db = v % 2 ^ (db * (c + 1)) / 2 ^ (db * c) := by
      rw [pc, Nat.mod_mul_right_div_self]
    have tS : tlF LL RR db lc rc v (l + 1) f = if 2 ^ db - 1 - v / 2 ^ (db * (lc - 1 - l)) % 2 ^ db < rc then upd (upd (tlF LL RR db lc rc v l f) (LL.getD l 0) (nI (RR.getD (2 ^ db - 1 - v / 2 ^ (db * (lc - 1 - l)) % 2 ^ db) 0))) (RR.getD (2 ^ db - 1 - v / 2 ^ (db * (lc - 1 - l)) % 2 ^ db) 0) (nI (LL.getD l 0)) else tlF LL RR db lc rc v l f := rfl
    have gS : ∀ g, grP G LL RR lc rc (c + 1) l S lf g = if grR G lc rc l S lf = rc then grP G LL RR lc rc c (l + 1) S lf g else grP G LL RR lc rc c (l + 1) (S ^^^ 2 ^ grR G lc rc l S lf) (lf - G l (grR G lc rc l S lf)) (upd (upd g (LL.getD l 0) (nI (RR.getD (grR G lc rc l S lf) 0))) (RR.getD (grR G lc rc l S lf) 0) (nI (LL.getD l 0))) := fun g => rfl
    rw [gS]
    have hG := bw_mx (vF G rc c (l + 1)) (G l) S rc
    rw [show bw (vF G rc c (l + 1)) (G l) S rc = lf from hlf.symm] at hG
    rcases grR_is (G := G) (lc := lc) (rc := rc) (l := l) (S := S) (lf := lf) ec with ⟨g1, g2⟩ | ⟨g1, g2, g3, g4⟩
    · have eV : lf = vF G rc c (l + 1) S := by
        rcases hG.1 with q | ⟨i, i1, i2, q⟩
        · exact q
        · exact absurd q.symm (g2 i i1 i2)
      rw [dE, if_pos g1] at hv
      have d0 := (vF_dig hrc (G := G) (lc := lc) c (l + 1) S (by omega)).1
      rw [← eV] at d0
      have dz : v / 2 ^ (db * c) % 2 ^ db = 0 := by rw [hd, hv, Nat.div_eq_of_lt d0]
      rw [if_pos g1]
      have tE : tlF LL RR db lc rc v (l + 1) f = tlF LL RR db lc rc v l f := by
        rw [tS, ec2, dz, if_neg (by omega)]
      rw [← tE]
      exact gr_tl hrc c (l + 1) S lf (by omega) eV (by rw [hm, hv, Nat.mod_eq_of_lt d0])
    · generalize grR G lc rc l S lf = r at dE g1 g2 g3 g4
      have ev : lf - G l r = vF G rc c (l + 1) (S ^^^ 2 ^ r) := by omega
      rw [dE, if_neg (by omega), ev] at hv
      have d0 := (vF_dig hrc (G := G) (lc := lc) c (l + 1) (S ^^^ 2 ^ r) (by omega)).1
      have dz : v / 2 ^ (db * c) % 2 ^ db = 2 ^ db - 1 - r := by
        rw [hd, hv, Nat.mul_comm, Nat.mul_add_div ppos, Nat.div_eq_of_lt d0, Nat.add_zero]
      rw [if_neg (by omega)]
      have tE : tlF LL RR db lc rc v (l + 1) f = upd (upd (tlF LL RR db lc rc v l f) (LL.getD l 0) (nI (RR.getD r 0))) (RR.getD r 0) (nI (LL.getD l 0)) := by
        rw [tS, ec2, dz, show 2 ^ db - 1 - (2 ^ db - 1 - r) = r by omega, if_pos g1]
      rw [← tE, ev]
      refine gr_tl hrc c (l + 1) (S ^^^ 2 ^ r) _ (by omega) rfl ?_
      rw [hm, hv, Nat.mul_comm, Nat.mul_add_mod, Nat.mod_eq_of_lt d0]
section
variable {X Y : Nat → Nat → Int32} {t w np ns nd : Nat}
theorem ls_y (h : hR X Y t w np ns nd) : lsL X w ns = ylL Y ns ∧ lsR X w ns = ylR Y ns := by
  unfold lsL ylL lsR ylR
  constructor
  · refine List.filter_congr fun s hs => ?_
    have hs' := List.mem_range.mp hs
    unfold fLf yLf
    rw [h.w3 hs', h.w1 hs']
  · refine List.filter_congr fun s hs => ?_
    have hs' := List.mem_range.mp hs
    unfold fRt yRt
    rw [h.w3 hs', h.w1 hs']
theorem ls_in {p : Nat → Bool} {n i : Nat} (h : i < ((List.range n).filter p).length) : ((List.range n).filter p).getD i 0 < n := by
  rw [List.getD_eq_getElem?_getD, List.getElem?_eq_getElem h]
  have := List.getElem_mem h
  rw [List.mem_filter, List.mem_range] at this
  exact this.1
theorem gn_y (h : hR X Y t w np ns nd) {i j : Nat} (hi : i < (ylL Y ns).length) (hj : j < (ylR Y ns).length) : pN X t w ((lsL X w ns).getD i 0) ((lsR X w ns).getD j 0) = yGn Y ns i j := by
  unfold pN yGn
  have i1 : (ylL Y ns).getD i 0 < ns := ls_in hi
  have j1 : (ylR Y ns).getD j 0 < ns := ls_in hj
  rw [(ls_y h).1, (ls_y h).2, pair_y h.1.1 h.2.1 h.1.2.1 i1 j1]
/-- the class's table says the reference's best, and its choice -/
theorem best_y (h : hR X Y t w np ns nd) {db lc rc small large : Nat} (hlc : (lsL X w ns).length = lc) (hrc : (lsR X w ns).length = rc) (hdb : dgt rc = db) (hsl : (lc ≤ rc ∧ small = lc ∧ large = rc) ∨ (¬ lc ≤ rc ∧ small = rc ∧ large = lc)) :
    bst (WM X t w ns db lc rc) small large (2 ^ small - 1) = yBest Y ns * 2 ^ (db * lc) + dgD (yGn Y ns) lc rc db lc 0 (2 ^ rc - 1) (yBest Y ns) ∧ dgD (yGn Y ns) lc rc db lc 0 (2 ^ rc - 1) (yBest Y ns) < 2 ^ (db * lc) ∧ rc < 2 ^ db ∧ (ylL Y ns).length = lc ∧ (ylR Y ns).length = rc := by
  have hl : (ylL Y ns).length = lc := by rw [← (ls_y h).1]; exact hlc
  have hr : (ylR Y ns).length = rc := by rw [← (ls_y h).2]; exact hrc
  have hns := h.lns
  have ysum := yl_sum Y ns
  have r16 : rc ≤ 16 := by omega
  have rb : rc < 2 ^ db := by rw [← hdb]; exact (dgt_in rc r16).2.2
  have vd := vF_dig rb (G := yGn Y ns) (lc := lc) lc 0 (2 ^ rc - 1) (by omega)
  have eB : yBest Y ns = vF (yGn Y ns) rc lc 0 (2 ^ rc - 1) := by unfold yBest; rw [hl, hr]
  rw [← eB] at vd
  refine ⟨?_, vd.1, rb, hl, hr⟩
  rw [← vd.2]
  have full : ∀ n b, b < n → (2 ^ n - 1).testBit b = true := fun n b hb => by rw [Nat.testBit_two_pow_sub_one, decide_eq_true hb]
  have mW := vF_mx (fun i j => WN db lc (yGn Y ns i j) i j) rc lc 0 (2 ^ rc - 1)
  have gn : ∀ a b, a < lc → b < rc → pN X t w ((lsL X w ns).getD a 0) ((lsR X w ns).getD b 0) = yGn Y ns a b := fun a b ha hb => gn_y h (by omega) (by omega)
  rcases hsl with ⟨z, rfl, rfl⟩ | ⟨z, rfl, rfl⟩
  · have mB := isMx_sw (bst_mx (WM X t w ns db small large) small large (2 ^ small - 1))
    refine isMx_u (isMx_cg mB (fun a b => ?_) (fun a b q => ?_)) mW
    · constructor
      · rintro ⟨q1, q2, -⟩
        exact ⟨Nat.zero_le _, by omega, q1, full _ _ q1⟩
      · rintro ⟨-, q1, q2, -⟩
        exact ⟨q2, by omega, full _ _ (by omega)⟩
    · show WM X t w ns db small large a b = _
      unfold WM
      rw [if_pos z, if_pos ⟨q.2.1, q.1⟩, gn a b q.2.1 q.1]
  · have mB := bst_mx (WM X t w ns db large small) small large (2 ^ small - 1)
    refine isMx_u (isMx_cg mB (fun a b => ?_) (fun a b q => ?_)) mW
    · constructor
      · rintro ⟨q1, q2, -⟩
        exact ⟨Nat.zero_le _, by omega, q2, full _ _ q2⟩
      · rintro ⟨-, q1, q2, -⟩
        exact ⟨by omega, q2, full _ _ q2⟩
    · show WM X t w ns db large small b a = _
      unfold WM
      rw [if_neg z, if_pos ⟨q.1, q.2.1⟩, gn a b q.1 q.2.1]
theorem pairs_y (h : hR X Y t w np ns nd) {db lc rc small large : Nat} (hlc : (lsL X w ns).length = lc) (hrc : (lsR X w ns).length = rc) (hdb : dgt rc = db) (hsl : (lc ≤ rc ∧ small = lc ∧ large = rc) ∨ (¬ lc ≤ rc ∧ small = rc ∧ large = lc)) : bst (WM X t w ns db lc rc) small large (2 ^ small - 1) / 2 ^ (db * lc) = yBest Y ns := by
  obtain ⟨e, l, -⟩ := best_y h hlc hrc hdb hsl
  rw [e, Nat.mul_comm, Nat.mul_add_div (Nat.two_pow_pos _), Nat.div_eq_of_lt l, Nat.add_zero]
theorem partner_y (h : hR X Y t w np ns nd) {db lc rc small large : Nat} (hlc : (lsL X w ns).length = lc) (hrc : (lsR X w ns).length = rc) (hdb : dgt rc = db) (hsl : (lc ≤ rc ∧ small = lc ∧ large = rc) ∨ (¬ lc ≤ rc ∧ small = rc ∧ large = lc)) {f f' : Nat → Int32} (hf : ∀ s, s < ns → f s = -2) (hf' : ∀ s, s < ns → f' s = -2) {s : Nat} (hs : s < ns) :
    tlF (lsL X w ns) (lsR X w ns) db lc rc (bst (WM X t w ns db lc rc) small large (2 ^ small - 1)) lc f s = yPtn Y ns f' s := by
  obtain ⟨e, l, rb, el, er⟩ := best_y h hlc hrc hdb hsl
  have eB : yBest Y ns = vF (yGn Y ns) rc lc 0 (2 ^ rc - 1) := by unfold yBest; rw [el, er]
  have g := gr_tl (lc := lc) (v := bst (WM X t w ns db lc rc) small large (2 ^ small - 1)) (LL := ylL Y ns) (RR := ylR Y ns) (f := f') rb (G := yGn Y ns) lc 0 (2 ^ rc - 1) (yBest Y ns) (by omega) eB (by rw [e, Nat.mul_comm, Nat.mul_add_mod, Nat.mod_eq_of_lt l])
  unfold yPtn
  rw [el, er, (ls_y h).1, (ls_y h).2]
  have g2 := congrFun g s
  rw [show tlF (ylL Y ns) (ylR Y ns) db lc rc (bst (WM X t w ns db lc rc) small large (2 ^ small - 1)) 0 f' = f' from rfl] at g2
  rw [g2]
  exact tlF_cg ((hf s hs).trans (hf' s hs).symm) lc
end
