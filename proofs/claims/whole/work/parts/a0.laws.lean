/-! ===== laws: the class's reckoning and the reference's ===== -/
abbrev bd (x : Int64) : Prop := ¬ (1000000000000 < x ∨ x < -1000000000000)
theorem bd_iff (x : Int64) : bd x ↔ -1000000000000 ≤ x.toInt ∧ x.toInt ≤ 1000000000000 := by
  unfold bd
  rw [Int64.lt_iff_toInt_lt, Int64.lt_iff_toInt_lt]
  show ¬ ((1000000000000 : Int) < x.toInt ∨ x.toInt < (-1000000000000 : Int)) ↔ _
  omega
theorem bd_bL (c : Prop) [Decidable c] : bd (bL c) := by
  unfold bL
  split <;> decide
theorem bd_i32 (x : Int32) : bd x.toInt64 := by
  rw [bd_iff, Int32.toInt_toInt64]
  have h1 := x.toInt_lt
  have h2 := x.le_toInt
  omega
theorem bd_ne {x : Int64} (h : bd x) : x ≠ ERR := by
  rintro rfl
  exact h (by decide)
theorem bm64 {x : Int} (h1 : -2000000000000 ≤ x) (h2 : x ≤ 2000000000000) : x.bmod (2 ^ 64) = x := by
  rw [Int.bmod_eq_of_le] <;> omega
theorem lAbs_I {a : Int64} (h : bd a) : (lAbs a).toInt = (a.toInt.natAbs : Int) := by
  rw [bd_iff] at h
  unfold lAbs
  by_cases z : 0 ≤ a
  · rw [if_pos z]
    have : 0 ≤ a.toInt := by simpa using Int64.le_iff_toInt_le.mp z
    omega
  · rw [if_neg z]
    have z' : a.toInt < 0 := by
      have := mt Int64.le_iff_toInt_le.mpr z
      have e : (0 : Int64).toInt = 0 := rfl
      rw [e] at this
      omega
    rw [Int64.toInt_neg, bm64 (by omega) (by omega)]
    omega
theorem div_I {a : Int64} (h : bd a) : ((1000000000000 : Int64) / lAbs a).toInt = (1000000000000 : Int) / (a.toInt.natAbs : Int) := by
  rw [Int64.toInt_div, lAbs_I h]
  have e : (1000000000000 : Int64).toInt = 1000000000000 := rfl
  rw [e, Int.tdiv_eq_ediv_of_nonneg (by decide)]
  have h1 : (0 : Int) ≤ 1000000000000 / (a.toInt.natAbs : Int) := Int.ediv_nonneg (by decide) (by omega)
  have h2 : (1000000000000 : Int) / (a.toInt.natAbs : Int) ≤ 1000000000000 := Int.ediv_le_self _ (by decide)
  exact bm64 (by omega) (by omega)
theorem much_I {a b : Int64} (ha : bd a) (hb : bd b) : (1000000000000 / lAbs a < lAbs b) ↔ (1000000000000 : Int) / (a.toInt.natAbs : Int) < (b.toInt.natAbs : Int) := by
  rw [Int64.lt_iff_toInt_lt, div_I ha, lAbs_I hb]
theorem lz_I (a : Int64) : a = 0 ↔ a.toInt = 0 := by
  constructor
  · rintro rfl; rfl
  · intro h
    exact Int64.toInt_inj.mp (by rw [h]; rfl)
theorem mul_bd {a b : Int64} (ha : bd a) (hb : bd b) (h : ¬ (¬ lAbs a = 0 ∧ 1000000000000 / lAbs a < lAbs b)) : bd (a * b) := by
  rw [bd_iff, Int64.toInt_mul]
  rw [much_I ha hb, lz_I, lAbs_I ha] at h
  have key : -1000000000000 ≤ a.toInt * b.toInt ∧ a.toInt * b.toInt ≤ 1000000000000 := by
    by_cases z : a.toInt = 0
    · rw [z]; omega
    · have h' : (b.toInt.natAbs : Int) ≤ 1000000000000 / (a.toInt.natAbs : Int) := by omega
      have h'' : (b.toInt.natAbs : Int) * (a.toInt.natAbs : Int) ≤ 1000000000000 := (Int.le_ediv_iff_mul_le (by omega)).mp h'
      have e : ((a.toInt * b.toInt).natAbs : Int) = (b.toInt.natAbs : Int) * (a.toInt.natAbs : Int) := by
        rw [Int.natAbs_mul, Int.natCast_mul, Int.mul_comm]
      omega
  rw [bm64 (by omega) (by omega)]
  exact key
theorem yMuch_iff {a b : Int64} (ha : bd a) (hb : bd b) : yMuch a b ↔ (¬ lAbs a = 0 ∧ 1000000000000 / lAbs a < lAbs b) := by
  have e0 : yMuch a b ↔ (¬ a = 0 ∧ ¬ b = 0 ∧ 1000000000000 / lAbs a < lAbs b) := Iff.rfl
  rw [e0, much_I ha hb, lz_I a, lz_I b, lz_I (lAbs a), lAbs_I ha]
  constructor
  · rintro ⟨h1, h2, h3⟩
    exact ⟨by omega, h3⟩
  · rintro ⟨h1, h3⟩
    refine ⟨by omega, fun z => ?_, h3⟩
    rw [z] at h3
    have : (0 : Int) ≤ 1000000000000 / (a.toInt.natAbs : Int) := Int.ediv_nonneg (by decide) (by omega)
    simp at h3
    omega
theorem div_bd {a b : Int64} (ha : bd a) : bd (a / b) := by
  rw [bd_iff] at ha ⊢
  rw [Int64.toInt_div]
  have h : (a.toInt.tdiv b.toInt).natAbs ≤ a.toInt.natAbs := by
    rw [Int.natAbs_tdiv]
    exact Nat.div_le_self _ _
  rw [bm64 (by omega) (by omega)]
  omega
/-- a knot of the reference, and the class's code of it -/
def pmN : Nat → Nat
  | 0 => 0 | 1 => 1 | 2 => 6 | 3 => 2 | 4 => 3 | 5 => 4 | _ => 5
def cdO (k : Nat) : Nat := if k = 2 then 18 else if k = 3 then 17 else if k = 4 then 16 else k + 25
def cdR (c v k p : Int32) : Prop := (k = 0 ∧ c = 26 ∧ v = p) ∨ (k = 1 ∧ c = 25 ∧ ∃ q, q < 7 ∧ p = nI q ∧ v = nI (pmN q)) ∨ ∃ q, 2 ≤ q ∧ q ≤ 14 ∧ k = nI q ∧ c = nI (cdO q)
theorem join_eq {q : Nat} {a b : Int64} (h3 : 3 ≤ q) (h14 : q ≤ 14) (ha : bd a) (hb : bd b) : yBin (nI q) a b = if 1000000000000 < xJoin (nI (cdO q)) a b ∨ xJoin (nI (cdO q)) a b < -1000000000000 then none else some (xJoin (nI (cdO q)) a b) := by
  have hc : q = 3 ∨ q = 4 ∨ q = 5 ∨ q = 6 ∨ q = 7 ∨ q = 8 ∨ q = 9 ∨ q = 10 ∨ q = 11 ∨ q = 12 ∨ q = 13 ∨ q = 14 := by omega
  rcases hc with rfl | rfl | rfl | rfl | rfl | rfl | rfl | rfl | rfl | rfl | rfl | rfl
  · show some (bL (¬ a = 0 ∧ ¬ b = 0)) = if 1000000000000 < bL (¬ a = 0 ∧ ¬ b = 0) ∨ bL (¬ a = 0 ∧ ¬ b = 0) < -1000000000000 then none else some (bL (¬ a = 0 ∧ ¬ b = 0))
    rw [if_neg (bd_bL _)]
  · show some (bL (¬ a = 0 ∨ ¬ b = 0)) = if 1000000000000 < bL (¬ a = 0 ∨ ¬ b = 0) ∨ bL (¬ a = 0 ∨ ¬ b = 0) < -1000000000000 then none else some (bL (¬ a = 0 ∨ ¬ b = 0))
    rw [if_neg (bd_bL _)]
  · show some (bL (a < b)) = if 1000000000000 < bL (a < b) ∨ bL (a < b) < -1000000000000 then none else some (bL (a < b))
    rw [if_neg (bd_bL _)]
  · show some (bL (a ≤ b)) = if 1000000000000 < bL (a ≤ b) ∨ bL (a ≤ b) < -1000000000000 then none else some (bL (a ≤ b))
    rw [if_neg (bd_bL _)]
  · show some (bL (a = b)) = if 1000000000000 < bL (a = b) ∨ bL (a = b) < -1000000000000 then none else some (bL (a = b))
    rw [if_neg (bd_bL _)]
  · show some (bL (¬ a = b)) = if 1000000000000 < bL (¬ a = b) ∨ bL (¬ a = b) < -1000000000000 then none else some (bL (¬ a = b))
    rw [if_neg (bd_bL _)]
  · show some (bL (b ≤ a)) = if 1000000000000 < bL (b ≤ a) ∨ bL (b ≤ a) < -1000000000000 then none else some (bL (b ≤ a))
    rw [if_neg (bd_bL _)]
  · show some (bL (b < a)) = if 1000000000000 < bL (b < a) ∨ bL (b < a) < -1000000000000 then none else some (bL (b < a))
    rw [if_neg (bd_bL _)]
  · rfl
  · rfl
  · show yTim a b = if 1000000000000 < (if ¬ lAbs a = 0 ∧ 1000000000000 / lAbs a < lAbs b then ERR else a * b) ∨ (if ¬ lAbs a = 0 ∧ 1000000000000 / lAbs a < lAbs b then ERR else a * b) < -1000000000000 then none else some (if ¬ lAbs a = 0 ∧ 1000000000000 / lAbs a < lAbs b then ERR else a * b)
    unfold yTim
    by_cases z : ¬ lAbs a = 0 ∧ 1000000000000 / lAbs a < lAbs b
    · rw [if_pos ((yMuch_iff ha hb).mpr z), if_pos z, if_pos (by decide)]
    · rw [if_neg (fun q => z ((yMuch_iff ha hb).mp q)), if_neg z, if_neg (mul_bd ha hb z)]
  · show (if b = 0 then none else some (a / b)) = if 1000000000000 < (if b = 0 then ERR else a / b) ∨ (if b = 0 then ERR else a / b) < -1000000000000 then none else some (if b = 0 then ERR else a / b)
    by_cases z : b = 0
    · rw [if_pos z, if_pos z, if_pos (by decide)]
    · rw [if_neg z, if_neg z, if_neg (div_bd ha)]
def stF (f : Nat → Int64) : List Int64 → Prop
  | [] => True
  | x :: s => f s.length = x ∧ stF f s
theorem stF_up {f : Nat → Int64} {k : Nat} {x : Int64} : ∀ s : List Int64, stF f s → s.length ≤ k → stF (vp_updL f k x) s
  | [], _, _ => trivial
  | y :: s, h, hk => by
    have hk' : s.length + 1 ≤ k := hk
    refine ⟨?_, stF_up s h.2 (by omega)⟩
    rw [← h.1]
    show (if s.length = k then x else f s.length) = _
    rw [if_neg (by omega)]
theorem stF_push {f : Nat → Int64} {x : Int64} {s : List Int64} (h : stF f s) : stF (vp_updL f s.length x) (x :: s) :=
  ⟨by show (if s.length = s.length then x else _) = x; rw [if_pos rfl], stF_up s h (Nat.le_refl _)⟩
set_option maxHeartbeats 2000000 in
theorem xEv_z {c v kn pt ot : Nat → Int32} {nx ny : Nat → Int64} (hn : ∀ q, q < 7 → nx (pmN q) = ny q ∧ bd (ny q)) : ∀ (j i : Nat) (stk : List Nat) (st : List Int64) (f : Nat → Int64), kW kn pt ot j i stk → (∀ q, i ≤ q → q < i + j → cdR (c q) (v q) (kn q) (pt q)) → stk.length = st.length → stF f st → (∀ x ∈ st, bd x) → st.length + j ≤ 64 →
    xEv c v nx j i f st.length = (zEv kn pt ny j i st).getD ERR ∧ ∀ y, zEv kn pt ny j i st = some y → bd y
  | 0, i, stk, st, f, hw, _, hl, hf, hb, _ => by
    have hw : stk = [i - 1] := hw
    subst hw
    match st, hl, hf, hb with
    | [x], _, hf, hb =>
      refine ⟨?_, fun y hy => ?_⟩
      · show (if 1 = 1 then f 0 else ERR) = (some x).getD ERR
        rw [if_pos rfl]
        exact hf.1
      · have : some x = some y := hy
        cases this
        exact hb x (by simp)
  | j + 1, i, stk, st, f, hw, hc, hl, hf, hb, h64 => by
    have hci := hc i (Nat.le_refl _) (by omega)
    have hc' : ∀ q, i + 1 ≤ q → q < i + 1 + j → cdR (c q) (v q) (kn q) (pt q) := fun q h1 h2 => hc q (by omega) (by omega)
    have kk : ∀ {q q' : Nat}, kn i = nI q → q < 100 → kn i = nI q' → q' < 100 → q = q' := by
      intro q q' h1 h2 h3 h4
      exact (nI_eq (by omega) (by omega)).mp (h1.symm.trans h3)
    rcases hw with ⟨h0, hw⟩ | ⟨h1, ⟨p, hp7, hp⟩, hw⟩ | ⟨h2, a, s, hs, -, hw⟩ | ⟨q, hq3, hq14, hq, b, a, s, hs, -, -, hw⟩
    · have hcc : c i = 26 ∧ v i = pt i := by
        rcases hci with ⟨-, z1, z2⟩ | ⟨z0, -⟩ | ⟨q, q2, q14, z0, -⟩
        · exact ⟨z1, z2⟩
        · exact absurd (kk (q := 0) (q' := 1) h0 (by omega) z0 (by omega)) (by omega)
        · exact absurd (kk (q := 0) (q' := q) h0 (by omega) z0 (by omega)) (by omega)
      have ih := xEv_z hn j (i + 1) (i :: stk) ((pt i).toInt64 :: st) (vp_updL f st.length (pt i).toInt64) hw hc' (by simp [hl]) (stF_push hf) (by
        intro x hx
        rcases List.mem_cons.mp hx with rfl | hx
        · exact bd_i32 _
        · exact hb x hx) (by simp; omega)
      unfold xEv zEv
      rw [if_pos (Or.inl hcc.1), if_neg (by omega), if_pos hcc.1, hcc.2, if_pos h0]
      exact ih
    · have hcc : c i = 25 ∧ v i = nI (pmN p) := by
        rcases hci with ⟨z0, -⟩ | ⟨-, z1, q, q7, zp, zv⟩ | ⟨q, q2, q14, z0, -⟩
        · exact absurd (kk (q := 1) (q' := 0) h1 (by omega) z0 (by omega)) (by omega)
        · have : p = q := (nI_eq (by omega) (by omega)).mp (hp.symm.trans zp)
          subst this
          exact ⟨z1, zv⟩
        · exact absurd (kk (q := 1) (q' := q) h1 (by omega) z0 (by omega)) (by omega)
      have hpm : pmN p < 7 := by unfold pmN; split <;> decide
      have hx : xName nx (v i) = ny (ixn (pt i)) := by
        unfold xName
        rw [hcc.2, hp, ixn_nI (by omega), ixn_nI (by omega), if_pos ⟨(cLe n0 rfl (by decide) (by omega)).mpr (Nat.zero_le _), (cLt rfl (y := 7) (b := 7) rfl (by omega) (by decide)).mpr hpm⟩]
        exact (hn p hp7).1
      have hbp : bd (ny (ixn (pt i))) := by
        rw [hp, ixn_nI (by omega)]
        exact (hn p hp7).2
      have ih := xEv_z hn j (i + 1) (i :: stk) (ny (ixn (pt i)) :: st) (vp_updL f st.length (ny (ixn (pt i)))) hw hc' (by simp [hl]) (stF_push hf) (by
        intro x hx
        rcases List.mem_cons.mp hx with rfl | hx
        · exact hbp
        · exact hb x hx) (by simp; omega)
      unfold xEv zEv
      rw [if_pos (Or.inr hcc.1), if_neg (by omega), if_neg (by rw [hcc.1]; decide), hx, if_neg (by rw [h1]; decide), if_pos h1]
      exact ih
    · have hcc : c i = 18 := by
        rcases hci with ⟨z0, -⟩ | ⟨z0, -⟩ | ⟨q, q2, q14, z0, z1⟩
        · exact absurd (kk (q := 2) (q' := 0) h2 (by omega) z0 (by omega)) (by omega)
        · exact absurd (kk (q := 2) (q' := 1) h2 (by omega) z0 (by omega)) (by omega)
        · have : 2 = q := kk (q := 2) (q' := q) h2 (by omega) z0 (by omega)
          subst this
          exact z1
      subst hs
      match st, hl, hf, hb with
      | x :: st, hl, hf, hb =>
        have ih := xEv_z hn j (i + 1) (i :: s) (bL (x = 0) :: st) (vp_updL f st.length (bL (x = 0))) hw hc' (by simpa using hl) (stF_push hf.2) (by
          intro y hy
          rcases List.mem_cons.mp hy with rfl | hy
          · exact bd_bL _
          · exact hb y (List.mem_cons_of_mem _ hy)) (by simp at h64 ⊢; omega)
        unfold xEv zEv
        rw [if_neg (show ¬ (c i = 26 ∨ c i = 25) by rw [hcc]; decide), if_pos hcc, if_neg (show ¬ (x :: st).length < 1 by simp), if_neg (show ¬ kn i = 0 by rw [h2]; decide), if_neg (show ¬ kn i = 1 by rw [h2]; decide), if_pos h2]
        show xEv c v nx j (i + 1) (vp_updL f (st.length + 1 - 1) (if f (st.length + 1 - 1) = 0 then 1 else 0)) (st.length + 1) = _ ∧ _
        rw [Nat.add_sub_cancel, hf.1]
        exact ih
    · have hcc : c i = nI (cdO q) := by
        rcases hci with ⟨z0, -⟩ | ⟨z0, -⟩ | ⟨q', q2, q14, z0, z1⟩
        · exact absurd (kk (q := q) (q' := 0) hq (by omega) z0 (by omega)) (by omega)
        · exact absurd (kk (q := q) (q' := 1) hq (by omega) z0 (by omega)) (by omega)
        · have : q = q' := kk hq (by omega) z0 (by omega)
          subst this
          exact z1
      have hco : cdO q ≠ 26 ∧ cdO q ≠ 25 ∧ cdO q ≠ 18 ∧ cdO q < 100 := by
        unfold cdO
        split
        · omega
        · split
          · omega
          · split <;> omega
      have ne : ∀ {m : Nat}, m < 100 → cdO q ≠ m → ¬ c i = nI m := by
        intro m hm h1 h2
        exact h1 ((nI_eq (by omega) (by omega)).mp (hcc.symm.trans h2))
      have nk : ∀ {m : Nat}, m < 3 → ¬ kn i = nI m := by
        intro m hm h2
        have := (nI_eq (by omega) (by omega)).mp (hq.symm.trans h2)
        omega
      subst hs
      match st, hl, hf, hb with
      | y :: x :: st, hl, hf, hb =>
        have hx : bd x := hb x (by simp)
        have hy : bd y := hb y (by simp)
        have hj := join_eq hq3 hq14 hx hy
        unfold xEv zEv
        rw [if_neg (show ¬ (c i = 26 ∨ c i = 25) from fun z => z.elim (ne (by decide) hco.1) (ne (by decide) hco.2.1)), if_neg (show ¬ c i = 18 from ne (by decide) hco.2.2.1), if_neg (show ¬ (y :: x :: st).length < 2 by simp), if_neg (show ¬ kn i = 0 from nk (m := 0) (by decide)), if_neg (show ¬ kn i = 1 from nk (m := 1) (by decide)), if_neg (show ¬ kn i = 2 from nk (m := 2) (by decide)), hcc, hq]
        show (if 1000000000000 < xJoin (nI (cdO q)) (f (st.length + 1 + 1 - 2)) (f (st.length + 1 + 1 - 1)) ∨ xJoin (nI (cdO q)) (f (st.length + 1 + 1 - 2)) (f (st.length + 1 + 1 - 1)) < -1000000000000 then ERR else xEv c v nx j (i + 1) (vp_updL f (st.length + 1 + 1 - 2) (xJoin (nI (cdO q)) (f (st.length + 1 + 1 - 2)) (f (st.length + 1 + 1 - 1)))) (st.length + 1 + 1 - 1)) = ((yBin (nI q) x y).bind fun z => zEv kn pt ny j (i + 1) (z :: st)).getD ERR ∧ ∀ w, ((yBin (nI q) x y).bind fun z => zEv kn pt ny j (i + 1) (z :: st)) = some w → bd w
        have e1 : st.length + 1 + 1 - 2 = st.length := by omega
        have e2 : st.length + 1 + 1 - 1 = st.length + 1 := by omega
        have f1 : f (st.length + 1) = y := hf.1
        have f2 : f st.length = x := hf.2.1
        rw [e1, e2, f1, f2, hj]
        by_cases z : 1000000000000 < xJoin (nI (cdO q)) x y ∨ xJoin (nI (cdO q)) x y < -1000000000000
        · rw [if_pos z, if_pos z]
          exact ⟨rfl, fun w hw => by cases hw⟩
        · rw [if_neg z, if_neg z]
          exact xEv_z hn j (i + 1) (i :: s) (xJoin (nI (cdO q)) x y :: st) (vp_updL f st.length (xJoin (nI (cdO q)) x y)) hw hc' (by simpa using hl) (stF_push hf.2.2) (by
            intro w hw
            rcases List.mem_cons.mp hw with rfl | hw
            · exact z
            · exact hb w (List.mem_cons_of_mem _ (List.mem_cons_of_mem _ hw))) (by simp at h64 ⊢; omega)
