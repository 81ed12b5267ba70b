/-! ===== the reference: what holds but for scratch, and what always holds ===== -/
section
variable {I J : Nat → Nat → Int32}
theorem rep.a135 (h : rep I J) : I 135 = J 135 := h.arr (by decide) (by decide)
theorem rep.a136 (h : rep I J) : I 136 = J 136 := h.arr (by decide) (by decide)
theorem rep.a137 (h : rep I J) : I 137 = J 137 := h.arr (by decide) (by decide)
theorem rep.a138 (h : rep I J) : I 138 = J 138 := h.arr (by decide) (by decide)
theorem rep.a139 (h : rep I J) : I 139 = J 139 := h.arr (by decide) (by decide)
theorem rep.a140 (h : rep I J) : I 140 = J 140 := h.arr (by decide) (by decide)
theorem rep.a141 (h : rep I J) : I 141 = J 141 := h.arr (by decide) (by decide)
theorem rep.a142 (h : rep I J) : I 142 = J 142 := h.arr (by decide) (by decide)
theorem rep.a143 (h : rep I J) : I 143 = J 143 := h.arr (by decide) (by decide)
theorem rep.a144 (h : rep I J) : I 144 = J 144 := h.arr (by decide) (by decide)
theorem rep.a145 (h : rep I J) : I 145 = J 145 := h.arr (by decide) (by decide)
theorem rep.a146 (h : rep I J) : I 146 = J 146 := h.arr (by decide) (by decide)
theorem rep.a147 (h : rep I J) : I 147 = J 147 := h.arr (by decide) (by decide)
theorem rep.a148 (h : rep I J) : I 148 = J 148 := h.arr (by decide) (by decide)
theorem rep.a149 (h : rep I J) : I 149 = J 149 := h.arr (by decide) (by decide)
theorem rep.a150 (h : rep I J) : I 150 = J 150 := h.arr (by decide) (by decide)
theorem rep.a151 (h : rep I J) : I 151 = J 151 := h.arr (by decide) (by decide)
theorem rep.a152 (h : rep I J) : I 152 = J 152 := h.arr (by decide) (by decide)
theorem rep.a153 (h : rep I J) : I 153 = J 153 := h.arr (by decide) (by decide)
theorem rep.a154 (h : rep I J) : I 154 = J 154 := h.arr (by decide) (by decide)
theorem rep.a155 (h : rep I J) : I 155 = J 155 := h.arr (by decide) (by decide)
theorem rep.a156 (h : rep I J) : I 156 = J 156 := h.arr (by decide) (by decide)
theorem rep.a157 (h : rep I J) : I 157 = J 157 := h.arr (by decide) (by decide)
theorem rep.a158 (h : rep I J) : I 158 = J 158 := h.arr (by decide) (by decide)
theorem rep.a159 (h : rep I J) : I 159 = J 159 := h.arr (by decide) (by decide)
theorem rep.a160 (h : rep I J) : I 160 = J 160 := h.arr (by decide) (by decide)
theorem rep.a161 (h : rep I J) : I 161 = J 161 := h.arr (by decide) (by decide)
theorem rep.a162 (h : rep I J) : I 162 = J 162 := h.arr (by decide) (by decide)
theorem rep.a163 (h : rep I J) : I 163 = J 163 := h.arr (by decide) (by decide)
theorem rep.a164 (h : rep I J) : I 164 = J 164 := h.arr (by decide) (by decide)
theorem rep.a165 (h : rep I J) : I 165 = J 165 := h.arr (by decide) (by decide)
theorem rep.a166 (h : rep I J) : I 166 = J 166 := h.arr (by decide) (by decide)
theorem rep.a167 (h : rep I J) : I 167 = J 167 := h.arr (by decide) (by decide)
theorem rep.a178 (h : rep I J) : I 178 = J 178 := h.arr (by decide) (by decide)
theorem rep.a181 (h : rep I J) : I 181 = J 181 := h.arr (by decide) (by decide)
theorem rep.a182 (h : rep I J) : I 182 = J 182 := h.arr (by decide) (by decide)
theorem rep.a183 (h : rep I J) : I 183 = J 183 := h.arr (by decide) (by decide)
theorem rep.a184 (h : rep I J) : I 184 = J 184 := h.arr (by decide) (by decide)
theorem rep.f1 (h : rep I J) : I 134 1 = J 134 1 := h 134 1 (by decide)
theorem rep.f4 (h : rep I J) : I 134 4 = J 134 4 := h 134 4 (by decide)
theorem rep.f5 (h : rep I J) : I 134 5 = J 134 5 := h 134 5 (by decide)
theorem rep.f12 (h : rep I J) : I 134 12 = J 134 12 := h 134 12 (by decide)
theorem rep.f13 (h : rep I J) : I 134 13 = J 134 13 := h 134 13 (by decide)
theorem rep.f14 (h : rep I J) : I 134 14 = J 134 14 := h 134 14 (by decide)
theorem rep.f15 (h : rep I J) : I 134 15 = J 134 15 := h 134 15 (by decide)
theorem rep.f16 (h : rep I J) : I 134 16 = J 134 16 := h 134 16 (by decide)
theorem rep.f62 (h : rep I J) : I 134 62 = J 134 62 := h 134 62 (by decide)
theorem rep.f63 (h : rep I J) : I 134 63 = J 134 63 := h 134 63 (by decide)
theorem rep.f64 (h : rep I J) : I 134 64 = J 134 64 := h 134 64 (by decide)
theorem rep.f80 (h : rep I J) : I 134 80 = J 134 80 := h 134 80 (by decide)
theorem rep.f81 (h : rep I J) : I 134 81 = J 134 81 := h 134 81 (by decide)
theorem rep.f86 (h : rep I J) : I 134 86 = J 134 86 := h 134 86 (by decide)
theorem rep.f88 (h : rep I J) : I 134 88 = J 134 88 := h 134 88 (by decide)
theorem rep.f92 (h : rep I J) : I 134 92 = J 134 92 := h 134 92 (by decide)
theorem rep.au (h : rep I J) (a : Nat) (f : Nat → Int32) : rep (aU I a f) (aU J a f) := by
  intro b k hb
  by_cases e : b = a
  · subst e; rw [aU_eq, aU_eq]
  · rw [aU_ne e, aU_ne e]; exact h b k hb
theorem rep_scrA (h : rep I J) {a : Nat} (ha : scrA.contains a = true) (f : Nat → Int32) : rep (aU I a f) J := by
  intro b k hb
  by_cases e : b = a
  · subst e
    unfold scr at hb
    rw [ha] at hb
    cases hb
  · rw [aU_ne e]; exact h b k hb
theorem yBd_rep (h : rep I J) (r : Nat) (nm : Nat → Int64) (wo mo : Int32) : yBd I r nm wo mo = yBd J r nm wo mo := by
  unfold yBd zLaw
  rw [h.a152, h.a153, h.a154, h.a155, h.a156]
theorem ySide_rep (h : rep I J) (j : Nat) : ySide I j = ySide J j := by
  unfold ySide
  rw [h.a142, h.f64]
theorem yNmS_rep (h : rep I J) (j : Nat) (u q d : Int32) : yNmS I j u q d = yNmS J j u q d := by
  unfold yNmS
  rw [ySide_rep h, h.a143, h.a145, h.a139, h.a138]
theorem yWorthB_rep (h : rep I J) (j : Nat) (u q d : Int32) : yWorthB I j u q d = yWorthB J j u q d := by
  unfold yWorthB yWo0
  rw [yBd_rep h, yNmS_rep h, ySide_rep h, h.a143]
theorem yWorth_rep (h : rep I J) (b j : Nat) : yWorth I b j = yWorth J b j := by
  unfold yWorth
  rw [yWorthB_rep h, h.a162, h.a163, h.a167]
theorem yWearB_rep (h : rep I J) (j : Nat) (u : Int32) (p : Nat) (d : Int32) : yWearB I j u p d = yWearB J j u p d := by
  unfold yWearB
  rw [yBd_rep h, yNmS_rep h, h.a139]
theorem yPairB_rep (h : rep I J) (i j : Nat) : yPairB I i j = yPairB J i j := by
  unfold yPairB yNmP yDif
  rw [yBd_rep h, h.a143, h.a145, h.a162, h.a167]
theorem yWt_rep (h : rep I J) (b ns : Nat) (p : Int32) : yWt I b ns p = yWt J b ns p := by
  funext s
  unfold yWt
  rw [yWorth_rep h, h.a163]
theorem mOK_rep (h : rep I J) {np ns nd : Nat} (hm : mOK J np ns nd) : mOK I np ns nd := by
  unfold mOK
  rw [h.f12, h.f13, h.f14]
  exact hm
theorem wfL_rep (h : rep I J) (hw : wfL J) : wfL I := by
  unfold wfL
  rw [h.a152, h.a153, h.a154, h.a155, h.a156, h.a157]
  exact hw
theorem oOK_rep (h : rep I J) {b np ns : Nat} (ho : oOK J b np ns) : oOK I b np ns := by
  unfold oOK
  rw [h.a163]
  exact ho
theorem rep.take (h : rep I J) (b np : Nat) (x : Int32) : rep (yTake I b np x) (yTake J b np x) := by
  unfold yTake
  rw [h.a164, h.a165]
  exact (h.au _ _).au _ _
theorem rep.goes (h : rep I J) (b j np : Nat) (to : Int32) : rep (yGoes I b j np to) (yGoes J b j np to) := (h.take b np _).set _ _ _
theorem rep.wears (h : rep I J) (b np : Nat) (s m : Int32) : rep (yWears I b np s m) (yWears J b np s m) := by
  unfold yWears
  rw [h.a162]
  split
  · exact h
  · split
    · exact h.set _ _ _
    · exact (h.set _ _ _).goes _ _ _ _
end
theorem nI_eq32 {a b : Nat} (ha : a < 2 ^ 32) (hb : b < 2 ^ 32) (h : nI a = nI b) : a = b := by
  have h1 : (BitVec.ofNat 32 a).toNat = (BitVec.ofNat 32 b).toNat := congrArg (fun z : Int32 => z.toBitVec.toNat) h
  rwa [BitVec.toNat_ofNat, BitVec.toNat_ofNat, Nat.mod_eq_of_lt ha, Nat.mod_eq_of_lt hb] at h1
theorem nI_subneg {a b : Nat} (hb : b < 2 ^ 31) (h : a < b) : nI a - nI b < 0 := Classical.byContradiction (fun w => by
  obtain ⟨c, hc, e⟩ := nI_of w
  have e2 : nI a = nI (b + c) := by rw [← nI_add, ← e, Int32.add_comm, Int32.sub_add_cancel]
  have := nI_eq32 (by omega) (by omega) e2
  omega)
/-- a law that is held to 0 .. m is so -/
theorem yClamp_in (v : Int64) {m : Nat} (hm : m < 2 ^ 31) : ∃ q, q ≤ m ∧ yClamp v (nI m) = nI q := by
  unfold yClamp
  split
  · exact ⟨0, Nat.zero_le _, rfl⟩
  · rename_i h
    split
    · exact ⟨m, Nat.le_refl _, rfl⟩
    · rename_i h2
      obtain ⟨q, hq, rfl⟩ := pk_lOf h
      rw [nI_l hm, pk_lLT (by omega) hq] at h2
      exact ⟨q, by omega, lN_i q⟩

theorem yBd_in (I : Nat → Nat → Int32) (r : Nat) (nm : Nat → Int64) {w m : Nat} (hw : w ≤ m) (hm : m < 2 ^ 31) : ∃ q, q ≤ m ∧ yBd I r nm (nI w) (nI m) = nI q := by
  unfold yBd
  split
  · exact ⟨w, hw, rfl⟩
  · unfold yOpt
    split
    · exact ⟨w, hw, rfl⟩
    · exact yClamp_in _ hm
/-- sizes and steps as they are told -/
def zOK (I : Nat → Nat → Int32) (np ns : Nat) : Prop := (∀ s, s < ns → ∃ z, z ≤ 20 ∧ I 143 s = nI z) ∧ ∀ p, p < np → ∃ z, z ≤ 99 ∧ I 139 p = nI z
theorem yWo0_in {I : Nat → Nat → Int32} {j z u : Nat} (hz : z ≤ 20) (h1 : I 143 j = nI z) (hu : u < 2 ^ 31) : ∃ w, w ≤ 999 ∧ (if yWo0 I j (nI u) < 0 then 0 else yWo0 I j (nI u)) = nI w := by
  have key : ∀ a : Nat, a ≤ 40 → ∃ w, w ≤ 999 ∧ (if nI a - nI (u / 5) < 0 then 0 else nI a - nI (u / 5)) = nI w := fun a ha => by
    have hu5 : u / 5 ≤ u := Nat.div_le_self _ _
    rcases Nat.lt_or_ge a (u / 5) with q | q
    · rw [if_pos (nI_subneg (by omega) q)]; exact ⟨0, by omega, rfl⟩
    · rw [pk_sub q, if_neg (nI_pos (by omega))]; exact ⟨a - u / 5, by omega, rfl⟩
  unfold yWo0
  rw [h1, show (5 : Int32) = nI 5 from rfl, pk_div hu (by decide) (by decide)]
  split
  · rw [show (2 : Int32) = nI 2 from rfl, pk_mul]; exact key (2 * z) (by omega)
  · rw [show (1 : Int32) = nI 1 from rfl, pk_mul]; exact key (1 * z) (by omega)
/-- a foot: bare, or in an own shoe that isn't worn out -/
def ftOK (I : Nat → Nat → Int32) (b ns p : Nat) (x : Int32) : Prop := x = -1 ∨ ∃ j, j < ns ∧ x = nI j ∧ I 163 (16 * b + j) = nI p ∧ ∃ u, u < 50 ∧ I 162 (16 * b + j) = nI u
/-- what always holds of shoes and feet -/
def mI (I : Nat → Nat → Int32) (b np ns : Nat) : Prop := (∀ s, s < ns → (I 163 (16 * b + s) = -2 ∨ I 163 (16 * b + s) = -1 ∨ ∃ p, p < np ∧ I 163 (16 * b + s) = nI p) ∧ ∃ u, u ≤ 200 ∧ I 162 (16 * b + s) = nI u) ∧
  ∀ p, p < np → ftOK I b ns p (I 164 (5 * b + p)) ∧ ftOK I b ns p (I 165 (5 * b + p))
theorem mI.oOK {I : Nat → Nat → Int32} {b np ns : Nat} (h : mI I b np ns) : oOK I b np ns := fun k hk hn => by
  rcases (h.1 k hk).1 with q | q | q
  · rw [q] at hn; exact absurd (by decide) hn
  · rw [q] at hn; exact absurd (by decide) hn
  · exact q
theorem mI_rep {I J : Nat → Nat → Int32} (h : rep I J) {b np ns : Nat} (hm : mI J b np ns) : mI I b np ns := by
  unfold mI ftOK
  rw [h.a162, h.a163, h.a164, h.a165]
  exact hm
theorem zOK_rep {I J : Nat → Nat → Int32} (h : rep I J) {np ns : Nat} (hm : zOK J np ns) : zOK I np ns := by
  unfold zOK
  rw [h.a143, h.a139]
  exact hm
theorem yWorth_in {I : Nat → Nat → Int32} {b np ns s : Nat} (h : mI I b np ns) (hz : zOK I np ns) (hs : s < ns) : ∃ v, v ≤ 999 ∧ yWorth I b s = nI v := by
  obtain ⟨_, u, hu, hue⟩ := h.1 s hs
  obtain ⟨z, hz20, hze⟩ := hz.1 s hs
  unfold yWorth yWorthB
  split
  · exact ⟨0, by omega, rfl⟩
  · rw [hue]
    obtain ⟨w, hw, hwe⟩ := yWo0_in (I := I) (j := s) (u := u) hz20 hze (by omega)
    rw [hwe]
    exact yBd_in I 0 _ hw (by decide)
theorem yWearB_in {I : Nat → Nat → Int32} {np ns p : Nat} (hz : zOK I np ns) (hp : p < np) (j : Nat) (u d : Int32) : ∃ v, v ≤ 50 ∧ yWearB I j u p d = nI v := by
  obtain ⟨z, hz99, hze⟩ := hz.2 p hp
  unfold yWearB
  rw [hze, show (10 : Int32) = nI 10 from rfl, pk_div (by omega) (by decide) (by decide)]
  exact yBd_in I 2 _ (by omega) (by decide)
theorem mI_goes {I : Nat → Nat → Int32} {b np ns j : Nat} {to : Int32} (h : mI I b np ns) (hj : j < ns) (hns : ns ≤ 16) (hto : to = -2 ∨ to = -1 ∨ ∃ p, p < np ∧ to = nI p) : mI (yGoes I b j np to) b np ns := by
  have e2 : yGoes I b j np to 162 = I 162 := rfl
  have e3 : yGoes I b j np to 163 = upd (I 163) (16 * b + j) to := sI_eq
  have e4 : yGoes I b j np to 164 = yOff (I 164) b np (nI j) := rfl
  have e5 : yGoes I b j np to 165 = yOff (I 165) b np (nI j) := rfl
  have hft : ∀ (a : Nat) (p : Nat), p < np → ftOK I b ns p (I a (5 * b + p)) → ftOK (yGoes I b j np to) b ns p (yOff (I a) b np (nI j) (5 * b + p)) := fun a p hp hf => by
    unfold yOff
    by_cases q : I a (5 * b + p) = nI j
    · rw [if_pos ⟨by omega, by omega, q⟩]; exact Or.inl rfl
    · rw [if_neg (fun w => q w.2.2)]
      rcases hf with hf | ⟨i, hi, hx, ho, hu⟩
      · exact Or.inl hf
      · refine Or.inr ⟨i, hi, hx, ?_, by rw [e2]; exact hu⟩
        rw [e3]
        unfold upd
        rw [if_neg (fun w => q (by rw [hx]; congr 1; omega))]
        exact ho
  refine ⟨fun s hs => ⟨?_, by rw [e2]; exact (h.1 s hs).2⟩, fun p hp => ⟨?_, ?_⟩⟩
  · rw [e3]
    unfold upd
    by_cases q : 16 * b + s = 16 * b + j
    · rw [if_pos q]; exact hto
    · rw [if_neg q]; exact (h.1 s hs).1
  · rw [e4]; exact hft 164 p hp (h.2 p hp).1
  · rw [e5]; exact hft 165 p hp (h.2 p hp).2
theorem mI_use {I : Nat → Nat → Int32} {b np ns j u : Nat} (h : mI I b np ns) (hj : j < ns) (hu : u < 50) : mI (sI I 162 (16 * b + j) (nI u)) b np ns := by
  have e2 : sI I 162 (16 * b + j) (nI u) 162 = upd (I 162) (16 * b + j) (nI u) := sI_eq
  have hft : ∀ p x, ftOK I b ns p x → ftOK (sI I 162 (16 * b + j) (nI u)) b ns p x := fun p x hf => by
    rcases hf with hf | ⟨i, hi, hx, ho, hu2⟩
    · exact Or.inl hf
    · refine Or.inr ⟨i, hi, hx, ho, ?_⟩
      rw [e2]
      unfold upd
      split
      · exact ⟨u, hu, rfl⟩
      · exact hu2
  refine ⟨fun s hs => ⟨(h.1 s hs).1, ?_⟩, fun p hp => ⟨hft p _ (h.2 p hp).1, hft p _ (h.2 p hp).2⟩⟩
  rw [e2]
  unfold upd
  split
  · exact ⟨u, by omega, rfl⟩
  · exact (h.1 s hs).2
/-- a shoe that is worn out goes to the grave -/
theorem mI_out {I : Nat → Nat → Int32} {b np ns j u : Nat} (h : mI I b np ns) (hnp : np ≤ 5) (hj : j < ns) (hns : ns ≤ 16) (hu : u ≤ 200) : mI (yGoes (sI I 162 (16 * b + j) (nI u)) b j np (-2)) b np ns := by
  have g := mI_goes (to := -2) h hj hns (Or.inl rfl)
  have e2 : yGoes (sI I 162 (16 * b + j) (nI u)) b j np (-2) 162 = upd (I 162) (16 * b + j) (nI u) := show sI I 162 (16 * b + j) (nI u) 162 = _ from sI_eq
  have e3 : yGoes (sI I 162 (16 * b + j) (nI u)) b j np (-2) 163 = yGoes I b j np (-2) 163 := rfl
  have e4 : yGoes (sI I 162 (16 * b + j) (nI u)) b j np (-2) 164 = yGoes I b j np (-2) 164 := rfl
  have e5 : yGoes (sI I 162 (16 * b + j) (nI u)) b j np (-2) 165 = yGoes I b j np (-2) 165 := rfl
  have e3j : yGoes I b j np (-2) 163 = upd (I 163) (16 * b + j) (-2) := sI_eq
  have hft : ∀ p x, p < np → ftOK (yGoes I b j np (-2)) b ns p x → ftOK (yGoes (sI I 162 (16 * b + j) (nI u)) b j np (-2)) b ns p x := fun p x hp hf => by
    rcases hf with hf | ⟨i, hi, hx, ho, hu2⟩
    · exact Or.inl hf
    · have hij : ¬ i = j := fun w => by
        subst w
        rw [e3j] at ho
        unfold upd at ho
        rw [if_pos rfl] at ho
        exact nI_pos (show p < 2 ^ 31 by omega) (by rw [← ho]; decide)
      refine Or.inr ⟨i, hi, hx, by rw [e3]; exact ho, ?_⟩
      rw [e2]
      unfold upd
      rw [if_neg (by omega)]
      exact hu2
  refine ⟨fun s hs => ⟨by rw [e3]; exact (g.1 s hs).1, ?_⟩, fun p hp => ?_⟩
  · rw [e2]
    unfold upd
    split
    · exact ⟨u, hu, rfl⟩
    · exact (h.1 s hs).2
  · rw [e4, e5]
    exact ⟨hft p _ hp (g.2 p hp).1, hft p _ hp (g.2 p hp).2⟩
theorem mI_wears {I : Nat → Nat → Int32} {b np ns j m : Nat} (h : mI I b np ns) (hnp : np ≤ 5) (hns : ns ≤ 16) (hj : j < ns) (hu : ∃ u, u < 50 ∧ I 162 (16 * b + j) = nI u) (hm : m ≤ 50) : mI (yWears I b np (nI j) (nI m)) b np ns := by
  obtain ⟨u, hu, hue⟩ := hu
  unfold yWears
  rw [if_neg (nI_pos (by omega)), ixn_nI (by omega), hue, nI_add]
  by_cases q : nI (u + m) < 50
  · rw [if_pos q]
    exact mI_use h hj ((cLt rfl (show (50 : Int32) = nI 50 from rfl) (by omega) (by decide)).mp q)
  · rw [if_neg q]
    exact mI_out h hnp hj hns (by omega)
