/-! ===== the reference: a text that is kept ===== -/
theorem shE_top {kn pt ot : Nat → Int32} {b x : Nat} : ∀ {E : List (Nat × Nat)}, shE kn pt ot b E [x] → 1 ≤ E.length ∧ x = b + E.length - 1
  | [], h => by
    have h' : [x] = [] := h
    cases h'
  | (q, v) :: E, h => by
    have key : ∀ S' : List Nat, [x] = (b + E.length) :: S' → 1 ≤ ((q, v) :: E).length ∧ x = b + ((q, v) :: E).length - 1 := fun S' e => by
      have ex : x = b + E.length := (List.cons.inj e).1
      have hl : ((q, v) :: E).length = E.length + 1 := rfl
      rw [hl, ex]
      exact ⟨by omega, by omega⟩
    rcases h.2 with ⟨_, _, _, S', e, _⟩ | ⟨_, _, _, S', e, _⟩ | ⟨_, a, S', e, _⟩ | ⟨_, _, a, c, S', e, _⟩ <;> exact key S' e
theorem yKt_138 {J : Nat → Nat → Int32} {p : Nat} (h : p < 5) : yKt J 138 p = J 138 (5 + p) := by
  show fil (fun i => J 138 (5 + i)) (J 138) 5 p = _
  exact if_pos h
theorem yKt_139 {J : Nat → Nat → Int32} {p : Nat} (h : p < 5) : yKt J 139 p = J 139 (5 + p) := by
  show fil (fun i => J 139 (5 + i)) (J 139) 5 p = _
  exact if_pos h
theorem yKt_140 {J : Nat → Nat → Int32} {p : Nat} (h : p < 5) : yKt J 140 p = J 140 (5 + p) := by
  show fil (fun i => J 140 (5 + i)) (J 140) 5 p = _
  exact if_pos h
theorem yKt_141 {J : Nat → Nat → Int32} {p : Nat} (h : p < 5) : yKt J 141 p = J 141 (5 + p) := by
  show fil (fun i => J 141 (5 + i)) (J 141) 5 p = _
  exact if_pos h
theorem yKt_142 {J : Nat → Nat → Int32} {s : Nat} (h : s < 16) : yKt J 142 s = J 142 (16 + s) := by
  show fil (fun i => J 142 (16 + i)) (J 142) 16 s = _
  exact if_pos h
theorem yKt_143 {J : Nat → Nat → Int32} {s : Nat} (h : s < 16) : yKt J 143 s = J 143 (16 + s) := by
  show fil (fun i => J 143 (16 + i)) (J 143) 16 s = _
  exact if_pos h
theorem yKt_144 {J : Nat → Nat → Int32} {s : Nat} (h : s < 16) : yKt J 144 s = J 144 (16 + s) := by
  show fil (fun i => J 144 (16 + i)) (J 144) 16 s = _
  exact if_pos h
theorem yKt_145 {J : Nat → Nat → Int32} {s : Nat} (h : s < 16) : yKt J 145 s = J 145 (16 + s) := by
  show fil (fun i => J 145 (16 + i)) (J 145) 16 s = _
  exact if_pos h
theorem yKt_146 {J : Nat → Nat → Int32} {s : Nat} (h : s < 16) : yKt J 146 s = J 146 (16 + s) := by
  show fil (fun i => J 146 (16 + i)) (J 146) 16 s = _
  exact if_pos h
theorem yKt_147 {J : Nat → Nat → Int32} {d : Nat} (h : d < 8) : yKt J 147 d = J 147 (8 + d) := by
  show fil (fun i => J 147 (8 + i)) (J 147) 8 d = _
  exact if_pos h
theorem yKt_148 {J : Nat → Nat → Int32} {d : Nat} (h : d < 8) : yKt J 148 d = J 148 (8 + d) := by
  show fil (fun i => J 148 (8 + i)) (J 148) 8 d = _
  exact if_pos h
theorem yKt_149 {J : Nat → Nat → Int32} {d : Nat} (h : d < 8) : yKt J 149 d = J 149 (8 + d) := by
  show fil (fun i => J 149 (8 + i)) (J 149) 8 d = _
  exact if_pos h
theorem yKt_150 {J : Nat → Nat → Int32} {d : Nat} (h : d < 8) : yKt J 150 d = J 150 (8 + d) := by
  show fil (fun i => J 150 (8 + i)) (J 150) 8 d = _
  exact if_pos h
theorem yKt_151 {J : Nat → Nat → Int32} {k : Nat} (h : k < 32) : yKt J 151 k = J 151 (32 + k) := by
  show fil (fun i => J 151 (32 + i)) (J 151) 32 k = _
  exact if_pos h
theorem yKt_152 {J : Nat → Nat → Int32} {r : Nat} (h : r < 3) : yKt J 152 r = J 152 (3 + r) &&& 1 := by
  show fil (fun i => J 152 (3 + i) &&& 1) (J 152) 3 r = _
  exact if_pos h
theorem yKt_153 {J : Nat → Nat → Int32} {r : Nat} (h : r < 3) : yKt J 153 r = J 153 (3 + r) := by
  show fil (fun i => J 153 (3 + i)) (J 153) 3 r = _
  exact if_pos h
theorem yKt_154 {J : Nat → Nat → Int32} {r : Nat} (h : r < 3) : yKt J 154 r = J 154 (3 + r) := by
  show fil (fun i => J 154 (3 + i)) (J 154) 3 r = _
  exact if_pos h
theorem yKt_155 {J : Nat → Nat → Int32} {k : Nat} (h : k < 64) : yKt J 155 k = J 155 (64 + k) := by
  show fil (fun i => J 155 (64 + i)) (J 155) 64 k = _
  exact if_pos h
theorem yKt_156 {J : Nat → Nat → Int32} {k : Nat} (h : k < 64) : yKt J 156 k = J 156 (64 + k) := by
  show fil (fun i => J 156 (64 + i)) (J 156) 64 k = _
  exact if_pos h
theorem yKt_157 {J : Nat → Nat → Int32} {k : Nat} (h : k < 64) : yKt J 157 k = J 157 (64 + k) := by
  show fil (fun i => J 157 (64 + i)) (J 157) 64 k = _
  exact if_pos h
theorem yKt_162 {J : Nat → Nat → Int32} {s : Nat} (h : s < 16) : yKt J 162 s = J 144 (16 + s) := by
  show fil (fun i => yKt J 144 i) (J 162) 16 s = _
  exact (if_pos h).trans (yKt_144 h)
theorem yKt_163 {J : Nat → Nat → Int32} {s : Nat} (h : s < 16) : yKt J 163 s = J 146 (16 + s) := by
  show fil (fun i => yKt J 146 i) (J 163) 16 s = _
  exact (if_pos h).trans (yKt_146 h)
theorem yKt_164 {J : Nat → Nat → Int32} {p : Nat} (h : p < 5) : yKt J 164 p = -1 := by
  show rng (-1) (J 164) 0 5 p = _
  exact if_pos ⟨Nat.zero_le _, h⟩
theorem yKt_165 {J : Nat → Nat → Int32} {p : Nat} (h : p < 5) : yKt J 165 p = -1 := by
  show rng (-1) (J 165) 0 5 p = _
  exact if_pos ⟨Nat.zero_le _, h⟩
theorem yKt_ok {J : Nat → Nat → Int32} {pr sr dr rr kr : Nat} (hc : lnC J pr sr dr rr kr) (w : drA J pr sr dr rr kr) : mOK (yKt J) pr sr dr ∧ zOK (yKt J) pr sr ∧ dbM (yKt J) pr dr ∧ mI (yKt J) 0 pr sr ∧ wfL (yKt J) := by
  obtain ⟨hp, ⟨h17, hp5⟩, ⟨h18, hs16⟩, ⟨h19, hd8⟩, ⟨h20, hr8⟩, h21, h49, h64⟩ := hc
  refine ⟨⟨h17, hp5, h18, hs16, h19, hd8⟩, ⟨fun s hs => ?_, fun p hp => ?_⟩, fun d hd => ?_, ⟨fun s hs => ?_, fun p hp => ?_⟩, fun r hr hne => ?_⟩
  · rw [yKt_143 (by omega)]
    obtain ⟨_, ⟨b, _, b2, b3⟩, _⟩ := w.2.2.1 s hs
    exact ⟨b, b2, b3⟩
  · rw [yKt_139 (by omega)]
    exact (w.1 p hp).2.1
  · rw [yKt_147 (by omega), yKt_148 (by omega), yKt_149 (by omega)]
    obtain ⟨⟨x, y, x1, y1, _, x2, y2⟩, ⟨u, u1, u2, u3⟩, _⟩ := w.2.2.2.1 d hd
    exact ⟨⟨x, x1, x2⟩, ⟨y, y1, y2⟩, u, u2, u1, u3⟩
  · rw [show 16 * 0 + s = s by omega, yKt_162 (by omega), yKt_163 (by omega)]
    obtain ⟨_, _, ⟨c, c1, c2⟩, _, e⟩ := w.2.2.1 s hs
    exact ⟨Or.inr e, c, by omega, c2⟩
  · rw [show 5 * 0 + p = p by omega, yKt_164 (by omega), yKt_165 (by omega)]
    exact ⟨Or.inl rfl, Or.inl rfl⟩
  · rw [yKt_152 hr] at hne
    obtain ⟨b, E, x, b1, b2, b3, b4⟩ := w.2.2.2.2.2 r hr (fun e => hne (by rw [e]; rfl))
    obtain ⟨t1, t2⟩ := shE_top b4
    refine ⟨b, b + E.length, (yKt_153 hr).trans b1, (yKt_154 hr).trans b2, by omega, by omega, ?_⟩
    have c4 : shE (yKt J 155) (yKt J 156) (yKt J 157) b E [x] := shE_cg (fun j hj => ⟨yKt_155 (by omega), yKt_156 (by omega), yKt_157 (by omega)⟩) b4
    have := shE_kW E [x] c4 0 (by rw [t2]; rfl)
    rw [Nat.zero_add] at this
    rw [show b + E.length - b = E.length by omega]
    exact this
theorem yKt_cl {J : Nat → Nat → Int32} {pr sr dr rr kr : Nat} (hp5 : pr ≤ 5) (w : drA J pr sr dr rr kr) : ∃ c, clM (yKt J) pr c := by
  refine ⟨fun p => if p < pr ∧ ¬ J 141 (5 + p) = -1 then ixn (J 141 (5 + p)) else 0, fun p hp => ?_, fun p => ?_, fun p hp => if_neg (fun w => by omega)⟩
  · rw [yKt_141 (by omega)]
    by_cases e : J 141 (5 + p) = -1
    · exact Or.inl ⟨e, if_neg (fun w => w.2 e)⟩
    · rcases w.2.1 p (by omega) with e2 | ⟨_, v, v1, v2, e2⟩
      · exact absurd e2 e
      · refine Or.inr ?_
        dsimp only
        rw [if_pos ⟨hp, e⟩, e2, ixn_nI (by omega)]
        exact ⟨rfl, v1⟩
  · dsimp only
    by_cases hh : p < pr ∧ ¬ J 141 (5 + p) = -1
    · rw [if_pos hh]
      rcases w.2.1 p (by omega) with e2 | ⟨_, v, v1, v2, e2⟩
      · exact absurd e2 hh.2
      · rw [e2, ixn_nI (by omega)]; exact v2
    · rw [if_neg hh]; exact Nat.zero_le _
