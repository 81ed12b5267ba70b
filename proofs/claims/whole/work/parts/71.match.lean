/-! ===== matchings: lists of pairs that share no row and no column ===== -/
def mtW (w : Nat → Nat → Nat) : List (Nat × Nat) → Nat
  | [] => 0
  | p :: ps => w p.1 p.2 + mtW w ps
def mtC : List (Nat × Nat) → Nat
  | [] => 0
  | p :: ps => mtC ps ||| 2 ^ p.2
def mtG (ok : Nat → Nat → Prop) (ps : List (Nat × Nat)) : Prop := (∀ p ∈ ps, ok p.1 p.2) ∧ ps.Pairwise (fun a b => a.1 ≠ b.1 ∧ a.2 ≠ b.2)
def isMx (ok : Nat → Nat → Prop) (w : Nat → Nat → Nat) (v : Nat) : Prop := (∃ ps, mtG ok ps ∧ mtW w ps = v) ∧ ∀ ps, mtG ok ps → mtW w ps ≤ v
theorem mtG_nil (ok : Nat → Nat → Prop) : mtG ok [] := ⟨fun p h => absurd h List.not_mem_nil, List.Pairwise.nil⟩
theorem mtG_im {ok ok' : Nat → Nat → Prop} {ps : List (Nat × Nat)} (h : mtG ok ps) (hi : ∀ a b, ok a b → ok' a b) : mtG ok' ps := ⟨fun p hp => hi _ _ (h.1 p hp), h.2⟩
theorem mtG_cons {ok : Nat → Nat → Prop} {a b : Nat} {ps : List (Nat × Nat)} (h : mtG (fun x y => ok x y ∧ x ≠ a ∧ y ≠ b) ps) (hab : ok a b) : mtG ok ((a, b) :: ps) := by
  refine ⟨fun p hp => ?_, List.pairwise_cons.mpr ⟨fun p hp => ?_, h.2⟩⟩
  · rcases List.mem_cons.mp hp with e | e
    · subst e; exact hab
    · exact (h.1 p e).1
  · have := h.1 p hp
    exact ⟨Ne.symm this.2.1, Ne.symm this.2.2⟩
theorem mtW_cg {ok : Nat → Nat → Prop} {w w' : Nat → Nat → Nat} (hw : ∀ a b, ok a b → w a b = w' a b) : ∀ {ps : List (Nat × Nat)}, (∀ p ∈ ps, ok p.1 p.2) → mtW w ps = mtW w' ps
  | [], _ => rfl
  | p :: ps, h => by
    unfold mtW
    rw [hw _ _ (h p List.mem_cons_self), mtW_cg hw (fun q hq => h q (List.mem_cons_of_mem _ hq))]
theorem isMx_u {ok : Nat → Nat → Prop} {w : Nat → Nat → Nat} {v v' : Nat} (h : isMx ok w v) (h' : isMx ok w v') : v = v' := by
  obtain ⟨⟨ps, h1, h2⟩, h3⟩ := h
  obtain ⟨⟨ps', h1', h2'⟩, h3'⟩ := h'
  have := h3 ps' h1'
  have := h3' ps h1
  omega
theorem isMx_cg {ok ok' : Nat → Nat → Prop} {w w' : Nat → Nat → Nat} {v : Nat} (h : isMx ok w v) (ho : ∀ a b, ok a b ↔ ok' a b) (hw : ∀ a b, ok a b → w a b = w' a b) : isMx ok' w' v := by
  obtain ⟨⟨ps, h1, h2⟩, h3⟩ := h
  refine ⟨⟨ps, mtG_im h1 (fun a b => (ho a b).mp), by rw [← mtW_cg hw h1.1]; exact h2⟩, fun qs hq => ?_⟩
  have hq' := mtG_im hq (fun a b => (ho a b).mpr)
  rw [← mtW_cg hw hq'.1]
  exact h3 qs hq'
theorem mtW_sw (w : Nat → Nat → Nat) : ∀ ps : List (Nat × Nat), mtW (fun a b => w b a) (ps.map Prod.swap) = mtW w ps
  | [] => rfl
  | p :: ps => by
    show w p.1 p.2 + mtW _ (ps.map Prod.swap) = _
    rw [mtW_sw w ps]
    rfl
theorem mtG_sw {ok : Nat → Nat → Prop} {ps : List (Nat × Nat)} (h : mtG ok ps) : mtG (fun a b => ok b a) (ps.map Prod.swap) := by
  refine ⟨fun p hp => ?_, ?_⟩
  · obtain ⟨q, hq, rfl⟩ := List.mem_map.mp hp
    exact h.1 q hq
  · rw [List.pairwise_map]
    exact h.2.imp (fun q => ⟨q.2, q.1⟩)
theorem isMx_sw {ok : Nat → Nat → Prop} {w : Nat → Nat → Nat} {v : Nat} (h : isMx ok w v) : isMx (fun a b => ok b a) (fun a b => w b a) v := by
  obtain ⟨⟨ps, h1, h2⟩, h3⟩ := h
  refine ⟨⟨ps.map Prod.swap, mtG_sw h1, by rw [mtW_sw]; exact h2⟩, fun qs hq => ?_⟩
  have := h3 _ (mtG_sw hq)
  have e := mtW_sw (fun a b => w b a) qs
  rw [← e]
  exact this
theorem or_sw (a b c : Nat) : a ||| b ||| c = a ||| c ||| b := by rw [Nat.or_assoc, Nat.or_comm b c, ← Nat.or_assoc]
/-- a matching has no pair in row i, or one, and the rest -/
theorem mt_split (w : Nat → Nat → Nat) (i : Nat) : ∀ ps : List (Nat × Nat), ps.Pairwise (fun a b => a.1 ≠ b.1 ∧ a.2 ≠ b.2) → (∀ p ∈ ps, p.1 ≠ i) ∨ ∃ k qs, (i, k) ∈ ps ∧ (∀ q ∈ qs, q ∈ ps ∧ q.1 ≠ i ∧ q.2 ≠ k) ∧ qs.Pairwise (fun a b => a.1 ≠ b.1 ∧ a.2 ≠ b.2) ∧ mtW w ps = w i k + mtW w qs ∧ mtC ps = mtC qs ||| 2 ^ k
  | [], _ => Or.inl (fun p h => absurd h List.not_mem_nil)
  | p :: ps, h => by
    obtain ⟨h1, h2⟩ := List.pairwise_cons.mp h
    by_cases e : p.1 = i
    · refine Or.inr ⟨p.2, ps, ?_, fun q hq => ?_, h2, ?_, rfl⟩
      · rw [← e]; exact List.mem_cons_self
      · have := h1 q hq
        exact ⟨List.mem_cons_of_mem _ hq, fun w => this.1 (e.trans w.symm), fun w => this.2 w.symm⟩
      · rw [← e]; rfl
    · rcases mt_split w i ps h2 with q | ⟨k, qs, q1, q2, q3, q4, q5⟩
      · refine Or.inl (fun x hx => ?_)
        rcases List.mem_cons.mp hx with w | w
        · subst w; exact e
        · exact q x w
      · refine Or.inr ⟨k, p :: qs, List.mem_cons_of_mem _ q1, fun x hx => ?_, List.pairwise_cons.mpr ⟨fun x hx => h1 x (q2 x hx).1, q3⟩, ?_, ?_⟩
        · rcases List.mem_cons.mp hx with w | w
          · subst w; exact ⟨List.mem_cons_self, e, (h1 _ q1).2⟩
          · exact ⟨List.mem_cons_of_mem _ (q2 x w).1, (q2 x w).2⟩
        · show w p.1 p.2 + mtW w ps = w i k + (w p.1 p.2 + mtW w qs)
          omega
        · show mtC ps ||| 2 ^ p.2 = mtC qs ||| 2 ^ p.2 ||| 2 ^ k
          rw [q5, or_sw]
theorem mtG_split (w : Nat → Nat → Nat) (i : Nat) {ok : Nat → Nat → Prop} {ps : List (Nat × Nat)} (h : mtG ok ps) : mtG (fun a b => ok a b ∧ a ≠ i) ps ∨ ∃ k qs, ok i k ∧ mtG (fun a b => ok a b ∧ a ≠ i ∧ b ≠ k) qs ∧ mtW w ps = w i k + mtW w qs ∧ mtC ps = mtC qs ||| 2 ^ k := by
  rcases mt_split w i ps h.2 with q | ⟨k, qs, q1, q2, q3, q4, q5⟩
  · exact Or.inl ⟨fun p hp => ⟨h.1 p hp, q p hp⟩, h.2⟩
  · exact Or.inr ⟨k, qs, h.1 _ q1, ⟨fun x hx => ⟨h.1 _ (q2 x hx).1, (q2 x hx).2⟩, q3⟩, q4, q5⟩
/-- the best, by what row i does -/
theorem isMx_row {ok : Nat → Nat → Prop} {w : Nat → Nat → Nat} {i v v0 : Nat} {vk : Nat → Nat} (h0 : isMx (fun a b => ok a b ∧ a ≠ i) w v0) (hk : ∀ k, ok i k → isMx (fun a b => ok a b ∧ a ≠ i ∧ b ≠ k) w (vk k)) (hv : v = v0 ∨ ∃ k, ok i k ∧ v = w i k + vk k) (hl0 : v0 ≤ v) (hlk : ∀ k, ok i k → w i k + vk k ≤ v) : isMx ok w v := by
  refine ⟨?_, fun ps hp => ?_⟩
  · rcases hv with e | ⟨k, hok, e⟩
    · obtain ⟨⟨ps, h1, h2⟩, _⟩ := h0
      exact ⟨ps, mtG_im h1 (fun a b q => q.1), h2.trans e.symm⟩
    · obtain ⟨⟨ps, h1, h2⟩, _⟩ := hk k hok
      exact ⟨(i, k) :: ps, mtG_cons h1 hok, by rw [e, ← h2]; rfl⟩
  · rcases mtG_split w i hp with q | ⟨k, qs, q1, q2, q3, _⟩
    · exact Nat.le_trans (h0.2 ps q) hl0
    · have := (hk k q1).2 qs q2
      have := hlk k q1
      omega
theorem isMx_0 {ok : Nat → Nat → Prop} {w : Nat → Nat → Nat} (h : ∀ a b, ¬ ok a b) : isMx ok w 0 := by
  refine ⟨⟨[], mtG_nil _, rfl⟩, fun ps hp => ?_⟩
  cases ps with
  | nil => exact Nat.le_refl _
  | cons p ps => exact absurd (hp.1 p List.mem_cons_self) (h _ _)
theorem bw_mx (bf rf : Nat → Nat) (m : Nat) : ∀ n, (bw bf rf m n = bf m ∨ ∃ i, i < n ∧ m.testBit i = true ∧ bw bf rf m n = rf i + bf (m ^^^ 2 ^ i)) ∧ bf m ≤ bw bf rf m n ∧ ∀ i, i < n → m.testBit i = true → rf i + bf (m ^^^ 2 ^ i) ≤ bw bf rf m n
  | 0 => ⟨Or.inl rfl, Nat.le_refl _, fun i hi => absurd hi (Nat.not_lt_zero _)⟩
  | n + 1 => by
    obtain ⟨h1, h2, h3⟩ := bw_mx bf rf m n
    by_cases hb : m.testBit n = true
    · rw [bw_y hb]
      refine ⟨?_, Nat.le_trans h2 (Nat.le_max_left _ _), fun i hi hbi => ?_⟩
      · rcases Nat.le_total (bw bf rf m n) (bf (m ^^^ 2 ^ n) + rf n) with q | q
        · rw [Nat.max_eq_right q]
          exact Or.inr ⟨n, by omega, hb, Nat.add_comm _ _⟩
        · rw [Nat.max_eq_left q]
          rcases h1 with e | ⟨i, hi, e⟩
          · exact Or.inl e
          · exact Or.inr ⟨i, by omega, e⟩
      · by_cases e : i = n
        · subst e; rw [Nat.add_comm]; exact Nat.le_max_right _ _
        · exact Nat.le_trans (h3 i (by omega) hbi) (Nat.le_max_left _ _)
    · rw [show bw bf rf m (n + 1) = bw bf rf m n from if_neg hb]
      refine ⟨?_, h2, fun i hi hbi => ?_⟩
      · rcases h1 with e | ⟨i, hi, e⟩
        · exact Or.inl e
        · exact Or.inr ⟨i, by omega, e⟩
      · by_cases e : i = n
        · subst e; exact absurd hbi hb
        · exact h3 i (by omega) hbi
theorem tb_xor {m k b : Nat} (hk : m.testBit k = true) : (m ^^^ 2 ^ k).testBit b = true ↔ m.testBit b = true ∧ b ≠ k := by
  rw [Nat.testBit_xor, Nat.testBit_two_pow]
  by_cases e : k = b
  · subst e; rw [hk]; simp
  · rw [decide_eq_false e, Bool.xor_false]
    exact ⟨fun h => ⟨h, fun q => e q.symm⟩, fun h => h.1⟩
/-- the class's table holds the best of matchings -/
theorem bst_mx (W : Nat → Nat → Nat) (small : Nat) : ∀ j m, isMx (fun a b => a < j ∧ b < small ∧ m.testBit b = true) (fun a b => W b a) (bst W small j m)
  | 0, m => isMx_0 (fun a b h => absurd h.1 (Nat.not_lt_zero _))
  | j + 1, m => by
    obtain ⟨h1, h2, h3⟩ := bw_mx (bst W small j) (fun i => W i j) m small
    refine isMx_row (i := j) (v0 := bst W small j m) (vk := fun k => bst W small j (m ^^^ 2 ^ k)) ?_ (fun k hk => ?_) ?_ h2 (fun k hk => h3 k hk.2.1 hk.2.2)
    · exact isMx_cg (bst_mx W small j m) (fun a b => ⟨fun q => ⟨⟨by omega, q.2⟩, by omega⟩, fun q => ⟨by omega, q.1.2⟩⟩) (fun _ _ _ => rfl)
    · refine isMx_cg (bst_mx W small j (m ^^^ 2 ^ k)) (fun a b => ?_) (fun _ _ _ => rfl)
      rw [tb_xor hk.2.2]
      exact ⟨fun q => ⟨⟨by omega, q.2.1, q.2.2.1⟩, by omega, q.2.2.2⟩, fun q => ⟨by omega, q.1.2.1, q.1.2.2, q.2.2⟩⟩
    · rcases h1 with e | ⟨i, hi, hb, e⟩
      · exact Or.inl e
      · exact Or.inr ⟨i, ⟨by omega, hi, hb⟩, e⟩
/-- the best of rows l .. l + c with the columns S -/
def vF (w : Nat → Nat → Nat) (nc : Nat) : Nat → Nat → Nat → Nat
  | 0, _, _ => 0
  | c + 1, l, S => bw (vF w nc c (l + 1)) (w l) S nc
theorem vF_mx (w : Nat → Nat → Nat) (nc : Nat) : ∀ c l S, isMx (fun a b => l ≤ a ∧ a < l + c ∧ b < nc ∧ S.testBit b = true) w (vF w nc c l S)
  | 0, l, S => isMx_0 (fun a b h => by omega)
  | c + 1, l, S => by
    obtain ⟨h1, h2, h3⟩ := bw_mx (vF w nc c (l + 1)) (w l) S nc
    refine isMx_row (i := l) (v0 := vF w nc c (l + 1) S) (vk := fun k => vF w nc c (l + 1) (S ^^^ 2 ^ k)) ?_ (fun k hk => ?_) ?_ h2 (fun k hk => h3 k hk.2.2.1 hk.2.2.2)
    · exact isMx_cg (vF_mx w nc c (l + 1) S) (fun a b => ⟨fun q => ⟨⟨by omega, by omega, q.2.2⟩, by omega⟩, fun q => ⟨by omega, by omega, q.1.2.2⟩⟩) (fun _ _ _ => rfl)
    · refine isMx_cg (vF_mx w nc c (l + 1) (S ^^^ 2 ^ k)) (fun a b => ?_) (fun _ _ _ => rfl)
      rw [tb_xor hk.2.2.2]
      exact ⟨fun q => ⟨⟨by omega, by omega, q.2.2.1, q.2.2.2.1⟩, by omega, q.2.2.2.2⟩, fun q => ⟨by omega, by omega, q.1.2.2.1, q.1.2.2.2, q.2.2⟩⟩
    · rcases h1 with e | ⟨i, hi, hb, e⟩
      · exact Or.inl e
      · exact Or.inr ⟨i, ⟨Nat.le_refl _, by omega, hi, hb⟩, e⟩
theorem mtC_tb : ∀ (ps : List (Nat × Nat)) (b : Nat), (mtC ps).testBit b = true ↔ ∃ p ∈ ps, p.2 = b
  | [], b => by
    show (0 : Nat).testBit b = true ↔ _
    rw [Nat.zero_testBit]
    exact ⟨fun h => (by cases h), fun ⟨p, h, _⟩ => absurd h List.not_mem_nil⟩
  | p :: ps, b => by
    show (mtC ps ||| 2 ^ p.2).testBit b = true ↔ _
    rw [fb_bit_set, Bool.or_eq_true, mtC_tb ps b, decide_eq_true_eq]
    constructor
    · rintro (⟨q, h1, h2⟩ | h)
      · exact ⟨q, List.mem_cons_of_mem _ h1, h2⟩
      · exact ⟨p, List.mem_cons_self, h.symm⟩
    · rintro ⟨q, h1, h2⟩
      rcases List.mem_cons.mp h1 with e | e
      · subst e; exact Or.inr h2.symm
      · exact Or.inl ⟨q, e, h2⟩
theorem mtC_lt {ok : Nat → Nat → Prop} {n : Nat} (hok : ∀ a b, ok a b → b < n) : ∀ {ps : List (Nat × Nat)}, (∀ p ∈ ps, ok p.1 p.2) → mtC ps < 2 ^ n
  | [], _ => Nat.two_pow_pos n
  | p :: ps, h => Nat.or_lt_two_pow (mtC_lt hok (fun q hq => h q (List.mem_cons_of_mem _ hq))) (Nat.pow_lt_pow_right (by decide) (hok _ _ (h p List.mem_cons_self)))
