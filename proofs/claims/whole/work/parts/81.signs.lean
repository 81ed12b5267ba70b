/-! ===== the reference: leaves and signs of a law ===== -/
def zW : List Nat → Nat
  | [] => 0
  | k :: W => (if k = 0 then 1 else 0) + zW W
theorem W_len : ∀ (W : List Nat), (∀ k ∈ W, k = 0 ∨ 2 ≤ k) → W.length = opW W + zW W ∧ nbW W ≤ opW W
  | [], _ => ⟨rfl, Nat.le_refl _⟩
  | k :: W, h => by
    obtain ⟨h1, h2⟩ := W_len W (fun x hx => h x (List.mem_cons_of_mem _ hx))
    have e1 : opW (k :: W) = (if 2 ≤ k then 1 else 0) + opW W := rfl
    have e2 : zW (k :: W) = (if k = 0 then 1 else 0) + zW W := rfl
    have e3 : nbW (k :: W) = (if 3 ≤ k then 1 else 0) + nbW W := rfl
    have e4 : (k :: W).length = W.length + 1 := rfl
    rcases h k List.mem_cons_self with q | q
    · rw [if_neg (by omega)] at e1 e3; rw [if_pos q] at e2; omega
    · rw [if_pos q] at e1; rw [if_neg (by omega)] at e2
      by_cases w : 3 ≤ k
      · rw [if_pos w] at e3; omega
      · rw [if_neg w] at e3; omega
/-- knots, signs, brackets and counts as the memory holds them; h: values that stand over -/
def sgX (I : Nat → Nat → Int32) (b0 : Nat) (E : List (Nat × Nat)) (W : List Nat) (h br cn : Nat) : Prop :=
  ∃ S, shS I b0 E W S ∧ S.length = nbW W + h ∧ b0 + E.length + opW W = cn ∧ cn ≤ 64 ∧ zW W = br ∧ br ≤ 8 ∧ (∀ k ∈ W, k = 0 ∨ 2 ≤ k) ∧ I 134 48 = nI br ∧ I 134 49 = nI cn
theorem shS_to {I J : Nat → Nat → Int32} {b0 : Nat} {E : List (Nat × Nat)} {W S : List Nat} (h : shS I b0 E W S) (h1 : J 155 = I 155) (h2 : J 156 = I 156) (h3 : J 157 = I 157) (h4 : J 158 = I 158) (h5 : J 159 = I 159) (f1 : J 134 21 = I 134 21) (f2 : J 134 46 = I 134 46) (f3 : J 134 47 = I 134 47) : shS J b0 E W S := by
  unfold shS at h ⊢
  rw [h1, h2, h3, h4, h5, f1, f2, f3]
  exact h
theorem sgX_to {I J : Nat → Nat → Int32} {b0 h br cn : Nat} {E : List (Nat × Nat)} {W : List Nat} (hc : sgX I b0 E W h br cn) (h1 : J 155 = I 155) (h2 : J 156 = I 156) (h3 : J 157 = I 157) (h4 : J 158 = I 158) (h5 : J 159 = I 159) (f1 : J 134 21 = I 134 21) (f2 : J 134 46 = I 134 46) (f3 : J 134 47 = I 134 47) (f4 : J 134 48 = I 134 48) (f5 : J 134 49 = I 134 49) : sgX J b0 E W h br cn := by
  obtain ⟨S, q1, q2, q3, q4, q5, q6, q7, q8, q9⟩ := hc
  exact ⟨S, shS_to q1 h1 h2 h3 h4 h5 f1 f2 f3, q2, q3, q4, q5, q6, q7, f4.trans q8, f5.trans q9⟩
theorem sgX_prF {I J : Nat → Nat → Int32} {b0 h br cn : Nat} {E : List (Nat × Nat)} {W : List Nat} (hc : sgX I b0 E W h br cn) (hf : prF J I) : sgX J b0 E W h br cn :=
  sgX_to hc (hf.1 _ (by decide)) (hf.1 _ (by decide)) (hf.1 _ (by decide)) (hf.1 _ (by decide)) (hf.1 _ (by decide)) (hf.2 _ (by decide)) (hf.2 _ (by decide)) (hf.2 _ (by decide)) (hf.2 _ (by decide)) (hf.2 _ (by decide))
theorem sgX_set {I : Nat → Nat → Int32} {b0 h br cn k : Nat} {E : List (Nat × Nat)} {W : List Nat} (hc : sgX I b0 E W h br cn) (hk : k = 50 ∨ k = 51) (x : Int32) : sgX (sI I 134 k x) b0 E W h br cn :=
  sgX_to hc (sI_ne (by decide)) (sI_ne (by decide)) (sI_ne (by decide)) (sI_ne (by decide)) (sI_ne (by decide)) (sI_rd (by omega)) (sI_rd (by omega)) (sI_rd (by omega)) (sI_rd (by omega)) (sI_rd (by omega))
theorem sgX_len {I : Nat → Nat → Int32} {b0 h br cn : Nat} {E : List (Nat × Nat)} {W : List Nat} (hc : sgX I b0 E W h br cn) : W.length ≤ 72 ∧ b0 + E.length ≤ cn ∧ cn ≤ 64 ∧ br ≤ 8 := by
  obtain ⟨S, q1, q2, q3, q4, q5, q6, q7, q8, q9⟩ := hc
  have := W_len W q7
  omega
theorem sgX_op0 {I : Nat → Nat → Int32} {b0 h br cn : Nat} {E : List (Nat × Nat)} {W : List Nat} (hc : sgX I b0 E W h br cn) (hb : br < 8) : sgX (sI (sI (sI I 134 48 (nI (br + 1))) 158 W.length 0) 134 46 (nI (W.length + 1))) b0 E (0 :: W) h (br + 1) cn := by
  obtain ⟨S, ⟨r1, r2, r3, r4, r5, r6, r7⟩, q2, q3, q4, q5, q6, q7, q8, q9⟩ := hc
  refine ⟨S, ⟨r1, r2, rfl, r4, rwL_cons (x := 0) r5, r6, fun k hk => ?_⟩, (by show S.length = (if 3 ≤ 0 then 1 else 0) + nbW W + h; rw [if_neg (by decide)]; omega), (by show b0 + E.length + ((if 2 ≤ 0 then 1 else 0) + opW W) = cn; rw [if_neg (by decide)]; omega), q4, ?_, by omega, fun k hk => ?_, rfl, q9⟩
  · rcases List.mem_cons.mp hk with e | e
    · omega
    · exact r7 k e
  · show 1 + zW W = _; omega
  · rcases List.mem_cons.mp hk with e | e
    · exact Or.inl e
    · exact q7 k e
theorem sgX_opk {I : Nat → Nat → Int32} {b0 h h2 br cn k : Nat} {E : List (Nat × Nat)} {W : List Nat} (hc : sgX I b0 E W h br cn) (hk2 : 2 ≤ k) (hk14 : k ≤ 14) (hn : cn < 64) (hh : h = (if 3 ≤ k then 1 else 0) + h2) : sgX (sI (sI (sI I 134 49 (nI (cn + 1))) 158 W.length (nI k)) 134 46 (nI (W.length + 1))) b0 E (k :: W) h2 br (cn + 1) := by
  obtain ⟨S, ⟨r1, r2, r3, r4, r5, r6, r7⟩, q2, q3, q4, q5, q6, q7, q8, q9⟩ := hc
  refine ⟨S, ⟨r1, r2, rfl, r4, rwL_cons (x := k) r5, r6, fun k hk => ?_⟩, ?_, ?_, by omega, ?_, q6, fun k hk => ?_, q8, rfl⟩
  · rcases List.mem_cons.mp hk with e | e
    · omega
    · exact r7 k e
  · show S.length = (if 3 ≤ k then 1 else 0) + nbW W + h2; omega
  · show b0 + E.length + ((if 2 ≤ k then 1 else 0) + opW W) = cn + 1
    rw [if_pos hk2]; omega
  · show (if k = 0 then 1 else 0) + zW W = br
    rw [if_neg (by omega)]; omega
  · rcases List.mem_cons.mp hk with e | e
    · omega
    · exact q7 k e
/-- the token as two memories hold it -/
def tq (I G : Nat → Nat → Int32) : Prop := I 135 = G 135 ∧ I 136 = G 136 ∧ ∀ k, 4 ≤ k → k ≤ 10 → I 134 k = G 134 k
theorem tq_tok {I G : Nat → Nat → Int32} (h : tq I G) : tq (yTok I) (yTok G) := by
  have hb : bT I = bT G := by unfold bT; rw [h.1]
  have h6 := h.2.2 6 (by decide) (by decide)
  have h7 := h.2.2 7 (by decide) (by decide)
  have h9 := h.2.2 9 (by decide) (by decide)
  refine ⟨h.1, h.2.1, fun k k1 k2 => ?_⟩
  have e1 : yTok I 134 7 = yTok G 134 7 := by show nI (tkE (bT I) (ixn (I 134 6)) (tkA (bT I) (ixn (I 134 6)) (ixn (I 134 7)))) = nI (tkE (bT G) (ixn (G 134 6)) (tkA (bT G) (ixn (G 134 6)) (ixn (G 134 7)))); rw [hb, h6, h7]
  have e2 : yTok I 134 8 = yTok G 134 8 := by show nI (tkK (bT I) (ixn (I 134 6)) (tkA (bT I) (ixn (I 134 6)) (ixn (I 134 7)))) = nI (tkK (bT G) (ixn (G 134 6)) (tkA (bT G) (ixn (G 134 6)) (ixn (G 134 7)))); rw [hb, h6, h7]
  have e3 : yTok I 134 9 = yTok G 134 9 := by show tkH (bT I) (ixn (I 134 6)) (tkA (bT I) (ixn (I 134 6)) (ixn (I 134 7))) (I 134 9) = tkH (bT G) (ixn (G 134 6)) (tkA (bT G) (ixn (G 134 6)) (ixn (G 134 7))) (G 134 9); rw [hb, h6, h7, h9]
  have e4 : yTok I 134 10 = yTok G 134 10 := by show nI (tkA (bT I) (ixn (I 134 6)) (ixn (I 134 7))) = nI (tkA (bT G) (ixn (G 134 6)) (ixn (G 134 7))); rw [hb, h6, h7]
  rcases (show k = 4 ∨ k = 5 ∨ k = 6 ∨ k = 7 ∨ k = 8 ∨ k = 9 ∨ k = 10 by omega) with rfl | rfl | rfl | rfl | rfl | rfl | rfl
  · exact h.2.2 4 (by decide) (by decide)
  · exact h.2.2 5 (by decide) (by decide)
  · exact h6
  · exact e1
  · exact e2
  · exact e3
  · exact e4
theorem tq_set {I G : Nat → Nat → Int32} (h : tq I G) {k : Nat} (hk : k < 4 ∨ 10 < k) (x : Int32) : tq (sI I 134 k x) G :=
  ⟨(sI_ne (by decide)).trans h.1, (sI_ne (by decide)).trans h.2.1, fun j j1 j2 => (sI_rd (by omega)).trans (h.2.2 j j1 j2)⟩
theorem tq_st {I G : Nat → Nat → Int32} (h : tq I G) {a k : Nat} (ha : 137 ≤ a) (x : Int32) : tq (sI I a k x) G :=
  ⟨(sI_ne (by omega)).trans h.1, (sI_ne (by omega)).trans h.2.1, fun j j1 j2 => by rw [sI_ne (by omega)]; exact h.2.2 j j1 j2⟩
/-- what a token's which is, by its kind -/
def tkI (G : Nat → Nat → Int32) : Prop := (G 134 8 = 3 → ∃ v, v ≤ 999999 ∧ G 134 9 = nI v) ∧ (G 134 8 = 1 → ∃ v, v < 25 ∧ G 134 9 = nI v) ∧ (G 134 8 = 5 → ∃ v, v < 6 ∧ G 134 9 = nI v)
def nmA (G : Nat → Nat → Int32) : Int32 := if ¬ G 134 8 = 1 then -1 else if G 134 9 = 7 then 2 else if 21 ≤ G 134 9 then 3 + G 134 9 - 21 else if 19 ≤ G 134 9 then G 134 9 - 19 else -1
def opA (G : Nat → Nat → Int32) : Nat := if G 134 8 = 1 ∧ G 134 9 = 16 then 3 else if G 134 8 = 1 ∧ G 134 9 = 17 then 4 else if G 134 8 = 5 then 5 + ixn (G 134 9) else if G 134 8 = 4 ∧ G 134 9 = 43 then 11 else if G 134 8 = 4 ∧ G 134 9 = 45 then 12 else if G 134 8 = 4 ∧ G 134 9 = 42 then 13 else if G 134 8 = 4 ∧ G 134 9 = 47 then 14 else 0
def leafA (E : List (Nat × Nat)) (W : List Nat) (wn mn : Bool) (br cn : Nat) (G : Nat → Nat → Int32) : Nat × List (Nat × Nat) × List Nat × Bool × Bool × Nat × Nat × (Nat → Nat → Int32) :=
  if G 134 8 = 4 ∧ G 134 9 = 40 then (if br = 8 then (2, E, W, wn, mn, br, cn, G) else (0, E, 0 :: W, wn, true, br + 1, cn, yTok G))
  else if (G 134 8 = 1 ∧ G 134 9 = 18) ∧ mn = true then (if cn = 64 then (2, E, W, wn, mn, br, cn, G) else (0, E, 2 :: W, wn, mn, br, cn + 1, yTok G))
  else if nmA G < 0 ∧ ¬ G 134 8 = 3 then (1, E, W, wn, mn, br, cn, G)
  else if nmA G < 0 ∧ 9999 < G 134 9 then (2, E, W, wn, mn, br, cn, G)
  else if cn = 64 then (2, E, W, wn, mn, br, cn, G)
  else (0, (if nmA G < 0 then (0, ixn (G 134 9)) else (1, ixn (nmA G))) :: E, W, false, mn, br, cn + 1, yTok G)
def signsA (E : List (Nat × Nat)) (W : List Nat) (wn mn : Bool) (br cn : Nat) (G : Nat → Nat → Int32) : Nat × List (Nat × Nat) × List Nat × Bool × Bool × Nat × Nat × (Nat → Nat → Int32) :=
  if (G 134 8 = 4 ∧ G 134 9 = 41) ∧ 0 < br then (0, (bindA 1 W E).2, (bindA 1 W E).1.tail, wn, mn, br - 1, cn, yTok G)
  else if opA G = 0 then (1, E, W, wn, mn, br, cn, G)
  else if rkN (opA G) = 4 ∧ rkN ((bindA 5 W E).1.headD 0) = 4 then (1, E, W, wn, mn, br, cn, G)
  else if cn = 64 then (2, E, W, wn, mn, br, cn, G)
  else (0, (bindA (if rkN (opA G) = 4 then 5 else rkN (opA G)) W E).2, opA G :: (bindA (if rkN (opA G) = 4 then 5 else rkN (opA G)) W E).1, true, decide (rkN (opA G) < 3), br, cn + 1, yTok G)
/-- the memory while a law is read -/
def sgI (I : Nat → Nat → Int32) (b0 : Nat) (E : List (Nat × Nat)) (W : List Nat) (wn mn : Bool) (br cn : Nat) (G : Nat → Nat → Int32) : Prop :=
  sgX I b0 E W (if wn = true then 0 else 1) br cn ∧ I 134 50 = bI wn ∧ I 134 51 = bI mn ∧ prI I ∧ tq I G ∧ tkI G
/-- what reading a law leaves -/
def sgF (J I : Nat → Nat → Int32) (kr : Nat) : Prop := (∀ a, a ∉ [134, 155, 156, 157, 158, 159] → J a = I a) ∧ (∀ k, k ∉ [4, 5, 7, 8, 9, 10, 11, 21, 46, 47, 48, 49, 50, 51] → J 134 k = I 134 k) ∧ ∀ j, j < 64 + kr → J 155 j = I 155 j ∧ J 156 j = I 156 j ∧ J 157 j = I 157 j
theorem sgF.rf (I : Nat → Nat → Int32) (kr : Nat) : sgF I I kr := ⟨fun _ _ => rfl, fun _ _ => rfl, fun _ _ => ⟨rfl, rfl, rfl⟩⟩
theorem sgF.tr {I J K : Nat → Nat → Int32} {k1 k2 : Nat} (h1 : sgF K J k2) (h2 : sgF J I k1) (hk : k1 ≤ k2) : sgF K I k1 := by
  refine ⟨fun a h => (h1.1 a h).trans (h2.1 a h), fun k h => (h1.2.1 k h).trans (h2.2.1 k h), fun j hj => ?_⟩
  obtain ⟨a1, a2, a3⟩ := h1.2.2 j (by omega)
  obtain ⟨b1, b2, b3⟩ := h2.2.2 j hj
  exact ⟨a1.trans b1, a2.trans b2, a3.trans b3⟩
theorem sgF.set {I J : Nat → Nat → Int32} {kr : Nat} (h : sgF J I kr) {k : Nat} (hk : k ∈ [4, 5, 7, 8, 9, 10, 11, 21, 46, 47, 48, 49, 50, 51]) (x : Int32) : sgF (sI J 134 k x) I kr := by
  refine ⟨fun a ha => ?_, fun j hj => ?_, fun j hj => ?_⟩
  · rw [sI_ne (fun e => ha (by rw [e]; decide))]; exact h.1 a ha
  · rw [sI_rd (fun e => hj (by rw [e]; exact hk))]; exact h.2.1 j hj
  · rw [sI_ne (by decide), sI_ne (by decide), sI_ne (by decide)]; exact h.2.2 j hj
theorem sgF.st {I J : Nat → Nat → Int32} {kr : Nat} (h : sgF J I kr) {a : Nat} (ha : a = 158 ∨ a = 159) (k : Nat) (x : Int32) : sgF (sI J a k x) I kr := by
  refine ⟨fun b hb => ?_, fun j hj => ?_, fun j hj => ?_⟩
  · rw [sI_ne (fun e => hb (by rw [e]; rcases ha with w | w <;> rw [w] <;> decide))]; exact h.1 b hb
  · rw [sI_ne (by omega)]; exact h.2.1 j hj
  · rw [sI_ne (by omega), sI_ne (by omega), sI_ne (by omega)]; exact h.2.2 j hj
theorem sgF_prF {I J K : Nat → Nat → Int32} {kr : Nat} (h : sgF J I kr) (hf : prF K J) : sgF K I kr := by
  refine ⟨fun a ha => (hf.1 a (fun e => ha (by rw [e]; decide))).trans (h.1 a ha), fun k hk => (hf.2 k (fun e => hk (by revert e; simp; omega))).trans (h.2.1 k hk), fun j hj => ?_⟩
  rw [hf.1 155 (by decide), hf.1 156 (by decide), hf.1 157 (by decide)]
  exact h.2.2 j hj
theorem sgF_shF {I J K : Nat → Nat → Int32} {kr k2 : Nat} (h : sgF J I kr) (hf : shF K J k2) (hk : kr ≤ k2) : sgF K I kr := by
  refine ⟨fun a ha => (hf.1 a ha).trans (h.1 a ha), fun k hk => (hf.2.1 k (fun e => hk (by revert e; simp; omega))).trans (h.2.1 k hk), fun j hj => ?_⟩
  obtain ⟨a1, a2, a3⟩ := hf.2.2 j (by omega)
  rw [a1, a2, a3]
  exact h.2.2 j hj
def rSg (X : Nat × List (Nat × Nat) × List Nat × Bool × Bool × Nat × Nat × (Nat → Nat → Int32)) (I : Nat → Nat → Int32) (L : Nat → Nat → Int64) (P : Nat → Nat → Option Nat) (b0 kr : Nat) : Option Value → pM → Prop := fun r M => ∃ f E W wn mn br cn G J, X = (f, E, W, wn, mn, br, cn, G) ∧ r = some (.int (bI (decide (f = 0)))) ∧ M = (J, L, P) ∧ prI J ∧ sgF J I kr ∧ (f = 0 → sgI J b0 E W wn mn br cn G ∧ kr ≤ b0 + E.length) ∧ (¬ f = 0 → J 134 4 = nI f ∧ J 134 5 = G 134 10)

theorem wRes_lt (b : Nat → Nat) (a e : Nat) (h : ¬ wRes b a e < 0) : ∃ v, v < 25 ∧ wRes b a e = nI v := by
  unfold wRes at h ⊢
  by_cases q : e - a ≤ 6 ∧ wIx (pkF b a e) < 25
  · rw [if_pos q]; exact ⟨_, q.2, rfl⟩
  · rw [if_neg q] at h; exact absurd (by decide) h
theorem numV_le {b : Nat → Nat} : ∀ c k v, (∀ j, k ≤ j → j < k + c → b j ≤ 57) → v ≤ 999999 → numV b c k v ≤ 999999
  | 0, k, v, _, h => h
  | c + 1, k, v, hb, h => by
    rw [numV_s]
    refine numV_le c (k + 1) _ (fun j h1 h2 => hb j (by omega) (by omega)) ?_
    have := hb k (Nat.le_refl _) (by omega)
    split <;> omega
theorem sgK_in (b : Nat → Nat) (a : Nat) : sgK b a = 4 ∨ sgK b a = 5 ∨ sgK b a = 6 := by
  unfold sgK
  repeat' split
  all_goals simp
theorem sgH_in {b : Nat → Nat} {n a : Nat} (h : sgK b a = 5) : sgH b n a < 6 := by
  unfold sgK at h
  by_cases q : sgC b a
  · unfold sgH
    rw [if_pos q]
    repeat' split
    all_goals omega
  · rw [if_neg q] at h
    split at h <;> omega
theorem tkI_tok {G : Nat → Nat → Int32} (hp : prI G) : tkI (yTok G) := by
  obtain ⟨h1, h2, n, p, h3, h4, h5, h6⟩ := hp
  have ha := tkA_le (b := bT G) h6
  have e8 : yTok G 134 8 = nI (tkK (bT G) n (tkA (bT G) n p)) := by show nI (tkK (bT G) (ixn (G 134 6)) (tkA (bT G) (ixn (G 134 6)) (ixn (G 134 7)))) = _; rw [h3, h5, ixn_nI (by omega), ixn_nI (by omega)]
  have e9 : yTok G 134 9 = tkH (bT G) n (tkA (bT G) n p) (G 134 9) := by show tkH (bT G) (ixn (G 134 6)) (tkA (bT G) (ixn (G 134 6)) (ixn (G 134 7))) (G 134 9) = _; rw [h3, h5, ixn_nI (by omega), ixn_nI (by omega)]
  unfold tkI
  rw [e8, e9]
  generalize tkA (bT G) n p = a at ha
  have key : ∀ (K : Nat), K < 7 → ∀ c : Nat, c < 7 → (nI K = nI c ↔ K = c) := fun K hK c hc => nI_eq (by omega) (by omega)
  have hrun := runTo_le (fun k => decide (dgP (bT G) n k)) (n - a) a
  by_cases q1 : a = n
  · have : tkK (bT G) n a = 0 := if_pos q1
    rw [this]
    exact ⟨fun w => absurd w (by decide), fun w => absurd w (by decide), fun w => absurd w (by decide)⟩
  · by_cases q2 : smP (bT G) n a
    · have eK : tkK (bT G) n a = if wRes (bT G) a (tkW (bT G) n a) < 0 then (if tkW (bT G) n a - a ≤ 6 then 2 else 6) else 1 := (if_neg q1).trans (if_pos q2)
      have eH : tkH (bT G) n a (G 134 9) = if wRes (bT G) a (tkW (bT G) n a) < 0 ∧ tkW (bT G) n a - a ≤ 6 then nI (pkF (bT G) a (tkW (bT G) n a)) else wRes (bT G) a (tkW (bT G) n a) := (if_neg q1).trans (if_pos q2)
      rw [eK, eH]
      by_cases w1 : wRes (bT G) a (tkW (bT G) n a) < 0
      · rw [if_pos w1]
        by_cases w2 : tkW (bT G) n a - a ≤ 6
        · rw [if_pos w2]; exact ⟨fun w => absurd w (by decide), fun w => absurd w (by decide), fun w => absurd w (by decide)⟩
        · rw [if_neg w2]; exact ⟨fun w => absurd w (by decide), fun w => absurd w (by decide), fun w => absurd w (by decide)⟩
      · rw [if_neg w1, if_neg (fun q => w1 q.1)]
        exact ⟨fun w => absurd w (by decide), fun _ => wRes_lt _ _ _ w1, fun w => absurd w (by decide)⟩
    · by_cases q3 : dgP (bT G) n a
      · have eK : tkK (bT G) n a = 3 := (if_neg q1).trans ((if_neg q2).trans (if_pos q3))
        have eH : tkH (bT G) n a (G 134 9) = nI (numV (bT G) (tkD (bT G) n a - a) a 0) := (if_neg q1).trans ((if_neg q2).trans (if_pos q3))
        rw [eK, eH]
        refine ⟨fun _ => ⟨_, numV_le _ a 0 (fun j j1 j2 => ?_) (by decide), rfl⟩, fun w => absurd w (by decide), fun w => absurd w (by decide)⟩
        have hj : j < tkD (bT G) n a := by unfold tkD at j2 ⊢; omega
        exact (of_decide_eq_true (runTo_in (fun k => decide (dgP (bT G) n k)) (n - a) a j j1 hj)).2.2
      · have eK : tkK (bT G) n a = sgK (bT G) a := (if_neg q1).trans ((if_neg q2).trans (if_neg q3))
        have eH : tkH (bT G) n a (G 134 9) = nI (sgH (bT G) n a) := (if_neg q1).trans ((if_neg q2).trans (if_neg q3))
        rw [eK, eH]
        rcases sgK_in (bT G) a with w | w | w
        · rw [w]; exact ⟨fun w => absurd w (by decide), fun w => absurd w (by decide), fun w => absurd w (by decide)⟩
        · rw [w]; exact ⟨fun w => absurd w (by decide), fun w => absurd w (by decide), fun _ => ⟨_, sgH_in w, rfl⟩⟩
        · rw [w]; exact ⟨fun w => absurd w (by decide), fun w => absurd w (by decide), fun w => absurd w (by decide)⟩
