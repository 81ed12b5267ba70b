/-! ===== the memory rows over (sh, (I, L, P)), indices as naturals ===== -/
def sI (I : Nat → Nat → Int32) (a k : Nat) (x : Int32) : Nat → Nat → Int32 := va_up I a (upd (I a) k x)
def sL (L : Nat → Nat → Int64) (a k : Nat) (x : Int64) : Nat → Nat → Int64 := va_up L a (vp_updL (L a) k x)
def sP (P : Nat → Nat → Option Nat) (a k q : Nat) : Nat → Nat → Option Nat := va_up P a (va_up (P a) k (some q))
theorem sI_ne {I : Nat → Nat → Int32} {a k b : Nat} {x : Int32} (h : b ≠ a) : sI I a k x b = I b := va_up_ne2 _ _ h
theorem sI_eq {I : Nat → Nat → Int32} {a k : Nat} {x : Int32} : sI I a k x a = upd (I a) k x := va_up_eq2 _ _ _
theorem sL_ne {L : Nat → Nat → Int64} {a k b : Nat} {x : Int64} (h : b ≠ a) : sL L a k x b = L b := va_up_ne2 _ _ h
theorem sL_eq {L : Nat → Nat → Int64} {a k : Nat} {x : Int64} : sL L a k x a = vp_updL (L a) k x := va_up_eq2 _ _ _
theorem sP_ne {P : Nat → Nat → Option Nat} {a k b q : Nat} (h : b ≠ a) : sP P a k q b = P b := va_up_ne2 _ _ h
theorem sP_eq {P : Nat → Nat → Option Nat} {a k q : Nat} : sP P a k q a = va_up (P a) k (some q) := va_up_eq2 _ _ _
theorem pIdx {i : Int32} {j n : Nat} (he : i = nI j) (hj : j < n) (hn : n < 2 ^ 31) : vp_in i n ∧ i.toNatClampNeg = j := by
  subst he
  exact ⟨vp_in_nI hj hn, nI_clamp (by omega)⟩
section
variable {μ : pMeth} {d NC NS : Nat} {Q : Option Value → pH → Prop} {pc : Nat} {ls : List (Option Value)} {st : List Value} {sh : List pSh} {I : Nat → Nat → Int32} {L : Nat → Nat → Int64} {P : Nat → Nat → Option Nat} {a c k i n : Nat}
theorem pq_getI (hs : sh[a]? = some (.inl c)) (hk : k < pNf c) (hk0 : pFk c k = 0 ∨ pFk c k = 1) (hf : Cond.fieldLink μ.1.cls i (pF c k).1 (pF c k).2.1 (pF c k).2.2.1 ∈ lw_g) (hd : decode μ.2.1 pc = .ok (.getfield i, 3)) (kk : pWP μ d NC NS Q (pc + 3) ls (.int (I a k) :: st) (sh, (I, L, P))) : pWP μ d NC NS Q pc ls (.ref a :: st) (sh, (I, L, P)) := pw_getI hs hk hk0 hf hd kk
theorem pq_getL (hs : sh[a]? = some (.inl c)) (hk : k < pNf c) (hk0 : pFk c k = 2) (hf : Cond.fieldLink μ.1.cls i (pF c k).1 (pF c k).2.1 (pF c k).2.2.1 ∈ lw_g) (hd : decode μ.2.1 pc = .ok (.getfield i, 3)) (kk : pWP μ d NC NS Q (pc + 3) ls (.long (L a k) :: st) (sh, (I, L, P))) : pWP μ d NC NS Q pc ls (.ref a :: st) (sh, (I, L, P)) := pw_getL hs hk hk0 hf hd kk
theorem pq_getP {q : Nat} (hs : sh[a]? = some (.inl c)) (hk : k < pNf c) (hk0 : pFk c k = 3) (hp : P a k = some q) (hf : Cond.fieldLink μ.1.cls i (pF c k).1 (pF c k).2.1 (pF c k).2.2.1 ∈ lw_g) (hd : decode μ.2.1 pc = .ok (.getfield i, 3)) (kk : pWP μ d NC NS Q (pc + 3) ls (.ref q :: st) (sh, (I, L, P))) : pWP μ d NC NS Q pc ls (.ref a :: st) (sh, (I, L, P)) := pw_getP hs hk hk0 hp hf hd kk
theorem pq_putI {x : Int32} (hs : sh[a]? = some (.inl c)) (hk : k < pNf c) (hk0 : pFk c k = 0) (hf : Cond.fieldLink μ.1.cls i (pF c k).1 (pF c k).2.1 (pF c k).2.2.1 ∈ lw_g) (hfin : pFin c k = false ∨ (μ.1.name = "<init>" ∧ (pF c k).1 = μ.1.cls)) (hd : decode μ.2.1 pc = .ok (.putfield i, 3)) (kk : pWP μ d NC NS Q (pc + 3) ls st (sh, (sI I a k x, L, P))) : pWP μ d NC NS Q pc ls (.int x :: .ref a :: st) (sh, (I, L, P)) := pw_putI hs hk hk0 hf hfin hd kk
theorem pq_putZ {x : Int32} (hs : sh[a]? = some (.inl c)) (hk : k < pNf c) (hk0 : pFk c k = 1) (hx : x = 0 ∨ x = 1) (hf : Cond.fieldLink μ.1.cls i (pF c k).1 (pF c k).2.1 (pF c k).2.2.1 ∈ lw_g) (hfin : pFin c k = false ∨ (μ.1.name = "<init>" ∧ (pF c k).1 = μ.1.cls)) (hd : decode μ.2.1 pc = .ok (.putfield i, 3)) (kk : pWP μ d NC NS Q (pc + 3) ls st (sh, (sI I a k x, L, P))) : pWP μ d NC NS Q pc ls (.int x :: .ref a :: st) (sh, (I, L, P)) := pw_putZ hs hk hk0 hx hf hfin hd kk
theorem pq_putL {x : Int64} (hs : sh[a]? = some (.inl c)) (hk : k < pNf c) (hk0 : pFk c k = 2) (hf : Cond.fieldLink μ.1.cls i (pF c k).1 (pF c k).2.1 (pF c k).2.2.1 ∈ lw_g) (hfin : pFin c k = false ∨ (μ.1.name = "<init>" ∧ (pF c k).1 = μ.1.cls)) (hd : decode μ.2.1 pc = .ok (.putfield i, 3)) (kk : pWP μ d NC NS Q (pc + 3) ls st (sh, (I, sL L a k x, P))) : pWP μ d NC NS Q pc ls (.long x :: .ref a :: st) (sh, (I, L, P)) := pw_putL hs hk hk0 hf hfin hd kk
theorem pq_putP {q : Nat} (hs : sh[a]? = some (.inl c)) (hk : k < pNf c) (hk0 : pFk c k = 3) (hf : Cond.fieldLink μ.1.cls i (pF c k).1 (pF c k).2.1 (pF c k).2.2.1 ∈ lw_g) (hfin : pFin c k = false ∨ (μ.1.name = "<init>" ∧ (pF c k).1 = μ.1.cls)) (hd : decode μ.2.1 pc = .ok (.putfield i, 3)) (kk : pWP μ d NC NS Q (pc + 3) ls st (sh, (I, L, sP P a k q))) : pWP μ d NC NS Q pc ls (.ref q :: .ref a :: st) (sh, (I, L, P)) := pw_putP hs hk hk0 hf hfin hd kk
theorem pq_iald {x : Int32} (j : Nat) (he : x = nI j) (hj : j < n) (hn : n < 2 ^ 31) (hs : sh[a]? = some (.inr (0, n))) (hd : decode μ.2.1 pc = .ok (.iaload, 1)) (kk : pWP μ d NC NS Q (pc + 1) ls (.int (I a j) :: st) (sh, (I, L, P))) : pWP μ d NC NS Q pc ls (.int x :: .ref a :: st) (sh, (I, L, P)) := by
  obtain ⟨h1, h2⟩ := pIdx he hj hn
  refine pw_iald hs h1 hd ?_
  rw [h2]
  exact kk
theorem pq_bald {x : Int32} (j : Nat) (he : x = nI j) (hj : j < n) (hn : n < 2 ^ 31) (hs : sh[a]? = some (.inr (1, n))) (hd : decode μ.2.1 pc = .ok (.baload, 1)) (kk : pWP μ d NC NS Q (pc + 1) ls (.int (I a j) :: st) (sh, (I, L, P))) : pWP μ d NC NS Q pc ls (.int x :: .ref a :: st) (sh, (I, L, P)) := by
  obtain ⟨h1, h2⟩ := pIdx he hj hn
  refine pw_bald hs h1 hd ?_
  rw [h2]
  exact kk
theorem pq_zald {x : Int32} (j : Nat) (he : x = nI j) (hj : j < n) (hn : n < 2 ^ 31) (hs : sh[a]? = some (.inr (2, n))) (hd : decode μ.2.1 pc = .ok (.baload, 1)) (kk : pWP μ d NC NS Q (pc + 1) ls (.int (I a j) :: st) (sh, (I, L, P))) : pWP μ d NC NS Q pc ls (.int x :: .ref a :: st) (sh, (I, L, P)) := by
  obtain ⟨h1, h2⟩ := pIdx he hj hn
  refine pw_zald hs h1 hd ?_
  rw [h2]
  exact kk
theorem pq_lald {x : Int32} (j : Nat) (he : x = nI j) (hj : j < n) (hn : n < 2 ^ 31) (hs : sh[a]? = some (.inr (3, n))) (hd : decode μ.2.1 pc = .ok (.laload, 1)) (kk : pWP μ d NC NS Q (pc + 1) ls (.long (L a j) :: st) (sh, (I, L, P))) : pWP μ d NC NS Q pc ls (.int x :: .ref a :: st) (sh, (I, L, P)) := by
  obtain ⟨h1, h2⟩ := pIdx he hj hn
  refine pw_lald hs h1 hd ?_
  rw [h2]
  exact kk
theorem pq_sald {x : Int32} (j : Nat) (he : x = nI j) (hj : j < n) (hn : n < 2 ^ 31) (hs : sh[0]? = some (.inr (5, n))) (hd : decode μ.2.1 pc = .ok (.iaload, 1)) (kk : pWP μ d NC NS Q (pc + 1) ls (.int (I 0 j) :: st) (sh, (I, L, P))) : pWP μ d NC NS Q pc ls (.int x :: .ref 0 :: st) (sh, (I, L, P)) := by
  obtain ⟨h1, h2⟩ := pIdx he hj hn
  refine pw_sald hs h1 hd ?_
  rw [h2]
  exact kk
theorem pq_aald {x : Int32} (j : Nat) (he : x = nI j) (hj : j < n) (hn : n < 2 ^ 31) {q : Nat} (hq : P a j = some q) (hs : sh[a]? = some (.inr (4, n))) (hd : decode μ.2.1 pc = .ok (.aaload, 1)) (kk : pWP μ d NC NS Q (pc + 1) ls (.ref q :: st) (sh, (I, L, P))) : pWP μ d NC NS Q pc ls (.int x :: .ref a :: st) (sh, (I, L, P)) := by
  obtain ⟨h1, h2⟩ := pIdx he hj hn
  exact pw_aald hs h1 (by rw [h2]; exact hq) hd kk
theorem pq_iast {x y : Int32} (j : Nat) (he : x = nI j) (hj : j < n) (hn : n < 2 ^ 31) (hs : sh[a]? = some (.inr (0, n))) (hd : decode μ.2.1 pc = .ok (.iastore, 1)) (kk : pWP μ d NC NS Q (pc + 1) ls st (sh, (sI I a j y, L, P))) : pWP μ d NC NS Q pc ls (.int y :: .int x :: .ref a :: st) (sh, (I, L, P)) := by
  obtain ⟨h1, h2⟩ := pIdx he hj hn
  refine pw_iast hs h1 hd ?_
  rw [h2]
  exact kk
theorem pq_bast {x y : Int32} (j : Nat) (he : x = nI j) (hj : j < n) (hn : n < 2 ^ 31) (hs : sh[a]? = some (.inr (1, n))) (hd : decode μ.2.1 pc = .ok (.bastore, 1)) (kk : pWP μ d NC NS Q (pc + 1) ls st (sh, (sI I a j y.toInt8.toInt32, L, P))) : pWP μ d NC NS Q pc ls (.int y :: .int x :: .ref a :: st) (sh, (I, L, P)) := by
  obtain ⟨h1, h2⟩ := pIdx he hj hn
  refine pw_bast hs h1 hd ?_
  rw [h2]
  exact kk
theorem pq_zast {x y : Int32} (j : Nat) (he : x = nI j) (hj : j < n) (hn : n < 2 ^ 31) (hs : sh[a]? = some (.inr (2, n))) (hd : decode μ.2.1 pc = .ok (.bastore, 1)) (kk : pWP μ d NC NS Q (pc + 1) ls st (sh, (sI I a j (y &&& 1), L, P))) : pWP μ d NC NS Q pc ls (.int y :: .int x :: .ref a :: st) (sh, (I, L, P)) := by
  obtain ⟨h1, h2⟩ := pIdx he hj hn
  refine pw_zast hs h1 hd ?_
  rw [h2]
  exact kk
theorem pq_last {x : Int32} {y : Int64} (j : Nat) (he : x = nI j) (hj : j < n) (hn : n < 2 ^ 31) (hs : sh[a]? = some (.inr (3, n))) (hd : decode μ.2.1 pc = .ok (.lastore, 1)) (kk : pWP μ d NC NS Q (pc + 1) ls st (sh, (I, sL L a j y, P))) : pWP μ d NC NS Q pc ls (.long y :: .int x :: .ref a :: st) (sh, (I, L, P)) := by
  obtain ⟨h1, h2⟩ := pIdx he hj hn
  refine pw_last hs h1 hd ?_
  rw [h2]
  exact kk
theorem pq_alen {t : Nat} (ht : t < 5) (hs : sh[a]? = some (.inr (t, n))) (hd : decode μ.2.1 pc = .ok (.arraylength, 1)) (kk : pWP μ d NC NS Q (pc + 1) ls (.int (nI n) :: st) (sh, (I, L, P))) : pWP μ d NC NS Q pc ls (.ref a :: st) (sh, (I, L, P)) := pw_alen ht hs hd kk
theorem pq_slen (hs : sh[0]? = some (.inr (5, n))) (hd : decode μ.2.1 pc = .ok (.arraylength, 1)) (kk : pWP μ d NC NS Q (pc + 1) ls (.int (nI n) :: st) (sh, (I, L, P))) : pWP μ d NC NS Q pc ls (.ref 0 :: st) (sh, (I, L, P)) := pw_slen hs hd kk
end
/-- a contract over a heap that doesn't grow -/
abbrev pCn (μ : pMeth) (d : Nat) (av : List Value) (sh : List pSh) (M : pM) (Q : Option Value → pM → Prop) : Prop := pCt μ d sh.length (pSz sh) av (sh, M) (fun r h => h.1 = sh ∧ Q r h.2)
abbrev pWn (μ : pMeth) (d : Nat) (sh : List pSh) (Q : Option Value → pM → Prop) (pc : Nat) (ls : List (Option Value)) (st : List Value) (M : pM) : Prop := pWP μ d sh.length (pSz sh) (fun r h => h.1 = sh ∧ Q r h.2) pc ls st (sh, M)
section
variable {μ ν : pMeth} {d d' : Nat} {Q Q' : Option Value → pM → Prop} {pc idx a c : Nat} {ls : List (Option Value)} {st av : List Value} {sh : List pSh} {M : pM}
theorem pCn_of (hy : plainName μ.1.cls = true) (hl : (pAL av).length ≤ μ.2.2.1) (hw : pWn μ d sh Q 0 (pEnt μ.2.2.1 av) [] M) : pCn μ d av sh M Q := pCt_of hy hl (Nat.le_refl _) (Nat.le_refl _) hw
theorem pq_callV (hd : decode μ.2.1 pc = .ok (.invokevirtual idx, 3)) (hlk : Cond.methodLink μ.1.cls idx ν.1 ∈ lw_g) (hok : pOkV ν) (hn : (parseMethodDescriptor ν.1.desc).map (fun z => z.parameters.length) = some av.length) (hs : sh[a]? = some (.inl c)) (hc : pRn c = ν.1.cls) (hc2 : c < 12) (hdd : d' + 1 ≤ d) (hst : (st.map fun v => v.category).sum ≤ 8)
    (hC : pCn ν d' (.ref a :: av) sh M Q') (k : ∀ r M', Q' r M' → pWn μ d sh Q (pc + 3) ls (r.toList ++ st) M') : pWn μ d sh Q pc ls (av.reverse ++ .ref a :: st) M :=
  pw_callV hd hlk hok hn hs hc hc2 hdd hst (Nat.le_refl _) (Nat.le_refl _) (Nat.le_refl _) (Nat.le_refl _) hC (fun r h' q _ _ => by
    obtain ⟨sh', M'⟩ := h'
    obtain ⟨e, q⟩ := q
    dsimp only at e q
    subst e
    exact k r M' q)
theorem pq_callS (hd : decode μ.2.1 pc = .ok (.invokestatic idx, 3)) (hlk : Cond.methodLink μ.1.cls idx ν.1 ∈ lw_g) (hok : pOkS ν) (hn : (parseMethodDescriptor ν.1.desc).map (fun z => z.parameters.length) = some av.length) (hdd : d' + 1 ≤ d) (hst : (st.map fun v => v.category).sum ≤ 8)
    (hC : pCn ν d' av sh M Q') (k : ∀ r M', Q' r M' → pWn μ d sh Q (pc + 3) ls (r.toList ++ st) M') : pWn μ d sh Q pc ls (av.reverse ++ st) M :=
  pw_callS hd hlk hok hn hdd hst (Nat.le_refl _) (Nat.le_refl _) (Nat.le_refl _) (Nat.le_refl _) hC (fun r h' q _ _ => by
    obtain ⟨sh', M'⟩ := h'
    obtain ⟨e, q⟩ := q
    dsimp only at e q
    subst e
    exact k r M' q)
theorem pq_iret {v : Int32} (hr : μ.2.2.2 = some .int) (hd : decode μ.2.1 pc = .ok (.ireturn, 1)) (hq : Q (some (.int v)) M) : pWn μ d sh Q pc ls [.int v] M := pw_iret hr rfl rfl hd ⟨rfl, hq⟩
theorem pq_zret {v : Int32} (hr : μ.2.2.2 = some .boolean) (hv : v = 0 ∨ v = 1) (hd : decode μ.2.1 pc = .ok (.ireturn, 1)) (hq : Q (some (.int v)) M) : pWn μ d sh Q pc ls [.int v] M := pw_zret hr hv rfl rfl hd ⟨rfl, hq⟩
theorem pq_lret {v : Int64} (hr : μ.2.2.2 = some .long) (hd : decode μ.2.1 pc = .ok (.lreturn, 1)) (hq : Q (some (.long v)) M) : pWn μ d sh Q pc ls [.long v] M := pw_lret hr rfl rfl hd ⟨rfl, hq⟩
theorem pq_vret (hr : μ.2.2.2 = none) (hd : decode μ.2.1 pc = .ok (.return_, 1)) (hq : Q none M) : pWn μ d sh Q pc ls [] M := pw_vret hr rfl rfl hd ⟨rfl, hq⟩
end
/-- no long is cut by a store at i -/
def pNl (ls : List (Option Value)) (i : Nat) : Bool := match i with
  | 0 => true
  | j + 1 => match ls[j]? with
    | some (some w) => w.category == 1
    | _ => true
theorem pSt_set {ls : List (Option Value)} {i : Nat} {v : Value} (h : pNl ls i = true) : pSt ls i v = ls.set i (some v) := by
  unfold pSt
  cases i with
  | zero => rfl
  | succ j =>
    unfold pNl at h
    dsimp only at h ⊢
    split
    next w hw =>
      rw [hw] at h
      dsimp only at h
      rw [if_neg (by intro q; rw [q] at h; exact absurd h (by decide))]
    next => rfl
section
variable {μ : pMeth} {d NC NS : Nat} {Q : Option Value → pH → Prop} {pc : Nat} {ls : List (Option Value)} {st : List Value} {h : pH}
theorem pq_istore_n {k4 : Fin 4} {x : Int32} (hn : (k4 : Nat) < ls.length) (hl : pNl ls (k4 : Nat) = true) (hd : decode μ.2.1 pc = .ok (.istore_n k4, 1)) (k : pWP μ d NC NS Q (pc + 1) (ls.set (k4 : Nat) (some (.int x))) st h) : pWP μ d NC NS Q pc ls (.int x :: st) h := pw_istore_n hn hd (by rw [pSt_set hl]; exact k)
theorem pq_istore {i : Nat} {x : Int32} (hn : i < ls.length) (hl : pNl ls i = true) (hd : decode μ.2.1 pc = .ok (.istore i, 2)) (k : pWP μ d NC NS Q (pc + 2) (ls.set i (some (.int x))) st h) : pWP μ d NC NS Q pc ls (.int x :: st) h := pw_istore hn hd (by rw [pSt_set hl]; exact k)
theorem pq_astore_n {k4 : Fin 4} {x : Nat} (hn : (k4 : Nat) < ls.length) (hl : pNl ls (k4 : Nat) = true) (hd : decode μ.2.1 pc = .ok (.astore_n k4, 1)) (k : pWP μ d NC NS Q (pc + 1) (ls.set (k4 : Nat) (some (.ref x))) st h) : pWP μ d NC NS Q pc ls (.ref x :: st) h := pw_astore_n hn hd (by rw [pSt_set hl]; exact k)
theorem pq_astore {i : Nat} {x : Nat} (hn : i < ls.length) (hl : pNl ls i = true) (hd : decode μ.2.1 pc = .ok (.astore i, 2)) (k : pWP μ d NC NS Q (pc + 2) (ls.set i (some (.ref x))) st h) : pWP μ d NC NS Q pc ls (.ref x :: st) h := pw_astore hn hd (by rw [pSt_set hl]; exact k)
theorem pq_lstore_n {k4 : Fin 4} {x : Int64} (hn : (k4 : Nat) + 1 < ls.length) (hl : pNl ls (k4 : Nat) = true) (hd : decode μ.2.1 pc = .ok (.lstore_n k4, 1)) (k : pWP μ d NC NS Q (pc + 1) ((ls.set (k4 : Nat) (some (.long x))).set ((k4 : Nat) + 1) none) st h) : pWP μ d NC NS Q pc ls (.long x :: st) h := pw_lstore_n hn hd (by unfold pSt2; rw [pSt_set hl]; exact k)
theorem pq_lstore {i : Nat} {x : Int64} (hn : i + 1 < ls.length) (hl : pNl ls i = true) (hd : decode μ.2.1 pc = .ok (.lstore i, 2)) (k : pWP μ d NC NS Q (pc + 2) ((ls.set i (some (.long x))).set (i + 1) none) st h) : pWP μ d NC NS Q pc ls (.long x :: st) h := pw_lstore hn hd (by unfold pSt2; rw [pSt_set hl]; exact k)
theorem pq_iinc {i : Nat} {n : Int} {x : Int32} (v : Int32) (hl : ls[i]? = some (some (.int x))) (hv : Int32.ofInt n = v) (hs : pNl ls i = true) (hd : decode μ.2.1 pc = .ok (.iinc i n, 3)) (k : pWP μ d NC NS Q (pc + 3) (ls.set i (some (.int (x + v)))) st h) : pWP μ d NC NS Q pc ls st h := pw_iincK v hl hv hd (by rw [pSt_set hs]; exact k)
end
