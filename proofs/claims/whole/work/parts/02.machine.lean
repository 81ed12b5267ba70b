/-! ===== the words that stay good in every callee, and those of nest mates ===== -/
def lw_g : List Cond := lw_tbl.filter goodWord
theorem pG {w : Cond} (h1 : w ∈ lw_tbl) (h2 : goodWord w = true) : w ∈ lw_g := List.mem_filter.mpr ⟨h1, h2⟩
theorem pG_good : ∀ w ∈ lw_g, goodWord w = true := fun w h => (List.mem_filter.mp h).2
def pNws : List (String × Nat × MethodName) := [("LeftShoes", 17, ⟨"LeftShoes$Tale", "<init>", "()V"⟩), ("LeftShoes$Tale", 56, ⟨"LeftShoes$Swaps", "<init>", "()V"⟩), ("LeftShoes$Tale", 63, ⟨"LeftShoes$Laws", "<init>", "()V"⟩), ("LeftShoes", 55, ⟨"LeftShoes$History", "<init>", "()V"⟩), ("LeftShoes", 62, ⟨"LeftShoes$Tracks", "<init>", "()V"⟩), ("LeftShoes", 69, ⟨"LeftShoes$Couples", "<init>", "()V"⟩)]
/-- the words of the tables that are no good words: links between nest mates, arrays of arrays -/
def pNw (s : State) : Prop := (∀ q ∈ pNws, va_Nw (.methodLinkNest q.1 q.2.1 q.2.2 "LeftShoes") s) ∧ (Cond.arrayOver (.array .int)).before #[] s = true
theorem pOv {args : Array Value} {u U : State} (h : u.vm.Alike U.vm) (w : (Cond.arrayOver (.array .int)).before #[] u = true) : (Cond.arrayOver (.array .int)).before args U = true := Stand.arrayOver_alikeB h w
theorem pNw.warm {s U : State} (hW : s.WarmedH U.vm) (h : pNw s) : pNw U := ⟨fun q hq => va_Nw.warmM hW (h.1 q hq), pOv hW.alike h.2⟩
theorem pNw.same {u U : State} (e : u.vm = U.vm) (h : pNw u) : pNw U := ⟨fun q hq => va_Nw.same rfl e (h.1 q hq), pOv (e ▸ Vm.Alike.refl u.vm) h.2⟩
/-! ===== the pure machine: memory by address and place (ints, longs, references), shapes by address ===== -/
abbrev pM : Type := (Nat → Nat → Int32) × (Nat → Nat → Int64) × (Nat → Nat → Option Nat)
/-- the shape of a cell: an object of a class (its number in vwCl), or an array: its type (0 int, 1 byte, 2 boolean, 3 long, 4 int[], 5 the script) and its length -/
abbrev pSh : Type := Nat ⊕ (Nat × Nat)
abbrev pH : Type := List pSh × pM
abbrev pMeth : Type := MethodName × ByteArray × Nat × Option FieldType
/-- a field's kind: 0 int, 1 boolean, 2 long, 3 a reference -/
def pKds : List (List Nat) := [[0, 3, 3, 3, 3, 3, 0, 0, 0], [0, 0, 3, 3], [0, 0, 3, 3, 3, 3, 3, 3, 3], [0, 0, 0, 3, 0, 0, 3], [0, 0, 0, 1, 3, 3], [0, 0, 3, 0, 0, 0, 0, 0, 1], [0, 3, 3, 3], [0, 3, 3, 3, 3, 3, 0, 3, 3, 3, 3, 3, 0, 3, 3, 3, 3, 3, 3], [0, 0, 3, 3], [3, 0, 1, 1, 3, 3, 3, 3, 3, 3], [3, 0, 3, 3, 3, 0, 0, 3, 3, 3, 1, 3, 3, 3, 3, 3], [3, 0, 0, 3, 0, 0, 0, 0, 0, 0, 0, 0, 0, 0, 0, 0, 0, 0, 0, 0, 0, 0, 1, 3, 3, 3, 3, 3, 3, 3, 3, 3, 3, 3, 3, 3, 3, 3, 3, 3, 3, 3, 3, 3, 3, 3, 0, 0, 0, 0, 1, 1, 3, 3, 1, 3, 3, 3, 3, 3, 3, 2, 1, 1, 1, 3, 3, 3, 3, 3, 0, 0, 3, 3, 3, 3, 3, 0, 0, 0, 0, 0, 3, 3, 3, 0, 0, 3, 1, 3, 3, 3, 0]]
def pFns : List (List Nat) := [[0, 1, 1, 1, 1, 1, 0, 0, 0], [0, 0, 1, 1], [0, 0, 1, 1, 1, 1, 1, 1, 1], [0, 0, 0, 0, 0, 0, 1], [0, 0, 0, 0, 1, 0], [0, 0, 1, 0, 0, 0, 0, 0, 0], [0, 1, 1, 1], [0, 1, 1, 1, 1, 1, 0, 1, 1, 1, 1, 1, 0, 1, 1, 1, 1, 1, 1], [0, 0, 1, 1], [0, 0, 0, 0, 1, 1, 1, 1, 1, 1], [1, 0, 0, 0, 1, 0, 0, 1, 1, 1, 0, 1, 1, 1, 1, 1], [1, 0, 0, 1, 0, 0, 0, 0, 0, 0, 0, 0, 0, 0, 0, 0, 0, 0, 0, 0, 0, 0, 0, 1, 1, 1, 1, 1, 1, 1, 1, 1, 1, 1, 1, 1, 1, 1, 1, 1, 1, 1, 1, 1, 1, 1, 0, 0, 0, 0, 0, 0, 1, 1, 0, 1, 1, 1, 1, 1, 1, 0, 0, 0, 0, 1, 1, 1, 1, 1, 0, 0, 1, 1, 1, 1, 1, 0, 0, 0, 0, 0, 1, 1, 1, 0, 0, 1, 0, 1, 1, 1, 0]]
def pNfs : List Nat := [9, 4, 9, 7, 6, 9, 4, 19, 4, 10, 16, 93]
def pFk (c k : Nat) : Nat := (pKds.getD c []).getD k 0
def pFin (c k : Nat) : Bool := (pFns.getD c []).getD k 0 == 1
def pNf (c : Nat) : Nat := pNfs.getD c 0
def pTyF : Nat → Nat → FieldType
  | 0 => tyX0
  | 1 => tyX1
  | 2 => tyX2
  | 3 => tyX3
  | 4 => tyX4
  | 5 => tyX5
  | 6 => tyX6
  | 7 => tyX7
  | 8 => tyX8
  | 9 => tyX9
  | 10 => tyX10
  | _ => tyX11
def pAd (b base : Nat) : Nat → Nat
  | 0 => b
  | i + 1 => base + i
def pUp (g : Nat → Nat) : Value → Value
  | .ref a => .ref (g a)
  | v => v
def pFv (g : Nat → Nat) (M : pM) (a kd k : Nat) : Value := match kd with
  | 2 => .long (M.2.1 a k)
  | 3 => va_rf ((M.2.2 a k).map g)
  | _ => .int (M.1 a k)
def pCell (dA : Nat → ClassId) (g : Nat → Nat) (M : pM) (a : Nat) : pSh → va_E
  | .inl c => .inr (c, (List.range (pNf c)).map fun k => pFv g M a (pFk c k) k)
  | .inr (t, n) => .inl (dA t, n, match t with
    | 3 => .inr (.inl (M.2.1 a))
    | 4 => .inr (.inr (.inr (.inr fun j => (M.2.2 a j).map g)))
    | _ => .inl (M.1 a))
def pWs (dA : Nat → ClassId) (b base : Nat) (h : pH) : va_W := (List.range (h.1.length - 1)).map fun i => (base + i, pCell dA (pAd b base) h.2 (i + 1) (h.1.getD (i + 1) (.inr (5, 0))))
def pTys (dA : Nat → ClassId) : List (ClassId × FieldType) := [(dA 0, .int), (dA 1, .byte), (dA 2, .boolean), (dA 3, .long), (dA 4, .array .int)]
def pSz1 : pSh → Nat
  | .inl c => pNf c
  | .inr (_, n) => n
def pSz (sh : List pSh) : Nat := (sh.map pSz1).sum
/-- the texts of the constants: the language's words, and what the exceptions say -/
def pLan : String := "person shoe debt claim swap seed law left right boot sandal felt bank worth wear pair or and not size used sort steps day foot"
def pLen : List Nat := [126, 12, 12]
def pByt : List (List Int32) := [[112, 101, 114, 115, 111, 110, 32, 115, 104, 111, 101, 32, 100, 101, 98, 116, 32, 99, 108, 97, 105, 109, 32, 115, 119, 97, 112, 32, 115, 101, 101, 100, 32, 108, 97, 119, 32, 108, 101, 102, 116, 32, 114, 105, 103, 104, 116, 32, 98, 111, 111, 116, 32, 115, 97, 110, 100, 97, 108, 32, 102, 101, 108, 116, 32, 98, 97, 110, 107, 32, 119, 111, 114, 116, 104, 32, 119, 101, 97, 114, 32, 112, 97, 105, 114, 32, 111, 114, 32, 97, 110, 100, 32, 110, 111, 116, 32, 115, 105, 122, 101, 32, 117, 115, 101, 100, 32, 115, 111, 114, 116, 32, 115, 116, 101, 112, 115, 32, 100, 97, 121, 32, 102, 111, 111, 116], [110, 111, 32, 115, 117, 99, 104, 32, 115, 104, 111, 101], [110, 111, 32, 115, 117, 99, 104, 32, 119, 104, 97, 116]]
/-- what lies outside the cells and never changes: statics and texts -/
def pXw (base : Nat) (s : State) (H : Heap) : Prop :=
  va_Zq "java/lang/Throwable" "UNASSIGNED_STACK" "[Ljava/lang/StackTraceElement;" (fun q => base ≤ q) s H ∧ va_Zq "java/lang/Throwable" "SUPPRESSED_SENTINEL" "Ljava/util/List;" (fun q => base ≤ q) s H ∧ (va_Z "java/lang/String" "COMPACT_STRINGS" "Z" (.int 1) (fun q => base ≤ q) s H ∧ va_Zq "jdk/internal/util/Preconditions" "SIOOBE_FORMATTER" "Ljava/util/function/BiFunction;" (fun q => base ≤ q) s H) ∧
  ∃ adK adV : Nat → Nat, vk_S 3 pLen pByt adK adV (fun q => base ≤ q) s H ∧ vk_R "LeftShoes$Reader" 19 pLan (adK 0) s ∧ vk_R "LeftShoes" 131 "no such shoe" (adK 1) s ∧ vk_R "LeftShoes" 159 "no such what" (adK 2) s
theorem pXw.kept {base : Nat} {s : State} {H H1 : Heap} (h : pXw base s H) (hq : ∀ a : Nat, a < H.size → ¬ base ≤ a → H1[a]? = H[a]?) : pXw base s H1 := by
  obtain ⟨h1, h2, ⟨h3, h8⟩, adK, adV, h4, h5⟩ := h
  exact ⟨h1.kept hq, h2.kept hq, ⟨h3.kept hq, h8.kept hq⟩, adK, adV, h4.kept hq, h5⟩
theorem pXw.warm {base : Nat} {s U : State} {H : Heap} (hW : s.WarmedH U.vm) (h : pXw base s H) : pXw base U H := by
  obtain ⟨h1, h2, ⟨h3, h8⟩, adK, adV, h4, h5, h6, h7⟩ := h
  exact ⟨h1.moved hW.alike, h2.moved hW.alike, ⟨h3.moved hW.alike, h8.moved hW.alike⟩, adK, adV, h4.moved hW.alike, h5.warm hW, h6.warm hW, h7.warm hW⟩
theorem pXw.same {base : Nat} {u U : State} {H : Heap} (e : u.vm = U.vm) (h : pXw base u H) : pXw base U H := by
  obtain ⟨h1, h2, ⟨h3, h8⟩, adK, adV, h4, h5, h6, h7⟩ := h
  have ha : u.vm.Alike U.vm := e ▸ Vm.Alike.refl u.vm
  exact ⟨h1.moved ha, h2.moved ha, ⟨h3.moved ha, h8.moved ha⟩, adK, adV, h4.moved ha, h5.same e.symm, h6.same e.symm, h7.same e.symm⟩
/-- behind the 185 cells lies what exceptions left -/
def pSzO (base n : Nat) (H : Heap) : Prop := base + n ≤ H.size + 1 ∧ (n < 186 → H.size + 1 = base + n) ∧ ∀ (q : Nat) (cell : Cell), base + n ≤ q + 1 → H[q]? = some cell → cell.vm.isStatics = false
def pRel (D : va_G) (dA : Nat → ClassId) (b base : Nat) (h : pH) (s : State) (H : Heap) : Prop :=
  (va_K D vwCl (pTys dA) s ∧ pNw s) ∧ va_P D vwCl (pWs dA b base h) H ∧ (pSzO base h.1.length H ∧ pXw base s H) ∧ b < base ∧ ∃ L : Nat, h.1[0]? = some (.inr (5, L)) ∧ va_X b L (h.2.1 0) s H
def pCx (μ : pMeth) (p : Program) (s : State) (m : MethodId) (args : Array Value) (meth : Method) (c : Code) : Prop :=
  p.tables.exec = Jvm.exec ∧ c.code = μ.2.1 ∧ meth.sig.returnType = μ.2.2.2 ∧ c.maxLocals = μ.2.2.1 ∧ s.vm.findClass μ.1.cls = some m.cls ∧ (∀ w ∈ lw_g, w.before args s = true) ∧ meth.locks = false ∧ meth.name = μ.1.name
def pLv (g : Nat → Nat) (ls : List (Option Value)) : List (Nat × Value) := (List.range ls.length).filterMap fun i => ((ls[i]?).join).map fun v => (i, pUp g v)
def pLs (arr : Array Slot) (n : Nat) (g : Nat → Nat) (ls : List (Option Value)) : Prop := lv_has arr n (pLv g ls) ∧ ls.length = n
def pQc (D : va_G) (dA : Nat → ClassId) (b base NC NS : Nat) (Q : Option Value → pH → Prop) : Array Value → State → Outcome → State → Prop := fun _ st o t =>
  ∃ (r : Option Value) (h : pH), o = .returned (r.map (pUp (pAd b base))) ∧ Q r h ∧ pRel D dA b base h t t.heap ∧ va_F (fun q => base ≤ q) st t ∧ h.1.length = NC ∧ pSz h.1 = NS
abbrev pRm (d mc ms : Nat) : Room := { frames := d, cells := mc, slots := ms, locals := 64 * d }
/-- the judgement: from this place of the method, with these locals, stack and memory, the machine comes to the method's end, and there Q -/
def pWP (μ : pMeth) (d NC NS : Nat) (Q : Option Value → pH → Prop) (pc : Nat) (ls : List (Option Value)) (st : List Value) (h : pH) : Prop :=
  ∀ (p : Program) (l : Launch) (e : Env) (s : State) (m : MethodId) (args : Array Value) (below : List Frame) (meth : Method) (c : Code) (D : va_G) (dA : Nat → ClassId) (b base : Nat) (H : Heap) (locs : List Loc) (arr : Array Slot) (mc ms cells slots nc ns : Nat),
    pCx μ p s m args meth c → pRel D dA b base h s H → va_S (fun q => base ≤ q) s.heap H locs → base ≤ s.heap.size → pLs arr μ.2.2.1 (pAd b base) ls →
    mc + nc = NC → ms + ns = NS → cells + nc = h.1.length → slots + ns = pSz h.1 →
    W p l e (pRm d mc ms) s m args below meth c H locs cells slots (MQ below (pQc D dA b base NC NS Q) args s mc ms (fun q => base ≤ q)) (F0 m pc arr (st.map (pUp (pAd b base))))
/-- a method's contract: called with these arguments over this memory it returns, and then Q; the heap then has NC cells of NS slots -/
def pCt (μ : pMeth) (d NC NS : Nat) (av : List Value) (h : pH) (Q : Option Value → pH → Prop) : Prop :=
  ∀ (l : Launch) (D : va_G) (dA : Nat → ClassId) (b base : Nat), Met l μ.1 (Cond.code μ.1 μ.2.1 μ.2.2.1 μ.2.2.2 :: lw_g) (pRm d (NC - h.1.length) (NS - pSz h.1))
    (fun v U => v = (av.map (pUp (pAd b base))).toArray ∧ pRel D dA b base h U U.heap) (pQc D dA b base NC NS Q) (NC - h.1.length) (NS - pSz h.1) (fun q => base ≤ q)
/-! ===== lists and cells ===== -/
theorem pWs_get {dA : Nat → ClassId} {b base a : Nat} {h : pH} {x : pSh} (hx : h.1[a + 1]? = some x) : (pWs dA b base h)[a]? = some (base + a, pCell dA (pAd b base) h.2 (a + 1) x) := by
  have hl : a + 1 < h.1.length := (List.getElem?_eq_some_iff.mp hx).1
  have hg : h.1.getD (a + 1) (.inr (5, 0)) = x := by rw [List.getD_eq_getElem?_getD, hx]; rfl
  unfold pWs
  rw [List.getElem?_map, List.getElem?_range (by omega)]
  simp only [Option.map_some]
  rw [hg]
theorem pWs_len {dA : Nat → ClassId} {b base : Nat} {h : pH} : (pWs dA b base h).length = h.1.length - 1 := by simp [pWs]
theorem pWs_some {dA : Nat → ClassId} {b base k : Nat} {h : pH} {q : Nat × va_E} (hq : (pWs dA b base h)[k]? = some q) : k + 1 < h.1.length ∧ q.1 = base + k := by
  have hl : k < (pWs dA b base h).length := (List.getElem?_eq_some_iff.mp hq).1
  rw [pWs_len] at hl
  refine ⟨by omega, ?_⟩
  unfold pWs at hq
  rw [List.getElem?_map, List.getElem?_range (by omega)] at hq
  simp only [Option.map_some, Option.some.injEq] at hq
  rw [← hq]
theorem pWs_D {dA : Nat → ClassId} {b base : Nat} {h : pH} : va_D (fun q => base ≤ q) (pWs dA b base h) := by
  refine ⟨fun i j p q hi hj he => ?_, fun k q hk => ?_⟩
  · have h1 := (pWs_some hi).2
    have h2 := (pWs_some hj).2
    omega
  · have h1 := (pWs_some hk).2
    show base ≤ q.1
    omega
theorem pCell_congr {dA : Nat → ClassId} {g : Nat → Nat} {M M' : pM} {a : Nat} (h1 : M'.1 a = M.1 a) (h2 : M'.2.1 a = M.2.1 a) (h3 : M'.2.2 a = M.2.2 a) (x : pSh) : pCell dA g M' a x = pCell dA g M a x := by
  rcases x with c | ⟨t, n⟩
  · simp only [pCell, pFv, h1, h2, h3]
  · simp only [pCell, h1, h2, h3]
theorem pWs_set {dA : Nat → ClassId} {b base a : Nat} {sh : List pSh} {M M' : pM} {x : pSh} (hx : sh[a + 1]? = some x) (h1 : ∀ q, q ≠ a + 1 → M'.1 q = M.1 q) (h2 : ∀ q, q ≠ a + 1 → M'.2.1 q = M.2.1 q) (h3 : ∀ q, q ≠ a + 1 → M'.2.2 q = M.2.2 q) :
    pWs dA b base (sh, M') = (pWs dA b base (sh, M)).set a (base + a, pCell dA (pAd b base) M' (a + 1) x) := by
  have hl : a + 1 < sh.length := (List.getElem?_eq_some_iff.mp hx).1
  apply List.ext_getElem?
  intro k
  by_cases hk : k = a
  · subst hk
    rw [pWs_get (h := (sh, M')) hx, List.getElem?_set_self (by rw [pWs_len]; show k < sh.length - 1; omega)]
  · rw [List.getElem?_set_ne (Ne.symm hk)]
    by_cases hkl : k + 1 < sh.length
    · obtain ⟨y, hy⟩ : ∃ y, sh[k + 1]? = some y := ⟨sh[k + 1], List.getElem?_eq_getElem hkl⟩
      rw [pWs_get (h := (sh, M')) hy, pWs_get (h := (sh, M)) hy, pCell_congr (h1 _ (by omega)) (h2 _ (by omega)) (h3 _ (by omega))]
    · rw [List.getElem?_eq_none (by rw [pWs_len]; show sh.length - 1 ≤ k; omega), List.getElem?_eq_none (by rw [pWs_len]; show sh.length - 1 ≤ k; omega)]
theorem pWs_push {dA : Nat → ClassId} {b base : Nat} {sh : List pSh} {M M' : pM} {x : pSh} (h0 : 0 < sh.length) (h1 : ∀ q, q ≠ sh.length → M'.1 q = M.1 q) (h2 : ∀ q, q ≠ sh.length → M'.2.1 q = M.2.1 q) (h3 : ∀ q, q ≠ sh.length → M'.2.2 q = M.2.2 q) :
    pWs dA b base (sh ++ [x], M') = pWs dA b base (sh, M) ++ [(base + (sh.length - 1), pCell dA (pAd b base) M' sh.length x)] := by
  apply List.ext_getElem?
  intro k
  by_cases hkl : k + 1 < sh.length
  · obtain ⟨y, hy⟩ : ∃ y, sh[k + 1]? = some y := ⟨sh[k + 1], List.getElem?_eq_getElem hkl⟩
    rw [List.getElem?_append_left (by rw [pWs_len]; show k < sh.length - 1; omega), pWs_get (h := (sh ++ [x], M')) (x := y) (by show (sh ++ [x])[k + 1]? = some y; rw [List.getElem?_append_left hkl]; exact hy), pWs_get (h := (sh, M)) hy, pCell_congr (h1 _ (by omega)) (h2 _ (by omega)) (h3 _ (by omega))]
  · by_cases hk2 : k + 1 = sh.length
    · have hk3 : k = sh.length - 1 := by omega
      rw [List.getElem?_append_right (by rw [pWs_len]; show sh.length - 1 ≤ k; omega), pWs_len, pWs_get (h := (sh ++ [x], M')) (x := x) (by show (sh ++ [x])[k + 1]? = some x; rw [hk2, List.getElem?_append_right (Nat.le_refl _), Nat.sub_self]; rfl)]
      show _ = [_][k - (sh.length - 1)]?
      rw [hk3, Nat.sub_self]
      simp only [List.getElem?_cons_zero]
      rw [show sh.length - 1 + 1 = sh.length by omega]
    · rw [List.getElem?_eq_none (by rw [pWs_len]; show (sh ++ [x]).length - 1 ≤ k; simp; omega), List.getElem?_eq_none (by rw [List.length_append, pWs_len]; show sh.length - 1 + 1 ≤ k; omega)]
/-! ===== locals ===== -/
theorem pLv_mem {g : Nat → Nat} {ls : List (Option Value)} {i : Nat} {w : Value} : (i, w) ∈ pLv g ls ↔ ∃ v, ls[i]? = some (some v) ∧ w = pUp g v := by
  unfold pLv
  rw [List.mem_filterMap]
  constructor
  · rintro ⟨j, hj, he⟩
    cases hv : ls[j]? with
    | none => rw [hv] at he; simp at he
    | some o =>
      cases o with
      | none => rw [hv] at he; simp at he
      | some v =>
        rw [hv] at he
        simp at he
        obtain ⟨rfl, rfl⟩ := he
        exact ⟨v, hv, rfl⟩
  · rintro ⟨v, hv, rfl⟩
    exact ⟨i, List.mem_range.mpr (List.getElem?_eq_some_iff.mp hv).1, by rw [hv]; rfl⟩
theorem pLs_at {arr : Array Slot} {n : Nat} {g : Nat → Nat} {ls : List (Option Value)} {i : Nat} {v : Value} (h : pLs arr n g ls) (hv : ls[i]? = some (some v)) : arr[i]? = some (.val (pUp g v)) := h.1.2.2 (i, pUp g v) (pLv_mem.mpr ⟨v, hv, rfl⟩)
theorem pUp_cat (g : Nat → Nat) (v : Value) : (pUp g v).category = v.category := by cases v <;> rfl
/-- a value is stored: a long that it cuts is gone -/
def pSt (ls : List (Option Value)) (i : Nat) (v : Value) : List (Option Value) := (match i with
  | 0 => ls
  | j + 1 => match ls[j]? with
    | some (some w) => if w.category = 2 then ls.set j none else ls
    | _ => ls).set i (some v)
def pSt2 (ls : List (Option Value)) (i : Nat) (v : Value) : List (Option Value) := (pSt ls i v).set (i + 1) none
theorem pSt_len (ls : List (Option Value)) (i : Nat) (v : Value) : (pSt ls i v).length = ls.length := by
  unfold pSt
  cases i with
  | zero => simp
  | succ j => dsimp only; split <;> (try split) <;> simp
theorem pSet_get {ls : List (Option Value)} {i j : Nat} {o : Option Value} {w : Value} (h : (ls.set i o)[j]? = some (some w)) : (j = i ∧ o = some w) ∨ (j ≠ i ∧ ls[j]? = some (some w)) := by
  by_cases hj : j = i
  · subst hj
    by_cases hl : j < ls.length
    · rw [List.getElem?_set_self hl] at h
      exact Or.inl ⟨rfl, Option.some.inj h⟩
    · rw [List.getElem?_eq_none (by rw [List.length_set]; omega)] at h
      cases h
  · rw [List.getElem?_set_ne (Ne.symm hj)] at h
    exact Or.inr ⟨hj, h⟩
theorem pSt_get {ls : List (Option Value)} {i j : Nat} {v w : Value} (h : (pSt ls i v)[j]? = some (some w)) : (j = i ∧ w = v) ∨ (j ≠ i ∧ ls[j]? = some (some w) ∧ ¬ (j + 1 = i ∧ w.category = 2)) := by
  unfold pSt at h
  rcases pSet_get h with ⟨h1, h2⟩ | ⟨h1, h2⟩
  · exact Or.inl ⟨h1, (Option.some.inj h2).symm⟩
  · refine Or.inr ⟨h1, ?_⟩
    cases i with
    | zero => exact ⟨h2, fun z => by omega⟩
    | succ i =>
      dsimp only at h2
      split at h2
      next u hu =>
        split at h2
        next hc =>
          rcases pSet_get h2 with ⟨h3, h4⟩ | ⟨h3, h4⟩
          · cases h4
          · exact ⟨h4, fun z => h3 (by omega)⟩
        next hc =>
          refine ⟨h2, fun ⟨z1, z2⟩ => ?_⟩
          have hji : j = i := by omega
          subst hji
          rw [hu] at h2
          cases h2
          exact hc z2
      next hu =>
        refine ⟨h2, fun ⟨z1, z2⟩ => ?_⟩
        have hji : j = i := by omega
        subst hji
        exact hu _ h2
theorem pLs_st {arr arr' : Array Slot} {n i : Nat} {g : Nat → Nat} {ls : List (Option Value)} {v : Value} (h : pLs arr n g ls) (h' : lv_has arr' n ((i, pUp g v) :: (pLv g ls).filter (fun q => !(q.1 == i) && !(q.1 + 1 == i && q.2.category == 2)))) : pLs arr' n g (pSt ls i v) := by
  refine ⟨⟨h'.1, h'.2.1, fun q hq => h'.2.2 q ?_⟩, (pSt_len ls i v).trans h.2⟩
  obtain ⟨j, w⟩ := q
  obtain ⟨u, hu, rfl⟩ := pLv_mem.mp hq
  rcases pSt_get hu with ⟨rfl, rfl⟩ | ⟨h1, h2, h3⟩
  · exact List.mem_cons_self
  · refine List.mem_cons_of_mem _ (List.mem_filter.mpr ⟨pLv_mem.mpr ⟨u, h2, rfl⟩, ?_⟩)
    simp only [Bool.and_eq_true, Bool.not_eq_true', beq_eq_false_iff_ne, ne_eq, Bool.and_eq_false_iff, pUp_cat]
    refine ⟨h1, ?_⟩
    by_cases hz : j + 1 = i
    · exact Or.inr fun z => h3 ⟨hz, z⟩
    · exact Or.inl hz
theorem pLs_st2 {arr arr' : Array Slot} {n i : Nat} {g : Nat → Nat} {ls : List (Option Value)} {v : Value} (h : pLs arr n g ls) (h' : lv_has arr' n ((i, pUp g v) :: (pLv g ls).filter (fun q => !(q.1 == i) && (!(q.1 == i + 1) && !(q.1 + 1 == i && q.2.category == 2))))) : pLs arr' n g (pSt2 ls i v) := by
  refine ⟨⟨h'.1, h'.2.1, fun q hq => h'.2.2 q ?_⟩, (List.length_set ..).trans ((pSt_len ls i v).trans h.2)⟩
  obtain ⟨j, w⟩ := q
  obtain ⟨u, hu, rfl⟩ := pLv_mem.mp hq
  rcases pSet_get hu with ⟨_, h0⟩ | ⟨hne, hu⟩
  · cases h0
  rcases pSt_get hu with ⟨rfl, rfl⟩ | ⟨h1, h2, h3⟩
  · exact List.mem_cons_self
  · refine List.mem_cons_of_mem _ (List.mem_filter.mpr ⟨pLv_mem.mpr ⟨u, h2, rfl⟩, ?_⟩)
    simp only [Bool.and_eq_true, Bool.not_eq_true', beq_eq_false_iff_ne, ne_eq, Bool.and_eq_false_iff, pUp_cat]
    refine ⟨h1, hne, ?_⟩
    by_cases hz : j + 1 = i
    · exact Or.inr fun z => h3 ⟨hz, z⟩
    · exact Or.inl hz

