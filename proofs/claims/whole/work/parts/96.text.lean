/-! ===== the text of the words: String.length and String.charAt ===== -/
def m_Sg_length : pMeth := (⟨"java/lang/String", "length", "()I"⟩, prog_22_method_54_code, 1, some .int)
def m_Sg_coder : pMeth := (⟨"java/lang/String", "coder", "()B"⟩, prog_22_method_152_code, 1, some .byte)
def m_Sg_charAt : pMeth := (⟨"java/lang/String", "charAt", "(I)C"⟩, prog_22_method_56_code, 2, some .char)
def m_Sg_isLatin1 : pMeth := (⟨"java/lang/String", "isLatin1", "()Z"⟩, prog_22_method_154_code, 1, some .boolean)
def m_Sl_charAt : pMeth := (⟨"java/lang/StringLatin1", "charAt", "([BI)C"⟩, prog_23_method_2_code, 2, some .char)
def m_Sg_checkIndex : pMeth := (⟨"java/lang/String", "checkIndex", "(II)V"⟩, prog_22_method_155_code, 2, none)
def m_Pc_checkIndex : pMeth := (⟨"jdk/internal/util/Preconditions", "checkIndex", "(IILjava/util/function/BiFunction;)I"⟩, prog_30_method_11_code, 3, some .int)
theorem ini_Sg : Cond.initialized "java/lang/String" ∈ lw_g := (pG (inT1 _ (List.mem_of_getElem? (i := 7) rfl)) rfl)
theorem ini_Sl : Cond.initialized "java/lang/StringLatin1" ∈ lw_g := (pG (inT1 _ (List.mem_of_getElem? (i := 8) rfl)) rfl)
theorem ini_Pc : Cond.initialized "jdk/internal/util/Preconditions" ∈ lw_g := (pG (inT1 _ (List.mem_of_getElem? (i := 9) rfl)) rfl)
theorem ok_Sg_length : pOkV m_Sg_length := ⟨(pG (inT1 _ (List.mem_of_getElem? (i := 227) rfl)) rfl), (pG (inT1 _ (List.mem_of_getElem? (i := 228) rfl)) rfl), ini_Sg, (pG (inT1 _ (List.mem_of_getElem? (i := 229) rfl)) rfl), ⟨by decide +kernel, by decide +kernel⟩, by decide⟩
theorem ok_Sg_coder : pOkV m_Sg_coder := ⟨(pG (inT1 _ (List.mem_of_getElem? (i := 231) rfl)) rfl), (pG (inT1 _ (List.mem_of_getElem? (i := 232) rfl)) rfl), ini_Sg, (pG (inT1 _ (List.mem_of_getElem? (i := 233) rfl)) rfl), ⟨by decide +kernel, by decide +kernel⟩, by decide⟩
theorem ok_Sg_charAt : pOkV m_Sg_charAt := ⟨(pG (inT1 _ (List.mem_of_getElem? (i := 237) rfl)) rfl), (pG (inT1 _ (List.mem_of_getElem? (i := 238) rfl)) rfl), ini_Sg, (pG (inT1 _ (List.mem_of_getElem? (i := 239) rfl)) rfl), ⟨by decide +kernel, by decide +kernel⟩, by decide⟩
theorem ok_Sg_isLatin1 : pOkV m_Sg_isLatin1 := ⟨(pG (inT2 _ (List.mem_of_getElem? (i := 1) rfl)) rfl), (pG (inT2 _ (List.mem_of_getElem? (i := 2) rfl)) rfl), ini_Sg, (pG (inT2 _ (List.mem_of_getElem? (i := 3) rfl)) rfl), ⟨by decide +kernel, by decide +kernel⟩, by decide⟩
theorem ok_Sl_charAt : pOkS m_Sl_charAt := ⟨(pG (inT2 _ (List.mem_of_getElem? (i := 5) rfl)) rfl), ini_Sl, (pG (inT2 _ (List.mem_of_getElem? (i := 6) rfl)) rfl), ⟨by decide +kernel, by decide +kernel⟩, by decide⟩
theorem ok_Sg_checkIndex : pOkS m_Sg_checkIndex := ⟨(pG (inT2 _ (List.mem_of_getElem? (i := 8) rfl)) rfl), ini_Sg, (pG (inT2 _ (List.mem_of_getElem? (i := 9) rfl)) rfl), ⟨by decide +kernel, by decide +kernel⟩, by decide⟩
theorem ok_Pc_checkIndex : pOkS m_Pc_checkIndex := ⟨(pG (inT2 _ (List.mem_of_getElem? (i := 13) rfl)) rfl), ini_Pc, (pG (inT2 _ (List.mem_of_getElem? (i := 14) rfl)) rfl), ⟨by decide +kernel, by decide +kernel⟩, by decide⟩
theorem lm_Re_21 : Cond.methodLink "LeftShoes$Reader" 21 m_Sg_length.1 ∈ lw_g := (pG (inT1 _ (List.mem_of_getElem? (i := 226) rfl)) rfl)
theorem lm_Sg_335 : Cond.methodLink "java/lang/String" 335 m_Sg_coder.1 ∈ lw_g := (pG (inT1 _ (List.mem_of_getElem? (i := 230) rfl)) rfl)
theorem lm_Re_27 : Cond.methodLink "LeftShoes$Reader" 27 m_Sg_charAt.1 ∈ lw_g := (pG (inT1 _ (List.mem_of_getElem? (i := 236) rfl)) rfl)
theorem lm_Sg_492 : Cond.methodLink "java/lang/String" 492 m_Sg_isLatin1.1 ∈ lw_g := (pG (inT2 _ (List.mem_of_getElem? (i := 0) rfl)) rfl)
theorem lm_Sg_495 : Cond.methodLink "java/lang/String" 495 m_Sl_charAt.1 ∈ lw_g := (pG (inT2 _ (List.mem_of_getElem? (i := 4) rfl)) rfl)
theorem lm_Sl_9 : Cond.methodLink "java/lang/StringLatin1" 9 m_Sg_checkIndex.1 ∈ lw_g := (pG (inT2 _ (List.mem_of_getElem? (i := 7) rfl)) rfl)
theorem lm_Sg_1059 : Cond.methodLink "java/lang/String" 1059 m_Pc_checkIndex.1 ∈ lw_g := (pG (inT2 _ (List.mem_of_getElem? (i := 12) rfl)) rfl)
theorem lf_Sg_38 : Cond.fieldLink "java/lang/String" 38 "java/lang/String" "COMPACT_STRINGS" "Z" ∈ lw_g := (pG (inT1 _ (List.mem_of_getElem? (i := 234) rfl)) rfl)
theorem lf_Sg_1053 : Cond.fieldLink "java/lang/String" 1053 "jdk/internal/util/Preconditions" "SIOOBE_FORMATTER" "Ljava/util/function/BiFunction;" ∈ lw_g := (pG (inT2 _ (List.mem_of_getElem? (i := 10) rfl)) rfl)
theorem lf_Sg_9 : Cond.fieldLink "java/lang/String" 9 "java/lang/String" "value" "[B" ∈ lw_g := (pG (inT9 _ (List.mem_of_getElem? (i := 140) rfl)) rfl)
theorem lf_Sg_15 : Cond.fieldLink "java/lang/String" 15 "java/lang/String" "coder" "B" ∈ lw_g := (pG (inT9 _ (List.mem_of_getElem? (i := 141) rfl)) rfl)
def sF (A : Nat → Prop) (a t n : Nat) (f : Nat → Int32) (s : State) (H : Heap) : Prop :=
  (va_Z "java/lang/String" "COMPACT_STRINGS" "Z" (.int 1) A s H ∧ va_Zq "jdk/internal/util/Preconditions" "SIOOBE_FORMATTER" "Ljava/util/function/BiFunction;" A s H) ∧ va_O "java/lang/String" a A s H ∧ va_OF "java/lang/String" "coder" "B" (.int 0) a A s H ∧ va_OF "java/lang/String" "value" "[B" (.ref t) a A s H ∧ va_T .byte t n (fun j => .int (f j)) A s H
theorem sF.moved {A : Nat → Prop} {a t n : Nat} {f : Nat → Int32} {u U : State} {H : Heap} (h : u.vm.Alike U.vm) (q : sF A a t n f u H) : sF A a t n f U H :=
  ⟨⟨q.1.1.moved h, q.1.2.moved h⟩, va_O.moved h q.2.1, va_OF.moved h q.2.2.1, va_OF.moved h q.2.2.2.1, va_T.moved h q.2.2.2.2⟩
def sQ (r : Option Value) : Array Value → State → Outcome → State → Prop := fun _ st o t => o = .returned r ∧ t.heap = st.heap
/-- a contract over a text that lies outside: it returns r, and no cell changes -/
def sCt (μ : pMeth) (d a t n : Nat) (f : Nat → Int32) (av : List Value) (r : Option Value) : Prop :=
  ∀ (l : Launch) (A : Nat → Prop), Met l μ.1 (Cond.code μ.1 μ.2.1 μ.2.2.1 μ.2.2.2 :: lw_g) (pRm d 0 0) (fun v U => v = av.toArray ∧ sF A a t n f U U.heap) (sQ r) 0 0 A
def sWP (μ : pMeth) (d a t n : Nat) (f : Nat → Int32) (r : Option Value) (pc : Nat) (ls : List (Option Value)) (st : List Value) : Prop :=
  ∀ (p : Program) (l : Launch) (e : Env) (s : State) (m : MethodId) (args : Array Value) (below : List Frame) (meth : Method) (c : Code) (A : Nat → Prop) (locs : List Loc) (arr : Array Slot),
    pCx μ p s m args meth c → sF A a t n f s s.heap → va_S A s.heap s.heap locs → pLs arr μ.2.2.1 id ls →
    W p l e (pRm d 0 0) s m args below meth c s.heap locs 0 0 (MQ below (sQ r) args s 0 0 A) (F0 m pc arr st)
theorem pUp_id (v : Value) : pUp id v = v := by cases v <;> rfl
theorem pUp_ids (l : List Value) : l.map (pUp id) = l := by
  rw [show pUp id = id from funext pUp_id, List.map_id]
section
variable {μ ν : pMeth} {d d' a t n pc i : Nat} {f : Nat → Int32} {r : Option Value} {ls : List (Option Value)} {st av : List Value}
set_option maxHeartbeats 1000000 in
theorem sCt_of (hy : plainName μ.1.cls = true) (hl : (pAL av).length ≤ μ.2.2.1) (hw : sWP μ d a t n f r 0 (pEnt μ.2.2.1 av) []) : sCt μ d a t n f av r := by
  intro l A
  refine Met.ofW (cc := μ.2.1) (maxL := μ.2.2.1) (ret := μ.2.2.2) hy rfl ?_
  intro p e s m args below meth c s₁ B hml hv
  obtain ⟨rfl, hF⟩ := hv
  have hts := atoms_spec (ws := Cond.code μ.1 μ.2.1 μ.2.2.1 μ.2.2.2 :: lw_g) B.pre
  have hown : s.vm.findClass μ.1.cls = some m.cls := findClass_of_methodNamed B.named
  have hcx : pCx μ p s m av.toArray meth c := ⟨B.exec, B.bytes, B.returns, hml, hown, fun w hw => hts w (List.mem_cons_of_mem _ hw), B.notSynchronized, (name_of_methodNamed B.named B.method).1⟩
  have hle := lv_entry (av.map (pUp id)) (n := μ.2.2.1) (by rw [pAL_len]; exact hl)
  have e0 := pUp_ids av
  rw [lg_entry_eq]
  refine hw p l e s m _ below meth c A [] _ hcx hF va_S.rf ⟨⟨?_, ?_, fun q hq => ?_⟩, ?_⟩
  · rw [e0] at hle; exact hle.1
  · rw [e0] at hle; exact hle.2.1
  · obtain ⟨i, w⟩ := q
    obtain ⟨v, hv, rfl⟩ := pLv_mem.mp hq
    have := pAL_mem id av 0 i _ v hv
    rw [Nat.zero_add] at this
    have h3 := hle.2.2 (i, pUp id v) this
    rw [e0] at h3
    exact h3
  · unfold pEnt
    rw [List.length_append, List.length_replicate]
    omega
theorem sw_aload_n {k4 : Fin 4} {v : Nat} (hl : ls[(k4 : Nat)]? = some (some (.ref v))) (hd : decode μ.2.1 pc = .ok (.aload_n k4, 1)) (k : sWP μ d a t n f r (pc + 1) ls (.ref v :: st)) : sWP μ d a t n f r pc ls st :=
  fun p l e s m args below meth c A locs arr C F S L => lv_aload_n C.1 C.2.1 hd rfl (pLs_at L hl) (k p l e s m args below meth c A locs arr C F S L)
theorem sw_iload_n {k4 : Fin 4} {v : Int32} (hl : ls[(k4 : Nat)]? = some (some (.int v))) (hd : decode μ.2.1 pc = .ok (.iload_n k4, 1)) (k : sWP μ d a t n f r (pc + 1) ls (.int v :: st)) : sWP μ d a t n f r pc ls st :=
  fun p l e s m args below meth c A locs arr C F S L => lv_iload_n C.1 C.2.1 hd rfl (pLs_at L hl) (k p l e s m args below meth c A locs arr C F S L)
theorem sw_iconst {z : Int} {v : Int32} (hv : Int32.ofInt z = v) (hd : decode μ.2.1 pc = .ok (.iconst z, 1)) (k : sWP μ d a t n f r (pc + 1) ls (.int v :: st)) : sWP μ d a t n f r pc ls st :=
  fun p l e s m args below meth c A locs arr C F S L => lv_iconst C.1 C.2.1 hd hv (k p l e s m args below meth c A locs arr C F S L)
theorem sw_sipush {z : Int} {v : Int32} (hv : (Int16.ofInt z).toInt32 = v) (hd : decode μ.2.1 pc = .ok (.sipush z, 3)) (k : sWP μ d a t n f r (pc + 3) ls (.int v :: st)) : sWP μ d a t n f r pc ls st :=
  fun p l e s m args below meth c A locs arr C F S L => lv_sipush C.1 C.2.1 hd hv (k p l e s m args below meth c A locs arr C F S L)
theorem sw_ishr {x y : Int32} (hd : decode μ.2.1 pc = .ok (.ishr, 1)) (k : sWP μ d a t n f r (pc + 1) ls (.int (x >>> (y &&& 31)) :: st)) : sWP μ d a t n f r pc ls (.int y :: .int x :: st) :=
  fun p l e s m args below meth c A locs arr C F S L => lv_ishr C.1 C.2.1 hd (k p l e s m args below meth c A locs arr C F S L)
theorem sw_iand {x y : Int32} (hd : decode μ.2.1 pc = .ok (.iand, 1)) (k : sWP μ d a t n f r (pc + 1) ls (.int (x &&& y) :: st)) : sWP μ d a t n f r pc ls (.int y :: .int x :: st) :=
  fun p l e s m args below meth c A locs arr C F S L => lv_iand C.1 C.2.1 hd (k p l e s m args below meth c A locs arr C F S L)
theorem sw_i2c {x v : Int32} (hv : (x.toUInt32 % 65536).toInt32 = v) (hd : decode μ.2.1 pc = .ok (.i2c, 1)) (k : sWP μ d a t n f r (pc + 1) ls (.int v :: st)) : sWP μ d a t n f r pc ls (.int x :: st) :=
  fun p l e s m args below meth c A locs arr C F S L => lv_i2c C.1 C.2.1 hd hv (k p l e s m args below meth c A locs arr C F S L)
theorem sw_pop {v : Value} (hv : v.category = 1) (hd : decode μ.2.1 pc = .ok (.pop, 1)) (k : sWP μ d a t n f r (pc + 1) ls st) : sWP μ d a t n f r pc ls (v :: st) :=
  fun p l e s m args below meth c A locs arr C F S L => lv_pop C.1 C.2.1 hd hv (k p l e s m args below meth c A locs arr C F S L)
theorem sw_goto {off : Int} {tgt : Nat} (ht : (pc : Int) + off = (tgt : Int)) (hd : decode μ.2.1 pc = .ok (.goto off, 3)) (k : sWP μ d a t n f r tgt ls st) : sWP μ d a t n f r pc ls st :=
  fun p l e s m args below meth c A locs arr C F S L => lv_goto C.1 C.2.1 hd ht (k p l e s m args below meth c A locs arr C F S L)
theorem sw_if_eq {x : Int32} {off : Int} {tgt : Nat} (ht : (pc : Int) + off = (tgt : Int)) (hd : decode μ.2.1 pc = .ok (.ifCond .eq off, 3)) (kt : x = 0 → sWP μ d a t n f r tgt ls st) (kf : ¬ (x = 0) → sWP μ d a t n f r (pc + 3) ls st) : sWP μ d a t n f r pc ls (.int x :: st) :=
  fun p l e s m args below meth c A locs arr C F S L => lv_if_eq C.1 C.2.1 hd ht (fun z => kt z p l e s m args below meth c A locs arr C F S L) (fun z => kf z p l e s m args below meth c A locs arr C F S L)
theorem sw_if_ne {x : Int32} {off : Int} {tgt : Nat} (ht : (pc : Int) + off = (tgt : Int)) (hd : decode μ.2.1 pc = .ok (.ifCond .ne off, 3)) (kt : ¬ x = 0 → sWP μ d a t n f r tgt ls st) (kf : x = 0 → sWP μ d a t n f r (pc + 3) ls st) : sWP μ d a t n f r pc ls (.int x :: st) :=
  fun p l e s m args below meth c A locs arr C F S L => lv_if_ne C.1 C.2.1 hd ht (fun z => kt z p l e s m args below meth c A locs arr C F S L) (fun z => kf z p l e s m args below meth c A locs arr C F S L)
theorem sw_if_lt {x : Int32} {off : Int} {tgt : Nat} (ht : (pc : Int) + off = (tgt : Int)) (hd : decode μ.2.1 pc = .ok (.ifCond .lt off, 3)) (kt : x < 0 → sWP μ d a t n f r tgt ls st) (kf : ¬ (x < 0) → sWP μ d a t n f r (pc + 3) ls st) : sWP μ d a t n f r pc ls (.int x :: st) :=
  fun p l e s m args below meth c A locs arr C F S L => lv_if_lt C.1 C.2.1 hd ht (fun z => kt z p l e s m args below meth c A locs arr C F S L) (fun z => kf z p l e s m args below meth c A locs arr C F S L)
theorem sw_icmp_lt {x y : Int32} {off : Int} {tgt : Nat} (ht : (pc : Int) + off = (tgt : Int)) (hd : decode μ.2.1 pc = .ok (.if_icmp .lt off, 3)) (kt : x < y → sWP μ d a t n f r tgt ls st) (kf : ¬ (x < y) → sWP μ d a t n f r (pc + 3) ls st) : sWP μ d a t n f r pc ls (.int y :: .int x :: st) :=
  fun p l e s m args below meth c A locs arr C F S L => lv_icmp_lt C.1 C.2.1 hd ht (fun z => kt z p l e s m args below meth c A locs arr C F S L) (fun z => kf z p l e s m args below meth c A locs arr C F S L)
theorem sw_coder (hlk : Cond.fieldLink μ.1.cls i "java/lang/String" "coder" "B" ∈ lw_g) (hd : decode μ.2.1 pc = .ok (.getfield i, 3)) (k : sWP μ d a t n f r (pc + 3) ls (.int 0 :: st)) : sWP μ d a t n f r pc ls (.ref a :: st) :=
  fun p l e s m args below meth c A locs arr C F S L => vk_getf C.1 C.2.1 F.2.2.1 S C.2.2.2.2.1 (C.2.2.2.2.2.1 _ hlk) (fun _ h => h) hd (k p l e s m args below meth c A locs arr C F S L)
theorem sw_value (hlk : Cond.fieldLink μ.1.cls i "java/lang/String" "value" "[B" ∈ lw_g) (hd : decode μ.2.1 pc = .ok (.getfield i, 3)) (k : sWP μ d a t n f r (pc + 3) ls (.ref t :: st)) : sWP μ d a t n f r pc ls (.ref a :: st) :=
  fun p l e s m args below meth c A locs arr C F S L => vk_getf C.1 C.2.1 F.2.2.2.1 S C.2.2.2.2.1 (C.2.2.2.2.2.1 _ hlk) (fun _ h => h) hd (k p l e s m args below meth c A locs arr C F S L)
theorem sw_compact (hlk : Cond.fieldLink μ.1.cls i "java/lang/String" "COMPACT_STRINGS" "Z" ∈ lw_g) (hd : decode μ.2.1 pc = .ok (.getstatic i, 3)) (k : sWP μ d a t n f r (pc + 3) ls (.int 1 :: st)) : sWP μ d a t n f r pc ls st :=
  fun p l e s m args below meth c A locs arr C F S L => va_gets C.1 C.2.1 F.1.1 S C.2.2.2.2.1 (C.2.2.2.2.2.1 _ hlk) (fun _ h => h) hd (k p l e s m args below meth c A locs arr C F S L)
theorem sw_len (hd : decode μ.2.1 pc = .ok (.arraylength, 1)) (k : sWP μ d a t n f r (pc + 1) ls (.int (Int32.ofNat n) :: st)) : sWP μ d a t n f r pc ls (.ref t :: st) :=
  fun p l e s m args below meth c A locs arr C F S L => va_tlen C.1 C.2.1 F.2.2.2.2 S rfl hd (k p l e s m args below meth c A locs arr C F S L)
theorem sw_bal {x : Int32} (hin : vp_in x n) (hd : decode μ.2.1 pc = .ok (.baload, 1)) (k : sWP μ d a t n f r (pc + 1) ls (.int (f x.toNatClampNeg) :: st)) : sWP μ d a t n f r pc ls (.int x :: .ref t :: st) :=
  fun p l e s m args below meth c A locs arr C F S L => va_tb C.1 C.2.1 F.2.2.2.2 S hin rfl hd (k p l e s m args below meth c A locs arr C F S L)
theorem sw_ret {ty : FieldType} {v : Int32} (hr : μ.2.2.2 = some ty) (hn : narrow ty (.int v) = .int v) (hd : decode μ.2.1 pc = .ok (.ireturn, 1)) : sWP μ d a t n f (some (.int v)) pc ls [.int v] :=
  fun p l e s m args below meth c A locs arr C F S L => W.zret C.1 C.2.1 (C.2.2.1.trans hr) hn (fun t ht hW => ⟨rfl, ht⟩) S.2.2 hd C.2.2.2.2.2.2.1
theorem sw_vret (hr : μ.2.2.2 = none) (hd : decode μ.2.1 pc = .ok (.return_, 1)) : sWP μ d a t n f none pc ls [] :=
  fun p l e s m args below meth c A locs arr C F S L => W.vret C.1 C.2.1 (C.2.2.1.trans hr) (fun t ht hW => ⟨rfl, ht⟩) S.2.2 hd C.2.2.2.2.2.2.1
set_option maxHeartbeats 1000000 in
theorem sw_callV {idx : Nat} {r' : Option Value} (hd : decode μ.2.1 pc = .ok (.invokevirtual idx, 3)) (hlk : Cond.methodLink μ.1.cls idx ν.1 ∈ lw_g) (hok : pOkV ν) (hcs : ν.1.cls = "java/lang/String") (hn : (parseMethodDescriptor ν.1.desc).map (fun z => z.parameters.length) = some av.length)
    (hdd : d' + 1 ≤ d) (hst : (st.map fun v => v.category).sum ≤ 8) (hC : sCt ν d' a t n f (.ref a :: av) r') (k : sWP μ d a t n f r (pc + 3) ls (r'.toList ++ st)) : sWP μ d a t n f r pc ls (av.reverse ++ .ref a :: st) := by
  intro p l e s m args below meth cc A locs arr C F S L
  obtain ⟨o1, o2, o3, o4, o5, o6⟩ := hok
  have hGI : GoodIn lw_g (wsV μ.1.cls idx ν.1.cls ν.1 (Cond.code ν.1 ν.2.1 ν.2.2.1 ν.2.2.2 :: lw_g)) := pGoodIn (by
    intro w hw
    unfold wsV at hw
    rcases List.mem_append.mp hw with q | q
    · simp only [List.mem_cons, List.not_mem_nil, or_false] at q
      rcases q with rfl | rfl | rfl | rfl <;> assumption
    · rcases List.mem_cons.mp q with rfl | q
      · exact o4
      · exact q)
  have hrec : ∃ cell : Cell, s.heap[a]? = some cell ∧ cell.vm.isStatics = false ∧ s.vm.findClass ν.1.cls = some cell.cls := by
    obtain ⟨cell, h1, h2, h3, -⟩ := F.2.1
    exact ⟨cell, h1, h2, by rw [hcs]; exact h3⟩
  have hcw := cwV (R := pRm d 0 0) (rm := pRm d' 0 0) (mc := 0) (ms := 0) av.length C.2.2.2.2.2.1 hGI rfl rfl rfl ⟨rfl, o5.1, o5.2, hn⟩ ⟨hdd, by show 8 + (ν.2.2.1 + 11) + 64 * d' ≤ 64 * d; omega⟩
  have hrun := va_runV (p := p) (l := l) (e := e) (below := below) (meth := meth) (H := s.heap) (locs := locs) (cells := 0) (slots := 0) (b := a) (As := av) (rest := st) (g := F0 m pc arr (av.reverse ++ .ref a :: st)) ⟨C.1, C.2.1, C.2.2.2.1, C.2.2.2.2.1, C.2.2.2.2.2.1⟩ (hC l A) hcw ⟨fun a U g mk q => ⟨q.1, q.2⟩, hrec, fun U hU hW => ⟨rfl, by rw [hU]; exact F.moved hW.alike⟩⟩ rfl (by simp) L.1.1 rfl (lv_room hst) hd ⟨Nat.le_refl _, Nat.le_refl _⟩
  intro T hT X
  obtain ⟨v, st₀, t', T', L', h0, X', hL', g1, g2, ⟨hv, hh⟩, stp⟩ := hrun T hT X
  have hvv : v = r' := by injection hv
  subst hvv
  have hTh : T'.heap = s.heap := by rw [g1, hh, h0]
  obtain ⟨t2, a1, b1⟩ := k p l e s m args below meth cc A (locs ++ L') arr C F ⟨Nat.le_refl _, fun _ _ _ => rfl, fun q hq => by
    rcases List.mem_append.mp hq with z | z
    · exact S.2.2 q z
    · exact hL' q z⟩ L T' hTh X'
  exact ⟨t2, stp t2 a1, b1⟩
set_option maxHeartbeats 1000000 in
theorem sw_callS {idx : Nat} {r' : Option Value} (hd : decode μ.2.1 pc = .ok (.invokestatic idx, 3)) (hlk : Cond.methodLink μ.1.cls idx ν.1 ∈ lw_g) (hok : pOkS ν) (hn : (parseMethodDescriptor ν.1.desc).map (fun z => z.parameters.length) = some av.length)
    (hdd : d' + 1 ≤ d) (hst : (st.map fun v => v.category).sum ≤ 8) (hC : sCt ν d' a t n f av r') (k : sWP μ d a t n f r (pc + 3) ls (r'.toList ++ st)) : sWP μ d a t n f r pc ls (av.reverse ++ st) := by
  intro p l e s m args below meth cc A locs arr C F S L
  obtain ⟨o1, o3, o4, o5, o6⟩ := hok
  have hGI : GoodIn lw_g (Cond.code ν.1 ν.2.1 ν.2.2.1 ν.2.2.2 :: lw_g) := pGoodIn (by
    intro w hw
    rcases List.mem_cons.mp hw with rfl | q
    · exact o4
    · exact q)
  have hts := C.2.2.2.2.2.1
  have hcw := callB_of (R := pRm d 0 0) (rm := pRm d' 0 0) (mc := 0) (ms := 0) (own := μ.1.cls) (index := idx) av.length hts hGI rfl rfl rfl (hts _ o3) (hts _ hlk) ⟨o5.1, o5.2, hn⟩ ⟨hdd, by show 8 + (ν.2.2.1 + 11) + 64 * d' ≤ 64 * d; omega⟩
  have hrun := va_runS (p := p) (l := l) (e := e) (below := below) (meth := meth) (H := s.heap) (locs := locs) (cells := 0) (slots := 0) (As := av) (rest := st) (g := F0 m pc arr (av.reverse ++ st)) ⟨C.1, C.2.1, C.2.2.2.1, C.2.2.2.2.1, C.2.2.2.2.2.1⟩ (hC l A) ⟨hcw, hts _ o1⟩ ⟨fun a U g mk q => ⟨q.1, q.2⟩, fun U hU hW => ⟨rfl, by rw [hU]; exact F.moved hW.alike⟩⟩ rfl (by simp) L.1.1 rfl (lv_room hst) hd ⟨Nat.le_refl _, Nat.le_refl _⟩
  intro T hT X
  obtain ⟨v, st₀, t', T', L', h0, X', hL', g1, g2, ⟨hv, hh⟩, stp⟩ := hrun T hT X
  have hvv : v = r' := by injection hv
  subst hvv
  have hTh : T'.heap = s.heap := by rw [g1, hh, h0]
  obtain ⟨t2, a1, b1⟩ := k p l e s m args below meth cc A (locs ++ L') arr C F ⟨Nat.le_refl _, fun _ _ _ => rfl, fun q hq => by
    rcases List.mem_append.mp hq with z | z
    · exact S.2.2 q z
    · exact hL' q z⟩ L T' hTh X'
  exact ⟨t2, stp t2 a1, b1⟩
theorem sw_fmt (hlk : Cond.fieldLink μ.1.cls i "jdk/internal/util/Preconditions" "SIOOBE_FORMATTER" "Ljava/util/function/BiFunction;" ∈ lw_g) (hd : decode μ.2.1 pc = .ok (.getstatic i, 3)) (k0 : sWP μ d a t n f r (pc + 3) ls (.null :: st)) (k : ∀ q : Nat, sWP μ d a t n f r (pc + 3) ls (.ref q :: st)) : sWP μ d a t n f r pc ls st := by
  intro p l e s m args below meth c A locs arr C F S L
  rcases F.1.2 with z | ⟨q, z⟩
  · exact va_gets C.1 C.2.1 z S C.2.2.2.2.1 (C.2.2.2.2.2.1 _ hlk) (fun _ h => h) hd (k0 p l e s m args below meth c A locs arr C F S L)
  · exact va_gets C.1 C.2.1 z S C.2.2.2.2.1 (C.2.2.2.2.2.1 _ hlk) (fun _ h => h) hd (k q p l e s m args below meth c A locs arr C F S L)
end
section
variable {a t n : Nat} {f : Nat → Int32}
theorem st_coder : sCt m_Sg_coder 0 a t n f [.ref a] (some (.int 0)) := by
  refine sCt_of (by decide +kernel) (Nat.le_of_ble_eq_true rfl) ?_
  refine sw_compact lf_Sg_38 (by decide +kernel) ?_
  refine sw_if_eq (off := 10) (tgt := 13) (by decide) (by decide +kernel) (fun z => absurd z (by decide)) (fun _ => ?_)
  refine sw_aload_n (k4 := 0) rfl (by decide +kernel) ?_
  refine sw_coder lf_Sg_15 (by decide +kernel) ?_
  refine sw_goto (off := 4) (tgt := 14) (by decide) (by decide +kernel) ?_
  exact sw_ret (ty := .byte) rfl (by decide) (by decide +kernel)
theorem st_isLatin1 : sCt m_Sg_isLatin1 0 a t n f [.ref a] (some (.int 1)) := by
  refine sCt_of (by decide +kernel) (Nat.le_of_ble_eq_true rfl) ?_
  refine sw_compact lf_Sg_38 (by decide +kernel) ?_
  refine sw_if_eq (off := 14) (tgt := 17) (by decide) (by decide +kernel) (fun z => absurd z (by decide)) (fun _ => ?_)
  refine sw_aload_n (k4 := 0) rfl (by decide +kernel) ?_
  refine sw_coder lf_Sg_15 (by decide +kernel) ?_
  refine sw_if_ne (off := 7) (tgt := 17) (by decide) (by decide +kernel) (fun z => absurd rfl z) (fun _ => ?_)
  refine sw_iconst (z := 1) (v := 1) (by decide) (by decide +kernel) ?_
  refine sw_goto (off := 4) (tgt := 18) (by decide) (by decide +kernel) ?_
  exact sw_ret (ty := .boolean) rfl (by decide) (by decide +kernel)
theorem st_length : sCt m_Sg_length 1 a t n f [.ref a] (some (.int (Int32.ofNat n >>> (0 &&& 31)))) := by
  refine sCt_of (by decide +kernel) (Nat.le_of_ble_eq_true rfl) ?_
  refine sw_aload_n (k4 := 0) rfl (by decide +kernel) ?_
  refine sw_value lf_Sg_9 (by decide +kernel) ?_
  refine sw_len (by decide +kernel) ?_
  refine sw_aload_n (k4 := 0) rfl (by decide +kernel) ?_
  refine sw_callV (ν := m_Sg_coder) (d' := 0) (av := []) (by decide +kernel) lm_Sg_335 ok_Sg_coder rfl (show _ = some 0 by decide +kernel) (by decide) (Nat.le_of_ble_eq_true rfl) st_coder ?_
  refine sw_ishr (by decide +kernel) ?_
  exact sw_ret (ty := .int) rfl rfl (by decide +kernel)
theorem st_pcheck {x y : Int32} {q : Value} (hq : q.category = 1) (h0 : ¬ x < 0) (h1 : x < y) : sCt m_Pc_checkIndex 0 a t n f [.int x, .int y, q] (some (.int x)) := by
  refine sCt_of (by decide +kernel) (by cases q <;> first | exact Nat.le_of_ble_eq_true rfl | simp [Value.category] at hq) ?_
  have e : pEnt m_Pc_checkIndex.2.2.1 [.int x, .int y, q] = [some (.int x), some (.int y), some q] := by
    cases q <;> first | rfl | simp [Value.category] at hq
  rw [e]
  refine sw_iload_n (k4 := 0) rfl (by decide +kernel) ?_
  refine sw_if_lt (off := 8) (tgt := 9) (by decide) (by decide +kernel) (fun z => absurd z h0) (fun _ => ?_)
  refine sw_iload_n (k4 := 0) rfl (by decide +kernel) ?_
  refine sw_iload_n (k4 := 1) rfl (by decide +kernel) ?_
  refine sw_icmp_lt (off := 10) (tgt := 16) (by decide) (by decide +kernel) (fun _ => ?_) (fun z => absurd h1 z)
  refine sw_iload_n (k4 := 0) rfl (by decide +kernel) ?_
  exact sw_ret (ty := .int) rfl rfl (by decide +kernel)
theorem st_check {x y : Int32} (h0 : ¬ x < 0) (h1 : x < y) : sCt m_Sg_checkIndex 1 a t n f [.int x, .int y] none := by
  refine sCt_of (by decide +kernel) (Nat.le_of_ble_eq_true rfl) ?_
  refine sw_iload_n (k4 := 0) rfl (by decide +kernel) ?_
  refine sw_iload_n (k4 := 1) rfl (by decide +kernel) ?_
  have key : ∀ q : Value, q.category = 1 → sWP m_Sg_checkIndex 1 a t n f none 5 (pEnt m_Sg_checkIndex.2.2.1 [.int x, .int y]) [q, .int y, .int x] := by
    intro q hq
    refine sw_callS (ν := m_Pc_checkIndex) (d' := 0) (av := [.int x, .int y, q]) (st := []) (by decide +kernel) lm_Sg_1059 ok_Pc_checkIndex (show _ = some 3 by decide +kernel) (by decide) (by decide) (st_pcheck hq h0 h1) ?_
    refine sw_pop rfl (by decide +kernel) ?_
    exact sw_vret rfl (by decide +kernel)
  exact sw_fmt lf_Sg_1053 (by decide +kernel) (key .null rfl) (fun q => key (.ref q) rfl)
theorem st_lcharAt {x : Int32} (h0 : ¬ x < 0) (h1 : x < Int32.ofNat n) (hin : vp_in x n) (hf : ((f x.toNatClampNeg &&& 255).toUInt32 % 65536).toInt32 = f x.toNatClampNeg) (hn : narrow .char (.int (f x.toNatClampNeg)) = .int (f x.toNatClampNeg)) : sCt m_Sl_charAt 2 a t n f [.ref t, .int x] (some (.int (f x.toNatClampNeg))) := by
  refine sCt_of (by decide +kernel) (Nat.le_of_ble_eq_true rfl) ?_
  refine sw_iload_n (k4 := 1) rfl (by decide +kernel) ?_
  refine sw_aload_n (k4 := 0) rfl (by decide +kernel) ?_
  refine sw_len (by decide +kernel) ?_
  refine sw_callS (ν := m_Sg_checkIndex) (d' := 1) (av := [.int x, .int (Int32.ofNat n)]) (st := []) (by decide +kernel) lm_Sl_9 ok_Sg_checkIndex (show _ = some 2 by decide +kernel) (by decide) (by decide) (st_check h0 h1) ?_
  refine sw_aload_n (k4 := 0) rfl (by decide +kernel) ?_
  refine sw_iload_n (k4 := 1) rfl (by decide +kernel) ?_
  refine sw_bal hin (by decide +kernel) ?_
  refine sw_sipush (z := 255) (v := 255) (by decide) (by decide +kernel) ?_
  refine sw_iand (by decide +kernel) ?_
  refine sw_i2c hf (by decide +kernel) ?_
  exact sw_ret (ty := .char) rfl hn (by decide +kernel)
theorem st_charAt {x : Int32} (h0 : ¬ x < 0) (h1 : x < Int32.ofNat n) (hin : vp_in x n) (hf : ((f x.toNatClampNeg &&& 255).toUInt32 % 65536).toInt32 = f x.toNatClampNeg) (hn : narrow .char (.int (f x.toNatClampNeg)) = .int (f x.toNatClampNeg)) : sCt m_Sg_charAt 3 a t n f [.ref a, .int x] (some (.int (f x.toNatClampNeg))) := by
  refine sCt_of (by decide +kernel) (Nat.le_of_ble_eq_true rfl) ?_
  refine sw_aload_n (k4 := 0) rfl (by decide +kernel) ?_
  refine sw_callV (ν := m_Sg_isLatin1) (d' := 0) (av := []) (by decide +kernel) lm_Sg_492 ok_Sg_isLatin1 rfl (show _ = some 0 by decide +kernel) (by decide) (Nat.le_of_ble_eq_true rfl) st_isLatin1 ?_
  refine sw_if_eq (off := 12) (tgt := 16) (by decide) (by decide +kernel) (fun z => absurd z (by decide)) (fun _ => ?_)
  refine sw_aload_n (k4 := 0) rfl (by decide +kernel) ?_
  refine sw_value lf_Sg_9 (by decide +kernel) ?_
  refine sw_iload_n (k4 := 1) rfl (by decide +kernel) ?_
  refine sw_callS (ν := m_Sl_charAt) (d' := 2) (av := [.ref t, .int x]) (st := []) (by decide +kernel) lm_Sg_495 ok_Sl_charAt (show _ = some 2 by decide +kernel) (by decide) (by decide) (st_lcharAt h0 h1 hin hf hn) ?_
  exact sw_ret (ty := .char) rfl hn (by decide +kernel)
end

