/-! ===== the world at the law's entry ===== -/
section
variable {args : Array Value} {s : State}
theorem ws_I : ∀ c, c < 12 → Cond.instantiable (pRn c) (pNf c) ∈ lw_g
  | 0, _ => ins_Cp | 1, _ => ins_Hi | 2, _ => ins_La | 3, _ => ins_Re | 4, _ => ins_Sc | 5, _ => ins_St | 6, _ => ins_Sw | 7, _ => ins_Ta | 8, _ => ins_Tr | 9, _ => ins_Wo | 10, _ => ins_Ls | 11, _ => ins_Mo
  | c + 12, h => absurd h (by omega)
theorem ws_A {t : FieldType} (h : (Cond.arrayClass t).before args s = true) (ht : ∀ C, t ≠ .object C) : ∃ c, ArrOfT s c t ∧ va_RA s c t := by
  obtain ⟨c, k, comp, h1, h2, h3⟩ := Cond.arrayClass_spec h
  refine ⟨c, fun n z => ⟨fun k h => (by cases h), k, h2, comp, h3⟩, ?_⟩
  cases t with
  | object C => exact absurd rfl (ht C)
  | _ => exact h1
theorem ws_K (hts : ∀ w ∈ lw_tbl, w.before args s = true) : ∃ (D : va_G) (dA : Nat → ClassId), va_K D vwCl (pTys dA) s := by
  have hg : ∀ w ∈ lw_g, w.before args s = true := fun w hw => hts w (List.mem_filter.mp hw).1
  have hk : ∀ c, ∃ (cC : ClassId) (iS : Nat → Nat), c < 12 → u_Kn s (pRn c) (pF c) (pNf c) cC iS := fun c => by
    by_cases h : c < 12
    · obtain ⟨cC, iS, q⟩ := u_known (C := pRn c) (T := pF c) (N := pNf c) (n := pNf c) hg (pIn_ok c h) (hg _ (ws_I c h))
      exact ⟨cC, iS, fun _ => q⟩
    · exact ⟨0, fun _ => 0, fun w => absurd w h⟩
  obtain ⟨a0, p0, q0⟩ := ws_A (hg _ ac_I) (fun C h => by cases h)
  obtain ⟨a1, p1, q1⟩ := ws_A (hg _ ac_B) (fun C h => by cases h)
  obtain ⟨a2, p2, q2⟩ := ws_A (hg _ ac_Z) (fun C h => by cases h)
  obtain ⟨a3, p3, q3⟩ := ws_A (hg _ ac_L) (fun C h => by cases h)
  obtain ⟨comp, a4, k4, -, -, h4, h5, h6⟩ := Stand.arrayOver_specB (hts (.arrayOver (.array .int)) (inT2 _ (List.mem_of_getElem? (i := 142) rfl)))
  refine ⟨(fun c => Classical.choose (hk c), fun c => Classical.choose (Classical.choose_spec (hk c))), fun t => if t = 0 then a0 else if t = 1 then a1 else if t = 2 then a2 else if t = 3 then a3 else a4, fun c q hq => ?_, fun k q hq => ?_⟩
  · have hc : c < 12 := (List.getElem?_eq_some_iff.mp hq).1
    rw [pCl_ok c hc] at hq
    cases hq
    exact Classical.choose_spec (Classical.choose_spec (hk c)) hc
  · match k, hq with
    | 0, hq => cases hq; exact ⟨p0, q0⟩
    | 1, hq => cases hq; exact ⟨p1, q1⟩
    | 2, hq => cases hq; exact ⟨p2, q2⟩
    | 3, hq => cases hq; exact ⟨p3, q3⟩
    | 4, hq => cases hq; exact ⟨fun n z => ⟨fun k h => (by cases h), k4, h4, comp, h5⟩, h6⟩
    | k + 5, hq => simp [pTys] at hq
theorem ws_N (hts : ∀ w ∈ lw_tbl, w.before args s = true) : pNw s := by
  refine ⟨?_, Stand.arrayOver_alikeB (Vm.Alike.refl s.vm) (hts (.arrayOver (.array .int)) (inT2 _ (List.mem_of_getElem? (i := 142) rfl)))⟩
  have m : ∀ q ∈ pNws, Cond.methodLinkNest q.1 q.2.1 q.2.2 "LeftShoes" ∈ lw_tbl :=
    List.forall_mem_cons.mpr ⟨inT1 _ (List.mem_of_getElem? (i := 35) rfl), List.forall_mem_cons.mpr ⟨inT1 _ (List.mem_of_getElem? (i := 41) rfl), List.forall_mem_cons.mpr ⟨inT1 _ (List.mem_of_getElem? (i := 67) rfl), List.forall_mem_cons.mpr ⟨inT2 _ (List.mem_of_getElem? (i := 137) rfl), List.forall_mem_cons.mpr ⟨inT2 _ (List.mem_of_getElem? (i := 159) rfl), List.forall_mem_cons.mpr ⟨inT2 _ (List.mem_of_getElem? (i := 180) rfl), fun _ h => absurd h List.not_mem_nil⟩⟩⟩⟩⟩⟩
  exact fun q hq => va_Nw.of rfl (hts _ (m q hq))
theorem ws_W (hts : ∀ w ∈ lw_tbl, w.before args s = true) (hgv : (Jvm.Cond.and given_1 narrow_1).before args s = true) : xW s.heap.size s s.heap := by
  have hf := flat_of_before _ hgv
  have ls : ∀ C n d, Cond.laysStatic C n d ∈ lw_tbl → xLS C n d s.heap.size s s.heap := fun C n d h => by
    obtain ⟨c, k, i, f, a, cell, h1, h2, h3, h4, h5, h6, h7, h8, h9⟩ := Cond.laysStatic_spec (hts _ h)
    exact ⟨c, i, a, k, f, cell, h1, h2, h3, h4, h5, h6, h7, h8, h9, Nat.not_le.mpr (Array.getElem?_eq_some_iff.mp h5).1⟩
  have hno : (Cond.not (.castable "java/util/NoSuchElementException" "java/lang/IndexOutOfBoundsException")).before args s = true := hf _ (by decide +kernel)
  refine ⟨ls _ _ _ (inT5 _ (List.mem_of_getElem? (i := 231) rfl)), ls _ _ _ (inT5 _ (List.mem_of_getElem? (i := 233) rfl)), ?_, fun c1 c2 h1 h2 => ?_⟩
  · have m : ∀ w ∈ xFw, w ∈ lw_tbl := List.forall_mem_cons.mpr ⟨inT5 _ (List.mem_of_getElem? (i := 208) rfl), List.forall_mem_cons.mpr ⟨inT5 _ (List.mem_of_getElem? (i := 210) rfl), List.forall_mem_cons.mpr ⟨inT5 _ (List.mem_of_getElem? (i := 212) rfl), List.forall_mem_cons.mpr ⟨inT5 _ (List.mem_of_getElem? (i := 206) rfl), List.forall_mem_cons.mpr ⟨inT6 _ (List.mem_of_getElem? (i := 33) rfl), fun _ h => absurd h List.not_mem_nil⟩⟩⟩⟩⟩
    intro w hw args'
    have h := hts w (m w hw)
    simp only [xFw, List.mem_cons, List.not_mem_nil, or_false] at hw
    rcases hw with rfl | rfl | rfl | rfl | rfl <;> exact h
  · have hv := Cond.holds_not_iff.mp hno
    simp only [Cond.value, h1, h2] at hv
    exact Option.some.inj hv
def tmK (i : Nat) : Term := if i = 0 then .string "LeftShoes$Reader" 19 else if i = 1 then .string "LeftShoes" 131 else .string "LeftShoes" 159
theorem ws_e0_0 : ∀ j, j < 12 → (Cond.eq (.elem (.field (tmK 0) "java/lang/String" "value" "[B") (.int (Int32.ofNat (0 + j)))) (.int ((pByt.getD 0 []).getD (0 + j) 0))) ∈ flatC (Jvm.Cond.and given_1 narrow_1) := by decide +kernel
theorem ws_e0_12 : ∀ j, j < 12 → (Cond.eq (.elem (.field (tmK 0) "java/lang/String" "value" "[B") (.int (Int32.ofNat (12 + j)))) (.int ((pByt.getD 0 []).getD (12 + j) 0))) ∈ flatC (Jvm.Cond.and given_1 narrow_1) := by decide +kernel
theorem ws_e0_24 : ∀ j, j < 12 → (Cond.eq (.elem (.field (tmK 0) "java/lang/String" "value" "[B") (.int (Int32.ofNat (24 + j)))) (.int ((pByt.getD 0 []).getD (24 + j) 0))) ∈ flatC (Jvm.Cond.and given_1 narrow_1) := by decide +kernel
theorem ws_e0_36 : ∀ j, j < 12 → (Cond.eq (.elem (.field (tmK 0) "java/lang/String" "value" "[B") (.int (Int32.ofNat (36 + j)))) (.int ((pByt.getD 0 []).getD (36 + j) 0))) ∈ flatC (Jvm.Cond.and given_1 narrow_1) := by decide +kernel
theorem ws_e0_48 : ∀ j, j < 12 → (Cond.eq (.elem (.field (tmK 0) "java/lang/String" "value" "[B") (.int (Int32.ofNat (48 + j)))) (.int ((pByt.getD 0 []).getD (48 + j) 0))) ∈ flatC (Jvm.Cond.and given_1 narrow_1) := by decide +kernel
theorem ws_e0_60 : ∀ j, j < 12 → (Cond.eq (.elem (.field (tmK 0) "java/lang/String" "value" "[B") (.int (Int32.ofNat (60 + j)))) (.int ((pByt.getD 0 []).getD (60 + j) 0))) ∈ flatC (Jvm.Cond.and given_1 narrow_1) := by decide +kernel
theorem ws_e0_72 : ∀ j, j < 12 → (Cond.eq (.elem (.field (tmK 0) "java/lang/String" "value" "[B") (.int (Int32.ofNat (72 + j)))) (.int ((pByt.getD 0 []).getD (72 + j) 0))) ∈ flatC (Jvm.Cond.and given_1 narrow_1) := by decide +kernel
theorem ws_e0_84 : ∀ j, j < 12 → (Cond.eq (.elem (.field (tmK 0) "java/lang/String" "value" "[B") (.int (Int32.ofNat (84 + j)))) (.int ((pByt.getD 0 []).getD (84 + j) 0))) ∈ flatC (Jvm.Cond.and given_1 narrow_1) := by decide +kernel
theorem ws_e0_96 : ∀ j, j < 12 → (Cond.eq (.elem (.field (tmK 0) "java/lang/String" "value" "[B") (.int (Int32.ofNat (96 + j)))) (.int ((pByt.getD 0 []).getD (96 + j) 0))) ∈ flatC (Jvm.Cond.and given_1 narrow_1) := by decide +kernel
theorem ws_e0_108 : ∀ j, j < 12 → (Cond.eq (.elem (.field (tmK 0) "java/lang/String" "value" "[B") (.int (Int32.ofNat (108 + j)))) (.int ((pByt.getD 0 []).getD (108 + j) 0))) ∈ flatC (Jvm.Cond.and given_1 narrow_1) := by decide +kernel
theorem ws_e0_120 : ∀ j, j < 6 → (Cond.eq (.elem (.field (tmK 0) "java/lang/String" "value" "[B") (.int (Int32.ofNat (120 + j)))) (.int ((pByt.getD 0 []).getD (120 + j) 0))) ∈ flatC (Jvm.Cond.and given_1 narrow_1) := by decide +kernel
theorem ws_e1_0 : ∀ j, j < 12 → (Cond.eq (.elem (.field (tmK 1) "java/lang/String" "value" "[B") (.int (Int32.ofNat (0 + j)))) (.int ((pByt.getD 1 []).getD (0 + j) 0))) ∈ flatC (Jvm.Cond.and given_1 narrow_1) := by decide +kernel
theorem ws_e2_0 : ∀ j, j < 12 → (Cond.eq (.elem (.field (tmK 2) "java/lang/String" "value" "[B") (.int (Int32.ofNat (0 + j)))) (.int ((pByt.getD 2 []).getD (0 + j) 0))) ∈ flatC (Jvm.Cond.and given_1 narrow_1) := by decide +kernel
theorem ws_el : ∀ i, i < 3 → ∀ j, j < pLen.getD i 0 → (Cond.eq (.elem (.field (tmK i) "java/lang/String" "value" "[B") (.int (Int32.ofNat (j)))) (.int ((pByt.getD i []).getD (j) 0))) ∈ flatC (Jvm.Cond.and given_1 narrow_1) := by
  intro i hi j hj
  rcases (show i = 0 ∨ i = 1 ∨ i = 2 by omega) with rfl | rfl | rfl
  · have hj : j < 126 := hj
    by_cases c0 : j < 12
    · have q := ws_e0_0 (j - 0) (by omega)
      rw [show 0 + (j - 0) = j by omega] at q
      exact q
    by_cases c12 : j < 24
    · have q := ws_e0_12 (j - 12) (by omega)
      rw [show 12 + (j - 12) = j by omega] at q
      exact q
    by_cases c24 : j < 36
    · have q := ws_e0_24 (j - 24) (by omega)
      rw [show 24 + (j - 24) = j by omega] at q
      exact q
    by_cases c36 : j < 48
    · have q := ws_e0_36 (j - 36) (by omega)
      rw [show 36 + (j - 36) = j by omega] at q
      exact q
    by_cases c48 : j < 60
    · have q := ws_e0_48 (j - 48) (by omega)
      rw [show 48 + (j - 48) = j by omega] at q
      exact q
    by_cases c60 : j < 72
    · have q := ws_e0_60 (j - 60) (by omega)
      rw [show 60 + (j - 60) = j by omega] at q
      exact q
    by_cases c72 : j < 84
    · have q := ws_e0_72 (j - 72) (by omega)
      rw [show 72 + (j - 72) = j by omega] at q
      exact q
    by_cases c84 : j < 96
    · have q := ws_e0_84 (j - 84) (by omega)
      rw [show 84 + (j - 84) = j by omega] at q
      exact q
    by_cases c96 : j < 108
    · have q := ws_e0_96 (j - 96) (by omega)
      rw [show 96 + (j - 96) = j by omega] at q
      exact q
    by_cases c108 : j < 120
    · have q := ws_e0_108 (j - 108) (by omega)
      rw [show 108 + (j - 108) = j by omega] at q
      exact q
    by_cases c120 : j < 126
    · have q := ws_e0_120 (j - 120) (by omega)
      rw [show 120 + (j - 120) = j by omega] at q
      exact q
    omega
  · have hj : j < 12 := hj
    by_cases c0 : j < 12
    · have q := ws_e1_0 (j - 0) (by omega)
      rw [show 0 + (j - 0) = j by omega] at q
      exact q
    omega
  · have hj : j < 12 := hj
    by_cases c0 : j < 12
    · have q := ws_e2_0 (j - 0) (by omega)
      rw [show 0 + (j - 0) = j by omega] at q
      exact q
    omega
theorem ws_ot : ∀ i, i < 3 → (Cond.exactly (tmK i) "java/lang/String") ∈ flatC (Jvm.Cond.and given_1 narrow_1) ∧ (Cond.eq (.field (tmK i) "java/lang/String" "coder" "B") (.int 0)) ∈ flatC (Jvm.Cond.and given_1 narrow_1) ∧ (Cond.arrayOf (.field (tmK i) "java/lang/String" "value" "[B") .byte) ∈ flatC (Jvm.Cond.and given_1 narrow_1) ∧ (Cond.eq (.length (.field (tmK i) "java/lang/String" "value" "[B")) (.int (Int32.ofNat (pLen.getD i 0)))) ∈ flatC (Jvm.Cond.and given_1 narrow_1) := by decide +kernel
theorem ws_ne : ∀ i, i < 3 → ∀ j, j < 3 → i ≠ j → (Cond.not (Cond.eq (tmK i) (tmK j))) ∈ flatC (Jvm.Cond.and given_1 narrow_1) ∨ (Cond.not (Cond.eq (tmK j) (tmK i))) ∈ flatC (Jvm.Cond.and given_1 narrow_1) := by decide +kernel
theorem ws_X (hts : ∀ w ∈ lw_tbl, w.before args s = true) (hgv : (Jvm.Cond.and given_1 narrow_1).before args s = true) : pXw s.heap.size s s.heap := by
  have hf := flat_of_before _ hgv
  have hA : ∀ a : Nat, a < s.heap.size → ¬ s.heap.size ≤ a := fun a h => Nat.not_le.mpr h
  obtain ⟨adK, adV, h1, h2⟩ := vk_Sof (args := args) (s := s) (N := 3) (tm := tmK) (len := pLen) (byt := pByt) (A := fun q => s.heap.size ≤ q) (by decide) (fun i hi => hf _ (ws_ot i hi).1) (fun i hi => hf _ (ws_ot i hi).2.1) (fun i hi => hf _ (ws_ot i hi).2.2.1) (fun i hi => hf _ (ws_ot i hi).2.2.2) (fun i hi j hj => hf _ (ws_el i hi j hj)) (fun i j hi hj hn => (ws_ne i hi j hj hn).imp (fun w => hf _ w) (fun w => hf _ w)) hA
  have ini : ∀ C, Cond.initialized C ∈ lw_tbl → (Cond.initialized C).before args s = true := fun C h => hts _ h
  have iT := ini "java/lang/Throwable" (inT1 _ (List.mem_of_getElem? (i := 18) rfl))
  refine ⟨va_Zqof (hts _ (inT5 _ (List.mem_of_getElem? (i := 231) rfl))) iT (hf _ (by decide +kernel)) hA, va_Zqof (hts _ (inT5 _ (List.mem_of_getElem? (i := 233) rfl))) iT (hf _ (by decide +kernel)) hA, ⟨va_Zof (hts _ (inT1 _ (List.mem_of_getElem? (i := 235) rfl))) (ini "java/lang/String" (inT1 _ (List.mem_of_getElem? (i := 7) rfl))) (va_eqt (hf (Cond.eq (.static "java/lang/String" "COMPACT_STRINGS" "Z") (.int 1)) (by decide +kernel))) hA, va_Zqof (hts _ (inT2 _ (List.mem_of_getElem? (i := 11) rfl))) (ini "jdk/internal/util/Preconditions" (inT1 _ (List.mem_of_getElem? (i := 9) rfl))) (hf _ (by decide +kernel)) hA⟩, adK, adV, h1, ?_, ?_, ?_⟩
  · exact vk_R.of (A := args) (hts (.stringRef "LeftShoes$Reader" 19 pLan) (inT1 _ (List.mem_of_getElem? (i := 225) rfl))) (h2 0 (by decide))
  · exact vk_R.of (A := args) (hts (.stringRef "LeftShoes" 131 "no such shoe") (inT6 _ (List.mem_of_getElem? (i := 4) rfl))) (h2 1 (by decide))
  · exact vk_R.of (A := args) (hts (.stringRef "LeftShoes" 159 "no such what") (inT6 _ (List.mem_of_getElem? (i := 40) rfl))) (h2 2 (by decide))
end
