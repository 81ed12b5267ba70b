/-! ===== making: cells in the order of the constructors ===== -/
def kFs : List pSh := [
  .inl 10, .inr (1, 700), .inl 7, .inr (0, 5), .inr (0, 5), .inr (0, 5), .inr (0, 5), .inr (0, 5), .inr (0, 16), .inr (0, 16), .inr (0, 16), .inr (0, 16),
  .inr (0, 16), .inr (0, 8), .inr (0, 8), .inr (0, 8), .inr (0, 8), .inl 6, .inr (0, 36), .inr (0, 36), .inr (0, 6), .inl 2, .inr (0, 64), .inr (0, 64),
  .inr (0, 3), .inr (0, 3), .inr (2, 3), .inr (3, 7), .inr (3, 64), .inl 7, .inr (0, 5), .inr (0, 5), .inr (0, 5), .inr (0, 5), .inr (0, 5), .inr (0, 16),
  .inr (0, 16), .inr (0, 16), .inr (0, 16), .inr (0, 16), .inr (0, 8), .inr (0, 8), .inr (0, 8), .inr (0, 8), .inl 6, .inr (0, 36), .inr (0, 36), .inr (0, 6),
  .inl 2, .inr (0, 64), .inr (0, 64), .inr (0, 3), .inr (0, 3), .inr (2, 3), .inr (3, 7), .inr (3, 64), .inl 4, .inl 3, .inr (1, 0), .inr (0, 25),
  .inr (0, 10000), .inl 9, .inr (0, 16), .inr (0, 16), .inr (0, 16), .inr (0, 10), .inr (0, 8), .inl 9, .inr (0, 16), .inr (0, 16), .inr (0, 16), .inr (0, 10),
  .inr (0, 8), .inl 9, .inr (0, 16), .inr (0, 16), .inr (0, 16), .inr (0, 10), .inr (0, 8), .inl 1, .inr (4, 20), .inr (0, 16), .inr (0, 16), .inr (0, 16),
  .inr (0, 16), .inr (0, 16), .inr (0, 16), .inr (0, 16), .inr (0, 16), .inr (0, 16), .inr (0, 16), .inr (0, 16), .inr (0, 16), .inr (0, 16), .inr (0, 16), .inr (0, 16),
  .inr (0, 16), .inr (0, 16), .inr (0, 16), .inr (0, 16), .inr (0, 16), .inr (4, 20), .inr (0, 10), .inr (0, 10), .inr (0, 10), .inr (0, 10), .inr (0, 10), .inr (0, 10),
  .inr (0, 10), .inr (0, 10), .inr (0, 10), .inr (0, 10), .inr (0, 10), .inr (0, 10), .inr (0, 10), .inr (0, 10), .inr (0, 10), .inr (0, 10), .inr (0, 10), .inr (0, 10),
  .inr (0, 10), .inr (0, 10), .inl 8, .inr (0, 24), .inr (0, 24), .inl 0, .inr (0, 16), .inr (0, 16), .inr (0, 16), .inr (3, 256), .inr (3, 8), .inl 5,
  .inr (0, 10), .inl 11, .inr (0, 700), .inr (0, 127), .inr (0, 10), .inr (0, 10), .inr (0, 10), .inr (0, 10), .inr (0, 10), .inr (0, 32), .inr (0, 32), .inr (0, 32),
  .inr (0, 32), .inr (0, 32), .inr (0, 16), .inr (0, 16), .inr (0, 16), .inr (0, 16), .inr (0, 64), .inr (2, 6), .inr (0, 6), .inr (0, 6), .inr (0, 128), .inr (0, 128),
  .inr (0, 128), .inr (0, 96), .inr (0, 96), .inr (3, 7), .inr (3, 64), .inr (0, 32), .inr (0, 32), .inr (0, 10), .inr (0, 10), .inr (0, 16), .inr (0, 2), .inr (0, 512),
  .inr (0, 512), .inr (0, 16), .inr (0, 11), .inr (0, 41), .inr (0, 16), .inr (0, 16), .inr (0, 256), .inr (0, 256), .inr (0, 16), .inr (0, 48), .inr (2, 24), .inr (0, 6),
  .inr (0, 520), .inr (0, 26), .inr (0, 16), .inr (0, 8), .inr (3, 1)]
/-- the first n cells -/
def kT (x0 : pSh) (n : Nat) : List pSh := (x0 :: kFs).take n
theorem kT_len {x0 : pSh} {n : Nat} (h : n ≤ 186) : (kT x0 n).length = n := by
  unfold kT
  rw [List.length_take, List.length_cons, show kFs.length = 185 by decide +kernel]
  omega
theorem kT_get {x0 : pSh} {n j : Nat} {s : pSh} (hj : kFs[j]? = some s) (h : j + 1 < n) : (kT x0 n)[j + 1]? = some s := by
  unfold kT
  rw [List.getElem?_take, if_pos h]
  exact hj
theorem kT_push {x0 : pSh} {n : Nat} {s : pSh} (h1 : 1 ≤ n) (hj : kFs[n - 1]? = some s) : kT x0 n ++ [s] = kT x0 (n + 1) := by
  obtain ⟨j, rfl⟩ : ∃ j, n = j + 1 := ⟨n - 1, by omega⟩
  rw [Nat.add_sub_cancel] at hj
  unfold kT
  rw [List.take_succ (i := j + 1), List.getElem?_cons_succ, hj]
  rfl
theorem kT_0 {x0 : pSh} {n : Nat} (h : 1 ≤ n) : (kT x0 n)[0]? = some x0 := by
  unfold kT
  rw [List.getElem?_take, if_pos (show 0 < n from h)]
  rfl
theorem kT_sz {x0 : pSh} {n N : Nat} (h : n ≤ N) : pSz (kT x0 n) ≤ pSz (kT x0 N) := by
  have e : kT x0 n = (kT x0 N).take n := by unfold kT; rw [List.take_take, Nat.min_eq_left h]
  have e2 : pSz (kT x0 N) = pSz ((kT x0 N).take n) + pSz ((kT x0 N).drop n) := by
    unfold pSz
    rw [← List.sum_append, ← List.map_append, List.take_append_drop]
  rw [e, e2]
  exact Nat.le_add_right _ _
theorem kT_szN {x0 : pSh} {n N : Nat} {s : pSh} (h1 : 1 ≤ n) (hj : kFs[n - 1]? = some s) (hN : n + 1 ≤ N) : pSz (kT x0 n) + pSz1 s ≤ pSz (kT x0 N) := by
  rw [← pSz_push, kT_push h1 hj]
  exact kT_sz hN
theorem ac_I : Cond.arrayClass .int ∈ lw_g := (pG (inT1 _ (List.mem_of_getElem? (i := 64) rfl)) rfl)
theorem ac_B : Cond.arrayClass .byte ∈ lw_g := (pG (inT1 _ (List.mem_of_getElem? (i := 63) rfl)) rfl)
theorem ac_Z : Cond.arrayClass .boolean ∈ lw_g := (pG (inT1 _ (List.mem_of_getElem? (i := 101) rfl)) rfl)
theorem ac_L : Cond.arrayClass .long ∈ lw_g := (pG (inT1 _ (List.mem_of_getElem? (i := 102) rfl)) rfl)
theorem oi_i : Cond.instanceMethod objectInit ∈ lw_g := (pG (inT1 _ (List.mem_of_getElem? (i := 31) rfl)) rfl)
theorem oi_c : Cond.code objectInit ⟨#[0xb1]⟩ 1 none ∈ lw_g := (pG (inT1 _ (List.mem_of_getElem? (i := 32) rfl)) rfl)
theorem lo_Ls : Cond.methodLink "LeftShoes" 3 objectInit ∈ lw_g := (pG (inT1 _ (List.mem_of_getElem? (i := 30) rfl)) rfl)
theorem lo_Cp : Cond.methodLink "LeftShoes$Couples" 3 objectInit ∈ lw_g := (pG (inT2 _ (List.mem_of_getElem? (i := 183) rfl)) rfl)
theorem lo_Hi : Cond.methodLink "LeftShoes$History" 3 objectInit ∈ lw_g := (pG (inT2 _ (List.mem_of_getElem? (i := 140) rfl)) rfl)
theorem lo_La : Cond.methodLink "LeftShoes$Laws" 3 objectInit ∈ lw_g := (pG (inT1 _ (List.mem_of_getElem? (i := 70) rfl)) rfl)
theorem lo_Re : Cond.methodLink "LeftShoes$Reader" 3 objectInit ∈ lw_g := (pG (inT1 _ (List.mem_of_getElem? (i := 224) rfl)) rfl)
theorem lo_Sc : Cond.methodLink "LeftShoes$Scribe" 3 objectInit ∈ lw_g := (pG (inT1 _ (List.mem_of_getElem? (i := 218) rfl)) rfl)
theorem lo_St : Cond.methodLink "LeftShoes$Stroll" 3 objectInit ∈ lw_g := (pG (inT2 _ (List.mem_of_getElem? (i := 219) rfl)) rfl)
theorem lo_Sw : Cond.methodLink "LeftShoes$Swaps" 3 objectInit ∈ lw_g := (pG (inT1 _ (List.mem_of_getElem? (i := 44) rfl)) rfl)
theorem lo_Ta : Cond.methodLink "LeftShoes$Tale" 3 objectInit ∈ lw_g := (pG (inT1 _ (List.mem_of_getElem? (i := 38) rfl)) rfl)
theorem lo_Tr : Cond.methodLink "LeftShoes$Tracks" 3 objectInit ∈ lw_g := (pG (inT2 _ (List.mem_of_getElem? (i := 162) rfl)) rfl)
theorem lo_Wo : Cond.methodLink "LeftShoes$World" 5 objectInit ∈ lw_g := (pG (inT2 _ (List.mem_of_getElem? (i := 86) rfl)) rfl)
theorem lo_Mo : Cond.methodLink "LeftShoesModel" 1 objectInit ∈ lw_g := (pG (inT6 _ (List.mem_of_getElem? (i := 52) rfl)) rfl)
theorem kg_1 {x0 : pSh} {n : Nat} (h : 1 < n) : (kT x0 n)[1]? = some (.inl 10) := kT_get (j := 0) (by decide +kernel) h
theorem kg_2 {x0 : pSh} {n : Nat} (h : 2 < n) : (kT x0 n)[2]? = some (.inr (1, 700)) := kT_get (j := 1) (by decide +kernel) h
theorem kg_3 {x0 : pSh} {n : Nat} (h : 3 < n) : (kT x0 n)[3]? = some (.inl 7) := kT_get (j := 2) (by decide +kernel) h
theorem kg_4 {x0 : pSh} {n : Nat} (h : 4 < n) : (kT x0 n)[4]? = some (.inr (0, 5)) := kT_get (j := 3) (by decide +kernel) h
theorem kg_5 {x0 : pSh} {n : Nat} (h : 5 < n) : (kT x0 n)[5]? = some (.inr (0, 5)) := kT_get (j := 4) (by decide +kernel) h
theorem kg_6 {x0 : pSh} {n : Nat} (h : 6 < n) : (kT x0 n)[6]? = some (.inr (0, 5)) := kT_get (j := 5) (by decide +kernel) h
theorem kg_7 {x0 : pSh} {n : Nat} (h : 7 < n) : (kT x0 n)[7]? = some (.inr (0, 5)) := kT_get (j := 6) (by decide +kernel) h
theorem kg_8 {x0 : pSh} {n : Nat} (h : 8 < n) : (kT x0 n)[8]? = some (.inr (0, 5)) := kT_get (j := 7) (by decide +kernel) h
theorem kg_9 {x0 : pSh} {n : Nat} (h : 9 < n) : (kT x0 n)[9]? = some (.inr (0, 16)) := kT_get (j := 8) (by decide +kernel) h
theorem kg_10 {x0 : pSh} {n : Nat} (h : 10 < n) : (kT x0 n)[10]? = some (.inr (0, 16)) := kT_get (j := 9) (by decide +kernel) h
theorem kg_11 {x0 : pSh} {n : Nat} (h : 11 < n) : (kT x0 n)[11]? = some (.inr (0, 16)) := kT_get (j := 10) (by decide +kernel) h
theorem kg_12 {x0 : pSh} {n : Nat} (h : 12 < n) : (kT x0 n)[12]? = some (.inr (0, 16)) := kT_get (j := 11) (by decide +kernel) h
theorem kg_13 {x0 : pSh} {n : Nat} (h : 13 < n) : (kT x0 n)[13]? = some (.inr (0, 16)) := kT_get (j := 12) (by decide +kernel) h
theorem kg_14 {x0 : pSh} {n : Nat} (h : 14 < n) : (kT x0 n)[14]? = some (.inr (0, 8)) := kT_get (j := 13) (by decide +kernel) h
theorem kg_15 {x0 : pSh} {n : Nat} (h : 15 < n) : (kT x0 n)[15]? = some (.inr (0, 8)) := kT_get (j := 14) (by decide +kernel) h
theorem kg_16 {x0 : pSh} {n : Nat} (h : 16 < n) : (kT x0 n)[16]? = some (.inr (0, 8)) := kT_get (j := 15) (by decide +kernel) h
theorem kg_17 {x0 : pSh} {n : Nat} (h : 17 < n) : (kT x0 n)[17]? = some (.inr (0, 8)) := kT_get (j := 16) (by decide +kernel) h
theorem kg_18 {x0 : pSh} {n : Nat} (h : 18 < n) : (kT x0 n)[18]? = some (.inl 6) := kT_get (j := 17) (by decide +kernel) h
theorem kg_19 {x0 : pSh} {n : Nat} (h : 19 < n) : (kT x0 n)[19]? = some (.inr (0, 36)) := kT_get (j := 18) (by decide +kernel) h
theorem kg_20 {x0 : pSh} {n : Nat} (h : 20 < n) : (kT x0 n)[20]? = some (.inr (0, 36)) := kT_get (j := 19) (by decide +kernel) h
theorem kg_21 {x0 : pSh} {n : Nat} (h : 21 < n) : (kT x0 n)[21]? = some (.inr (0, 6)) := kT_get (j := 20) (by decide +kernel) h
theorem kg_22 {x0 : pSh} {n : Nat} (h : 22 < n) : (kT x0 n)[22]? = some (.inl 2) := kT_get (j := 21) (by decide +kernel) h
theorem kg_23 {x0 : pSh} {n : Nat} (h : 23 < n) : (kT x0 n)[23]? = some (.inr (0, 64)) := kT_get (j := 22) (by decide +kernel) h
theorem kg_24 {x0 : pSh} {n : Nat} (h : 24 < n) : (kT x0 n)[24]? = some (.inr (0, 64)) := kT_get (j := 23) (by decide +kernel) h
theorem kg_25 {x0 : pSh} {n : Nat} (h : 25 < n) : (kT x0 n)[25]? = some (.inr (0, 3)) := kT_get (j := 24) (by decide +kernel) h
theorem kg_26 {x0 : pSh} {n : Nat} (h : 26 < n) : (kT x0 n)[26]? = some (.inr (0, 3)) := kT_get (j := 25) (by decide +kernel) h
theorem kg_27 {x0 : pSh} {n : Nat} (h : 27 < n) : (kT x0 n)[27]? = some (.inr (2, 3)) := kT_get (j := 26) (by decide +kernel) h
theorem kg_28 {x0 : pSh} {n : Nat} (h : 28 < n) : (kT x0 n)[28]? = some (.inr (3, 7)) := kT_get (j := 27) (by decide +kernel) h
theorem kg_29 {x0 : pSh} {n : Nat} (h : 29 < n) : (kT x0 n)[29]? = some (.inr (3, 64)) := kT_get (j := 28) (by decide +kernel) h
theorem kg_30 {x0 : pSh} {n : Nat} (h : 30 < n) : (kT x0 n)[30]? = some (.inl 7) := kT_get (j := 29) (by decide +kernel) h
theorem kg_31 {x0 : pSh} {n : Nat} (h : 31 < n) : (kT x0 n)[31]? = some (.inr (0, 5)) := kT_get (j := 30) (by decide +kernel) h
theorem kg_32 {x0 : pSh} {n : Nat} (h : 32 < n) : (kT x0 n)[32]? = some (.inr (0, 5)) := kT_get (j := 31) (by decide +kernel) h
theorem kg_33 {x0 : pSh} {n : Nat} (h : 33 < n) : (kT x0 n)[33]? = some (.inr (0, 5)) := kT_get (j := 32) (by decide +kernel) h
theorem kg_34 {x0 : pSh} {n : Nat} (h : 34 < n) : (kT x0 n)[34]? = some (.inr (0, 5)) := kT_get (j := 33) (by decide +kernel) h
theorem kg_35 {x0 : pSh} {n : Nat} (h : 35 < n) : (kT x0 n)[35]? = some (.inr (0, 5)) := kT_get (j := 34) (by decide +kernel) h
theorem kg_36 {x0 : pSh} {n : Nat} (h : 36 < n) : (kT x0 n)[36]? = some (.inr (0, 16)) := kT_get (j := 35) (by decide +kernel) h
theorem kg_37 {x0 : pSh} {n : Nat} (h : 37 < n) : (kT x0 n)[37]? = some (.inr (0, 16)) := kT_get (j := 36) (by decide +kernel) h
theorem kg_38 {x0 : pSh} {n : Nat} (h : 38 < n) : (kT x0 n)[38]? = some (.inr (0, 16)) := kT_get (j := 37) (by decide +kernel) h
theorem kg_39 {x0 : pSh} {n : Nat} (h : 39 < n) : (kT x0 n)[39]? = some (.inr (0, 16)) := kT_get (j := 38) (by decide +kernel) h
theorem kg_40 {x0 : pSh} {n : Nat} (h : 40 < n) : (kT x0 n)[40]? = some (.inr (0, 16)) := kT_get (j := 39) (by decide +kernel) h
theorem kg_41 {x0 : pSh} {n : Nat} (h : 41 < n) : (kT x0 n)[41]? = some (.inr (0, 8)) := kT_get (j := 40) (by decide +kernel) h
theorem kg_42 {x0 : pSh} {n : Nat} (h : 42 < n) : (kT x0 n)[42]? = some (.inr (0, 8)) := kT_get (j := 41) (by decide +kernel) h
theorem kg_43 {x0 : pSh} {n : Nat} (h : 43 < n) : (kT x0 n)[43]? = some (.inr (0, 8)) := kT_get (j := 42) (by decide +kernel) h
theorem kg_44 {x0 : pSh} {n : Nat} (h : 44 < n) : (kT x0 n)[44]? = some (.inr (0, 8)) := kT_get (j := 43) (by decide +kernel) h
theorem kg_45 {x0 : pSh} {n : Nat} (h : 45 < n) : (kT x0 n)[45]? = some (.inl 6) := kT_get (j := 44) (by decide +kernel) h
theorem kg_46 {x0 : pSh} {n : Nat} (h : 46 < n) : (kT x0 n)[46]? = some (.inr (0, 36)) := kT_get (j := 45) (by decide +kernel) h
theorem kg_47 {x0 : pSh} {n : Nat} (h : 47 < n) : (kT x0 n)[47]? = some (.inr (0, 36)) := kT_get (j := 46) (by decide +kernel) h
theorem kg_48 {x0 : pSh} {n : Nat} (h : 48 < n) : (kT x0 n)[48]? = some (.inr (0, 6)) := kT_get (j := 47) (by decide +kernel) h
theorem kg_49 {x0 : pSh} {n : Nat} (h : 49 < n) : (kT x0 n)[49]? = some (.inl 2) := kT_get (j := 48) (by decide +kernel) h
theorem kg_50 {x0 : pSh} {n : Nat} (h : 50 < n) : (kT x0 n)[50]? = some (.inr (0, 64)) := kT_get (j := 49) (by decide +kernel) h
theorem kg_51 {x0 : pSh} {n : Nat} (h : 51 < n) : (kT x0 n)[51]? = some (.inr (0, 64)) := kT_get (j := 50) (by decide +kernel) h
theorem kg_52 {x0 : pSh} {n : Nat} (h : 52 < n) : (kT x0 n)[52]? = some (.inr (0, 3)) := kT_get (j := 51) (by decide +kernel) h
theorem kg_53 {x0 : pSh} {n : Nat} (h : 53 < n) : (kT x0 n)[53]? = some (.inr (0, 3)) := kT_get (j := 52) (by decide +kernel) h
theorem kg_54 {x0 : pSh} {n : Nat} (h : 54 < n) : (kT x0 n)[54]? = some (.inr (2, 3)) := kT_get (j := 53) (by decide +kernel) h
theorem kg_55 {x0 : pSh} {n : Nat} (h : 55 < n) : (kT x0 n)[55]? = some (.inr (3, 7)) := kT_get (j := 54) (by decide +kernel) h
theorem kg_56 {x0 : pSh} {n : Nat} (h : 56 < n) : (kT x0 n)[56]? = some (.inr (3, 64)) := kT_get (j := 55) (by decide +kernel) h
theorem kg_57 {x0 : pSh} {n : Nat} (h : 57 < n) : (kT x0 n)[57]? = some (.inl 4) := kT_get (j := 56) (by decide +kernel) h
theorem kg_58 {x0 : pSh} {n : Nat} (h : 58 < n) : (kT x0 n)[58]? = some (.inl 3) := kT_get (j := 57) (by decide +kernel) h
theorem kg_59 {x0 : pSh} {n : Nat} (h : 59 < n) : (kT x0 n)[59]? = some (.inr (1, 0)) := kT_get (j := 58) (by decide +kernel) h
theorem kg_60 {x0 : pSh} {n : Nat} (h : 60 < n) : (kT x0 n)[60]? = some (.inr (0, 25)) := kT_get (j := 59) (by decide +kernel) h
theorem kg_61 {x0 : pSh} {n : Nat} (h : 61 < n) : (kT x0 n)[61]? = some (.inr (0, 10000)) := kT_get (j := 60) (by decide +kernel) h
theorem kg_62 {x0 : pSh} {n : Nat} (h : 62 < n) : (kT x0 n)[62]? = some (.inl 9) := kT_get (j := 61) (by decide +kernel) h
theorem kg_63 {x0 : pSh} {n : Nat} (h : 63 < n) : (kT x0 n)[63]? = some (.inr (0, 16)) := kT_get (j := 62) (by decide +kernel) h
theorem kg_64 {x0 : pSh} {n : Nat} (h : 64 < n) : (kT x0 n)[64]? = some (.inr (0, 16)) := kT_get (j := 63) (by decide +kernel) h
theorem kg_65 {x0 : pSh} {n : Nat} (h : 65 < n) : (kT x0 n)[65]? = some (.inr (0, 16)) := kT_get (j := 64) (by decide +kernel) h
theorem kg_66 {x0 : pSh} {n : Nat} (h : 66 < n) : (kT x0 n)[66]? = some (.inr (0, 10)) := kT_get (j := 65) (by decide +kernel) h
theorem kg_67 {x0 : pSh} {n : Nat} (h : 67 < n) : (kT x0 n)[67]? = some (.inr (0, 8)) := kT_get (j := 66) (by decide +kernel) h
theorem kg_68 {x0 : pSh} {n : Nat} (h : 68 < n) : (kT x0 n)[68]? = some (.inl 9) := kT_get (j := 67) (by decide +kernel) h
theorem kg_69 {x0 : pSh} {n : Nat} (h : 69 < n) : (kT x0 n)[69]? = some (.inr (0, 16)) := kT_get (j := 68) (by decide +kernel) h
theorem kg_70 {x0 : pSh} {n : Nat} (h : 70 < n) : (kT x0 n)[70]? = some (.inr (0, 16)) := kT_get (j := 69) (by decide +kernel) h
theorem kg_71 {x0 : pSh} {n : Nat} (h : 71 < n) : (kT x0 n)[71]? = some (.inr (0, 16)) := kT_get (j := 70) (by decide +kernel) h
theorem kg_72 {x0 : pSh} {n : Nat} (h : 72 < n) : (kT x0 n)[72]? = some (.inr (0, 10)) := kT_get (j := 71) (by decide +kernel) h
theorem kg_73 {x0 : pSh} {n : Nat} (h : 73 < n) : (kT x0 n)[73]? = some (.inr (0, 8)) := kT_get (j := 72) (by decide +kernel) h
theorem kg_74 {x0 : pSh} {n : Nat} (h : 74 < n) : (kT x0 n)[74]? = some (.inl 9) := kT_get (j := 73) (by decide +kernel) h
theorem kg_75 {x0 : pSh} {n : Nat} (h : 75 < n) : (kT x0 n)[75]? = some (.inr (0, 16)) := kT_get (j := 74) (by decide +kernel) h
theorem kg_76 {x0 : pSh} {n : Nat} (h : 76 < n) : (kT x0 n)[76]? = some (.inr (0, 16)) := kT_get (j := 75) (by decide +kernel) h
theorem kg_77 {x0 : pSh} {n : Nat} (h : 77 < n) : (kT x0 n)[77]? = some (.inr (0, 16)) := kT_get (j := 76) (by decide +kernel) h
theorem kg_78 {x0 : pSh} {n : Nat} (h : 78 < n) : (kT x0 n)[78]? = some (.inr (0, 10)) := kT_get (j := 77) (by decide +kernel) h
theorem kg_79 {x0 : pSh} {n : Nat} (h : 79 < n) : (kT x0 n)[79]? = some (.inr (0, 8)) := kT_get (j := 78) (by decide +kernel) h
theorem kg_80 {x0 : pSh} {n : Nat} (h : 80 < n) : (kT x0 n)[80]? = some (.inl 1) := kT_get (j := 79) (by decide +kernel) h
theorem kg_81 {x0 : pSh} {n : Nat} (h : 81 < n) : (kT x0 n)[81]? = some (.inr (4, 20)) := kT_get (j := 80) (by decide +kernel) h
theorem kg_82 {x0 : pSh} {n : Nat} (h : 82 < n) : (kT x0 n)[82]? = some (.inr (0, 16)) := kT_get (j := 81) (by decide +kernel) h
theorem kg_83 {x0 : pSh} {n : Nat} (h : 83 < n) : (kT x0 n)[83]? = some (.inr (0, 16)) := kT_get (j := 82) (by decide +kernel) h
theorem kg_84 {x0 : pSh} {n : Nat} (h : 84 < n) : (kT x0 n)[84]? = some (.inr (0, 16)) := kT_get (j := 83) (by decide +kernel) h
theorem kg_85 {x0 : pSh} {n : Nat} (h : 85 < n) : (kT x0 n)[85]? = some (.inr (0, 16)) := kT_get (j := 84) (by decide +kernel) h
theorem kg_86 {x0 : pSh} {n : Nat} (h : 86 < n) : (kT x0 n)[86]? = some (.inr (0, 16)) := kT_get (j := 85) (by decide +kernel) h
theorem kg_87 {x0 : pSh} {n : Nat} (h : 87 < n) : (kT x0 n)[87]? = some (.inr (0, 16)) := kT_get (j := 86) (by decide +kernel) h
theorem kg_88 {x0 : pSh} {n : Nat} (h : 88 < n) : (kT x0 n)[88]? = some (.inr (0, 16)) := kT_get (j := 87) (by decide +kernel) h
theorem kg_89 {x0 : pSh} {n : Nat} (h : 89 < n) : (kT x0 n)[89]? = some (.inr (0, 16)) := kT_get (j := 88) (by decide +kernel) h
theorem kg_90 {x0 : pSh} {n : Nat} (h : 90 < n) : (kT x0 n)[90]? = some (.inr (0, 16)) := kT_get (j := 89) (by decide +kernel) h
theorem kg_91 {x0 : pSh} {n : Nat} (h : 91 < n) : (kT x0 n)[91]? = some (.inr (0, 16)) := kT_get (j := 90) (by decide +kernel) h
theorem kg_92 {x0 : pSh} {n : Nat} (h : 92 < n) : (kT x0 n)[92]? = some (.inr (0, 16)) := kT_get (j := 91) (by decide +kernel) h
theorem kg_93 {x0 : pSh} {n : Nat} (h : 93 < n) : (kT x0 n)[93]? = some (.inr (0, 16)) := kT_get (j := 92) (by decide +kernel) h
theorem kg_94 {x0 : pSh} {n : Nat} (h : 94 < n) : (kT x0 n)[94]? = some (.inr (0, 16)) := kT_get (j := 93) (by decide +kernel) h
theorem kg_95 {x0 : pSh} {n : Nat} (h : 95 < n) : (kT x0 n)[95]? = some (.inr (0, 16)) := kT_get (j := 94) (by decide +kernel) h
theorem kg_96 {x0 : pSh} {n : Nat} (h : 96 < n) : (kT x0 n)[96]? = some (.inr (0, 16)) := kT_get (j := 95) (by decide +kernel) h
theorem kg_97 {x0 : pSh} {n : Nat} (h : 97 < n) : (kT x0 n)[97]? = some (.inr (0, 16)) := kT_get (j := 96) (by decide +kernel) h
theorem kg_98 {x0 : pSh} {n : Nat} (h : 98 < n) : (kT x0 n)[98]? = some (.inr (0, 16)) := kT_get (j := 97) (by decide +kernel) h
theorem kg_99 {x0 : pSh} {n : Nat} (h : 99 < n) : (kT x0 n)[99]? = some (.inr (0, 16)) := kT_get (j := 98) (by decide +kernel) h
theorem kg_100 {x0 : pSh} {n : Nat} (h : 100 < n) : (kT x0 n)[100]? = some (.inr (0, 16)) := kT_get (j := 99) (by decide +kernel) h
theorem kg_101 {x0 : pSh} {n : Nat} (h : 101 < n) : (kT x0 n)[101]? = some (.inr (0, 16)) := kT_get (j := 100) (by decide +kernel) h
theorem kg_102 {x0 : pSh} {n : Nat} (h : 102 < n) : (kT x0 n)[102]? = some (.inr (4, 20)) := kT_get (j := 101) (by decide +kernel) h
theorem kg_103 {x0 : pSh} {n : Nat} (h : 103 < n) : (kT x0 n)[103]? = some (.inr (0, 10)) := kT_get (j := 102) (by decide +kernel) h
theorem kg_104 {x0 : pSh} {n : Nat} (h : 104 < n) : (kT x0 n)[104]? = some (.inr (0, 10)) := kT_get (j := 103) (by decide +kernel) h
theorem kg_105 {x0 : pSh} {n : Nat} (h : 105 < n) : (kT x0 n)[105]? = some (.inr (0, 10)) := kT_get (j := 104) (by decide +kernel) h
theorem kg_106 {x0 : pSh} {n : Nat} (h : 106 < n) : (kT x0 n)[106]? = some (.inr (0, 10)) := kT_get (j := 105) (by decide +kernel) h
theorem kg_107 {x0 : pSh} {n : Nat} (h : 107 < n) : (kT x0 n)[107]? = some (.inr (0, 10)) := kT_get (j := 106) (by decide +kernel) h
theorem kg_108 {x0 : pSh} {n : Nat} (h : 108 < n) : (kT x0 n)[108]? = some (.inr (0, 10)) := kT_get (j := 107) (by decide +kernel) h
theorem kg_109 {x0 : pSh} {n : Nat} (h : 109 < n) : (kT x0 n)[109]? = some (.inr (0, 10)) := kT_get (j := 108) (by decide +kernel) h
theorem kg_110 {x0 : pSh} {n : Nat} (h : 110 < n) : (kT x0 n)[110]? = some (.inr (0, 10)) := kT_get (j := 109) (by decide +kernel) h
theorem kg_111 {x0 : pSh} {n : Nat} (h : 111 < n) : (kT x0 n)[111]? = some (.inr (0, 10)) := kT_get (j := 110) (by decide +kernel) h
theorem kg_112 {x0 : pSh} {n : Nat} (h : 112 < n) : (kT x0 n)[112]? = some (.inr (0, 10)) := kT_get (j := 111) (by decide +kernel) h
theorem kg_113 {x0 : pSh} {n : Nat} (h : 113 < n) : (kT x0 n)[113]? = some (.inr (0, 10)) := kT_get (j := 112) (by decide +kernel) h
theorem kg_114 {x0 : pSh} {n : Nat} (h : 114 < n) : (kT x0 n)[114]? = some (.inr (0, 10)) := kT_get (j := 113) (by decide +kernel) h
theorem kg_115 {x0 : pSh} {n : Nat} (h : 115 < n) : (kT x0 n)[115]? = some (.inr (0, 10)) := kT_get (j := 114) (by decide +kernel) h
theorem kg_116 {x0 : pSh} {n : Nat} (h : 116 < n) : (kT x0 n)[116]? = some (.inr (0, 10)) := kT_get (j := 115) (by decide +kernel) h
theorem kg_117 {x0 : pSh} {n : Nat} (h : 117 < n) : (kT x0 n)[117]? = some (.inr (0, 10)) := kT_get (j := 116) (by decide +kernel) h
theorem kg_118 {x0 : pSh} {n : Nat} (h : 118 < n) : (kT x0 n)[118]? = some (.inr (0, 10)) := kT_get (j := 117) (by decide +kernel) h
theorem kg_119 {x0 : pSh} {n : Nat} (h : 119 < n) : (kT x0 n)[119]? = some (.inr (0, 10)) := kT_get (j := 118) (by decide +kernel) h
theorem kg_120 {x0 : pSh} {n : Nat} (h : 120 < n) : (kT x0 n)[120]? = some (.inr (0, 10)) := kT_get (j := 119) (by decide +kernel) h
theorem kg_121 {x0 : pSh} {n : Nat} (h : 121 < n) : (kT x0 n)[121]? = some (.inr (0, 10)) := kT_get (j := 120) (by decide +kernel) h
theorem kg_122 {x0 : pSh} {n : Nat} (h : 122 < n) : (kT x0 n)[122]? = some (.inr (0, 10)) := kT_get (j := 121) (by decide +kernel) h
theorem kg_123 {x0 : pSh} {n : Nat} (h : 123 < n) : (kT x0 n)[123]? = some (.inl 8) := kT_get (j := 122) (by decide +kernel) h
theorem kg_124 {x0 : pSh} {n : Nat} (h : 124 < n) : (kT x0 n)[124]? = some (.inr (0, 24)) := kT_get (j := 123) (by decide +kernel) h
theorem kg_125 {x0 : pSh} {n : Nat} (h : 125 < n) : (kT x0 n)[125]? = some (.inr (0, 24)) := kT_get (j := 124) (by decide +kernel) h
theorem kg_126 {x0 : pSh} {n : Nat} (h : 126 < n) : (kT x0 n)[126]? = some (.inl 0) := kT_get (j := 125) (by decide +kernel) h
theorem kg_127 {x0 : pSh} {n : Nat} (h : 127 < n) : (kT x0 n)[127]? = some (.inr (0, 16)) := kT_get (j := 126) (by decide +kernel) h
theorem kg_128 {x0 : pSh} {n : Nat} (h : 128 < n) : (kT x0 n)[128]? = some (.inr (0, 16)) := kT_get (j := 127) (by decide +kernel) h
theorem kg_129 {x0 : pSh} {n : Nat} (h : 129 < n) : (kT x0 n)[129]? = some (.inr (0, 16)) := kT_get (j := 128) (by decide +kernel) h
theorem kg_130 {x0 : pSh} {n : Nat} (h : 130 < n) : (kT x0 n)[130]? = some (.inr (3, 256)) := kT_get (j := 129) (by decide +kernel) h
theorem kg_131 {x0 : pSh} {n : Nat} (h : 131 < n) : (kT x0 n)[131]? = some (.inr (3, 8)) := kT_get (j := 130) (by decide +kernel) h
theorem kg_132 {x0 : pSh} {n : Nat} (h : 132 < n) : (kT x0 n)[132]? = some (.inl 5) := kT_get (j := 131) (by decide +kernel) h
theorem kg_133 {x0 : pSh} {n : Nat} (h : 133 < n) : (kT x0 n)[133]? = some (.inr (0, 10)) := kT_get (j := 132) (by decide +kernel) h
theorem kg_134 {x0 : pSh} {n : Nat} (h : 134 < n) : (kT x0 n)[134]? = some (.inl 11) := kT_get (j := 133) (by decide +kernel) h
theorem kg_135 {x0 : pSh} {n : Nat} (h : 135 < n) : (kT x0 n)[135]? = some (.inr (0, 700)) := kT_get (j := 134) (by decide +kernel) h
theorem kg_136 {x0 : pSh} {n : Nat} (h : 136 < n) : (kT x0 n)[136]? = some (.inr (0, 127)) := kT_get (j := 135) (by decide +kernel) h
theorem kg_137 {x0 : pSh} {n : Nat} (h : 137 < n) : (kT x0 n)[137]? = some (.inr (0, 10)) := kT_get (j := 136) (by decide +kernel) h
theorem kg_138 {x0 : pSh} {n : Nat} (h : 138 < n) : (kT x0 n)[138]? = some (.inr (0, 10)) := kT_get (j := 137) (by decide +kernel) h
theorem kg_139 {x0 : pSh} {n : Nat} (h : 139 < n) : (kT x0 n)[139]? = some (.inr (0, 10)) := kT_get (j := 138) (by decide +kernel) h
theorem kg_140 {x0 : pSh} {n : Nat} (h : 140 < n) : (kT x0 n)[140]? = some (.inr (0, 10)) := kT_get (j := 139) (by decide +kernel) h
theorem kg_141 {x0 : pSh} {n : Nat} (h : 141 < n) : (kT x0 n)[141]? = some (.inr (0, 10)) := kT_get (j := 140) (by decide +kernel) h
theorem kg_142 {x0 : pSh} {n : Nat} (h : 142 < n) : (kT x0 n)[142]? = some (.inr (0, 32)) := kT_get (j := 141) (by decide +kernel) h
theorem kg_143 {x0 : pSh} {n : Nat} (h : 143 < n) : (kT x0 n)[143]? = some (.inr (0, 32)) := kT_get (j := 142) (by decide +kernel) h
theorem kg_144 {x0 : pSh} {n : Nat} (h : 144 < n) : (kT x0 n)[144]? = some (.inr (0, 32)) := kT_get (j := 143) (by decide +kernel) h
theorem kg_145 {x0 : pSh} {n : Nat} (h : 145 < n) : (kT x0 n)[145]? = some (.inr (0, 32)) := kT_get (j := 144) (by decide +kernel) h
theorem kg_146 {x0 : pSh} {n : Nat} (h : 146 < n) : (kT x0 n)[146]? = some (.inr (0, 32)) := kT_get (j := 145) (by decide +kernel) h
theorem kg_147 {x0 : pSh} {n : Nat} (h : 147 < n) : (kT x0 n)[147]? = some (.inr (0, 16)) := kT_get (j := 146) (by decide +kernel) h
theorem kg_148 {x0 : pSh} {n : Nat} (h : 148 < n) : (kT x0 n)[148]? = some (.inr (0, 16)) := kT_get (j := 147) (by decide +kernel) h
theorem kg_149 {x0 : pSh} {n : Nat} (h : 149 < n) : (kT x0 n)[149]? = some (.inr (0, 16)) := kT_get (j := 148) (by decide +kernel) h
theorem kg_150 {x0 : pSh} {n : Nat} (h : 150 < n) : (kT x0 n)[150]? = some (.inr (0, 16)) := kT_get (j := 149) (by decide +kernel) h
theorem kg_151 {x0 : pSh} {n : Nat} (h : 151 < n) : (kT x0 n)[151]? = some (.inr (0, 64)) := kT_get (j := 150) (by decide +kernel) h
theorem kg_152 {x0 : pSh} {n : Nat} (h : 152 < n) : (kT x0 n)[152]? = some (.inr (2, 6)) := kT_get (j := 151) (by decide +kernel) h
theorem kg_153 {x0 : pSh} {n : Nat} (h : 153 < n) : (kT x0 n)[153]? = some (.inr (0, 6)) := kT_get (j := 152) (by decide +kernel) h
theorem kg_154 {x0 : pSh} {n : Nat} (h : 154 < n) : (kT x0 n)[154]? = some (.inr (0, 6)) := kT_get (j := 153) (by decide +kernel) h
theorem kg_155 {x0 : pSh} {n : Nat} (h : 155 < n) : (kT x0 n)[155]? = some (.inr (0, 128)) := kT_get (j := 154) (by decide +kernel) h
theorem kg_156 {x0 : pSh} {n : Nat} (h : 156 < n) : (kT x0 n)[156]? = some (.inr (0, 128)) := kT_get (j := 155) (by decide +kernel) h
theorem kg_157 {x0 : pSh} {n : Nat} (h : 157 < n) : (kT x0 n)[157]? = some (.inr (0, 128)) := kT_get (j := 156) (by decide +kernel) h
theorem kg_158 {x0 : pSh} {n : Nat} (h : 158 < n) : (kT x0 n)[158]? = some (.inr (0, 96)) := kT_get (j := 157) (by decide +kernel) h
theorem kg_159 {x0 : pSh} {n : Nat} (h : 159 < n) : (kT x0 n)[159]? = some (.inr (0, 96)) := kT_get (j := 158) (by decide +kernel) h
theorem kg_160 {x0 : pSh} {n : Nat} (h : 160 < n) : (kT x0 n)[160]? = some (.inr (3, 7)) := kT_get (j := 159) (by decide +kernel) h
theorem kg_161 {x0 : pSh} {n : Nat} (h : 161 < n) : (kT x0 n)[161]? = some (.inr (3, 64)) := kT_get (j := 160) (by decide +kernel) h
theorem kg_162 {x0 : pSh} {n : Nat} (h : 162 < n) : (kT x0 n)[162]? = some (.inr (0, 32)) := kT_get (j := 161) (by decide +kernel) h
theorem kg_163 {x0 : pSh} {n : Nat} (h : 163 < n) : (kT x0 n)[163]? = some (.inr (0, 32)) := kT_get (j := 162) (by decide +kernel) h
theorem kg_164 {x0 : pSh} {n : Nat} (h : 164 < n) : (kT x0 n)[164]? = some (.inr (0, 10)) := kT_get (j := 163) (by decide +kernel) h
theorem kg_165 {x0 : pSh} {n : Nat} (h : 165 < n) : (kT x0 n)[165]? = some (.inr (0, 10)) := kT_get (j := 164) (by decide +kernel) h
theorem kg_166 {x0 : pSh} {n : Nat} (h : 166 < n) : (kT x0 n)[166]? = some (.inr (0, 16)) := kT_get (j := 165) (by decide +kernel) h
theorem kg_167 {x0 : pSh} {n : Nat} (h : 167 < n) : (kT x0 n)[167]? = some (.inr (0, 2)) := kT_get (j := 166) (by decide +kernel) h
theorem kg_168 {x0 : pSh} {n : Nat} (h : 168 < n) : (kT x0 n)[168]? = some (.inr (0, 512)) := kT_get (j := 167) (by decide +kernel) h
theorem kg_169 {x0 : pSh} {n : Nat} (h : 169 < n) : (kT x0 n)[169]? = some (.inr (0, 512)) := kT_get (j := 168) (by decide +kernel) h
theorem kg_170 {x0 : pSh} {n : Nat} (h : 170 < n) : (kT x0 n)[170]? = some (.inr (0, 16)) := kT_get (j := 169) (by decide +kernel) h
theorem kg_171 {x0 : pSh} {n : Nat} (h : 171 < n) : (kT x0 n)[171]? = some (.inr (0, 11)) := kT_get (j := 170) (by decide +kernel) h
theorem kg_172 {x0 : pSh} {n : Nat} (h : 172 < n) : (kT x0 n)[172]? = some (.inr (0, 41)) := kT_get (j := 171) (by decide +kernel) h
theorem kg_173 {x0 : pSh} {n : Nat} (h : 173 < n) : (kT x0 n)[173]? = some (.inr (0, 16)) := kT_get (j := 172) (by decide +kernel) h
theorem kg_174 {x0 : pSh} {n : Nat} (h : 174 < n) : (kT x0 n)[174]? = some (.inr (0, 16)) := kT_get (j := 173) (by decide +kernel) h
theorem kg_175 {x0 : pSh} {n : Nat} (h : 175 < n) : (kT x0 n)[175]? = some (.inr (0, 256)) := kT_get (j := 174) (by decide +kernel) h
theorem kg_176 {x0 : pSh} {n : Nat} (h : 176 < n) : (kT x0 n)[176]? = some (.inr (0, 256)) := kT_get (j := 175) (by decide +kernel) h
theorem kg_177 {x0 : pSh} {n : Nat} (h : 177 < n) : (kT x0 n)[177]? = some (.inr (0, 16)) := kT_get (j := 176) (by decide +kernel) h
theorem kg_178 {x0 : pSh} {n : Nat} (h : 178 < n) : (kT x0 n)[178]? = some (.inr (0, 48)) := kT_get (j := 177) (by decide +kernel) h
theorem kg_179 {x0 : pSh} {n : Nat} (h : 179 < n) : (kT x0 n)[179]? = some (.inr (2, 24)) := kT_get (j := 178) (by decide +kernel) h
theorem kg_180 {x0 : pSh} {n : Nat} (h : 180 < n) : (kT x0 n)[180]? = some (.inr (0, 6)) := kT_get (j := 179) (by decide +kernel) h
theorem kg_181 {x0 : pSh} {n : Nat} (h : 181 < n) : (kT x0 n)[181]? = some (.inr (0, 520)) := kT_get (j := 180) (by decide +kernel) h
theorem kg_182 {x0 : pSh} {n : Nat} (h : 182 < n) : (kT x0 n)[182]? = some (.inr (0, 26)) := kT_get (j := 181) (by decide +kernel) h
theorem kg_183 {x0 : pSh} {n : Nat} (h : 183 < n) : (kT x0 n)[183]? = some (.inr (0, 16)) := kT_get (j := 182) (by decide +kernel) h
theorem kg_184 {x0 : pSh} {n : Nat} (h : 184 < n) : (kT x0 n)[184]? = some (.inr (0, 8)) := kT_get (j := 183) (by decide +kernel) h
theorem kg_185 {x0 : pSh} {n : Nat} (h : 185 < n) : (kT x0 n)[185]? = some (.inr (3, 1)) := kT_get (j := 184) (by decide +kernel) h
def zI (I : Nat → Nat → Int32) (n : Nat) : Nat → Nat → Int32 := va_up I n (fun _ => 0)
def zL (L : Nat → Nat → Int64) (n : Nat) : Nat → Nat → Int64 := va_up L n (fun _ => 0)
def zP (P : Nat → Nat → Option Nat) (n : Nat) : Nat → Nat → Option Nat := va_up P n (fun _ => none)
theorem zI_ne {I : Nat → Nat → Int32} {a b : Nat} (h : b ≠ a) : zI I a b = I b := va_up_ne2 _ _ h
theorem zL_ne {L : Nat → Nat → Int64} {a b : Nat} (h : b ≠ a) : zL L a b = L b := va_up_ne2 _ _ h
theorem zP_ne {P : Nat → Nat → Option Nat} {a b : Nat} (h : b ≠ a) : zP P a b = P b := va_up_ne2 _ _ h
/-- on the way from n cells to N -/
abbrev kWP (μ : pMeth) (d : Nat) (x0 : pSh) (N : Nat) (Q : Option Value → pM → Prop) (pc : Nat) (ls : List (Option Value)) (st : List Value) (n : Nat) (M : pM) : Prop := pWP μ d (kT x0 N).length (pSz (kT x0 N)) (fun r h => h.1 = kT x0 N ∧ Q r h.2) pc ls st (kT x0 n, M)
abbrev kCt (μ : pMeth) (d : Nat) (x0 : pSh) (n N : Nat) (av : List Value) (M : pM) (Q : Option Value → pM → Prop) : Prop := pCt μ d (kT x0 N).length (pSz (kT x0 N)) av (kT x0 n, M) (fun r h => h.1 = kT x0 N ∧ Q r h.2)
section
variable {μ ν : pMeth} {d d' N : Nat} {x0 : pSh} {Q Q' : Option Value → pM → Prop} {pc i idx : Nat} {ls : List (Option Value)} {st av : List Value} {I : Nat → Nat → Int32} {L : Nat → Nat → Int64} {P : Nat → Nat → Option Nat} {M : pM}
theorem kCt_of {n : Nat} (hy : plainName μ.1.cls = true) (hl : (pAL av).length ≤ μ.2.2.1) (hN : n ≤ N) (hN2 : N ≤ 186) (hw : kWP μ d x0 N Q 0 (pEnt μ.2.2.1 av) [] n M) : kCt μ d x0 n N av M Q :=
  pCt_of hy hl (by show (kT x0 n).length ≤ (kT x0 N).length; rw [kT_len (by omega), kT_len hN2]; exact hN) (kT_sz hN) hw
theorem kw_newI (n len : Nat) {x : Int32} (hd : decode μ.2.1 pc = .ok (.newarray .int, 2)) (hx : ¬ x < 0) (hn : x.toNatClampNeg = len) (hb : len ≤ 100000) (hg : kFs[n - 1]? = some (.inr (0, len))) (h1 : 1 ≤ n) (hN : n + 1 ≤ N) (hN2 : N ≤ 186) (k : kWP μ d x0 N Q (pc + 2) ls (.ref n :: st) (n + 1) (zI I n, zL L n, zP P n)) : kWP μ d x0 N Q pc ls (.int x :: st) n (I, L, P) := by
  have e := kT_len (x0 := x0) (n := n) (by omega)
  refine pw_newI hd ac_I hx hn hb (by rw [e]; omega) (by rw [e, kT_len hN2]; exact hN) (kT_szN h1 hg hN) ?_
  rw [kT_push h1 hg, e]
  exact k
theorem kw_newB (n len : Nat) {x : Int32} (hd : decode μ.2.1 pc = .ok (.newarray .byte, 2)) (hx : ¬ x < 0) (hn : x.toNatClampNeg = len) (hb : len ≤ 100000) (hg : kFs[n - 1]? = some (.inr (1, len))) (h1 : 1 ≤ n) (hN : n + 1 ≤ N) (hN2 : N ≤ 186) (k : kWP μ d x0 N Q (pc + 2) ls (.ref n :: st) (n + 1) (zI I n, zL L n, zP P n)) : kWP μ d x0 N Q pc ls (.int x :: st) n (I, L, P) := by
  have e := kT_len (x0 := x0) (n := n) (by omega)
  refine pw_newB hd ac_B hx hn hb (by rw [e]; omega) (by rw [e, kT_len hN2]; exact hN) (kT_szN h1 hg hN) ?_
  rw [kT_push h1 hg, e]
  exact k
theorem kw_newZ (n len : Nat) {x : Int32} (hd : decode μ.2.1 pc = .ok (.newarray .boolean, 2)) (hx : ¬ x < 0) (hn : x.toNatClampNeg = len) (hb : len ≤ 100000) (hg : kFs[n - 1]? = some (.inr (2, len))) (h1 : 1 ≤ n) (hN : n + 1 ≤ N) (hN2 : N ≤ 186) (k : kWP μ d x0 N Q (pc + 2) ls (.ref n :: st) (n + 1) (zI I n, zL L n, zP P n)) : kWP μ d x0 N Q pc ls (.int x :: st) n (I, L, P) := by
  have e := kT_len (x0 := x0) (n := n) (by omega)
  refine pw_newZ hd ac_Z hx hn hb (by rw [e]; omega) (by rw [e, kT_len hN2]; exact hN) (kT_szN h1 hg hN) ?_
  rw [kT_push h1 hg, e]
  exact k
theorem kw_newL (n len : Nat) {x : Int32} (hd : decode μ.2.1 pc = .ok (.newarray .long, 2)) (hx : ¬ x < 0) (hn : x.toNatClampNeg = len) (hb : len ≤ 100000) (hg : kFs[n - 1]? = some (.inr (3, len))) (h1 : 1 ≤ n) (hN : n + 1 ≤ N) (hN2 : N ≤ 186) (k : kWP μ d x0 N Q (pc + 2) ls (.ref n :: st) (n + 1) (zI I n, zL L n, zP P n)) : kWP μ d x0 N Q pc ls (.int x :: st) n (I, L, P) := by
  have e := kT_len (x0 := x0) (n := n) (by omega)
  refine pw_newL hd ac_L hx hn hb (by rw [e]; omega) (by rw [e, kT_len hN2]; exact hN) (kT_szN h1 hg hN) ?_
  rw [kT_push h1 hg, e]
  exact k
theorem kw_new (n c : Nat) (hd : decode μ.2.1 pc = .ok (.new i, 3)) (hc : c < 12) (hl : Cond.classLink μ.1.cls i (pRn c) ∈ lw_g) (hi : Cond.instantiable (pRn c) (pNf c) ∈ lw_g) (hini : Cond.initialized (pRn c) ∈ lw_g) (hg : kFs[n - 1]? = some (.inl c)) (h1 : 1 ≤ n) (hN : n + 1 ≤ N) (hN2 : N ≤ 186) (k : kWP μ d x0 N Q (pc + 3) ls (.ref n :: st) (n + 1) (zI I n, zL L n, zP P n)) : kWP μ d x0 N Q pc ls st n (I, L, P) := by
  have e := kT_len (x0 := x0) (n := n) (by omega)
  refine pw_new hd hc hl hi hini (by rw [e]; omega) (by rw [e, kT_len hN2]; exact hN) (kT_szN h1 hg hN) ?_
  rw [kT_push h1 hg, e]
  exact k
theorem kw_callI {a n n' : Nat} (hd : decode μ.2.1 pc = .ok (.invokespecial idx, 3)) (hlk : Cond.methodLink μ.1.cls idx ν.1 ∈ lw_g) (hok : pOkI ν) (hr : ν.2.2.2 = none) (hn : (parseMethodDescriptor ν.1.desc).map (fun z => z.parameters.length) = some av.length) (hdd : d' + 1 ≤ d) (hst : (st.map fun v => v.category).sum ≤ 8) (hle : n ≤ n') (hN : n' ≤ N) (hN2 : N ≤ 186)
    (hC : kCt ν d' x0 n n' (.ref a :: av) M Q') (k : ∀ r M', Q' r M' → kWP μ d x0 N Q (pc + 3) ls (r.toList ++ st) n' M') : kWP μ d x0 N Q pc ls (av.reverse ++ .ref a :: st) n M :=
  pw_callI hd hlk hok hr hn hdd hst (by show (kT x0 n).length ≤ (kT x0 n').length; rw [kT_len (by omega), kT_len (by omega)]; exact hle) (kT_sz hle) (by rw [kT_len (by omega), kT_len hN2]; exact hN) (kT_sz hN) hC (fun r h' q _ _ => by
    obtain ⟨sh', M'⟩ := h'
    obtain ⟨e, q⟩ := q
    dsimp only at e q
    subst e
    exact k r M' q)
theorem kw_callN {a n n' : Nat} (hd : decode μ.2.1 pc = .ok (.invokespecial idx, 3)) (hlk : (μ.1.cls, idx, ν.1) ∈ pNws) (hok : pOkI ν) (hr : ν.2.2.2 = none) (hn : (parseMethodDescriptor ν.1.desc).map (fun z => z.parameters.length) = some av.length) (hdd : d' + 1 ≤ d) (hst : (st.map fun v => v.category).sum ≤ 8) (hle : n ≤ n') (hN : n' ≤ N) (hN2 : N ≤ 186)
    (hC : kCt ν d' x0 n n' (.ref a :: av) M Q') (k : ∀ r M', Q' r M' → kWP μ d x0 N Q (pc + 3) ls (r.toList ++ st) n' M') : kWP μ d x0 N Q pc ls (av.reverse ++ .ref a :: st) n M :=
  pw_callN hd hlk hok hr hn hdd hst (by show (kT x0 n).length ≤ (kT x0 n').length; rw [kT_len (by omega), kT_len (by omega)]; exact hle) (kT_sz hle) (by rw [kT_len (by omega), kT_len hN2]; exact hN) (kT_sz hN) hC (fun r h' q _ _ => by
    obtain ⟨sh', M'⟩ := h'
    obtain ⟨e, q⟩ := q
    dsimp only at e q
    subst e
    exact k r M' q)
theorem kw_vret (hr : μ.2.2.2 = none) (hd : decode μ.2.1 pc = .ok (.return_, 1)) (hq : Q none M) : kWP μ d x0 N Q pc ls [] N M := pw_vret hr rfl rfl hd ⟨rfl, hq⟩
end
