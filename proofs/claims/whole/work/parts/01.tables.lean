-- ===== PART A: goes FIRST, ahead of the names: the tables' words, and 'selects' of the private methods out of them =====
/-- a private method of a class that the tables say can be made, by its rows of tables_1 -/
def lw_okq (q : MethodName × Nat) : Prop := (q.1.cls ≠ "java/lang/invoke/MethodHandle" ∧ q.1.cls ≠ "java/lang/invoke/VarHandle") ∧ Cond.instantiable q.1.cls q.2 ∈ tables_1 ∧ Cond.privateMethod q.1 ∈ tables_1 ∧ Cond.instanceMethod q.1 ∈ tables_1
theorem lw_p0 : lw_okq (⟨"LeftShoes", "putBytes", "(I)V"⟩, 16) := ⟨⟨by decide +kernel, by decide +kernel⟩, List.mem_of_getElem? (i := 26) (by decide +kernel), List.mem_of_getElem? (i := 544) (by decide +kernel), List.mem_of_getElem? (i := 545) (by decide +kernel)⟩
theorem lw_p1 : lw_okq (⟨"LeftShoes$Reader", "readWord", "()V"⟩, 7) := ⟨⟨by decide +kernel, by decide +kernel⟩, List.mem_of_getElem? (i := 220) (by decide +kernel), List.mem_of_getElem? (i := 582) (by decide +kernel), List.mem_of_getElem? (i := 583) (by decide +kernel)⟩
theorem lw_p2 : lw_okq (⟨"LeftShoes$Reader", "readNumber", "()V"⟩, 7) := ⟨⟨by decide +kernel, by decide +kernel⟩, List.mem_of_getElem? (i := 220) (by decide +kernel), List.mem_of_getElem? (i := 586) (by decide +kernel), List.mem_of_getElem? (i := 587) (by decide +kernel)⟩
theorem lw_p3 : lw_okq (⟨"LeftShoes$Reader", "readSign", "(II)V"⟩, 7) := ⟨⟨by decide +kernel, by decide +kernel⟩, List.mem_of_getElem? (i := 220) (by decide +kernel), List.mem_of_getElem? (i := 591) (by decide +kernel), List.mem_of_getElem? (i := 592) (by decide +kernel)⟩
theorem lw_p4 : lw_okq (⟨"LeftShoes$Scribe", "readLine", "()Z"⟩, 6) := ⟨⟨by decide +kernel, by decide +kernel⟩, List.mem_of_getElem? (i := 214) (by decide +kernel), List.mem_of_getElem? (i := 595) (by decide +kernel), List.mem_of_getElem? (i := 596) (by decide +kernel)⟩
theorem lw_p5 : lw_okq (⟨"LeftShoes$Scribe", "readPerson", "()Z"⟩, 6) := ⟨⟨by decide +kernel, by decide +kernel⟩, List.mem_of_getElem? (i := 214) (by decide +kernel), List.mem_of_getElem? (i := 599) (by decide +kernel), List.mem_of_getElem? (i := 600) (by decide +kernel)⟩
theorem lw_p6 : lw_okq (⟨"LeftShoes$Scribe", "refuse", "(I)Z"⟩, 6) := ⟨⟨by decide +kernel, by decide +kernel⟩, List.mem_of_getElem? (i := 214) (by decide +kernel), List.mem_of_getElem? (i := 603) (by decide +kernel), List.mem_of_getElem? (i := 604) (by decide +kernel)⟩
theorem lw_p7 : lw_okq (⟨"LeftShoes$Scribe", "takeNumber", "(II)I"⟩, 6) := ⟨⟨by decide +kernel, by decide +kernel⟩, List.mem_of_getElem? (i := 214) (by decide +kernel), List.mem_of_getElem? (i := 612) (by decide +kernel), List.mem_of_getElem? (i := 613) (by decide +kernel)⟩
theorem lw_p8 : lw_okq (⟨"LeftShoes$Scribe", "readShoe", "()Z"⟩, 6) := ⟨⟨by decide +kernel, by decide +kernel⟩, List.mem_of_getElem? (i := 214) (by decide +kernel), List.mem_of_getElem? (i := 616) (by decide +kernel), List.mem_of_getElem? (i := 617) (by decide +kernel)⟩
theorem lw_p9 : lw_okq (⟨"LeftShoes$Scribe", "takeOneOf", "(II)I"⟩, 6) := ⟨⟨by decide +kernel, by decide +kernel⟩, List.mem_of_getElem? (i := 214) (by decide +kernel), List.mem_of_getElem? (i := 620) (by decide +kernel), List.mem_of_getElem? (i := 621) (by decide +kernel)⟩
theorem lw_p10 : lw_okq (⟨"LeftShoes$Scribe", "lookAt", "(II)I"⟩, 6) := ⟨⟨by decide +kernel, by decide +kernel⟩, List.mem_of_getElem? (i := 214) (by decide +kernel), List.mem_of_getElem? (i := 624) (by decide +kernel), List.mem_of_getElem? (i := 625) (by decide +kernel)⟩
theorem lw_p11 : lw_okq (⟨"LeftShoes$Scribe", "lookAtPerson", "()I"⟩, 6) := ⟨⟨by decide +kernel, by decide +kernel⟩, List.mem_of_getElem? (i := 214) (by decide +kernel), List.mem_of_getElem? (i := 628) (by decide +kernel), List.mem_of_getElem? (i := 629) (by decide +kernel)⟩
theorem lw_p12 : lw_okq (⟨"LeftShoes$Scribe", "readDebt", "()Z"⟩, 6) := ⟨⟨by decide +kernel, by decide +kernel⟩, List.mem_of_getElem? (i := 214) (by decide +kernel), List.mem_of_getElem? (i := 632) (by decide +kernel), List.mem_of_getElem? (i := 633) (by decide +kernel)⟩
theorem lw_p13 : lw_okq (⟨"LeftShoes$Scribe", "readClaim", "()Z"⟩, 6) := ⟨⟨by decide +kernel, by decide +kernel⟩, List.mem_of_getElem? (i := 214) (by decide +kernel), List.mem_of_getElem? (i := 636) (by decide +kernel), List.mem_of_getElem? (i := 637) (by decide +kernel)⟩
theorem lw_p14 : lw_okq (⟨"LeftShoes$Scribe", "readSwap", "()Z"⟩, 6) := ⟨⟨by decide +kernel, by decide +kernel⟩, List.mem_of_getElem? (i := 214) (by decide +kernel), List.mem_of_getElem? (i := 640) (by decide +kernel), List.mem_of_getElem? (i := 641) (by decide +kernel)⟩
theorem lw_p15 : lw_okq (⟨"LeftShoes$Scribe", "readSeed", "()Z"⟩, 6) := ⟨⟨by decide +kernel, by decide +kernel⟩, List.mem_of_getElem? (i := 214) (by decide +kernel), List.mem_of_getElem? (i := 644) (by decide +kernel), List.mem_of_getElem? (i := 645) (by decide +kernel)⟩
def lw_privs_1 : List (MethodName × Nat) := [(⟨"LeftShoes", "putBytes", "(I)V"⟩, 16), (⟨"LeftShoes$Reader", "readWord", "()V"⟩, 7), (⟨"LeftShoes$Reader", "readNumber", "()V"⟩, 7), (⟨"LeftShoes$Reader", "readSign", "(II)V"⟩, 7), (⟨"LeftShoes$Scribe", "readLine", "()Z"⟩, 6), (⟨"LeftShoes$Scribe", "readPerson", "()Z"⟩, 6), (⟨"LeftShoes$Scribe", "refuse", "(I)Z"⟩, 6), (⟨"LeftShoes$Scribe", "takeNumber", "(II)I"⟩, 6), (⟨"LeftShoes$Scribe", "readShoe", "()Z"⟩, 6), (⟨"LeftShoes$Scribe", "takeOneOf", "(II)I"⟩, 6), (⟨"LeftShoes$Scribe", "lookAt", "(II)I"⟩, 6), (⟨"LeftShoes$Scribe", "lookAtPerson", "()I"⟩, 6), (⟨"LeftShoes$Scribe", "readDebt", "()Z"⟩, 6), (⟨"LeftShoes$Scribe", "readClaim", "()Z"⟩, 6), (⟨"LeftShoes$Scribe", "readSwap", "()Z"⟩, 6), (⟨"LeftShoes$Scribe", "readSeed", "()Z"⟩, 6)]
theorem lw_r1 : ∀ q ∈ lw_privs_1, lw_okq q := List.forall_mem_cons.mpr ⟨lw_p0, List.forall_mem_cons.mpr ⟨lw_p1, List.forall_mem_cons.mpr ⟨lw_p2, List.forall_mem_cons.mpr ⟨lw_p3, List.forall_mem_cons.mpr ⟨lw_p4, List.forall_mem_cons.mpr ⟨lw_p5, List.forall_mem_cons.mpr ⟨lw_p6, List.forall_mem_cons.mpr ⟨lw_p7, List.forall_mem_cons.mpr ⟨lw_p8, List.forall_mem_cons.mpr ⟨lw_p9, List.forall_mem_cons.mpr ⟨lw_p10, List.forall_mem_cons.mpr ⟨lw_p11, List.forall_mem_cons.mpr ⟨lw_p12, List.forall_mem_cons.mpr ⟨lw_p13, List.forall_mem_cons.mpr ⟨lw_p14, List.forall_mem_cons.mpr ⟨lw_p15, fun _ h => absurd h List.not_mem_nil⟩⟩⟩⟩⟩⟩⟩⟩⟩⟩⟩⟩⟩⟩⟩⟩
theorem lw_p16 : lw_okq (⟨"LeftShoes$Scribe", "readLaw", "()Z"⟩, 6) := ⟨⟨by decide +kernel, by decide +kernel⟩, List.mem_of_getElem? (i := 214) (by decide +kernel), List.mem_of_getElem? (i := 649) (by decide +kernel), List.mem_of_getElem? (i := 650) (by decide +kernel)⟩
theorem lw_p17 : lw_okq (⟨"LeftShoes$Scribe", "readLevel", "(II)Z"⟩, 6) := ⟨⟨by decide +kernel, by decide +kernel⟩, List.mem_of_getElem? (i := 214) (by decide +kernel), List.mem_of_getElem? (i := 661) (by decide +kernel), List.mem_of_getElem? (i := 662) (by decide +kernel)⟩
theorem lw_p18 : lw_okq (⟨"LeftShoes$Scribe", "readOperand", "(I)Z"⟩, 6) := ⟨⟨by decide +kernel, by decide +kernel⟩, List.mem_of_getElem? (i := 214) (by decide +kernel), List.mem_of_getElem? (i := 665) (by decide +kernel), List.mem_of_getElem? (i := 666) (by decide +kernel)⟩
theorem lw_p19 : lw_okq (⟨"LeftShoes$Scribe", "take", "(I)Z"⟩, 6) := ⟨⟨by decide +kernel, by decide +kernel⟩, List.mem_of_getElem? (i := 214) (by decide +kernel), List.mem_of_getElem? (i := 669) (by decide +kernel), List.mem_of_getElem? (i := 670) (by decide +kernel)⟩
theorem lw_p20 : lw_okq (⟨"LeftShoes$Scribe", "takeKnot", "()Z"⟩, 6) := ⟨⟨by decide +kernel, by decide +kernel⟩, List.mem_of_getElem? (i := 214) (by decide +kernel), List.mem_of_getElem? (i := 677) (by decide +kernel), List.mem_of_getElem? (i := 678) (by decide +kernel)⟩
theorem lw_p21 : lw_okq (⟨"LeftShoes$Scribe", "readNots", "(I)Z"⟩, 6) := ⟨⟨by decide +kernel, by decide +kernel⟩, List.mem_of_getElem? (i := 214) (by decide +kernel), List.mem_of_getElem? (i := 681) (by decide +kernel), List.mem_of_getElem? (i := 682) (by decide +kernel)⟩
theorem lw_p22 : lw_okq (⟨"LeftShoes$Laws", "nameAt", "(I)J"⟩, 9) := ⟨⟨by decide +kernel, by decide +kernel⟩, List.mem_of_getElem? (i := 66) (by decide +kernel), List.mem_of_getElem? (i := 761) (by decide +kernel), List.mem_of_getElem? (i := 762) (by decide +kernel)⟩
theorem lw_p23 : lw_okq (⟨"LeftShoes$World", "useMore", "(II)V"⟩, 10) := ⟨⟨by decide +kernel, by decide +kernel⟩, List.mem_of_getElem? (i := 322) (by decide +kernel), List.mem_of_getElem? (i := 890) (by decide +kernel), List.mem_of_getElem? (i := 891) (by decide +kernel)⟩
theorem lw_p24 : lw_okq (⟨"LeftShoes", "sizesUpTo", "(I)I"⟩, 16) := ⟨⟨by decide +kernel, by decide +kernel⟩, List.mem_of_getElem? (i := 26) (by decide +kernel), List.mem_of_getElem? (i := 912) (by decide +kernel), List.mem_of_getElem? (i := 913) (by decide +kernel)⟩
theorem lw_p25 : lw_okq (⟨"LeftShoes", "makesAll", "(III)Z"⟩, 16) := ⟨⟨by decide +kernel, by decide +kernel⟩, List.mem_of_getElem? (i := 26) (by decide +kernel), List.mem_of_getElem? (i := 920) (by decide +kernel), List.mem_of_getElem? (i := 921) (by decide +kernel)⟩
theorem lw_p26 : lw_okq (⟨"LeftShoes$Couples", "gather", "(LLeftShoes$World;)V"⟩, 9) := ⟨⟨by decide +kernel, by decide +kernel⟩, List.mem_of_getElem? (i := 419) (by decide +kernel), List.mem_of_getElem? (i := 933) (by decide +kernel), List.mem_of_getElem? (i := 934) (by decide +kernel)⟩
theorem lw_p27 : lw_okq (⟨"LeftShoes$Couples", "weight", "(LLeftShoes$World;II)J"⟩, 9) := ⟨⟨by decide +kernel, by decide +kernel⟩, List.mem_of_getElem? (i := 419) (by decide +kernel), List.mem_of_getElem? (i := 939) (by decide +kernel), List.mem_of_getElem? (i := 940) (by decide +kernel)⟩
theorem lw_p28 : lw_okq (⟨"LeftShoes$Couples", "bestWith", "(II)J"⟩, 9) := ⟨⟨by decide +kernel, by decide +kernel⟩, List.mem_of_getElem? (i := 419) (by decide +kernel), List.mem_of_getElem? (i := 944) (by decide +kernel), List.mem_of_getElem? (i := 945) (by decide +kernel)⟩
theorem lw_p29 : lw_okq (⟨"LeftShoes$Couples", "tell", "(J)V"⟩, 9) := ⟨⟨by decide +kernel, by decide +kernel⟩, List.mem_of_getElem? (i := 419) (by decide +kernel), List.mem_of_getElem? (i := 949) (by decide +kernel), List.mem_of_getElem? (i := 950) (by decide +kernel)⟩
theorem lw_p30 : lw_okq (⟨"LeftShoes$Stroll", "usedNow", "(I)I"⟩, 9) := ⟨⟨by decide +kernel, by decide +kernel⟩, List.mem_of_getElem? (i := 455) (by decide +kernel), List.mem_of_getElem? (i := 966) (by decide +kernel), List.mem_of_getElem? (i := 967) (by decide +kernel)⟩
theorem lw_p31 : lw_okq (⟨"LeftShoes$Stroll", "worthThen", "(II)I"⟩, 9) := ⟨⟨by decide +kernel, by decide +kernel⟩, List.mem_of_getElem? (i := 455) (by decide +kernel), List.mem_of_getElem? (i := 971) (by decide +kernel), List.mem_of_getElem? (i := 972) (by decide +kernel)⟩
def lw_privs_2 : List (MethodName × Nat) := [(⟨"LeftShoes$Scribe", "readLaw", "()Z"⟩, 6), (⟨"LeftShoes$Scribe", "readLevel", "(II)Z"⟩, 6), (⟨"LeftShoes$Scribe", "readOperand", "(I)Z"⟩, 6), (⟨"LeftShoes$Scribe", "take", "(I)Z"⟩, 6), (⟨"LeftShoes$Scribe", "takeKnot", "()Z"⟩, 6), (⟨"LeftShoes$Scribe", "readNots", "(I)Z"⟩, 6), (⟨"LeftShoes$Laws", "nameAt", "(I)J"⟩, 9), (⟨"LeftShoes$World", "useMore", "(II)V"⟩, 10), (⟨"LeftShoes", "sizesUpTo", "(I)I"⟩, 16), (⟨"LeftShoes", "makesAll", "(III)Z"⟩, 16), (⟨"LeftShoes$Couples", "gather", "(LLeftShoes$World;)V"⟩, 9), (⟨"LeftShoes$Couples", "weight", "(LLeftShoes$World;II)J"⟩, 9), (⟨"LeftShoes$Couples", "bestWith", "(II)J"⟩, 9), (⟨"LeftShoes$Couples", "tell", "(J)V"⟩, 9), (⟨"LeftShoes$Stroll", "usedNow", "(I)I"⟩, 9), (⟨"LeftShoes$Stroll", "worthThen", "(II)I"⟩, 9)]
theorem lw_r2 : ∀ q ∈ lw_privs_2, lw_okq q := List.forall_mem_cons.mpr ⟨lw_p16, List.forall_mem_cons.mpr ⟨lw_p17, List.forall_mem_cons.mpr ⟨lw_p18, List.forall_mem_cons.mpr ⟨lw_p19, List.forall_mem_cons.mpr ⟨lw_p20, List.forall_mem_cons.mpr ⟨lw_p21, List.forall_mem_cons.mpr ⟨lw_p22, List.forall_mem_cons.mpr ⟨lw_p23, List.forall_mem_cons.mpr ⟨lw_p24, List.forall_mem_cons.mpr ⟨lw_p25, List.forall_mem_cons.mpr ⟨lw_p26, List.forall_mem_cons.mpr ⟨lw_p27, List.forall_mem_cons.mpr ⟨lw_p28, List.forall_mem_cons.mpr ⟨lw_p29, List.forall_mem_cons.mpr ⟨lw_p30, List.forall_mem_cons.mpr ⟨lw_p31, fun _ h => absurd h List.not_mem_nil⟩⟩⟩⟩⟩⟩⟩⟩⟩⟩⟩⟩⟩⟩⟩⟩
theorem lw_p32 : lw_okq (⟨"LeftShoes$Stroll", "goOn", "(IIIII)V"⟩, 9) := ⟨⟨by decide +kernel, by decide +kernel⟩, List.mem_of_getElem? (i := 455) (by decide +kernel), List.mem_of_getElem? (i := 976) (by decide +kernel), List.mem_of_getElem? (i := 977) (by decide +kernel)⟩
theorem lw_p33 : lw_okq (⟨"LeftShoes$Stroll", "usedAfter", "(III)I"⟩, 9) := ⟨⟨by decide +kernel, by decide +kernel⟩, List.mem_of_getElem? (i := 455) (by decide +kernel), List.mem_of_getElem? (i := 980) (by decide +kernel), List.mem_of_getElem? (i := 981) (by decide +kernel)⟩
theorem lw_p34 : lw_okq (⟨"LeftShoes", "areHalves", "(II)Z"⟩, 16) := ⟨⟨by decide +kernel, by decide +kernel⟩, List.mem_of_getElem? (i := 26) (by decide +kernel), List.mem_of_getElem? (i := 989) (by decide +kernel), List.mem_of_getElem? (i := 990) (by decide +kernel)⟩
theorem lw_p35 : lw_okq (⟨"LeftShoes", "allHaveClaims", "(I)Z"⟩, 16) := ⟨⟨by decide +kernel, by decide +kernel⟩, List.mem_of_getElem? (i := 26) (by decide +kernel), List.mem_of_getElem? (i := 1009) (by decide +kernel), List.mem_of_getElem? (i := 1010) (by decide +kernel)⟩
theorem lw_p36 : lw_okq (⟨"LeftShoes", "bankShoes", "()I"⟩, 16) := ⟨⟨by decide +kernel, by decide +kernel⟩, List.mem_of_getElem? (i := 26) (by decide +kernel), List.mem_of_getElem? (i := 1013) (by decide +kernel), List.mem_of_getElem? (i := 1014) (by decide +kernel)⟩
theorem lw_p37 : lw_okq (⟨"LeftShoes", "claimed", "(I)I"⟩, 16) := ⟨⟨by decide +kernel, by decide +kernel⟩, List.mem_of_getElem? (i := 26) (by decide +kernel), List.mem_of_getElem? (i := 1017) (by decide +kernel), List.mem_of_getElem? (i := 1018) (by decide +kernel)⟩
theorem lw_p38 : lw_okq (⟨"LeftShoes", "frightened", "(I)I"⟩, 16) := ⟨⟨by decide +kernel, by decide +kernel⟩, List.mem_of_getElem? (i := 26) (by decide +kernel), List.mem_of_getElem? (i := 1021) (by decide +kernel), List.mem_of_getElem? (i := 1022) (by decide +kernel)⟩
theorem lw_p39 : lw_okq (⟨"LeftShoes$Swaps", "gains", "(IIIJJ)Z"⟩, 4) := ⟨⟨by decide +kernel, by decide +kernel⟩, List.mem_of_getElem? (i := 40) (by decide +kernel), List.mem_of_getElem? (i := 1081) (by decide +kernel), List.mem_of_getElem? (i := 1082) (by decide +kernel)⟩
theorem lw_p40 : lw_okq (⟨"LeftShoes", "canTry", "(II)Z"⟩, 16) := ⟨⟨by decide +kernel, by decide +kernel⟩, List.mem_of_getElem? (i := 26) (by decide +kernel), List.mem_of_getElem? (i := 1114) (by decide +kernel), List.mem_of_getElem? (i := 1115) (by decide +kernel)⟩
theorem lw_p41 : lw_okq (⟨"java/lang/Throwable", "fillInStackTrace", "(I)Ljava/lang/Throwable;"⟩, 6) := ⟨⟨by decide +kernel, by decide +kernel⟩, List.mem_of_getElem? (i := 1202) (by decide +kernel), List.mem_of_getElem? (i := 1200) (by decide +kernel), List.mem_of_getElem? (i := 1201) (by decide +kernel)⟩
theorem lw_p42 : lw_okq (⟨"LeftShoesModel", "plain", "()V"⟩, 93) := ⟨⟨by decide +kernel, by decide +kernel⟩, List.mem_of_getElem? (i := 1248) (by decide +kernel), List.mem_of_getElem? (i := 1254) (by decide +kernel), List.mem_of_getElem? (i := 1255) (by decide +kernel)⟩
theorem lw_p43 : lw_okq (⟨"LeftShoesModel", "keepText", "()V"⟩, 93) := ⟨⟨by decide +kernel, by decide +kernel⟩, List.mem_of_getElem? (i := 1248) (by decide +kernel), List.mem_of_getElem? (i := 1258) (by decide +kernel), List.mem_of_getElem? (i := 1259) (by decide +kernel)⟩
theorem lw_p44 : lw_okq (⟨"LeftShoesModel", "begin", "()V"⟩, 93) := ⟨⟨by decide +kernel, by decide +kernel⟩, List.mem_of_getElem? (i := 1248) (by decide +kernel), List.mem_of_getElem? (i := 1265) (by decide +kernel), List.mem_of_getElem? (i := 1266) (by decide +kernel)⟩
theorem lw_p45 : lw_okq (⟨"LeftShoesModel", "token", "()V"⟩, 93) := ⟨⟨by decide +kernel, by decide +kernel⟩, List.mem_of_getElem? (i := 1248) (by decide +kernel), List.mem_of_getElem? (i := 1561) (by decide +kernel), List.mem_of_getElem? (i := 1562) (by decide +kernel)⟩
theorem lw_p46 : lw_okq (⟨"LeftShoesModel", "isSmall", "(I)Z"⟩, 93) := ⟨⟨by decide +kernel, by decide +kernel⟩, List.mem_of_getElem? (i := 1248) (by decide +kernel), List.mem_of_getElem? (i := 1565) (by decide +kernel), List.mem_of_getElem? (i := 1566) (by decide +kernel)⟩
theorem lw_p47 : lw_okq (⟨"LeftShoesModel", "wordAt", "(II)I"⟩, 93) := ⟨⟨by decide +kernel, by decide +kernel⟩, List.mem_of_getElem? (i := 1248) (by decide +kernel), List.mem_of_getElem? (i := 1569) (by decide +kernel), List.mem_of_getElem? (i := 1570) (by decide +kernel)⟩
def lw_privs_3 : List (MethodName × Nat) := [(⟨"LeftShoes$Stroll", "goOn", "(IIIII)V"⟩, 9), (⟨"LeftShoes$Stroll", "usedAfter", "(III)I"⟩, 9), (⟨"LeftShoes", "areHalves", "(II)Z"⟩, 16), (⟨"LeftShoes", "allHaveClaims", "(I)Z"⟩, 16), (⟨"LeftShoes", "bankShoes", "()I"⟩, 16), (⟨"LeftShoes", "claimed", "(I)I"⟩, 16), (⟨"LeftShoes", "frightened", "(I)I"⟩, 16), (⟨"LeftShoes$Swaps", "gains", "(IIIJJ)Z"⟩, 4), (⟨"LeftShoes", "canTry", "(II)Z"⟩, 16), (⟨"java/lang/Throwable", "fillInStackTrace", "(I)Ljava/lang/Throwable;"⟩, 6), (⟨"LeftShoesModel", "plain", "()V"⟩, 93), (⟨"LeftShoesModel", "keepText", "()V"⟩, 93), (⟨"LeftShoesModel", "begin", "()V"⟩, 93), (⟨"LeftShoesModel", "token", "()V"⟩, 93), (⟨"LeftShoesModel", "isSmall", "(I)Z"⟩, 93), (⟨"LeftShoesModel", "wordAt", "(II)I"⟩, 93)]
theorem lw_r3 : ∀ q ∈ lw_privs_3, lw_okq q := List.forall_mem_cons.mpr ⟨lw_p32, List.forall_mem_cons.mpr ⟨lw_p33, List.forall_mem_cons.mpr ⟨lw_p34, List.forall_mem_cons.mpr ⟨lw_p35, List.forall_mem_cons.mpr ⟨lw_p36, List.forall_mem_cons.mpr ⟨lw_p37, List.forall_mem_cons.mpr ⟨lw_p38, List.forall_mem_cons.mpr ⟨lw_p39, List.forall_mem_cons.mpr ⟨lw_p40, List.forall_mem_cons.mpr ⟨lw_p41, List.forall_mem_cons.mpr ⟨lw_p42, List.forall_mem_cons.mpr ⟨lw_p43, List.forall_mem_cons.mpr ⟨lw_p44, List.forall_mem_cons.mpr ⟨lw_p45, List.forall_mem_cons.mpr ⟨lw_p46, List.forall_mem_cons.mpr ⟨lw_p47, fun _ h => absurd h List.not_mem_nil⟩⟩⟩⟩⟩⟩⟩⟩⟩⟩⟩⟩⟩⟩⟩⟩
theorem lw_p48 : lw_okq (⟨"LeftShoesModel", "packed", "(II)I"⟩, 93) := ⟨⟨by decide +kernel, by decide +kernel⟩, List.mem_of_getElem? (i := 1248) (by decide +kernel), List.mem_of_getElem? (i := 1573) (by decide +kernel), List.mem_of_getElem? (i := 1574) (by decide +kernel)⟩
theorem lw_p49 : lw_okq (⟨"LeftShoesModel", "isDigit", "(I)Z"⟩, 93) := ⟨⟨by decide +kernel, by decide +kernel⟩, List.mem_of_getElem? (i := 1248) (by decide +kernel), List.mem_of_getElem? (i := 1577) (by decide +kernel), List.mem_of_getElem? (i := 1578) (by decide +kernel)⟩
theorem lw_p50 : lw_okq (⟨"LeftShoesModel", "signToken", "()V"⟩, 93) := ⟨⟨by decide +kernel, by decide +kernel⟩, List.mem_of_getElem? (i := 1248) (by decide +kernel), List.mem_of_getElem? (i := 1582) (by decide +kernel), List.mem_of_getElem? (i := 1583) (by decide +kernel)⟩
theorem lw_p51 : lw_okq (⟨"LeftShoesModel", "lineRead", "()Z"⟩, 93) := ⟨⟨by decide +kernel, by decide +kernel⟩, List.mem_of_getElem? (i := 1248) (by decide +kernel), List.mem_of_getElem? (i := 1586) (by decide +kernel), List.mem_of_getElem? (i := 1587) (by decide +kernel)⟩
theorem lw_p52 : lw_okq (⟨"LeftShoesModel", "wrong", "(I)Z"⟩, 93) := ⟨⟨by decide +kernel, by decide +kernel⟩, List.mem_of_getElem? (i := 1248) (by decide +kernel), List.mem_of_getElem? (i := 1590) (by decide +kernel), List.mem_of_getElem? (i := 1591) (by decide +kernel)⟩
theorem lw_p53 : lw_okq (⟨"LeftShoesModel", "personLine", "()Z"⟩, 93) := ⟨⟨by decide +kernel, by decide +kernel⟩, List.mem_of_getElem? (i := 1248) (by decide +kernel), List.mem_of_getElem? (i := 1594) (by decide +kernel), List.mem_of_getElem? (i := 1595) (by decide +kernel)⟩
theorem lw_p54 : lw_okq (⟨"LeftShoesModel", "number", "(II)Z"⟩, 93) := ⟨⟨by decide +kernel, by decide +kernel⟩, List.mem_of_getElem? (i := 1248) (by decide +kernel), List.mem_of_getElem? (i := 1601) (by decide +kernel), List.mem_of_getElem? (i := 1602) (by decide +kernel)⟩
theorem lw_p55 : lw_okq (⟨"LeftShoesModel", "shoeLine", "()Z"⟩, 93) := ⟨⟨by decide +kernel, by decide +kernel⟩, List.mem_of_getElem? (i := 1248) (by decide +kernel), List.mem_of_getElem? (i := 1608) (by decide +kernel), List.mem_of_getElem? (i := 1609) (by decide +kernel)⟩
theorem lw_p56 : lw_okq (⟨"LeftShoesModel", "pick", "(II)Z"⟩, 93) := ⟨⟨by decide +kernel, by decide +kernel⟩, List.mem_of_getElem? (i := 1248) (by decide +kernel), List.mem_of_getElem? (i := 1612) (by decide +kernel), List.mem_of_getElem? (i := 1613) (by decide +kernel)⟩
theorem lw_p57 : lw_okq (⟨"LeftShoesModel", "isKey", "(I)Z"⟩, 93) := ⟨⟨by decide +kernel, by decide +kernel⟩, List.mem_of_getElem? (i := 1248) (by decide +kernel), List.mem_of_getElem? (i := 1616) (by decide +kernel), List.mem_of_getElem? (i := 1617) (by decide +kernel)⟩
theorem lw_p58 : lw_okq (⟨"LeftShoesModel", "personRead", "()Z"⟩, 93) := ⟨⟨by decide +kernel, by decide +kernel⟩, List.mem_of_getElem? (i := 1248) (by decide +kernel), List.mem_of_getElem? (i := 1620) (by decide +kernel), List.mem_of_getElem? (i := 1621) (by decide +kernel)⟩
theorem lw_p59 : lw_okq (⟨"LeftShoesModel", "debtLine", "()Z"⟩, 93) := ⟨⟨by decide +kernel, by decide +kernel⟩, List.mem_of_getElem? (i := 1248) (by decide +kernel), List.mem_of_getElem? (i := 1624) (by decide +kernel), List.mem_of_getElem? (i := 1625) (by decide +kernel)⟩
theorem lw_p60 : lw_okq (⟨"LeftShoesModel", "claimLine", "()Z"⟩, 93) := ⟨⟨by decide +kernel, by decide +kernel⟩, List.mem_of_getElem? (i := 1248) (by decide +kernel), List.mem_of_getElem? (i := 1628) (by decide +kernel), List.mem_of_getElem? (i := 1629) (by decide +kernel)⟩
theorem lw_p61 : lw_okq (⟨"LeftShoesModel", "swapLine", "()Z"⟩, 93) := ⟨⟨by decide +kernel, by decide +kernel⟩, List.mem_of_getElem? (i := 1248) (by decide +kernel), List.mem_of_getElem? (i := 1632) (by decide +kernel), List.mem_of_getElem? (i := 1633) (by decide +kernel)⟩
theorem lw_p62 : lw_okq (⟨"LeftShoesModel", "sumRead", "()Z"⟩, 93) := ⟨⟨by decide +kernel, by decide +kernel⟩, List.mem_of_getElem? (i := 1248) (by decide +kernel), List.mem_of_getElem? (i := 1636) (by decide +kernel), List.mem_of_getElem? (i := 1637) (by decide +kernel)⟩
theorem lw_p63 : lw_okq (⟨"LeftShoesModel", "isSign", "(I)Z"⟩, 93) := ⟨⟨by decide +kernel, by decide +kernel⟩, List.mem_of_getElem? (i := 1248) (by decide +kernel), List.mem_of_getElem? (i := 1640) (by decide +kernel), List.mem_of_getElem? (i := 1641) (by decide +kernel)⟩
def lw_privs_4 : List (MethodName × Nat) := [(⟨"LeftShoesModel", "packed", "(II)I"⟩, 93), (⟨"LeftShoesModel", "isDigit", "(I)Z"⟩, 93), (⟨"LeftShoesModel", "signToken", "()V"⟩, 93), (⟨"LeftShoesModel", "lineRead", "()Z"⟩, 93), (⟨"LeftShoesModel", "wrong", "(I)Z"⟩, 93), (⟨"LeftShoesModel", "personLine", "()Z"⟩, 93), (⟨"LeftShoesModel", "number", "(II)Z"⟩, 93), (⟨"LeftShoesModel", "shoeLine", "()Z"⟩, 93), (⟨"LeftShoesModel", "pick", "(II)Z"⟩, 93), (⟨"LeftShoesModel", "isKey", "(I)Z"⟩, 93), (⟨"LeftShoesModel", "personRead", "()Z"⟩, 93), (⟨"LeftShoesModel", "debtLine", "()Z"⟩, 93), (⟨"LeftShoesModel", "claimLine", "()Z"⟩, 93), (⟨"LeftShoesModel", "swapLine", "()Z"⟩, 93), (⟨"LeftShoesModel", "sumRead", "()Z"⟩, 93), (⟨"LeftShoesModel", "isSign", "(I)Z"⟩, 93)]
theorem lw_r4 : ∀ q ∈ lw_privs_4, lw_okq q := List.forall_mem_cons.mpr ⟨lw_p48, List.forall_mem_cons.mpr ⟨lw_p49, List.forall_mem_cons.mpr ⟨lw_p50, List.forall_mem_cons.mpr ⟨lw_p51, List.forall_mem_cons.mpr ⟨lw_p52, List.forall_mem_cons.mpr ⟨lw_p53, List.forall_mem_cons.mpr ⟨lw_p54, List.forall_mem_cons.mpr ⟨lw_p55, List.forall_mem_cons.mpr ⟨lw_p56, List.forall_mem_cons.mpr ⟨lw_p57, List.forall_mem_cons.mpr ⟨lw_p58, List.forall_mem_cons.mpr ⟨lw_p59, List.forall_mem_cons.mpr ⟨lw_p60, List.forall_mem_cons.mpr ⟨lw_p61, List.forall_mem_cons.mpr ⟨lw_p62, List.forall_mem_cons.mpr ⟨lw_p63, fun _ h => absurd h List.not_mem_nil⟩⟩⟩⟩⟩⟩⟩⟩⟩⟩⟩⟩⟩⟩⟩⟩
theorem lw_p64 : lw_okq (⟨"LeftShoesModel", "leafRead", "()Z"⟩, 93) := ⟨⟨by decide +kernel, by decide +kernel⟩, List.mem_of_getElem? (i := 1248) (by decide +kernel), List.mem_of_getElem? (i := 1644) (by decide +kernel), List.mem_of_getElem? (i := 1645) (by decide +kernel)⟩
theorem lw_p65 : lw_okq (⟨"LeftShoesModel", "waitsFor", "(I)V"⟩, 93) := ⟨⟨by decide +kernel, by decide +kernel⟩, List.mem_of_getElem? (i := 1248) (by decide +kernel), List.mem_of_getElem? (i := 1648) (by decide +kernel), List.mem_of_getElem? (i := 1649) (by decide +kernel)⟩
theorem lw_p66 : lw_okq (⟨"LeftShoesModel", "isCounted", "()Z"⟩, 93) := ⟨⟨by decide +kernel, by decide +kernel⟩, List.mem_of_getElem? (i := 1248) (by decide +kernel), List.mem_of_getElem? (i := 1652) (by decide +kernel), List.mem_of_getElem? (i := 1653) (by decide +kernel)⟩
theorem lw_p67 : lw_okq (⟨"LeftShoesModel", "nameMet", "()I"⟩, 93) := ⟨⟨by decide +kernel, by decide +kernel⟩, List.mem_of_getElem? (i := 1248) (by decide +kernel), List.mem_of_getElem? (i := 1656) (by decide +kernel), List.mem_of_getElem? (i := 1657) (by decide +kernel)⟩
theorem lw_p68 : lw_okq (⟨"LeftShoesModel", "grown", "(III)V"⟩, 93) := ⟨⟨by decide +kernel, by decide +kernel⟩, List.mem_of_getElem? (i := 1248) (by decide +kernel), List.mem_of_getElem? (i := 1660) (by decide +kernel), List.mem_of_getElem? (i := 1661) (by decide +kernel)⟩
theorem lw_p69 : lw_okq (⟨"LeftShoesModel", "signs", "()Z"⟩, 93) := ⟨⟨by decide +kernel, by decide +kernel⟩, List.mem_of_getElem? (i := 1248) (by decide +kernel), List.mem_of_getElem? (i := 1664) (by decide +kernel), List.mem_of_getElem? (i := 1665) (by decide +kernel)⟩
theorem lw_p70 : lw_okq (⟨"LeftShoesModel", "bind", "(I)V"⟩, 93) := ⟨⟨by decide +kernel, by decide +kernel⟩, List.mem_of_getElem? (i := 1248) (by decide +kernel), List.mem_of_getElem? (i := 1668) (by decide +kernel), List.mem_of_getElem? (i := 1669) (by decide +kernel)⟩
theorem lw_p71 : lw_okq (⟨"LeftShoesModel", "dropHeld", "()I"⟩, 93) := ⟨⟨by decide +kernel, by decide +kernel⟩, List.mem_of_getElem? (i := 1248) (by decide +kernel), List.mem_of_getElem? (i := 1675) (by decide +kernel), List.mem_of_getElem? (i := 1676) (by decide +kernel)⟩
theorem lw_p72 : lw_okq (⟨"LeftShoesModel", "isShoe", "(I)Z"⟩, 93) := ⟨⟨by decide +kernel, by decide +kernel⟩, List.mem_of_getElem? (i := 1248) (by decide +kernel), List.mem_of_getElem? (i := 1691) (by decide +kernel), List.mem_of_getElem? (i := 1692) (by decide +kernel)⟩
theorem lw_p73 : lw_okq (⟨"LeftShoesModel", "fails", "(I)I"⟩, 93) := ⟨⟨by decide +kernel, by decide +kernel⟩, List.mem_of_getElem? (i := 1248) (by decide +kernel), List.mem_of_getElem? (i := 1695) (by decide +kernel), List.mem_of_getElem? (i := 1696) (by decide +kernel)⟩
theorem lw_p74 : lw_okq (⟨"LeftShoesModel", "worthOf", "(II)I"⟩, 93) := ⟨⟨by decide +kernel, by decide +kernel⟩, List.mem_of_getElem? (i := 1248) (by decide +kernel), List.mem_of_getElem? (i := 1699) (by decide +kernel), List.mem_of_getElem? (i := 1700) (by decide +kernel)⟩
theorem lw_p75 : lw_okq (⟨"LeftShoesModel", "worthBy", "(IIII)I"⟩, 93) := ⟨⟨by decide +kernel, by decide +kernel⟩, List.mem_of_getElem? (i := 1248) (by decide +kernel), List.mem_of_getElem? (i := 1703) (by decide +kernel), List.mem_of_getElem? (i := 1704) (by decide +kernel)⟩
theorem lw_p76 : lw_okq (⟨"LeftShoesModel", "sideNow", "(I)I"⟩, 93) := ⟨⟨by decide +kernel, by decide +kernel⟩, List.mem_of_getElem? (i := 1248) (by decide +kernel), List.mem_of_getElem? (i := 1707) (by decide +kernel), List.mem_of_getElem? (i := 1708) (by decide +kernel)⟩
theorem lw_p77 : lw_okq (⟨"LeftShoesModel", "layNames", "(IIII)V"⟩, 93) := ⟨⟨by decide +kernel, by decide +kernel⟩, List.mem_of_getElem? (i := 1248) (by decide +kernel), List.mem_of_getElem? (i := 1711) (by decide +kernel), List.mem_of_getElem? (i := 1712) (by decide +kernel)⟩
theorem lw_p78 : lw_okq (⟨"LeftShoesModel", "boundLaw", "(III)I"⟩, 93) := ⟨⟨by decide +kernel, by decide +kernel⟩, List.mem_of_getElem? (i := 1248) (by decide +kernel), List.mem_of_getElem? (i := 1715) (by decide +kernel), List.mem_of_getElem? (i := 1716) (by decide +kernel)⟩
theorem lw_p79 : lw_okq (⟨"LeftShoesModel", "lawOf", "(I)J"⟩, 93) := ⟨⟨by decide +kernel, by decide +kernel⟩, List.mem_of_getElem? (i := 1248) (by decide +kernel), List.mem_of_getElem? (i := 1719) (by decide +kernel), List.mem_of_getElem? (i := 1720) (by decide +kernel)⟩
def lw_privs_5 : List (MethodName × Nat) := [(⟨"LeftShoesModel", "leafRead", "()Z"⟩, 93), (⟨"LeftShoesModel", "waitsFor", "(I)V"⟩, 93), (⟨"LeftShoesModel", "isCounted", "()Z"⟩, 93), (⟨"LeftShoesModel", "nameMet", "()I"⟩, 93), (⟨"LeftShoesModel", "grown", "(III)V"⟩, 93), (⟨"LeftShoesModel", "signs", "()Z"⟩, 93), (⟨"LeftShoesModel", "bind", "(I)V"⟩, 93), (⟨"LeftShoesModel", "dropHeld", "()I"⟩, 93), (⟨"LeftShoesModel", "isShoe", "(I)Z"⟩, 93), (⟨"LeftShoesModel", "fails", "(I)I"⟩, 93), (⟨"LeftShoesModel", "worthOf", "(II)I"⟩, 93), (⟨"LeftShoesModel", "worthBy", "(IIII)I"⟩, 93), (⟨"LeftShoesModel", "sideNow", "(I)I"⟩, 93), (⟨"LeftShoesModel", "layNames", "(IIII)V"⟩, 93), (⟨"LeftShoesModel", "boundLaw", "(III)I"⟩, 93), (⟨"LeftShoesModel", "lawOf", "(I)J"⟩, 93)]
theorem lw_r5 : ∀ q ∈ lw_privs_5, lw_okq q := List.forall_mem_cons.mpr ⟨lw_p64, List.forall_mem_cons.mpr ⟨lw_p65, List.forall_mem_cons.mpr ⟨lw_p66, List.forall_mem_cons.mpr ⟨lw_p67, List.forall_mem_cons.mpr ⟨lw_p68, List.forall_mem_cons.mpr ⟨lw_p69, List.forall_mem_cons.mpr ⟨lw_p70, List.forall_mem_cons.mpr ⟨lw_p71, List.forall_mem_cons.mpr ⟨lw_p72, List.forall_mem_cons.mpr ⟨lw_p73, List.forall_mem_cons.mpr ⟨lw_p74, List.forall_mem_cons.mpr ⟨lw_p75, List.forall_mem_cons.mpr ⟨lw_p76, List.forall_mem_cons.mpr ⟨lw_p77, List.forall_mem_cons.mpr ⟨lw_p78, List.forall_mem_cons.mpr ⟨lw_p79, fun _ h => absurd h List.not_mem_nil⟩⟩⟩⟩⟩⟩⟩⟩⟩⟩⟩⟩⟩⟩⟩⟩
theorem lw_p80 : lw_okq (⟨"LeftShoesModel", "valueOf", "(I)J"⟩, 93) := ⟨⟨by decide +kernel, by decide +kernel⟩, List.mem_of_getElem? (i := 1248) (by decide +kernel), List.mem_of_getElem? (i := 1723) (by decide +kernel), List.mem_of_getElem? (i := 1724) (by decide +kernel)⟩
theorem lw_p81 : lw_okq (⟨"LeftShoesModel", "bounded", "(J)J"⟩, 93) := ⟨⟨by decide +kernel, by decide +kernel⟩, List.mem_of_getElem? (i := 1248) (by decide +kernel), List.mem_of_getElem? (i := 1727) (by decide +kernel), List.mem_of_getElem? (i := 1728) (by decide +kernel)⟩
theorem lw_p82 : lw_okq (⟨"LeftShoesModel", "times", "(JJ)J"⟩, 93) := ⟨⟨by decide +kernel, by decide +kernel⟩, List.mem_of_getElem? (i := 1248) (by decide +kernel), List.mem_of_getElem? (i := 1733) (by decide +kernel), List.mem_of_getElem? (i := 1734) (by decide +kernel)⟩
theorem lw_p83 : lw_okq (⟨"LeftShoesModel", "isWorn", "(II)Z"⟩, 93) := ⟨⟨by decide +kernel, by decide +kernel⟩, List.mem_of_getElem? (i := 1248) (by decide +kernel), List.mem_of_getElem? (i := 1740) (by decide +kernel), List.mem_of_getElem? (i := 1741) (by decide +kernel)⟩
theorem lw_p84 : lw_okq (⟨"LeftShoesModel", "isPerson", "(I)Z"⟩, 93) := ⟨⟨by decide +kernel, by decide +kernel⟩, List.mem_of_getElem? (i := 1248) (by decide +kernel), List.mem_of_getElem? (i := 1748) (by decide +kernel), List.mem_of_getElem? (i := 1749) (by decide +kernel)⟩
theorem lw_p85 : lw_okq (⟨"LeftShoesModel", "ofOne", "(III)I"⟩, 93) := ⟨⟨by decide +kernel, by decide +kernel⟩, List.mem_of_getElem? (i := 1248) (by decide +kernel), List.mem_of_getElem? (i := 1752) (by decide +kernel), List.mem_of_getElem? (i := 1753) (by decide +kernel)⟩
theorem lw_p86 : lw_okq (⟨"LeftShoesModel", "arePair", "(II)Z"⟩, 93) := ⟨⟨by decide +kernel, by decide +kernel⟩, List.mem_of_getElem? (i := 1248) (by decide +kernel), List.mem_of_getElem? (i := 1764) (by decide +kernel), List.mem_of_getElem? (i := 1765) (by decide +kernel)⟩
theorem lw_p87 : lw_okq (⟨"LeftShoesModel", "isThere", "(I)Z"⟩, 93) := ⟨⟨by decide +kernel, by decide +kernel⟩, List.mem_of_getElem? (i := 1248) (by decide +kernel), List.mem_of_getElem? (i := 1768) (by decide +kernel), List.mem_of_getElem? (i := 1769) (by decide +kernel)⟩
theorem lw_p88 : lw_okq (⟨"LeftShoesModel", "pairOf", "(II)I"⟩, 93) := ⟨⟨by decide +kernel, by decide +kernel⟩, List.mem_of_getElem? (i := 1248) (by decide +kernel), List.mem_of_getElem? (i := 1772) (by decide +kernel), List.mem_of_getElem? (i := 1773) (by decide +kernel)⟩
theorem lw_p89 : lw_okq (⟨"LeftShoesModel", "layPair", "(II)V"⟩, 93) := ⟨⟨by decide +kernel, by decide +kernel⟩, List.mem_of_getElem? (i := 1248) (by decide +kernel), List.mem_of_getElem? (i := 1776) (by decide +kernel), List.mem_of_getElem? (i := 1777) (by decide +kernel)⟩
theorem lw_p90 : lw_okq (⟨"LeftShoesModel", "changeOf", "(III)I"⟩, 93) := ⟨⟨by decide +kernel, by decide +kernel⟩, List.mem_of_getElem? (i := 1248) (by decide +kernel), List.mem_of_getElem? (i := 1789) (by decide +kernel), List.mem_of_getElem? (i := 1790) (by decide +kernel)⟩
theorem lw_p91 : lw_okq (⟨"LeftShoesModel", "layHalf", "(III)V"⟩, 93) := ⟨⟨by decide +kernel, by decide +kernel⟩, List.mem_of_getElem? (i := 1248) (by decide +kernel), List.mem_of_getElem? (i := 1793) (by decide +kernel), List.mem_of_getElem? (i := 1794) (by decide +kernel)⟩
theorem lw_p92 : lw_okq (⟨"LeftShoesModel", "remember", "()V"⟩, 93) := ⟨⟨by decide +kernel, by decide +kernel⟩, List.mem_of_getElem? (i := 1248) (by decide +kernel), List.mem_of_getElem? (i := 1800) (by decide +kernel), List.mem_of_getElem? (i := 1801) (by decide +kernel)⟩
theorem lw_p93 : lw_okq (⟨"LeftShoesModel", "put", "([II)V"⟩, 93) := ⟨⟨by decide +kernel, by decide +kernel⟩, List.mem_of_getElem? (i := 1248) (by decide +kernel), List.mem_of_getElem? (i := 1804) (by decide +kernel), List.mem_of_getElem? (i := 1805) (by decide +kernel)⟩
theorem lw_p94 : lw_okq (⟨"LeftShoesModel", "pays", "(IIII)I"⟩, 93) := ⟨⟨by decide +kernel, by decide +kernel⟩, List.mem_of_getElem? (i := 1248) (by decide +kernel), List.mem_of_getElem? (i := 1808) (by decide +kernel), List.mem_of_getElem? (i := 1809) (by decide +kernel)⟩
theorem lw_p95 : lw_okq (⟨"LeftShoesModel", "goes", "(III)V"⟩, 93) := ⟨⟨by decide +kernel, by decide +kernel⟩, List.mem_of_getElem? (i := 1248) (by decide +kernel), List.mem_of_getElem? (i := 1812) (by decide +kernel), List.mem_of_getElem? (i := 1813) (by decide +kernel)⟩
def lw_privs_6 : List (MethodName × Nat) := [(⟨"LeftShoesModel", "valueOf", "(I)J"⟩, 93), (⟨"LeftShoesModel", "bounded", "(J)J"⟩, 93), (⟨"LeftShoesModel", "times", "(JJ)J"⟩, 93), (⟨"LeftShoesModel", "isWorn", "(II)Z"⟩, 93), (⟨"LeftShoesModel", "isPerson", "(I)Z"⟩, 93), (⟨"LeftShoesModel", "ofOne", "(III)I"⟩, 93), (⟨"LeftShoesModel", "arePair", "(II)Z"⟩, 93), (⟨"LeftShoesModel", "isThere", "(I)Z"⟩, 93), (⟨"LeftShoesModel", "pairOf", "(II)I"⟩, 93), (⟨"LeftShoesModel", "layPair", "(II)V"⟩, 93), (⟨"LeftShoesModel", "changeOf", "(III)I"⟩, 93), (⟨"LeftShoesModel", "layHalf", "(III)V"⟩, 93), (⟨"LeftShoesModel", "remember", "()V"⟩, 93), (⟨"LeftShoesModel", "put", "([II)V"⟩, 93), (⟨"LeftShoesModel", "pays", "(IIII)I"⟩, 93), (⟨"LeftShoesModel", "goes", "(III)V"⟩, 93)]
theorem lw_r6 : ∀ q ∈ lw_privs_6, lw_okq q := List.forall_mem_cons.mpr ⟨lw_p80, List.forall_mem_cons.mpr ⟨lw_p81, List.forall_mem_cons.mpr ⟨lw_p82, List.forall_mem_cons.mpr ⟨lw_p83, List.forall_mem_cons.mpr ⟨lw_p84, List.forall_mem_cons.mpr ⟨lw_p85, List.forall_mem_cons.mpr ⟨lw_p86, List.forall_mem_cons.mpr ⟨lw_p87, List.forall_mem_cons.mpr ⟨lw_p88, List.forall_mem_cons.mpr ⟨lw_p89, List.forall_mem_cons.mpr ⟨lw_p90, List.forall_mem_cons.mpr ⟨lw_p91, List.forall_mem_cons.mpr ⟨lw_p92, List.forall_mem_cons.mpr ⟨lw_p93, List.forall_mem_cons.mpr ⟨lw_p94, List.forall_mem_cons.mpr ⟨lw_p95, fun _ h => absurd h List.not_mem_nil⟩⟩⟩⟩⟩⟩⟩⟩⟩⟩⟩⟩⟩⟩⟩⟩
theorem lw_p96 : lw_okq (⟨"LeftShoesModel", "takeOff", "(II)V"⟩, 93) := ⟨⟨by decide +kernel, by decide +kernel⟩, List.mem_of_getElem? (i := 1248) (by decide +kernel), List.mem_of_getElem? (i := 1816) (by decide +kernel), List.mem_of_getElem? (i := 1817) (by decide +kernel)⟩
theorem lw_p97 : lw_okq (⟨"LeftShoesModel", "aDay", "(I)V"⟩, 93) := ⟨⟨by decide +kernel, by decide +kernel⟩, List.mem_of_getElem? (i := 1248) (by decide +kernel), List.mem_of_getElem? (i := 1840) (by decide +kernel), List.mem_of_getElem? (i := 1841) (by decide +kernel)⟩
theorem lw_p98 : lw_okq (⟨"LeftShoesModel", "wearBy", "(IIII)I"⟩, 93) := ⟨⟨by decide +kernel, by decide +kernel⟩, List.mem_of_getElem? (i := 1248) (by decide +kernel), List.mem_of_getElem? (i := 1844) (by decide +kernel), List.mem_of_getElem? (i := 1845) (by decide +kernel)⟩
theorem lw_p99 : lw_okq (⟨"LeftShoesModel", "wears", "(III)V"⟩, 93) := ⟨⟨by decide +kernel, by decide +kernel⟩, List.mem_of_getElem? (i := 1248) (by decide +kernel), List.mem_of_getElem? (i := 1848) (by decide +kernel), List.mem_of_getElem? (i := 1849) (by decide +kernel)⟩
theorem lw_p100 : lw_okq (⟨"LeftShoesModel", "isMinted", "(III)Z"⟩, 93) := ⟨⟨by decide +kernel, by decide +kernel⟩, List.mem_of_getElem? (i := 1248) (by decide +kernel), List.mem_of_getElem? (i := 1863) (by decide +kernel), List.mem_of_getElem? (i := 1864) (by decide +kernel)⟩
theorem lw_p101 : lw_okq (⟨"LeftShoesModel", "layPairs", "()V"⟩, 93) := ⟨⟨by decide +kernel, by decide +kernel⟩, List.mem_of_getElem? (i := 1248) (by decide +kernel), List.mem_of_getElem? (i := 1871) (by decide +kernel), List.mem_of_getElem? (i := 1872) (by decide +kernel)⟩
theorem lw_p102 : lw_okq (⟨"LeftShoesModel", "mostBy", "(II)I"⟩, 93) := ⟨⟨by decide +kernel, by decide +kernel⟩, List.mem_of_getElem? (i := 1248) (by decide +kernel), List.mem_of_getElem? (i := 1875) (by decide +kernel), List.mem_of_getElem? (i := 1876) (by decide +kernel)⟩
theorem lw_p103 : lw_okq (⟨"LeftShoesModel", "layWalk", "(II)V"⟩, 93) := ⟨⟨by decide +kernel, by decide +kernel⟩, List.mem_of_getElem? (i := 1248) (by decide +kernel), List.mem_of_getElem? (i := 1887) (by decide +kernel), List.mem_of_getElem? (i := 1888) (by decide +kernel)⟩
theorem lw_p104 : lw_okq (⟨"LeftShoesModel", "worthBehind", "(IIII)I"⟩, 93) := ⟨⟨by decide +kernel, by decide +kernel⟩, List.mem_of_getElem? (i := 1248) (by decide +kernel), List.mem_of_getElem? (i := 1891) (by decide +kernel), List.mem_of_getElem? (i := 1892) (by decide +kernel)⟩
theorem lw_p105 : lw_okq (⟨"LeftShoesModel", "areHalves", "(II)Z"⟩, 93) := ⟨⟨by decide +kernel, by decide +kernel⟩, List.mem_of_getElem? (i := 1248) (by decide +kernel), List.mem_of_getElem? (i := 1899) (by decide +kernel), List.mem_of_getElem? (i := 1900) (by decide +kernel)⟩
theorem lw_p106 : lw_okq (⟨"LeftShoesModel", "restAt", "(III)I"⟩, 93) := ⟨⟨by decide +kernel, by decide +kernel⟩, List.mem_of_getElem? (i := 1248) (by decide +kernel), List.mem_of_getElem? (i := 1903) (by decide +kernel), List.mem_of_getElem? (i := 1904) (by decide +kernel)⟩
theorem lw_p107 : lw_okq (⟨"LeftShoesModel", "areClaims", "(I)Z"⟩, 93) := ⟨⟨by decide +kernel, by decide +kernel⟩, List.mem_of_getElem? (i := 1248) (by decide +kernel), List.mem_of_getElem? (i := 1921) (by decide +kernel), List.mem_of_getElem? (i := 1922) (by decide +kernel)⟩
theorem lw_p108 : lw_okq (⟨"LeftShoesModel", "runOf", "(II)I"⟩, 93) := ⟨⟨by decide +kernel, by decide +kernel⟩, List.mem_of_getElem? (i := 1248) (by decide +kernel), List.mem_of_getElem? (i := 1925) (by decide +kernel), List.mem_of_getElem? (i := 1926) (by decide +kernel)⟩
theorem lw_p109 : lw_okq (⟨"LeftShoesModel", "tracked", "(II)I"⟩, 93) := ⟨⟨by decide +kernel, by decide +kernel⟩, List.mem_of_getElem? (i := 1248) (by decide +kernel), List.mem_of_getElem? (i := 1937) (by decide +kernel), List.mem_of_getElem? (i := 1938) (by decide +kernel)⟩
theorem lw_p110 : lw_okq (⟨"LeftShoesModel", "whoBits", "()I"⟩, 93) := ⟨⟨by decide +kernel, by decide +kernel⟩, List.mem_of_getElem? (i := 1248) (by decide +kernel), List.mem_of_getElem? (i := 1953) (by decide +kernel), List.mem_of_getElem? (i := 1954) (by decide +kernel)⟩
theorem lw_p111 : lw_okq (⟨"LeftShoesModel", "knownBy", "()I"⟩, 93) := ⟨⟨by decide +kernel, by decide +kernel⟩, List.mem_of_getElem? (i := 1248) (by decide +kernel), List.mem_of_getElem? (i := 1957) (by decide +kernel), List.mem_of_getElem? (i := 1958) (by decide +kernel)⟩
def lw_privs_7 : List (MethodName × Nat) := [(⟨"LeftShoesModel", "takeOff", "(II)V"⟩, 93), (⟨"LeftShoesModel", "aDay", "(I)V"⟩, 93), (⟨"LeftShoesModel", "wearBy", "(IIII)I"⟩, 93), (⟨"LeftShoesModel", "wears", "(III)V"⟩, 93), (⟨"LeftShoesModel", "isMinted", "(III)Z"⟩, 93), (⟨"LeftShoesModel", "layPairs", "()V"⟩, 93), (⟨"LeftShoesModel", "mostBy", "(II)I"⟩, 93), (⟨"LeftShoesModel", "layWalk", "(II)V"⟩, 93), (⟨"LeftShoesModel", "worthBehind", "(IIII)I"⟩, 93), (⟨"LeftShoesModel", "areHalves", "(II)Z"⟩, 93), (⟨"LeftShoesModel", "restAt", "(III)I"⟩, 93), (⟨"LeftShoesModel", "areClaims", "(I)Z"⟩, 93), (⟨"LeftShoesModel", "runOf", "(II)I"⟩, 93), (⟨"LeftShoesModel", "tracked", "(II)I"⟩, 93), (⟨"LeftShoesModel", "whoBits", "()I"⟩, 93), (⟨"LeftShoesModel", "knownBy", "()I"⟩, 93)]
theorem lw_r7 : ∀ q ∈ lw_privs_7, lw_okq q := List.forall_mem_cons.mpr ⟨lw_p96, List.forall_mem_cons.mpr ⟨lw_p97, List.forall_mem_cons.mpr ⟨lw_p98, List.forall_mem_cons.mpr ⟨lw_p99, List.forall_mem_cons.mpr ⟨lw_p100, List.forall_mem_cons.mpr ⟨lw_p101, List.forall_mem_cons.mpr ⟨lw_p102, List.forall_mem_cons.mpr ⟨lw_p103, List.forall_mem_cons.mpr ⟨lw_p104, List.forall_mem_cons.mpr ⟨lw_p105, List.forall_mem_cons.mpr ⟨lw_p106, List.forall_mem_cons.mpr ⟨lw_p107, List.forall_mem_cons.mpr ⟨lw_p108, List.forall_mem_cons.mpr ⟨lw_p109, List.forall_mem_cons.mpr ⟨lw_p110, List.forall_mem_cons.mpr ⟨lw_p111, fun _ h => absurd h List.not_mem_nil⟩⟩⟩⟩⟩⟩⟩⟩⟩⟩⟩⟩⟩⟩⟩⟩
theorem lw_p112 : lw_okq (⟨"LeftShoesModel", "isTrackOf", "(III)Z"⟩, 93) := ⟨⟨by decide +kernel, by decide +kernel⟩, List.mem_of_getElem? (i := 1248) (by decide +kernel), List.mem_of_getElem? (i := 1961) (by decide +kernel), List.mem_of_getElem? (i := 1962) (by decide +kernel)⟩
theorem lw_p113 : lw_okq (⟨"LeftShoesModel", "layRing", "()V"⟩, 93) := ⟨⟨by decide +kernel, by decide +kernel⟩, List.mem_of_getElem? (i := 1248) (by decide +kernel), List.mem_of_getElem? (i := 1973) (by decide +kernel), List.mem_of_getElem? (i := 1974) (by decide +kernel)⟩
theorem lw_p114 : lw_okq (⟨"LeftShoesModel", "isRing", "(I)Z"⟩, 93) := ⟨⟨by decide +kernel, by decide +kernel⟩, List.mem_of_getElem? (i := 1248) (by decide +kernel), List.mem_of_getElem? (i := 1980) (by decide +kernel), List.mem_of_getElem? (i := 1981) (by decide +kernel)⟩
theorem lw_p115 : lw_okq (⟨"LeftShoesModel", "rateOf", "(II)I"⟩, 93) := ⟨⟨by decide +kernel, by decide +kernel⟩, List.mem_of_getElem? (i := 1248) (by decide +kernel), List.mem_of_getElem? (i := 1984) (by decide +kernel), List.mem_of_getElem? (i := 1985) (by decide +kernel)⟩
theorem lw_p116 : lw_okq (⟨"LeftShoesModel", "layTried", "()V"⟩, 93) := ⟨⟨by decide +kernel, by decide +kernel⟩, List.mem_of_getElem? (i := 1248) (by decide +kernel), List.mem_of_getElem? (i := 1996) (by decide +kernel), List.mem_of_getElem? (i := 1997) (by decide +kernel)⟩
theorem lw_p117 : lw_okq (⟨"LeftShoesModel", "chances", "()V"⟩, 93) := ⟨⟨by decide +kernel, by decide +kernel⟩, List.mem_of_getElem? (i := 1248) (by decide +kernel), List.mem_of_getElem? (i := 2000) (by decide +kernel), List.mem_of_getElem? (i := 2001) (by decide +kernel)⟩
theorem lw_p118 : lw_okq (⟨"LeftShoesModel", "number1", "(I)I"⟩, 93) := ⟨⟨by decide +kernel, by decide +kernel⟩, List.mem_of_getElem? (i := 1248) (by decide +kernel), List.mem_of_getElem? (i := 2004) (by decide +kernel), List.mem_of_getElem? (i := 2005) (by decide +kernel)⟩
theorem lw_p119 : lw_okq (⟨"LeftShoesModel", "allWorth", "(I)I"⟩, 93) := ⟨⟨by decide +kernel, by decide +kernel⟩, List.mem_of_getElem? (i := 1248) (by decide +kernel), List.mem_of_getElem? (i := 2016) (by decide +kernel), List.mem_of_getElem? (i := 2017) (by decide +kernel)⟩
theorem lw_p120 : lw_okq (⟨"LeftShoesModel", "take", "([II)V"⟩, 93) := ⟨⟨by decide +kernel, by decide +kernel⟩, List.mem_of_getElem? (i := 1248) (by decide +kernel), List.mem_of_getElem? (i := 2024) (by decide +kernel), List.mem_of_getElem? (i := 2025) (by decide +kernel)⟩
theorem lw_p121 : lw_okq (⟨"LeftShoesModel", "manyDebts", "(I)I"⟩, 93) := ⟨⟨by decide +kernel, by decide +kernel⟩, List.mem_of_getElem? (i := 1248) (by decide +kernel), List.mem_of_getElem? (i := 2040) (by decide +kernel), List.mem_of_getElem? (i := 2041) (by decide +kernel)⟩
def lw_privs_8 : List (MethodName × Nat) := [(⟨"LeftShoesModel", "isTrackOf", "(III)Z"⟩, 93), (⟨"LeftShoesModel", "layRing", "()V"⟩, 93), (⟨"LeftShoesModel", "isRing", "(I)Z"⟩, 93), (⟨"LeftShoesModel", "rateOf", "(II)I"⟩, 93), (⟨"LeftShoesModel", "layTried", "()V"⟩, 93), (⟨"LeftShoesModel", "chances", "()V"⟩, 93), (⟨"LeftShoesModel", "number1", "(I)I"⟩, 93), (⟨"LeftShoesModel", "allWorth", "(I)I"⟩, 93), (⟨"LeftShoesModel", "take", "([II)V"⟩, 93), (⟨"LeftShoesModel", "manyDebts", "(I)I"⟩, 93)]
theorem lw_r8 : ∀ q ∈ lw_privs_8, lw_okq q := List.forall_mem_cons.mpr ⟨lw_p112, List.forall_mem_cons.mpr ⟨lw_p113, List.forall_mem_cons.mpr ⟨lw_p114, List.forall_mem_cons.mpr ⟨lw_p115, List.forall_mem_cons.mpr ⟨lw_p116, List.forall_mem_cons.mpr ⟨lw_p117, List.forall_mem_cons.mpr ⟨lw_p118, List.forall_mem_cons.mpr ⟨lw_p119, List.forall_mem_cons.mpr ⟨lw_p120, List.forall_mem_cons.mpr ⟨lw_p121, fun _ h => absurd h List.not_mem_nil⟩⟩⟩⟩⟩⟩⟩⟩⟩⟩
def lw_privs : List (MethodName × Nat) := lw_privs_1 ++ (lw_privs_2 ++ (lw_privs_3 ++ (lw_privs_4 ++ (lw_privs_5 ++ (lw_privs_6 ++ (lw_privs_7 ++ (lw_privs_8)))))))
def lw_tbl : List Cond := k2_sels lw_privs ++ tables_1
theorem lw_privs_ok : ∀ q ∈ lw_privs, lw_okq q := by
  show ∀ q ∈ lw_privs_1 ++ (lw_privs_2 ++ (lw_privs_3 ++ (lw_privs_4 ++ (lw_privs_5 ++ (lw_privs_6 ++ (lw_privs_7 ++ (lw_privs_8))))))), lw_okq q
  exact List.forall_mem_append.mpr ⟨lw_r1, List.forall_mem_append.mpr ⟨lw_r2, List.forall_mem_append.mpr ⟨lw_r3, List.forall_mem_append.mpr ⟨lw_r4, List.forall_mem_append.mpr ⟨lw_r5, List.forall_mem_append.mpr ⟨lw_r6, List.forall_mem_append.mpr ⟨lw_r7, lw_r8⟩⟩⟩⟩⟩⟩⟩
def RX0 : String := "LeftShoes$Couples"
def TX0 : u_T := fun k => match k with
  | 0 => ("LeftShoes$Couples", "sum", "I", false)
  | 1 => ("LeftShoes$Couples", "partnerOf", "[I", true)
  | 2 => ("LeftShoes$Couples", "lefts", "[I", true)
  | 3 => ("LeftShoes$Couples", "rights", "[I", true)
  | 4 => ("LeftShoes$Couples", "best", "[J", true)
  | 5 => ("LeftShoes$Couples", "row", "[J", true)
  | 6 => ("LeftShoes$Couples", "leftCount", "I", false)
  | 7 => ("LeftShoes$Couples", "rightCount", "I", false)
  | _ => ("LeftShoes$Couples", "digitBits", "I", false)
def tyX0 : Nat → FieldType := fun k => match k with
  | 0 => .int
  | 1 => .array .int
  | 2 => .array .int
  | 3 => .array .int
  | 4 => .array .long
  | 5 => .array .long
  | 6 => .int
  | 7 => .int
  | _ => .int
theorem nmX0 : ∀ a, a < 9 → ∀ b, b < 9 → a ≠ b → (TX0 a).2.1 ≠ (TX0 b).2.1 := by decide +kernel
theorem tyX0_ok : ∀ k, k < 9 → parseFieldDescriptor (TX0 k).2.2.1 = some (tyX0 k) := by decide +kernel
def RX1 : String := "LeftShoes$History"
def TX1 : u_T := fun k => match k with
  | 0 => ("LeftShoes$History", "size", "I", false)
  | 1 => ("LeftShoes$History", "next", "I", false)
  | 2 => ("LeftShoes$History", "owners", "[[I", true)
  | _ => ("LeftShoes$History", "worn", "[[I", true)
def tyX1 : Nat → FieldType := fun k => match k with
  | 0 => .int
  | 1 => .int
  | 2 => .array (.array .int)
  | _ => .array (.array .int)
theorem nmX1 : ∀ a, a < 4 → ∀ b, b < 4 → a ≠ b → (TX1 a).2.1 ≠ (TX1 b).2.1 := by decide +kernel
theorem tyX1_ok : ∀ k, k < 4 → parseFieldDescriptor (TX1 k).2.2.1 = some (tyX1 k) := by decide +kernel
def RX2 : String := "LeftShoes$Laws"
def TX2 : u_T := fun k => match k with
  | 0 => ("LeftShoes$Laws", "knots", "I", false)
  | 1 => ("LeftShoes$Laws", "written", "I", false)
  | 2 => ("LeftShoes$Laws", "code", "[I", true)
  | 3 => ("LeftShoes$Laws", "number", "[I", true)
  | 4 => ("LeftShoes$Laws", "from", "[I", true)
  | 5 => ("LeftShoes$Laws", "to", "[I", true)
  | 6 => ("LeftShoes$Laws", "told", "[Z", true)
  | 7 => ("LeftShoes$Laws", "names", "[J", true)
  | _ => ("LeftShoes$Laws", "stack", "[J", true)
def tyX2 : Nat → FieldType := fun k => match k with
  | 0 => .int
  | 1 => .int
  | 2 => .array .int
  | 3 => .array .int
  | 4 => .array .int
  | 5 => .array .int
  | 6 => .array .boolean
  | 7 => .array .long
  | _ => .array .long
theorem nmX2 : ∀ a, a < 9 → ∀ b, b < 9 → a ≠ b → (TX2 a).2.1 ≠ (TX2 b).2.1 := by decide +kernel
theorem tyX2_ok : ∀ k, k < 9 → parseFieldDescriptor (TX2 k).2.2.1 = some (tyX2 k) := by decide +kernel
def RX3 : String := "LeftShoes$Reader"
def TX3 : u_T := fun k => match k with
  | 0 => ("LeftShoes$Reader", "kind", "I", false)
  | 1 => ("LeftShoes$Reader", "value", "I", false)
  | 2 => ("LeftShoes$Reader", "place", "I", false)
  | 3 => ("LeftShoes$Reader", "bytes", "[B", false)
  | 4 => ("LeftShoes$Reader", "length", "I", false)
  | 5 => ("LeftShoes$Reader", "at", "I", false)
  | _ => ("LeftShoes$Reader", "words", "[I", true)
def tyX3 : Nat → FieldType := fun k => match k with
  | 0 => .int
  | 1 => .int
  | 2 => .int
  | 3 => .array .byte
  | 4 => .int
  | 5 => .int
  | _ => .array .int
theorem nmX3 : ∀ a, a < 7 → ∀ b, b < 7 → a ≠ b → (TX3 a).2.1 ≠ (TX3 b).2.1 := by decide +kernel
theorem tyX3_ok : ∀ k, k < 7 → parseFieldDescriptor (TX3 k).2.2.1 = some (tyX3 k) := by decide +kernel
def RX4 : String := "LeftShoes$Scribe"
def TX4 : u_T := fun k => match k with
  | 0 => ("LeftShoes$Scribe", "lines", "I", false)
  | 1 => ("LeftShoes$Scribe", "fault", "I", false)
  | 2 => ("LeftShoes$Scribe", "faultPlace", "I", false)
  | 3 => ("LeftShoes$Scribe", "seeded", "Z", false)
  | 4 => ("LeftShoes$Scribe", "reader", "LLeftShoes$Reader;", true)
  | _ => ("LeftShoes$Scribe", "tale", "LLeftShoes$Tale;", false)
def tyX4 : Nat → FieldType := fun k => match k with
  | 0 => .int
  | 1 => .int
  | 2 => .int
  | 3 => .boolean
  | 4 => .object "LeftShoes$Reader"
  | _ => .object "LeftShoes$Tale"
theorem nmX4 : ∀ a, a < 6 → ∀ b, b < 6 → a ≠ b → (TX4 a).2.1 ≠ (TX4 b).2.1 := by decide +kernel
theorem tyX4_ok : ∀ k, k < 6 → parseFieldDescriptor (TX4 k).2.2.1 = some (tyX4 k) := by decide +kernel
def RX5 : String := "LeftShoes$Stroll"
def TX5 : u_T := fun k => match k with
  | 0 => ("LeftShoes$Stroll", "least", "I", false)
  | 1 => ("LeftShoes$Stroll", "walked", "I", false)
  | 2 => ("LeftShoes$Stroll", "world", "LLeftShoes$World;", true)
  | 3 => ("LeftShoes$Stroll", "days", "I", false)
  | 4 => ("LeftShoes$Stroll", "fare", "I", false)
  | 5 => ("LeftShoes$Stroll", "left", "I", false)
  | 6 => ("LeftShoes$Stroll", "right", "I", false)
  | 7 => ("LeftShoes$Stroll", "unwalked", "I", false)
  | _ => ("LeftShoes$Stroll", "found", "Z", false)
def tyX5 : Nat → FieldType := fun k => match k with
  | 0 => .int
  | 1 => .int
  | 2 => .object "LeftShoes$World"
  | 3 => .int
  | 4 => .int
  | 5 => .int
  | 6 => .int
  | 7 => .int
  | _ => .boolean
theorem nmX5 : ∀ a, a < 9 → ∀ b, b < 9 → a ≠ b → (TX5 a).2.1 ≠ (TX5 b).2.1 := by decide +kernel
theorem tyX5_ok : ∀ k, k < 9 → parseFieldDescriptor (TX5 k).2.2.1 = some (tyX5 k) := by decide +kernel
def RX6 : String := "LeftShoes$Swaps"
def TX6 : u_T := fun k => match k with
  | 0 => ("LeftShoes$Swaps", "rates", "I", false)
  | 1 => ("LeftShoes$Swaps", "given", "[I", true)
  | 2 => ("LeftShoes$Swaps", "got", "[I", true)
  | _ => ("LeftShoes$Swaps", "path", "[I", true)
def tyX6 : Nat → FieldType := fun k => match k with
  | 0 => .int
  | 1 => .array .int
  | 2 => .array .int
  | _ => .array .int
theorem nmX6 : ∀ a, a < 4 → ∀ b, b < 4 → a ≠ b → (TX6 a).2.1 ≠ (TX6 b).2.1 := by decide +kernel
theorem tyX6_ok : ∀ k, k < 4 → parseFieldDescriptor (TX6 k).2.2.1 = some (tyX6 k) := by decide +kernel
def RX7 : String := "LeftShoes$Tale"
def TX7 : u_T := fun k => match k with
  | 0 => ("LeftShoes$Tale", "persons", "I", false)
  | 1 => ("LeftShoes$Tale", "name", "[I", true)
  | 2 => ("LeftShoes$Tale", "foot", "[I", true)
  | 3 => ("LeftShoes$Tale", "steps", "[I", true)
  | 4 => ("LeftShoes$Tale", "fare", "[I", true)
  | 5 => ("LeftShoes$Tale", "claim", "[I", true)
  | 6 => ("LeftShoes$Tale", "shoes", "I", false)
  | 7 => ("LeftShoes$Tale", "side", "[I", true)
  | 8 => ("LeftShoes$Tale", "size", "[I", true)
  | 9 => ("LeftShoes$Tale", "used", "[I", true)
  | 10 => ("LeftShoes$Tale", "kind", "[I", true)
  | 11 => ("LeftShoes$Tale", "owner", "[I", true)
  | 12 => ("LeftShoes$Tale", "debts", "I", false)
  | 13 => ("LeftShoes$Tale", "debtor", "[I", true)
  | 14 => ("LeftShoes$Tale", "creditor", "[I", true)
  | 15 => ("LeftShoes$Tale", "owed", "[I", true)
  | 16 => ("LeftShoes$Tale", "due", "[I", true)
  | 17 => ("LeftShoes$Tale", "swaps", "LLeftShoes$Swaps;", true)
  | _ => ("LeftShoes$Tale", "laws", "LLeftShoes$Laws;", true)
def tyX7 : Nat → FieldType := fun k => match k with
  | 0 => .int
  | 1 => .array .int
  | 2 => .array .int
  | 3 => .array .int
  | 4 => .array .int
  | 5 => .array .int
  | 6 => .int
  | 7 => .array .int
  | 8 => .array .int
  | 9 => .array .int
  | 10 => .array .int
  | 11 => .array .int
  | 12 => .int
  | 13 => .array .int
  | 14 => .array .int
  | 15 => .array .int
  | 16 => .array .int
  | 17 => .object "LeftShoes$Swaps"
  | _ => .object "LeftShoes$Laws"
theorem nmX7 : ∀ a, a < 19 → ∀ b, b < 19 → a ≠ b → (TX7 a).2.1 ≠ (TX7 b).2.1 := by decide +kernel
theorem tyX7_ok : ∀ k, k < 19 → parseFieldDescriptor (TX7 k).2.2.1 = some (tyX7 k) := by decide +kernel
def RX8 : String := "LeftShoes$Tracks"
def TX8 : u_T := fun k => match k with
  | 0 => ("LeftShoes$Tracks", "size", "I", false)
  | 1 => ("LeftShoes$Tracks", "limit", "I", false)
  | 2 => ("LeftShoes$Tracks", "sideOf", "[I", true)
  | _ => ("LeftShoes$Tracks", "sizeOf", "[I", true)
def tyX8 : Nat → FieldType := fun k => match k with
  | 0 => .int
  | 1 => .int
  | 2 => .array .int
  | _ => .array .int
theorem nmX8 : ∀ a, a < 4 → ∀ b, b < 4 → a ≠ b → (TX8 a).2.1 ≠ (TX8 b).2.1 := by decide +kernel
theorem tyX8_ok : ∀ k, k < 4 → parseFieldDescriptor (TX8 k).2.2.1 = some (tyX8 k) := by decide +kernel
def RX9 : String := "LeftShoes$World"
def TX9 : u_T := fun k => match k with
  | 0 => ("LeftShoes$World", "tale", "LLeftShoes$Tale;", false)
  | 1 => ("LeftShoes$World", "day", "I", false)
  | 2 => ("LeftShoes$World", "walking", "Z", false)
  | 3 => ("LeftShoes$World", "owing", "Z", false)
  | 4 => ("LeftShoes$World", "side", "[I", true)
  | 5 => ("LeftShoes$World", "used", "[I", true)
  | 6 => ("LeftShoes$World", "owner", "[I", true)
  | 7 => ("LeftShoes$World", "worn", "[I", true)
  | 8 => ("LeftShoes$World", "settled", "[I", true)
  | _ => ("LeftShoes$World", "sums", "[I", true)
def tyX9 : Nat → FieldType := fun k => match k with
  | 0 => .object "LeftShoes$Tale"
  | 1 => .int
  | 2 => .boolean
  | 3 => .boolean
  | 4 => .array .int
  | 5 => .array .int
  | 6 => .array .int
  | 7 => .array .int
  | 8 => .array .int
  | _ => .array .int
theorem nmX9 : ∀ a, a < 10 → ∀ b, b < 10 → a ≠ b → (TX9 a).2.1 ≠ (TX9 b).2.1 := by decide +kernel
theorem tyX9_ok : ∀ k, k < 10 → parseFieldDescriptor (TX9 k).2.2.1 = some (tyX9 k) := by decide +kernel
def RX10 : String := "LeftShoes"
def TX10 : u_T := fun k => match k with
  | 0 => ("LeftShoes", "tape", "[B", true)
  | 1 => ("LeftShoes", "taped", "I", false)
  | 2 => ("LeftShoes", "tale", "LLeftShoes$Tale;", false)
  | 3 => ("LeftShoes", "spare", "LLeftShoes$Tale;", false)
  | 4 => ("LeftShoes", "scribe", "LLeftShoes$Scribe;", true)
  | 5 => ("LeftShoes", "lastFault", "I", false)
  | 6 => ("LeftShoes", "lastPlace", "I", false)
  | 7 => ("LeftShoes", "world", "LLeftShoes$World;", true)
  | 8 => ("LeftShoes", "image", "LLeftShoes$World;", true)
  | 9 => ("LeftShoes", "trial", "LLeftShoes$World;", true)
  | 10 => ("LeftShoes", "kept", "Z", false)
  | 11 => ("LeftShoes", "history", "LLeftShoes$History;", true)
  | 12 => ("LeftShoes", "tracks", "LLeftShoes$Tracks;", true)
  | 13 => ("LeftShoes", "couples", "LLeftShoes$Couples;", true)
  | 14 => ("LeftShoes", "stroll", "LLeftShoes$Stroll;", true)
  | _ => ("LeftShoes", "minted", "[I", true)
def tyX10 : Nat → FieldType := fun k => match k with
  | 0 => .array .byte
  | 1 => .int
  | 2 => .object "LeftShoes$Tale"
  | 3 => .object "LeftShoes$Tale"
  | 4 => .object "LeftShoes$Scribe"
  | 5 => .int
  | 6 => .int
  | 7 => .object "LeftShoes$World"
  | 8 => .object "LeftShoes$World"
  | 9 => .object "LeftShoes$World"
  | 10 => .boolean
  | 11 => .object "LeftShoes$History"
  | 12 => .object "LeftShoes$Tracks"
  | 13 => .object "LeftShoes$Couples"
  | 14 => .object "LeftShoes$Stroll"
  | _ => .array .int
theorem nmX10 : ∀ a, a < 16 → ∀ b, b < 16 → a ≠ b → (TX10 a).2.1 ≠ (TX10 b).2.1 := by decide +kernel
theorem tyX10_ok : ∀ k, k < 16 → parseFieldDescriptor (TX10 k).2.2.1 = some (tyX10 k) := by decide +kernel
def RX11 : String := "LeftShoesModel"
def TX11 : u_T := fun k => match k with
  | 0 => ("LeftShoesModel", "tape", "[I", true)
  | 1 => ("LeftShoesModel", "tapeSize", "I", false)
  | 2 => ("LeftShoesModel", "thrown", "I", false)
  | 3 => ("LeftShoesModel", "words", "[I", true)
  | 4 => ("LeftShoesModel", "fault", "I", false)
  | 5 => ("LeftShoesModel", "faultPlace", "I", false)
  | 6 => ("LeftShoesModel", "stop", "I", false)
  | 7 => ("LeftShoesModel", "next", "I", false)
  | 8 => ("LeftShoesModel", "kind", "I", false)
  | 9 => ("LeftShoesModel", "which", "I", false)
  | 10 => ("LeftShoesModel", "at", "I", false)
  | 11 => ("LeftShoesModel", "got", "I", false)
  | 12 => ("LeftShoesModel", "persons", "I", false)
  | 13 => ("LeftShoesModel", "shoes", "I", false)
  | 14 => ("LeftShoesModel", "debts", "I", false)
  | 15 => ("LeftShoesModel", "rates", "I", false)
  | 16 => ("LeftShoesModel", "knots", "I", false)
  | 17 => ("LeftShoesModel", "personsRead", "I", false)
  | 18 => ("LeftShoesModel", "shoesRead", "I", false)
  | 19 => ("LeftShoesModel", "debtsRead", "I", false)
  | 20 => ("LeftShoesModel", "ratesRead", "I", false)
  | 21 => ("LeftShoesModel", "knotsRead", "I", false)
  | 22 => ("LeftShoesModel", "seedTold", "Z", false)
  | 23 => ("LeftShoesModel", "personName", "[I", true)
  | 24 => ("LeftShoesModel", "footOf", "[I", true)
  | 25 => ("LeftShoesModel", "stepsOf", "[I", true)
  | 26 => ("LeftShoesModel", "fareOf", "[I", true)
  | 27 => ("LeftShoesModel", "claimOf", "[I", true)
  | 28 => ("LeftShoesModel", "sideOf", "[I", true)
  | 29 => ("LeftShoesModel", "sizeOf", "[I", true)
  | 30 => ("LeftShoesModel", "usedTold", "[I", true)
  | 31 => ("LeftShoesModel", "kindOf", "[I", true)
  | 32 => ("LeftShoesModel", "whoseTold", "[I", true)
  | 33 => ("LeftShoesModel", "debtBy", "[I", true)
  | 34 => ("LeftShoesModel", "debtTo", "[I", true)
  | 35 => ("LeftShoesModel", "debtMuch", "[I", true)
  | 36 => ("LeftShoesModel", "debtDay", "[I", true)
  | 37 => ("LeftShoesModel", "rate", "[I", true)
  | 38 => ("LeftShoesModel", "lawTold", "[Z", true)
  | 39 => ("LeftShoesModel", "first", "[I", true)
  | 40 => ("LeftShoesModel", "last", "[I", true)
  | 41 => ("LeftShoesModel", "knot", "[I", true)
  | 42 => ("LeftShoesModel", "part", "[I", true)
  | 43 => ("LeftShoesModel", "other", "[I", true)
  | 44 => ("LeftShoesModel", "wait", "[I", true)
  | 45 => ("LeftShoesModel", "held", "[I", true)
  | 46 => ("LeftShoesModel", "waits", "I", false)
  | 47 => ("LeftShoesModel", "helds", "I", false)
  | 48 => ("LeftShoesModel", "brackets", "I", false)
  | 49 => ("LeftShoesModel", "counted", "I", false)
  | 50 => ("LeftShoesModel", "wants", "Z", false)
  | 51 => ("LeftShoesModel", "mayNot", "Z", false)
  | 52 => ("LeftShoesModel", "names", "[J", true)
  | 53 => ("LeftShoesModel", "value", "[J", true)
  | 54 => ("LeftShoesModel", "isError", "Z", false)
  | 55 => ("LeftShoesModel", "used", "[I", true)
  | 56 => ("LeftShoesModel", "whose", "[I", true)
  | 57 => ("LeftShoesModel", "leftOn", "[I", true)
  | 58 => ("LeftShoesModel", "rightOn", "[I", true)
  | 59 => ("LeftShoesModel", "became", "[I", true)
  | 60 => ("LeftShoesModel", "day", "[I", true)
  | 61 => ("LeftShoesModel", "drawn", "J", false)
  | 62 => ("LeftShoesModel", "noWalk", "Z", false)
  | 63 => ("LeftShoesModel", "noDebts", "Z", false)
  | 64 => ("LeftShoesModel", "allLeft", "Z", false)
  | 65 => ("LeftShoesModel", "halfSum", "[I", true)
  | 66 => ("LeftShoesModel", "halfMany", "[I", true)
  | 67 => ("LeftShoesModel", "change1", "[I", true)
  | 68 => ("LeftShoesModel", "coin", "[I", true)
  | 69 => ("LeftShoesModel", "fewest", "[I", true)
  | 70 => ("LeftShoesModel", "lefts", "I", false)
  | 71 => ("LeftShoesModel", "rights", "I", false)
  | 72 => ("LeftShoesModel", "leftAt", "[I", true)
  | 73 => ("LeftShoesModel", "rightAt", "[I", true)
  | 74 => ("LeftShoesModel", "gain", "[I", true)
  | 75 => ("LeftShoesModel", "sumOf", "[I", true)
  | 76 => ("LeftShoesModel", "partnerOf", "[I", true)
  | 77 => ("LeftShoesModel", "pairsSum", "I", false)
  | 78 => ("LeftShoesModel", "walkSum", "I", false)
  | 79 => ("LeftShoesModel", "walkDays", "I", false)
  | 80 => ("LeftShoesModel", "tracks", "I", false)
  | 81 => ("LeftShoesModel", "knownTold", "I", false)
  | 82 => ("LeftShoesModel", "track", "[I", true)
  | 83 => ("LeftShoesModel", "counts", "[Z", true)
  | 84 => ("LeftShoesModel", "ringAt", "[I", true)
  | 85 => ("LeftShoesModel", "ringMany", "I", false)
  | 86 => ("LeftShoesModel", "undos", "I", false)
  | 87 => ("LeftShoesModel", "undo", "[I", true)
  | 88 => ("LeftShoesModel", "hasImage", "Z", false)
  | 89 => ("LeftShoesModel", "image", "[I", true)
  | 90 => ("LeftShoesModel", "imageUsed", "[I", true)
  | 91 => ("LeftShoesModel", "imageBecame", "[I", true)
  | _ => ("LeftShoesModel", "imageDay", "I", false)
def tyX11 : Nat → FieldType := fun k => match k with
  | 0 => .array .int
  | 1 => .int
  | 2 => .int
  | 3 => .array .int
  | 4 => .int
  | 5 => .int
  | 6 => .int
  | 7 => .int
  | 8 => .int
  | 9 => .int
  | 10 => .int
  | 11 => .int
  | 12 => .int
  | 13 => .int
  | 14 => .int
  | 15 => .int
  | 16 => .int
  | 17 => .int
  | 18 => .int
  | 19 => .int
  | 20 => .int
  | 21 => .int
  | 22 => .boolean
  | 23 => .array .int
  | 24 => .array .int
  | 25 => .array .int
  | 26 => .array .int
  | 27 => .array .int
  | 28 => .array .int
  | 29 => .array .int
  | 30 => .array .int
  | 31 => .array .int
  | 32 => .array .int
  | 33 => .array .int
  | 34 => .array .int
  | 35 => .array .int
  | 36 => .array .int
  | 37 => .array .int
  | 38 => .array .boolean
  | 39 => .array .int
  | 40 => .array .int
  | 41 => .array .int
  | 42 => .array .int
  | 43 => .array .int
  | 44 => .array .int
  | 45 => .array .int
  | 46 => .int
  | 47 => .int
  | 48 => .int
  | 49 => .int
  | 50 => .boolean
  | 51 => .boolean
  | 52 => .array .long
  | 53 => .array .long
  | 54 => .boolean
  | 55 => .array .int
  | 56 => .array .int
  | 57 => .array .int
  | 58 => .array .int
  | 59 => .array .int
  | 60 => .array .int
  | 61 => .long
  | 62 => .boolean
  | 63 => .boolean
  | 64 => .boolean
  | 65 => .array .int
  | 66 => .array .int
  | 67 => .array .int
  | 68 => .array .int
  | 69 => .array .int
  | 70 => .int
  | 71 => .int
  | 72 => .array .int
  | 73 => .array .int
  | 74 => .array .int
  | 75 => .array .int
  | 76 => .array .int
  | 77 => .int
  | 78 => .int
  | 79 => .int
  | 80 => .int
  | 81 => .int
  | 82 => .array .int
  | 83 => .array .boolean
  | 84 => .array .int
  | 85 => .int
  | 86 => .int
  | 87 => .array .int
  | 88 => .boolean
  | 89 => .array .int
  | 90 => .array .int
  | 91 => .array .int
  | _ => .int
theorem nmX11 : ∀ a, a < 93 → ∀ b, b < 93 → a ≠ b → (TX11 a).2.1 ≠ (TX11 b).2.1 := by decide +kernel
theorem tyX11_ok : ∀ k, k < 93 → parseFieldDescriptor (TX11 k).2.2.1 = some (tyX11 k) := by decide +kernel
abbrev vwCl : List vw_C := [(RX0, TX0, 9), (RX1, TX1, 4), (RX2, TX2, 9), (RX3, TX3, 7), (RX4, TX4, 6), (RX5, TX5, 9), (RX6, TX6, 4), (RX7, TX7, 19), (RX8, TX8, 4), (RX9, TX9, 10), (RX10, TX10, 16), (RX11, TX11, 93)]
theorem pk_in0 : ∀ w ∈ u_ws RX0 TX0 9, w ∈ lw_tbl := by decide +kernel
theorem pk_in1 : ∀ w ∈ u_ws RX1 TX1 4, w ∈ lw_tbl := by decide +kernel
theorem pk_in2 : ∀ w ∈ u_ws RX2 TX2 9, w ∈ lw_tbl := by decide +kernel
theorem pk_in3 : ∀ w ∈ u_ws RX3 TX3 7, w ∈ lw_tbl := by decide +kernel
theorem pk_in4 : ∀ w ∈ u_ws RX4 TX4 6, w ∈ lw_tbl := by decide +kernel
theorem pk_in5 : ∀ w ∈ u_ws RX5 TX5 9, w ∈ lw_tbl := by decide +kernel
theorem pk_in6 : ∀ w ∈ u_ws RX6 TX6 4, w ∈ lw_tbl := by decide +kernel
theorem pk_in7 : ∀ w ∈ u_ws RX7 TX7 19, w ∈ lw_tbl := by decide +kernel
theorem pk_in8 : ∀ w ∈ u_ws RX8 TX8 4, w ∈ lw_tbl := by decide +kernel
theorem pk_in9 : ∀ w ∈ u_ws RX9 TX9 10, w ∈ lw_tbl := by decide +kernel
theorem pk_in10 : ∀ w ∈ u_ws RX10 TX10 16, w ∈ lw_tbl := by decide +kernel
theorem pk_in11 : ∀ w ∈ u_ws RX11 TX11 93, w ∈ lw_tbl := by decide +kernel
