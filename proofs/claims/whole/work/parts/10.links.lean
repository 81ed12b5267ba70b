/-! ===== methods and links ===== -/
theorem inP : ∀ w ∈ k2_sels lw_privs, w ∈ lw_tbl := fun w h => List.mem_append_left _ h
theorem inT1 : ∀ w ∈ tables_1_1, w ∈ lw_tbl := fun w h => List.mem_append_right _ (List.mem_append_left _ h)
theorem inT2 : ∀ w ∈ tables_1_2, w ∈ lw_tbl := fun w h => List.mem_append_right _ (List.mem_append_right _ (List.mem_append_left _ h))
theorem inT3 : ∀ w ∈ tables_1_3, w ∈ lw_tbl := fun w h => List.mem_append_right _ (List.mem_append_right _ (List.mem_append_right _ (List.mem_append_left _ h)))
theorem inT4 : ∀ w ∈ tables_1_4, w ∈ lw_tbl := fun w h => List.mem_append_right _ (List.mem_append_right _ (List.mem_append_right _ (List.mem_append_right _ (List.mem_append_left _ h))))
theorem inT5 : ∀ w ∈ tables_1_5, w ∈ lw_tbl := fun w h => List.mem_append_right _ (List.mem_append_right _ (List.mem_append_right _ (List.mem_append_right _ (List.mem_append_right _ (List.mem_append_left _ h)))))
theorem inT6 : ∀ w ∈ tables_1_6, w ∈ lw_tbl := fun w h => List.mem_append_right _ (List.mem_append_right _ (List.mem_append_right _ (List.mem_append_right _ (List.mem_append_right _ (List.mem_append_right _ (List.mem_append_left _ h))))))
theorem inT7 : ∀ w ∈ tables_1_7, w ∈ lw_tbl := fun w h => List.mem_append_right _ (List.mem_append_right _ (List.mem_append_right _ (List.mem_append_right _ (List.mem_append_right _ (List.mem_append_right _ (List.mem_append_right _ (List.mem_append_left _ h)))))))
theorem inT8 : ∀ w ∈ tables_1_8, w ∈ lw_tbl := fun w h => List.mem_append_right _ (List.mem_append_right _ (List.mem_append_right _ (List.mem_append_right _ (List.mem_append_right _ (List.mem_append_right _ (List.mem_append_right _ (List.mem_append_right _ (List.mem_append_left _ h))))))))
theorem inT9 : ∀ w ∈ tables_1_9, w ∈ lw_tbl := fun w h => List.mem_append_right _ (List.mem_append_right _ (List.mem_append_right _ (List.mem_append_right _ (List.mem_append_right _ (List.mem_append_right _ (List.mem_append_right _ (List.mem_append_right _ (List.mem_append_right _ h))))))))
def m_Ls_init : pMeth := (⟨"LeftShoes", "<init>", "()V"⟩, prog_1_method_1_code, 2, none)
def m_Ls_allHaveClaims : pMeth := (⟨"LeftShoes", "allHaveClaims", "(I)Z"⟩, prog_1_method_34_code, 3, some .boolean)
def m_Ls_areHalves : pMeth := (⟨"LeftShoes", "areHalves", "(II)Z"⟩, prog_1_method_28_code, 3, some .boolean)
def m_Ls_back : pMeth := (⟨"LeftShoes", "back", "()I"⟩, prog_1_method_50_code, 1, some .int)
def m_Ls_bankShoes : pMeth := (⟨"LeftShoes", "bankShoes", "()I"⟩, prog_1_method_33_code, 1, some .int)
def m_Ls_canTry : pMeth := (⟨"LeftShoes", "canTry", "(II)Z"⟩, prog_1_method_47_code, 3, some .boolean)
def m_Ls_chance : pMeth := (⟨"LeftShoes", "chance", "(IIII)I"⟩, prog_1_method_44_code, 10, some .int)
def m_Ls_change : pMeth := (⟨"LeftShoes", "change", "(II)I"⟩, prog_1_method_19_code, 3, some .int)
def m_Ls_claimed : pMeth := (⟨"LeftShoes", "claimed", "(I)I"⟩, prog_1_method_35_code, 4, some .int)
def m_Ls_count : pMeth := (⟨"LeftShoes", "count", "(I)I"⟩, prog_1_method_51_code, 2, some .int)
def m_Ls_days : pMeth := (⟨"LeftShoes", "days", "(I)I"⟩, prog_1_method_17_code, 3, some .int)
def m_Ls_debt : pMeth := (⟨"LeftShoes", "debt", "(II)I"⟩, prog_1_method_9_code, 3, some .int)
def m_Ls_fault : pMeth := (⟨"LeftShoes", "fault", "(I)I"⟩, prog_1_method_5_code, 2, some .int)
def m_Ls_feed : pMeth := (⟨"LeftShoes", "feed", "(IIIII)I"⟩, prog_1_method_2_code, 6, some .int)
def m_Ls_frightened : pMeth := (⟨"LeftShoes", "frightened", "(I)I"⟩, prog_1_method_36_code, 5, some .int)
def m_Ls_give : pMeth := (⟨"LeftShoes", "give", "(II)Z"⟩, prog_1_method_14_code, 3, some .boolean)
def m_Ls_good : pMeth := (⟨"LeftShoes", "good", "(I)I"⟩, prog_1_method_43_code, 3, some .int)
def m_Ls_isPrice : pMeth := (⟨"LeftShoes", "isPrice", "(I)Z"⟩, prog_1_method_13_code, 1, some .boolean)
def m_Ls_isRest : pMeth := (⟨"LeftShoes", "isRest", "(III)Z"⟩, prog_1_method_29_code, 4, some .boolean)
def m_Ls_keep : pMeth := (⟨"LeftShoes", "keep", "()I"⟩, prog_1_method_49_code, 1, some .int)
def m_Ls_known : pMeth := (⟨"LeftShoes", "known", "(I)Z"⟩, prog_1_method_39_code, 2, some .boolean)
def m_Ls_law : pMeth := (⟨"LeftShoes", "law", "(III)J"⟩, prog_1_method_11_code, 4, some .long)
def m_Ls_makesAll : pMeth := (⟨"LeftShoes", "makesAll", "(III)Z"⟩, prog_1_method_22_code, 12, some .boolean)
def m_Ls_mint : pMeth := (⟨"LeftShoes", "mint", "(II)I"⟩, prog_1_method_20_code, 6, some .int)
def m_Ls_mostAgainst : pMeth := (⟨"LeftShoes", "mostAgainst", "(II)I"⟩, prog_1_method_30_code, 2, some .int)
def m_Ls_named : pMeth := (⟨"LeftShoes", "named", "(I)I"⟩, prog_1_method_6_code, 2, some .int)
def m_Ls_nextNumber : pMeth := (⟨"LeftShoes", "nextNumber", "(I)I"⟩, prog_1_method_45_code, 1, some .int)
def m_Ls_off : pMeth := (⟨"LeftShoes", "off", "(I)Z"⟩, prog_1_method_16_code, 2, some .boolean)
def m_Ls_on : pMeth := (⟨"LeftShoes", "on", "(I)Z"⟩, prog_1_method_15_code, 2, some .boolean)
def m_Ls_pair : pMeth := (⟨"LeftShoes", "pair", "(II)I"⟩, prog_1_method_10_code, 3, some .int)
def m_Ls_pairs : pMeth := (⟨"LeftShoes", "pairs", "()I"⟩, prog_1_method_23_code, 1, some .int)
def m_Ls_partner : pMeth := (⟨"LeftShoes", "partner", "(I)I"⟩, prog_1_method_24_code, 2, some .int)
def m_Ls_pay : pMeth := (⟨"LeftShoes", "pay", "(III)I"⟩, prog_1_method_12_code, 5, some .int)
def m_Ls_person : pMeth := (⟨"LeftShoes", "person", "(II)I"⟩, prog_1_method_8_code, 3, some .int)
def m_Ls_putBytes : pMeth := (⟨"LeftShoes", "putBytes", "(I)V"⟩, prog_1_method_3_code, 3, none)
def m_Ls_refused : pMeth := (⟨"LeftShoes", "refused", "()I"⟩, prog_1_method_18_code, 2, some .int)
def m_Ls_rest : pMeth := (⟨"LeftShoes", "rest", "(III)I"⟩, prog_1_method_27_code, 7, some .int)
def m_Ls_rests : pMeth := (⟨"LeftShoes", "rests", "(II)I"⟩, prog_1_method_26_code, 6, some .int)
def m_Ls_ring : pMeth := (⟨"LeftShoes", "ring", "()I"⟩, prog_1_method_42_code, 1, some .int)
def m_Ls_run : pMeth := (⟨"LeftShoes", "run", "(I)I"⟩, prog_1_method_31_code, 4, some .int)
def m_Ls_save : pMeth := (⟨"LeftShoes", "save", "(I)I"⟩, prog_1_method_32_code, 4, some .int)
def m_Ls_shoe : pMeth := (⟨"LeftShoes", "shoe", "(II)I"⟩, prog_1_method_7_code, 3, some .int)
def m_Ls_sizesUpTo : pMeth := (⟨"LeftShoes", "sizesUpTo", "(I)I"⟩, prog_1_method_21_code, 5, some .int)
def m_Ls_strike : pMeth := (⟨"LeftShoes", "strike", "(I)I"⟩, prog_1_method_38_code, 2, some .int)
def m_Ls_tells : pMeth := (⟨"LeftShoes", "tells", "(I)I"⟩, prog_1_method_41_code, 5, some .int)
def m_Ls_text : pMeth := (⟨"LeftShoes", "text", "(I)I"⟩, prog_1_method_4_code, 4, some .int)
def m_Ls_track : pMeth := (⟨"LeftShoes", "track", "(II)I"⟩, prog_1_method_37_code, 3, some .int)
def m_Ls_tried : pMeth := (⟨"LeftShoes", "tried", "(III)I"⟩, prog_1_method_46_code, 5, some .int)
def m_Ls_undo : pMeth := (⟨"LeftShoes", "undo", "()I"⟩, prog_1_method_48_code, 1, some .int)
def m_Ls_walk : pMeth := (⟨"LeftShoes", "walk", "(III)I"⟩, prog_1_method_25_code, 4, some .int)
def m_Ls_who : pMeth := (⟨"LeftShoes", "who", "()I"⟩, prog_1_method_40_code, 1, some .int)
def m_Cp_init : pMeth := (⟨"LeftShoes$Couples", "<init>", "()V"⟩, prog_2_method_1_code, 1, none)
def m_Cp_bestWith : pMeth := (⟨"LeftShoes$Couples", "bestWith", "(II)J"⟩, prog_2_method_5_code, 6, some .long)
def m_Cp_gather : pMeth := (⟨"LeftShoes$Couples", "gather", "(LLeftShoes$World;)V"⟩, prog_2_method_3_code, 3, none)
def m_Cp_match : pMeth := (⟨"LeftShoes$Couples", "match", "(LLeftShoes$World;)V"⟩, prog_2_method_2_code, 8, none)
def m_Cp_tell : pMeth := (⟨"LeftShoes$Couples", "tell", "(J)V"⟩, prog_2_method_6_code, 6, none)
def m_Cp_weight : pMeth := (⟨"LeftShoes$Couples", "weight", "(LLeftShoes$World;II)J"⟩, prog_2_method_4_code, 8, some .long)
def m_Hi_init : pMeth := (⟨"LeftShoes$History", "<init>", "()V"⟩, prog_3_method_1_code, 1, none)
def m_Hi_clear : pMeth := (⟨"LeftShoes$History", "clear", "()V"⟩, prog_3_method_2_code, 1, none)
def m_Hi_note : pMeth := (⟨"LeftShoes$History", "note", "(LLeftShoes$World;)V"⟩, prog_3_method_3_code, 2, none)
def m_Hi_recall : pMeth := (⟨"LeftShoes$History", "recall", "(LLeftShoes$World;)Z"⟩, prog_3_method_4_code, 2, some .boolean)
def m_La_init : pMeth := (⟨"LeftShoes$Laws", "<init>", "()V"⟩, prog_4_method_1_code, 1, none)
def m_La_clear : pMeth := (⟨"LeftShoes$Laws", "clear", "()V"⟩, prog_4_method_2_code, 2, none)
def m_La_close : pMeth := (⟨"LeftShoes$Laws", "close", "(I)V"⟩, prog_4_method_5_code, 2, none)
def m_La_isTold : pMeth := (⟨"LeftShoes$Laws", "isTold", "(I)Z"⟩, prog_4_method_3_code, 2, some .boolean)
def m_La_join : pMeth := (⟨"LeftShoes$Laws", "join", "(IJJ)J"⟩, prog_4_method_11_code, 9, some .long)
def m_La_nameAt : pMeth := (⟨"LeftShoes$Laws", "nameAt", "(I)J"⟩, prog_4_method_10_code, 2, some .long)
def m_La_open : pMeth := (⟨"LeftShoes$Laws", "open", "(I)V"⟩, prog_4_method_4_code, 2, none)
def m_La_put : pMeth := (⟨"LeftShoes$Laws", "put", "(II)V"⟩, prog_4_method_6_code, 3, none)
def m_La_setOwner : pMeth := (⟨"LeftShoes$Laws", "setOwner", "(III)V"⟩, prog_4_method_8_code, 4, none)
def m_La_setShoe : pMeth := (⟨"LeftShoes$Laws", "setShoe", "(IIII)V"⟩, prog_4_method_7_code, 5, none)
def m_La_valueOf : pMeth := (⟨"LeftShoes$Laws", "valueOf", "(I)J"⟩, prog_4_method_9_code, 7, some .long)
def m_Re_init : pMeth := (⟨"LeftShoes$Reader", "<init>", "()V"⟩, prog_5_method_1_code, 5, none)
def m_Re_advance : pMeth := (⟨"LeftShoes$Reader", "advance", "()V"⟩, prog_5_method_3_code, 1, none)
def m_Re_begin : pMeth := (⟨"LeftShoes$Reader", "begin", "([BI)V"⟩, prog_5_method_2_code, 3, none)
def m_Re_readNumber : pMeth := (⟨"LeftShoes$Reader", "readNumber", "()V"⟩, prog_5_method_5_code, 1, none)
def m_Re_readSign : pMeth := (⟨"LeftShoes$Reader", "readSign", "(II)V"⟩, prog_5_method_6_code, 4, none)
def m_Re_readWord : pMeth := (⟨"LeftShoes$Reader", "readWord", "()V"⟩, prog_5_method_4_code, 4, none)
def m_Sc_init : pMeth := (⟨"LeftShoes$Scribe", "<init>", "(LLeftShoes$Tale;)V"⟩, prog_6_method_1_code, 2, none)
def m_Sc_levelOf : pMeth := (⟨"LeftShoes$Scribe", "levelOf", "(I)I"⟩, prog_6_method_17_code, 1, some .int)
def m_Sc_lookAt : pMeth := (⟨"LeftShoes$Scribe", "lookAt", "(II)I"⟩, prog_6_method_7_code, 3, some .int)
def m_Sc_lookAtPerson : pMeth := (⟨"LeftShoes$Scribe", "lookAtPerson", "()I"⟩, prog_6_method_9_code, 2, some .int)
def m_Sc_readClaim : pMeth := (⟨"LeftShoes$Scribe", "readClaim", "()Z"⟩, prog_6_method_13_code, 2, some .boolean)
def m_Sc_readDebt : pMeth := (⟨"LeftShoes$Scribe", "readDebt", "()Z"⟩, prog_6_method_12_code, 4, some .boolean)
def m_Sc_readLaw : pMeth := (⟨"LeftShoes$Scribe", "readLaw", "()Z"⟩, prog_6_method_16_code, 3, some .boolean)
def m_Sc_readLevel : pMeth := (⟨"LeftShoes$Scribe", "readLevel", "(II)Z"⟩, prog_6_method_19_code, 6, some .boolean)
def m_Sc_readLine : pMeth := (⟨"LeftShoes$Scribe", "readLine", "()Z"⟩, prog_6_method_5_code, 1, some .boolean)
def m_Sc_readNots : pMeth := (⟨"LeftShoes$Scribe", "readNots", "(I)Z"⟩, prog_6_method_20_code, 4, some .boolean)
def m_Sc_readOperand : pMeth := (⟨"LeftShoes$Scribe", "readOperand", "(I)Z"⟩, prog_6_method_21_code, 5, some .boolean)
def m_Sc_readPerson : pMeth := (⟨"LeftShoes$Scribe", "readPerson", "()Z"⟩, prog_6_method_10_code, 2, some .boolean)
def m_Sc_readSeed : pMeth := (⟨"LeftShoes$Scribe", "readSeed", "()Z"⟩, prog_6_method_15_code, 1, some .boolean)
def m_Sc_readShoe : pMeth := (⟨"LeftShoes$Scribe", "readShoe", "()Z"⟩, prog_6_method_11_code, 2, some .boolean)
def m_Sc_readSwap : pMeth := (⟨"LeftShoes$Scribe", "readSwap", "()Z"⟩, prog_6_method_14_code, 10, some .boolean)
def m_Sc_refuse : pMeth := (⟨"LeftShoes$Scribe", "refuse", "(I)Z"⟩, prog_6_method_3_code, 2, some .boolean)
def m_Sc_take : pMeth := (⟨"LeftShoes$Scribe", "take", "(I)Z"⟩, prog_6_method_4_code, 2, some .boolean)
def m_Sc_takeKnot : pMeth := (⟨"LeftShoes$Scribe", "takeKnot", "()Z"⟩, prog_6_method_18_code, 1, some .boolean)
def m_Sc_takeNumber : pMeth := (⟨"LeftShoes$Scribe", "takeNumber", "(II)I"⟩, prog_6_method_6_code, 4, some .int)
def m_Sc_takeOneOf : pMeth := (⟨"LeftShoes$Scribe", "takeOneOf", "(II)I"⟩, prog_6_method_8_code, 4, some .int)
def m_Sc_write : pMeth := (⟨"LeftShoes$Scribe", "write", "([BILLeftShoes$Tale;)Z"⟩, prog_6_method_2_code, 4, some .boolean)
def m_St_init : pMeth := (⟨"LeftShoes$Stroll", "<init>", "(LLeftShoes$World;)V"⟩, prog_7_method_1_code, 2, none)
def m_St_goOn : pMeth := (⟨"LeftShoes$Stroll", "goOn", "(IIIII)V"⟩, prog_7_method_6_code, 7, none)
def m_St_plan : pMeth := (⟨"LeftShoes$Stroll", "plan", "(II)V"⟩, prog_7_method_2_code, 3, none)
def m_St_usedAfter : pMeth := (⟨"LeftShoes$Stroll", "usedAfter", "(III)I"⟩, prog_7_method_5_code, 4, some .int)
def m_St_usedNow : pMeth := (⟨"LeftShoes$Stroll", "usedNow", "(I)I"⟩, prog_7_method_3_code, 2, some .int)
def m_St_worthThen : pMeth := (⟨"LeftShoes$Stroll", "worthThen", "(II)I"⟩, prog_7_method_4_code, 3, some .int)
def m_Sw_init : pMeth := (⟨"LeftShoes$Swaps", "<init>", "()V"⟩, prog_8_method_1_code, 1, none)
def m_Sw_clear : pMeth := (⟨"LeftShoes$Swaps", "clear", "()V"⟩, prog_8_method_2_code, 2, none)
def m_Sw_findRing : pMeth := (⟨"LeftShoes$Swaps", "findRing", "()I"⟩, prog_8_method_3_code, 3, some .int)
def m_Sw_gains : pMeth := (⟨"LeftShoes$Swaps", "gains", "(IIIJJ)Z"⟩, prog_8_method_4_code, 11, some .boolean)
def m_Ta_init : pMeth := (⟨"LeftShoes$Tale", "<init>", "()V"⟩, prog_9_method_1_code, 1, none)
def m_Ta_clear : pMeth := (⟨"LeftShoes$Tale", "clear", "()V"⟩, prog_9_method_2_code, 2, none)
def m_Ta_hasPerson : pMeth := (⟨"LeftShoes$Tale", "hasPerson", "(I)Z"⟩, prog_9_method_3_code, 2, some .boolean)
def m_Ta_hasShoe : pMeth := (⟨"LeftShoes$Tale", "hasShoe", "(I)Z"⟩, prog_9_method_4_code, 2, some .boolean)
def m_Ta_personNamed : pMeth := (⟨"LeftShoes$Tale", "personNamed", "(I)I"⟩, prog_9_method_5_code, 3, some .int)
def m_Tr_init : pMeth := (⟨"LeftShoes$Tracks", "<init>", "()V"⟩, prog_10_method_1_code, 1, none)
def m_Tr_add : pMeth := (⟨"LeftShoes$Tracks", "add", "(II)I"⟩, prog_10_method_3_code, 3, some .int)
def m_Tr_clear : pMeth := (⟨"LeftShoes$Tracks", "clear", "()V"⟩, prog_10_method_2_code, 1, none)
def m_Tr_fitting : pMeth := (⟨"LeftShoes$Tracks", "fitting", "(LLeftShoes$World;III)I"⟩, prog_10_method_6_code, 8, some .int)
def m_Tr_knownBy : pMeth := (⟨"LeftShoes$Tracks", "knownBy", "()I"⟩, prog_10_method_4_code, 1, some .int)
def m_Tr_mostTelling : pMeth := (⟨"LeftShoes$Tracks", "mostTelling", "(LLeftShoes$World;)I"⟩, prog_10_method_7_code, 8, some .int)
def m_Tr_suspects : pMeth := (⟨"LeftShoes$Tracks", "suspects", "(LLeftShoes$World;)I"⟩, prog_10_method_5_code, 5, some .int)
def m_Wo_init : pMeth := (⟨"LeftShoes$World", "<init>", "(LLeftShoes$Tale;[I)V"⟩, prog_11_method_1_code, 3, none)
def m_Wo_arePair : pMeth := (⟨"LeftShoes$World", "arePair", "(II)Z"⟩, prog_11_method_5_code, 3, some .boolean)
def m_Wo_begin : pMeth := (⟨"LeftShoes$World", "begin", "(LLeftShoes$Tale;)V"⟩, prog_11_method_2_code, 3, none)
def m_Wo_bury : pMeth := (⟨"LeftShoes$World", "bury", "(I)V"⟩, prog_11_method_11_code, 2, none)
def m_Wo_copyFrom : pMeth := (⟨"LeftShoes$World", "copyFrom", "(LLeftShoes$World;)V"⟩, prog_11_method_3_code, 2, none)
def m_Wo_debtsThatAre : pMeth := (⟨"LeftShoes$World", "debtsThatAre", "(I)I"⟩, prog_11_method_15_code, 4, some .int)
def m_Wo_handOver : pMeth := (⟨"LeftShoes$World", "handOver", "(II)V"⟩, prog_11_method_12_code, 4, none)
def m_Wo_isThere : pMeth := (⟨"LeftShoes$World", "isThere", "(I)Z"⟩, prog_11_method_4_code, 2, some .boolean)
def m_Wo_isWorn : pMeth := (⟨"LeftShoes$World", "isWorn", "(I)Z"⟩, prog_11_method_6_code, 3, some .boolean)
def m_Wo_lawOf : pMeth := (⟨"LeftShoes$World", "lawOf", "(IIII)J"⟩, prog_11_method_16_code, 8, some .long)
def m_Wo_lawOfPair : pMeth := (⟨"LeftShoes$World", "lawOfPair", "(II)J"⟩, prog_11_method_17_code, 5, some .long)
def m_Wo_makeAllLeft : pMeth := (⟨"LeftShoes$World", "makeAllLeft", "()V"⟩, prog_11_method_13_code, 2, none)
def m_Wo_move : pMeth := (⟨"LeftShoes$World", "move", "(II)V"⟩, prog_11_method_10_code, 3, none)
def m_Wo_pairOf : pMeth := (⟨"LeftShoes$World", "pairOf", "(II)I"⟩, prog_11_method_23_code, 6, some .int)
def m_Wo_passDay : pMeth := (⟨"LeftShoes$World", "passDay", "()V"⟩, prog_11_method_27_code, 3, none)
def m_Wo_putOn : pMeth := (⟨"LeftShoes$World", "putOn", "(I)V"⟩, prog_11_method_8_code, 3, none)
def m_Wo_shoesFor : pMeth := (⟨"LeftShoes$World", "shoesFor", "(II)I"⟩, prog_11_method_26_code, 9, some .int)
def m_Wo_shoesOf : pMeth := (⟨"LeftShoes$World", "shoesOf", "(I)I"⟩, prog_11_method_14_code, 4, some .int)
def m_Wo_takeOff : pMeth := (⟨"LeftShoes$World", "takeOff", "(I)V"⟩, prog_11_method_7_code, 4, none)
def m_Wo_undress : pMeth := (⟨"LeftShoes$World", "undress", "(I)V"⟩, prog_11_method_9_code, 2, none)
def m_Wo_useMore : pMeth := (⟨"LeftShoes$World", "useMore", "(II)V"⟩, prog_11_method_29_code, 3, none)
def m_Wo_walkThroughMud : pMeth := (⟨"LeftShoes$World", "walkThroughMud", "()V"⟩, prog_11_method_28_code, 2, none)
def m_Wo_wearWhen : pMeth := (⟨"LeftShoes$World", "wearWhen", "(III)I"⟩, prog_11_method_22_code, 7, some .int)
def m_Wo_within : pMeth := (⟨"LeftShoes$World", "within", "(JI)I"⟩, prog_11_method_18_code, 3, some .int)
def m_Wo_worthOf : pMeth := (⟨"LeftShoes$World", "worthOf", "(I)I"⟩, prog_11_method_19_code, 2, some .int)
def m_Wo_worthOfAll : pMeth := (⟨"LeftShoes$World", "worthOfAll", "()I"⟩, prog_11_method_25_code, 3, some .int)
def m_Wo_worthOfFreshBoot : pMeth := (⟨"LeftShoes$World", "worthOfFreshBoot", "(I)I"⟩, prog_11_method_21_code, 4, some .int)
def m_Wo_worthOwned : pMeth := (⟨"LeftShoes$World", "worthOwned", "(I)I"⟩, prog_11_method_24_code, 4, some .int)
def m_Wo_worthWhen : pMeth := (⟨"LeftShoes$World", "worthWhen", "(III)I"⟩, prog_11_method_20_code, 7, some .int)
def m_Mo_init : pMeth := (⟨"LeftShoesModel", "<init>", "()V"⟩, prog_13_method_1_code, 1, none)
def m_Mo_aDay : pMeth := (⟨"LeftShoesModel", "aDay", "(I)V"⟩, prog_13_method_80_code, 5, none)
def m_Mo_allWorth : pMeth := (⟨"LeftShoesModel", "allWorth", "(I)I"⟩, prog_13_method_121_code, 4, some .int)
def m_Mo_areClaims : pMeth := (⟨"LeftShoesModel", "areClaims", "(I)Z"⟩, prog_13_method_99_code, 3, some .boolean)
def m_Mo_areHalves : pMeth := (⟨"LeftShoesModel", "areHalves", "(II)Z"⟩, prog_13_method_95_code, 3, some .boolean)
def m_Mo_arePair : pMeth := (⟨"LeftShoesModel", "arePair", "(II)Z"⟩, prog_13_method_68_code, 3, some .boolean)
def m_Mo_back : pMeth := (⟨"LeftShoesModel", "back", "()I"⟩, prog_13_method_128_code, 2, some .int)
def m_Mo_begin : pMeth := (⟨"LeftShoesModel", "begin", "()V"⟩, prog_13_method_46_code, 2, none)
def m_Mo_bind : pMeth := (⟨"LeftShoesModel", "bind", "(I)V"⟩, prog_13_method_35_code, 5, none)
def m_Mo_boundLaw : pMeth := (⟨"LeftShoesModel", "boundLaw", "(III)I"⟩, prog_13_method_54_code, 6, some .int)
def m_Mo_bounded : pMeth := (⟨"LeftShoesModel", "bounded", "(J)J"⟩, prog_13_method_42_code, 3, some .long)
def m_Mo_chance : pMeth := (⟨"LeftShoesModel", "chance", "(IIII)I"⟩, prog_13_method_120_code, 8, some .int)
def m_Mo_chances : pMeth := (⟨"LeftShoesModel", "chances", "()V"⟩, prog_13_method_119_code, 3, none)
def m_Mo_change : pMeth := (⟨"LeftShoesModel", "change", "(II)I"⟩, prog_13_method_75_code, 4, some .int)
def m_Mo_changeOf : pMeth := (⟨"LeftShoesModel", "changeOf", "(III)I"⟩, prog_13_method_72_code, 10, some .int)
def m_Mo_claimLine : pMeth := (⟨"LeftShoesModel", "claimLine", "()Z"⟩, prog_13_method_26_code, 3, some .boolean)
def m_Mo_compares : pMeth := (⟨"LeftShoesModel", "compares", "(IJJ)Z"⟩, prog_13_method_43_code, 5, some .boolean)
def m_Mo_copies : pMeth := (⟨"LeftShoesModel", "copies", "([II)V"⟩, prog_13_method_18_code, 3, none)
def m_Mo_count : pMeth := (⟨"LeftShoesModel", "count", "(I)I"⟩, prog_13_method_130_code, 2, some .int)
def m_Mo_days : pMeth := (⟨"LeftShoesModel", "days", "(I)I"⟩, prog_13_method_81_code, 3, some .int)
def m_Mo_debt : pMeth := (⟨"LeftShoesModel", "debt", "(II)I"⟩, prog_13_method_67_code, 3, some .int)
def m_Mo_debtLine : pMeth := (⟨"LeftShoesModel", "debtLine", "()Z"⟩, prog_13_method_25_code, 3, some .boolean)
def m_Mo_dropHeld : pMeth := (⟨"LeftShoesModel", "dropHeld", "()I"⟩, prog_13_method_34_code, 1, some .int)
def m_Mo_fails : pMeth := (⟨"LeftShoesModel", "fails", "(I)I"⟩, prog_13_method_63_code, 2, some .int)
def m_Mo_fault : pMeth := (⟨"LeftShoesModel", "fault", "(I)I"⟩, prog_13_method_30_code, 2, some .int)
def m_Mo_feed : pMeth := (⟨"LeftShoesModel", "feed", "(IIIII)I"⟩, prog_13_method_3_code, 8, some .int)
def m_Mo_find : pMeth := (⟨"LeftShoesModel", "find", "([IIII)I"⟩, prog_13_method_20_code, 5, some .int)
def m_Mo_give : pMeth := (⟨"LeftShoesModel", "give", "(II)Z"⟩, prog_13_method_76_code, 3, some .boolean)
def m_Mo_goes : pMeth := (⟨"LeftShoesModel", "goes", "(III)V"⟩, prog_13_method_62_code, 4, none)
def m_Mo_good : pMeth := (⟨"LeftShoesModel", "good", "(I)I"⟩, prog_13_method_117_code, 2, some .int)
def m_Mo_grown : pMeth := (⟨"LeftShoesModel", "grown", "(III)V"⟩, prog_13_method_33_code, 4, none)
def m_Mo_hasOf : pMeth := (⟨"LeftShoesModel", "hasOf", "(III)I"⟩, prog_13_method_93_code, 3, some .int)
def m_Mo_isCounted : pMeth := (⟨"LeftShoesModel", "isCounted", "()Z"⟩, prog_13_method_36_code, 1, some .boolean)
def m_Mo_isDigit : pMeth := (⟨"LeftShoesModel", "isDigit", "(I)Z"⟩, prog_13_method_9_code, 2, some .boolean)
def m_Mo_isIn : pMeth := (⟨"LeftShoesModel", "isIn", "(III)Z"⟩, prog_13_method_4_code, 3, some .boolean)
def m_Mo_isKey : pMeth := (⟨"LeftShoesModel", "isKey", "(I)Z"⟩, prog_13_method_13_code, 2, some .boolean)
def m_Mo_isMinted : pMeth := (⟨"LeftShoesModel", "isMinted", "(III)Z"⟩, prog_13_method_83_code, 7, some .boolean)
def m_Mo_isOf : pMeth := (⟨"LeftShoesModel", "isOf", "(II)Z"⟩, prog_13_method_5_code, 2, some .boolean)
def m_Mo_isPerson : pMeth := (⟨"LeftShoesModel", "isPerson", "(I)Z"⟩, prog_13_method_48_code, 2, some .boolean)
def m_Mo_isRest : pMeth := (⟨"LeftShoesModel", "isRest", "(III)Z"⟩, prog_13_method_94_code, 4, some .boolean)
def m_Mo_isRing : pMeth := (⟨"LeftShoesModel", "isRing", "(I)Z"⟩, prog_13_method_113_code, 8, some .boolean)
def m_Mo_isShoe : pMeth := (⟨"LeftShoesModel", "isShoe", "(I)Z"⟩, prog_13_method_49_code, 2, some .boolean)
def m_Mo_isSign : pMeth := (⟨"LeftShoesModel", "isSign", "(I)Z"⟩, prog_13_method_14_code, 2, some .boolean)
def m_Mo_isSmall : pMeth := (⟨"LeftShoesModel", "isSmall", "(I)Z"⟩, prog_13_method_8_code, 2, some .boolean)
def m_Mo_isThere : pMeth := (⟨"LeftShoesModel", "isThere", "(I)Z"⟩, prog_13_method_50_code, 2, some .boolean)
def m_Mo_isTrackOf : pMeth := (⟨"LeftShoesModel", "isTrackOf", "(III)Z"⟩, prog_13_method_108_code, 5, some .boolean)
def m_Mo_isWorn : pMeth := (⟨"LeftShoesModel", "isWorn", "(II)Z"⟩, prog_13_method_60_code, 4, some .boolean)
def m_Mo_keep : pMeth := (⟨"LeftShoesModel", "keep", "()I"⟩, prog_13_method_127_code, 2, some .int)
def m_Mo_keepText : pMeth := (⟨"LeftShoesModel", "keepText", "()V"⟩, prog_13_method_19_code, 2, none)
def m_Mo_known : pMeth := (⟨"LeftShoesModel", "known", "(I)Z"⟩, prog_13_method_106_code, 2, some .boolean)
def m_Mo_knownBy : pMeth := (⟨"LeftShoesModel", "knownBy", "()I"⟩, prog_13_method_107_code, 1, some .int)
def m_Mo_law : pMeth := (⟨"LeftShoesModel", "law", "(III)J"⟩, prog_13_method_70_code, 7, some .long)
def m_Mo_lawOf : pMeth := (⟨"LeftShoesModel", "lawOf", "(I)J"⟩, prog_13_method_53_code, 3, some .long)
def m_Mo_layHalf : pMeth := (⟨"LeftShoesModel", "layHalf", "(III)V"⟩, prog_13_method_71_code, 10, none)
def m_Mo_layNames : pMeth := (⟨"LeftShoesModel", "layNames", "(IIII)V"⟩, prog_13_method_52_code, 5, none)
def m_Mo_layPair : pMeth := (⟨"LeftShoesModel", "layPair", "(II)V"⟩, prog_13_method_58_code, 4, none)
def m_Mo_layPairs : pMeth := (⟨"LeftShoesModel", "layPairs", "()V"⟩, prog_13_method_87_code, 5, none)
def m_Mo_layRing : pMeth := (⟨"LeftShoesModel", "layRing", "()V"⟩, prog_13_method_115_code, 5, none)
def m_Mo_layTried : pMeth := (⟨"LeftShoesModel", "layTried", "()V"⟩, prog_13_method_47_code, 2, none)
def m_Mo_layWalk : pMeth := (⟨"LeftShoesModel", "layWalk", "(II)V"⟩, prog_13_method_91_code, 9, none)
def m_Mo_leafRead : pMeth := (⟨"LeftShoesModel", "leafRead", "()Z"⟩, prog_13_method_39_code, 2, some .boolean)
def m_Mo_lineRead : pMeth := (⟨"LeftShoesModel", "lineRead", "()Z"⟩, prog_13_method_28_code, 3, some .boolean)
def m_Mo_manyDebts : pMeth := (⟨"LeftShoesModel", "manyDebts", "(I)I"⟩, prog_13_method_129_code, 4, some .int)
def m_Mo_manyOf : pMeth := (⟨"LeftShoesModel", "manyOf", "(I)I"⟩, prog_13_method_84_code, 3, some .int)
def m_Mo_mint : pMeth := (⟨"LeftShoesModel", "mint", "(II)I"⟩, prog_13_method_85_code, 5, some .int)
def m_Mo_mostBy : pMeth := (⟨"LeftShoesModel", "mostBy", "(II)I"⟩, prog_13_method_86_code, 9, some .int)
def m_Mo_nameMet : pMeth := (⟨"LeftShoesModel", "nameMet", "()I"⟩, prog_13_method_38_code, 1, some .int)
def m_Mo_named : pMeth := (⟨"LeftShoesModel", "named", "(I)I"⟩, prog_13_method_31_code, 2, some .int)
def m_Mo_number : pMeth := (⟨"LeftShoesModel", "number", "(II)Z"⟩, prog_13_method_15_code, 3, some .boolean)
def m_Mo_number1 : pMeth := (⟨"LeftShoesModel", "number1", "(I)I"⟩, prog_13_method_118_code, 2, some .int)
def m_Mo_ofOne : pMeth := (⟨"LeftShoesModel", "ofOne", "(III)I"⟩, prog_13_method_65_code, 6, some .int)
def m_Mo_off : pMeth := (⟨"LeftShoesModel", "off", "(I)Z"⟩, prog_13_method_78_code, 2, some .boolean)
def m_Mo_on : pMeth := (⟨"LeftShoesModel", "on", "(I)Z"⟩, prog_13_method_77_code, 2, some .boolean)
def m_Mo_packed : pMeth := (⟨"LeftShoesModel", "packed", "(II)I"⟩, prog_13_method_12_code, 5, some .int)
def m_Mo_pair : pMeth := (⟨"LeftShoesModel", "pair", "(II)I"⟩, prog_13_method_69_code, 3, some .int)
def m_Mo_pairOf : pMeth := (⟨"LeftShoesModel", "pairOf", "(II)I"⟩, prog_13_method_59_code, 3, some .int)
def m_Mo_pairs : pMeth := (⟨"LeftShoesModel", "pairs", "()I"⟩, prog_13_method_88_code, 1, some .int)
def m_Mo_partner : pMeth := (⟨"LeftShoesModel", "partner", "(I)I"⟩, prog_13_method_89_code, 2, some .int)
def m_Mo_pay : pMeth := (⟨"LeftShoesModel", "pay", "(III)I"⟩, prog_13_method_74_code, 4, some .int)
def m_Mo_pays : pMeth := (⟨"LeftShoesModel", "pays", "(IIII)I"⟩, prog_13_method_73_code, 7, some .int)
def m_Mo_person : pMeth := (⟨"LeftShoesModel", "person", "(II)I"⟩, prog_13_method_66_code, 3, some .int)
def m_Mo_personLine : pMeth := (⟨"LeftShoesModel", "personLine", "()Z"⟩, prog_13_method_23_code, 2, some .boolean)
def m_Mo_personRead : pMeth := (⟨"LeftShoesModel", "personRead", "()Z"⟩, prog_13_method_21_code, 2, some .boolean)
def m_Mo_pick : pMeth := (⟨"LeftShoesModel", "pick", "(II)Z"⟩, prog_13_method_22_code, 4, some .boolean)
def m_Mo_plain : pMeth := (⟨"LeftShoesModel", "plain", "()V"⟩, prog_13_method_17_code, 2, none)
def m_Mo_powerOf : pMeth := (⟨"LeftShoesModel", "powerOf", "(I)I"⟩, prog_13_method_114_code, 3, some .int)
def m_Mo_put : pMeth := (⟨"LeftShoesModel", "put", "([II)V"⟩, prog_13_method_123_code, 4, none)
def m_Mo_rank : pMeth := (⟨"LeftShoesModel", "rank", "(I)I"⟩, prog_13_method_32_code, 1, some .int)
def m_Mo_rateOf : pMeth := (⟨"LeftShoesModel", "rateOf", "(II)I"⟩, prog_13_method_112_code, 4, some .int)
def m_Mo_refused : pMeth := (⟨"LeftShoesModel", "refused", "()I"⟩, prog_13_method_82_code, 2, some .int)
def m_Mo_remember : pMeth := (⟨"LeftShoesModel", "remember", "()V"⟩, prog_13_method_125_code, 2, none)
def m_Mo_rest : pMeth := (⟨"LeftShoesModel", "rest", "(III)I"⟩, prog_13_method_98_code, 4, some .int)
def m_Mo_restAt : pMeth := (⟨"LeftShoesModel", "restAt", "(III)I"⟩, prog_13_method_96_code, 7, some .int)
def m_Mo_rests : pMeth := (⟨"LeftShoesModel", "rests", "(II)I"⟩, prog_13_method_97_code, 3, some .int)
def m_Mo_ring : pMeth := (⟨"LeftShoesModel", "ring", "()I"⟩, prog_13_method_116_code, 1, some .int)
def m_Mo_run : pMeth := (⟨"LeftShoesModel", "run", "(I)I"⟩, prog_13_method_101_code, 2, some .int)
def m_Mo_runOf : pMeth := (⟨"LeftShoesModel", "runOf", "(II)I"⟩, prog_13_method_100_code, 8, some .int)
def m_Mo_save : pMeth := (⟨"LeftShoesModel", "save", "(I)I"⟩, prog_13_method_102_code, 3, some .int)
def m_Mo_shoe : pMeth := (⟨"LeftShoesModel", "shoe", "(II)I"⟩, prog_13_method_64_code, 3, some .int)
def m_Mo_shoeLine : pMeth := (⟨"LeftShoesModel", "shoeLine", "()Z"⟩, prog_13_method_24_code, 2, some .boolean)
def m_Mo_sideNow : pMeth := (⟨"LeftShoesModel", "sideNow", "(I)I"⟩, prog_13_method_51_code, 2, some .int)
def m_Mo_signToken : pMeth := (⟨"LeftShoesModel", "signToken", "()V"⟩, prog_13_method_11_code, 4, none)
def m_Mo_signs : pMeth := (⟨"LeftShoesModel", "signs", "()Z"⟩, prog_13_method_40_code, 2, some .boolean)
def m_Mo_strike : pMeth := (⟨"LeftShoesModel", "strike", "(I)I"⟩, prog_13_method_105_code, 2, some .int)
def m_Mo_sumRead : pMeth := (⟨"LeftShoesModel", "sumRead", "()Z"⟩, prog_13_method_41_code, 1, some .boolean)
def m_Mo_swapLine : pMeth := (⟨"LeftShoesModel", "swapLine", "()Z"⟩, prog_13_method_27_code, 5, some .boolean)
def m_Mo_take : pMeth := (⟨"LeftShoesModel", "take", "([II)V"⟩, prog_13_method_124_code, 4, none)
def m_Mo_takeOff : pMeth := (⟨"LeftShoesModel", "takeOff", "(II)V"⟩, prog_13_method_61_code, 4, none)
def m_Mo_tells : pMeth := (⟨"LeftShoesModel", "tells", "(I)I"⟩, prog_13_method_111_code, 8, some .int)
def m_Mo_text : pMeth := (⟨"LeftShoesModel", "text", "(I)I"⟩, prog_13_method_29_code, 3, some .int)
def m_Mo_thrown : pMeth := (⟨"LeftShoesModel", "thrown", "()I"⟩, prog_13_method_2_code, 1, some .int)
def m_Mo_times : pMeth := (⟨"LeftShoesModel", "times", "(JJ)J"⟩, prog_13_method_44_code, 6, some .long)
def m_Mo_token : pMeth := (⟨"LeftShoesModel", "token", "()V"⟩, prog_13_method_10_code, 1, none)
def m_Mo_track : pMeth := (⟨"LeftShoesModel", "track", "(II)I"⟩, prog_13_method_104_code, 3, some .int)
def m_Mo_tracked : pMeth := (⟨"LeftShoesModel", "tracked", "(II)I"⟩, prog_13_method_103_code, 3, some .int)
def m_Mo_tried : pMeth := (⟨"LeftShoesModel", "tried", "(III)I"⟩, prog_13_method_122_code, 5, some .int)
def m_Mo_undo : pMeth := (⟨"LeftShoesModel", "undo", "()I"⟩, prog_13_method_126_code, 1, some .int)
def m_Mo_valueOf : pMeth := (⟨"LeftShoesModel", "valueOf", "(I)J"⟩, prog_13_method_45_code, 6, some .long)
def m_Mo_waitsFor : pMeth := (⟨"LeftShoesModel", "waitsFor", "(I)V"⟩, prog_13_method_37_code, 2, none)
def m_Mo_walk : pMeth := (⟨"LeftShoesModel", "walk", "(III)I"⟩, prog_13_method_92_code, 4, some .int)
def m_Mo_wearBy : pMeth := (⟨"LeftShoesModel", "wearBy", "(IIII)I"⟩, prog_13_method_57_code, 5, some .int)
def m_Mo_wears : pMeth := (⟨"LeftShoesModel", "wears", "(III)V"⟩, prog_13_method_79_code, 4, none)
def m_Mo_who : pMeth := (⟨"LeftShoesModel", "who", "()I"⟩, prog_13_method_110_code, 1, some .int)
def m_Mo_whoBits : pMeth := (⟨"LeftShoesModel", "whoBits", "()I"⟩, prog_13_method_109_code, 5, some .int)
def m_Mo_wordAt : pMeth := (⟨"LeftShoesModel", "wordAt", "(II)I"⟩, prog_13_method_7_code, 8, some .int)
def m_Mo_worthBehind : pMeth := (⟨"LeftShoesModel", "worthBehind", "(IIII)I"⟩, prog_13_method_90_code, 7, some .int)
def m_Mo_worthBy : pMeth := (⟨"LeftShoesModel", "worthBy", "(IIII)I"⟩, prog_13_method_55_code, 6, some .int)
def m_Mo_worthOf : pMeth := (⟨"LeftShoesModel", "worthOf", "(II)I"⟩, prog_13_method_56_code, 3, some .int)
def m_Mo_wrong : pMeth := (⟨"LeftShoesModel", "wrong", "(I)Z"⟩, prog_13_method_6_code, 2, some .boolean)
def m_In_bitCount : pMeth := (⟨"java/lang/Integer", "bitCount", "(I)I"⟩, prog_19_method_49_code, 1, some .int)
def m_Ma_abs : pMeth := (⟨"java/lang/Math", "abs", "(I)I"⟩, prog_20_method_59_code, 1, some .int)
def m_Ma_max : pMeth := (⟨"java/lang/Math", "max", "(II)I"⟩, prog_20_method_65_code, 2, some .int)
def m_Ma_maxJ : pMeth := (⟨"java/lang/Math", "max", "(JJ)J"⟩, prog_20_method_66_code, 4, some .long)
def m_Ma_min : pMeth := (⟨"java/lang/Math", "min", "(II)I"⟩, prog_20_method_69_code, 2, some .int)
def m_Ma_minJ : pMeth := (⟨"java/lang/Math", "min", "(JJ)J"⟩, prog_20_method_70_code, 4, some .long)
theorem ini_Ls : Cond.initialized "LeftShoes" ∈ lw_g := (pG (inT1 _ (List.mem_of_getElem? (i := 1) rfl)) rfl)
theorem ini_Cp : Cond.initialized "LeftShoes$Couples" ∈ lw_g := (pG (inT1 _ (List.mem_of_getElem? (i := 14) rfl)) rfl)
theorem ini_Hi : Cond.initialized "LeftShoes$History" ∈ lw_g := (pG (inT1 _ (List.mem_of_getElem? (i := 12) rfl)) rfl)
theorem ini_La : Cond.initialized "LeftShoes$Laws" ∈ lw_g := (pG (inT1 _ (List.mem_of_getElem? (i := 4) rfl)) rfl)
theorem ini_Re : Cond.initialized "LeftShoes$Reader" ∈ lw_g := (pG (inT1 _ (List.mem_of_getElem? (i := 6) rfl)) rfl)
theorem ini_Sc : Cond.initialized "LeftShoes$Scribe" ∈ lw_g := (pG (inT1 _ (List.mem_of_getElem? (i := 5) rfl)) rfl)
theorem ini_St : Cond.initialized "LeftShoes$Stroll" ∈ lw_g := (pG (inT1 _ (List.mem_of_getElem? (i := 15) rfl)) rfl)
theorem ini_Sw : Cond.initialized "LeftShoes$Swaps" ∈ lw_g := (pG (inT1 _ (List.mem_of_getElem? (i := 3) rfl)) rfl)
theorem ini_Ta : Cond.initialized "LeftShoes$Tale" ∈ lw_g := (pG (inT1 _ (List.mem_of_getElem? (i := 2) rfl)) rfl)
theorem ini_Tr : Cond.initialized "LeftShoes$Tracks" ∈ lw_g := (pG (inT1 _ (List.mem_of_getElem? (i := 13) rfl)) rfl)
theorem ini_Wo : Cond.initialized "LeftShoes$World" ∈ lw_g := (pG (inT1 _ (List.mem_of_getElem? (i := 11) rfl)) rfl)
theorem ini_Mo : Cond.initialized "LeftShoesModel" ∈ lw_g := (pG (inT1 _ (List.mem_of_getElem? (i := 16) rfl)) rfl)
theorem ini_In : Cond.initialized "java/lang/Integer" ∈ lw_g := (pG (inT1 _ (List.mem_of_getElem? (i := 23) rfl)) rfl)
theorem ini_Ma : Cond.initialized "java/lang/Math" ∈ lw_g := (pG (inT1 _ (List.mem_of_getElem? (i := 17) rfl)) rfl)
theorem ok_Ls_init : pOkI m_Ls_init := ⟨(pG (inT1 _ (List.mem_of_getElem? (i := 28) rfl)) rfl), rfl, ini_Ls, (pG (inT1 _ (List.mem_of_getElem? (i := 29) rfl)) rfl), ⟨by decide +kernel, by decide +kernel⟩, by decide⟩
theorem ok_Ls_allHaveClaims : pOkV m_Ls_allHaveClaims := ⟨(pG (inT5 _ (List.mem_of_getElem? (i := 50) rfl)) rfl), (pG (inP _ (List.mem_of_getElem? (i := 35) rfl)) rfl), ini_Ls, (pG (inT5 _ (List.mem_of_getElem? (i := 51) rfl)) rfl), ⟨by decide +kernel, by decide +kernel⟩, by decide⟩
theorem ok_Ls_areHalves : pOkV m_Ls_areHalves := ⟨(pG (inT5 _ (List.mem_of_getElem? (i := 30) rfl)) rfl), (pG (inP _ (List.mem_of_getElem? (i := 34) rfl)) rfl), ini_Ls, (pG (inT5 _ (List.mem_of_getElem? (i := 31) rfl)) rfl), ⟨by decide +kernel, by decide +kernel⟩, by decide⟩
theorem ok_Ls_back : pOkV m_Ls_back := ⟨(pG (inT5 _ (List.mem_of_getElem? (i := 183) rfl)) rfl), (pG (inT5 _ (List.mem_of_getElem? (i := 184) rfl)) rfl), ini_Ls, (pG (inT5 _ (List.mem_of_getElem? (i := 185) rfl)) rfl), ⟨by decide +kernel, by decide +kernel⟩, by decide⟩
theorem ok_Ls_bankShoes : pOkV m_Ls_bankShoes := ⟨(pG (inT5 _ (List.mem_of_getElem? (i := 54) rfl)) rfl), (pG (inP _ (List.mem_of_getElem? (i := 36) rfl)) rfl), ini_Ls, (pG (inT5 _ (List.mem_of_getElem? (i := 55) rfl)) rfl), ⟨by decide +kernel, by decide +kernel⟩, by decide⟩
theorem ok_Ls_canTry : pOkV m_Ls_canTry := ⟨(pG (inT5 _ (List.mem_of_getElem? (i := 155) rfl)) rfl), (pG (inP _ (List.mem_of_getElem? (i := 40) rfl)) rfl), ini_Ls, (pG (inT5 _ (List.mem_of_getElem? (i := 156) rfl)) rfl), ⟨by decide +kernel, by decide +kernel⟩, by decide⟩
theorem ok_Ls_chance : pOkV m_Ls_chance := ⟨(pG (inT5 _ (List.mem_of_getElem? (i := 129) rfl)) rfl), (pG (inT5 _ (List.mem_of_getElem? (i := 130) rfl)) rfl), ini_Ls, (pG (inT5 _ (List.mem_of_getElem? (i := 131) rfl)) rfl), ⟨by decide +kernel, by decide +kernel⟩, by decide⟩
theorem ok_Ls_change : pOkV m_Ls_change := ⟨(pG (inT4 _ (List.mem_of_getElem? (i := 184) rfl)) rfl), (pG (inT4 _ (List.mem_of_getElem? (i := 185) rfl)) rfl), ini_Ls, (pG (inT4 _ (List.mem_of_getElem? (i := 186) rfl)) rfl), ⟨by decide +kernel, by decide +kernel⟩, by decide⟩
theorem ok_Ls_claimed : pOkV m_Ls_claimed := ⟨(pG (inT5 _ (List.mem_of_getElem? (i := 58) rfl)) rfl), (pG (inP _ (List.mem_of_getElem? (i := 37) rfl)) rfl), ini_Ls, (pG (inT5 _ (List.mem_of_getElem? (i := 59) rfl)) rfl), ⟨by decide +kernel, by decide +kernel⟩, by decide⟩
theorem ok_Ls_count : pOkV m_Ls_count := ⟨(pG (inT5 _ (List.mem_of_getElem? (i := 187) rfl)) rfl), (pG (inT5 _ (List.mem_of_getElem? (i := 188) rfl)) rfl), ini_Ls, (pG (inT5 _ (List.mem_of_getElem? (i := 189) rfl)) rfl), ⟨by decide +kernel, by decide +kernel⟩, by decide⟩
theorem ok_Ls_days : pOkV m_Ls_days := ⟨(pG (inT4 _ (List.mem_of_getElem? (i := 158) rfl)) rfl), (pG (inT4 _ (List.mem_of_getElem? (i := 159) rfl)) rfl), ini_Ls, (pG (inT4 _ (List.mem_of_getElem? (i := 160) rfl)) rfl), ⟨by decide +kernel, by decide +kernel⟩, by decide⟩
theorem ok_Ls_debt : pOkV m_Ls_debt := ⟨(pG (inT4 _ (List.mem_of_getElem? (i := 70) rfl)) rfl), (pG (inT4 _ (List.mem_of_getElem? (i := 71) rfl)) rfl), ini_Ls, (pG (inT4 _ (List.mem_of_getElem? (i := 72) rfl)) rfl), ⟨by decide +kernel, by decide +kernel⟩, by decide⟩
theorem ok_Ls_fault : pOkV m_Ls_fault := ⟨(pG (inT3 _ (List.mem_of_getElem? (i := 224) rfl)) rfl), (pG (inT3 _ (List.mem_of_getElem? (i := 225) rfl)) rfl), ini_Ls, (pG (inT3 _ (List.mem_of_getElem? (i := 226) rfl)) rfl), ⟨by decide +kernel, by decide +kernel⟩, by decide⟩
theorem ok_Ls_feed : pOkV m_Ls_feed := ⟨(pG (inT3 _ (List.mem_of_getElem? (i := 60) rfl)) rfl), (pG (inT3 _ (List.mem_of_getElem? (i := 61) rfl)) rfl), ini_Ls, (pG (inT3 _ (List.mem_of_getElem? (i := 62) rfl)) rfl), ⟨by decide +kernel, by decide +kernel⟩, by decide⟩
theorem ok_Ls_frightened : pOkV m_Ls_frightened := ⟨(pG (inT5 _ (List.mem_of_getElem? (i := 62) rfl)) rfl), (pG (inP _ (List.mem_of_getElem? (i := 38) rfl)) rfl), ini_Ls, (pG (inT5 _ (List.mem_of_getElem? (i := 63) rfl)) rfl), ⟨by decide +kernel, by decide +kernel⟩, by decide⟩
theorem ok_Ls_give : pOkV m_Ls_give := ⟨(pG (inT4 _ (List.mem_of_getElem? (i := 136) rfl)) rfl), (pG (inT4 _ (List.mem_of_getElem? (i := 137) rfl)) rfl), ini_Ls, (pG (inT4 _ (List.mem_of_getElem? (i := 138) rfl)) rfl), ⟨by decide +kernel, by decide +kernel⟩, by decide⟩
theorem ok_Ls_good : pOkV m_Ls_good := ⟨(pG (inT5 _ (List.mem_of_getElem? (i := 125) rfl)) rfl), (pG (inT5 _ (List.mem_of_getElem? (i := 126) rfl)) rfl), ini_Ls, (pG (inT5 _ (List.mem_of_getElem? (i := 127) rfl)) rfl), ⟨by decide +kernel, by decide +kernel⟩, by decide⟩
theorem ok_Ls_isPrice : pOkS m_Ls_isPrice := ⟨(pG (inT4 _ (List.mem_of_getElem? (i := 105) rfl)) rfl), ini_Ls, (pG (inT4 _ (List.mem_of_getElem? (i := 106) rfl)) rfl), ⟨by decide +kernel, by decide +kernel⟩, by decide⟩
theorem ok_Ls_isRest : pOkS m_Ls_isRest := ⟨(pG (inT5 _ (List.mem_of_getElem? (i := 33) rfl)) rfl), ini_Ls, (pG (inT5 _ (List.mem_of_getElem? (i := 34) rfl)) rfl), ⟨by decide +kernel, by decide +kernel⟩, by decide⟩
theorem ok_Ls_keep : pOkV m_Ls_keep := ⟨(pG (inT5 _ (List.mem_of_getElem? (i := 179) rfl)) rfl), (pG (inT5 _ (List.mem_of_getElem? (i := 180) rfl)) rfl), ini_Ls, (pG (inT5 _ (List.mem_of_getElem? (i := 181) rfl)) rfl), ⟨by decide +kernel, by decide +kernel⟩, by decide⟩
theorem ok_Ls_known : pOkV m_Ls_known := ⟨(pG (inT5 _ (List.mem_of_getElem? (i := 81) rfl)) rfl), (pG (inT5 _ (List.mem_of_getElem? (i := 82) rfl)) rfl), ini_Ls, (pG (inT5 _ (List.mem_of_getElem? (i := 83) rfl)) rfl), ⟨by decide +kernel, by decide +kernel⟩, by decide⟩
theorem ok_Ls_law : pOkV m_Ls_law := ⟨(pG (inT4 _ (List.mem_of_getElem? (i := 93) rfl)) rfl), (pG (inT4 _ (List.mem_of_getElem? (i := 94) rfl)) rfl), ini_Ls, (pG (inT4 _ (List.mem_of_getElem? (i := 95) rfl)) rfl), ⟨by decide +kernel, by decide +kernel⟩, by decide⟩
theorem ok_Ls_makesAll : pOkV m_Ls_makesAll := ⟨(pG (inT4 _ (List.mem_of_getElem? (i := 201) rfl)) rfl), (pG (inP _ (List.mem_of_getElem? (i := 25) rfl)) rfl), ini_Ls, (pG (inT4 _ (List.mem_of_getElem? (i := 202) rfl)) rfl), ⟨by decide +kernel, by decide +kernel⟩, by decide⟩
theorem ok_Ls_mint : pOkV m_Ls_mint := ⟨(pG (inT4 _ (List.mem_of_getElem? (i := 188) rfl)) rfl), (pG (inT4 _ (List.mem_of_getElem? (i := 189) rfl)) rfl), ini_Ls, (pG (inT4 _ (List.mem_of_getElem? (i := 190) rfl)) rfl), ⟨by decide +kernel, by decide +kernel⟩, by decide⟩
theorem ok_Ls_mostAgainst : pOkS m_Ls_mostAgainst := ⟨(pG (inT5 _ (List.mem_of_getElem? (i := 36) rfl)) rfl), ini_Ls, (pG (inT5 _ (List.mem_of_getElem? (i := 37) rfl)) rfl), ⟨by decide +kernel, by decide +kernel⟩, by decide⟩
theorem ok_Ls_named : pOkV m_Ls_named := ⟨(pG (inT3 _ (List.mem_of_getElem? (i := 228) rfl)) rfl), (pG (inT3 _ (List.mem_of_getElem? (i := 229) rfl)) rfl), ini_Ls, (pG (inT3 _ (List.mem_of_getElem? (i := 230) rfl)) rfl), ⟨by decide +kernel, by decide +kernel⟩, by decide⟩
theorem ok_Ls_nextNumber : pOkS m_Ls_nextNumber := ⟨(pG (inT5 _ (List.mem_of_getElem? (i := 138) rfl)) rfl), ini_Ls, (pG (inT5 _ (List.mem_of_getElem? (i := 139) rfl)) rfl), ⟨by decide +kernel, by decide +kernel⟩, by decide⟩
theorem ok_Ls_off : pOkV m_Ls_off := ⟨(pG (inT4 _ (List.mem_of_getElem? (i := 153) rfl)) rfl), (pG (inT4 _ (List.mem_of_getElem? (i := 154) rfl)) rfl), ini_Ls, (pG (inT4 _ (List.mem_of_getElem? (i := 155) rfl)) rfl), ⟨by decide +kernel, by decide +kernel⟩, by decide⟩
theorem ok_Ls_on : pOkV m_Ls_on := ⟨(pG (inT4 _ (List.mem_of_getElem? (i := 141) rfl)) rfl), (pG (inT4 _ (List.mem_of_getElem? (i := 142) rfl)) rfl), ini_Ls, (pG (inT4 _ (List.mem_of_getElem? (i := 143) rfl)) rfl), ⟨by decide +kernel, by decide +kernel⟩, by decide⟩
theorem ok_Ls_pair : pOkV m_Ls_pair := ⟨(pG (inT4 _ (List.mem_of_getElem? (i := 74) rfl)) rfl), (pG (inT4 _ (List.mem_of_getElem? (i := 75) rfl)) rfl), ini_Ls, (pG (inT4 _ (List.mem_of_getElem? (i := 76) rfl)) rfl), ⟨by decide +kernel, by decide +kernel⟩, by decide⟩
theorem ok_Ls_pairs : pOkV m_Ls_pairs := ⟨(pG (inT4 _ (List.mem_of_getElem? (i := 205) rfl)) rfl), (pG (inT4 _ (List.mem_of_getElem? (i := 206) rfl)) rfl), ini_Ls, (pG (inT4 _ (List.mem_of_getElem? (i := 207) rfl)) rfl), ⟨by decide +kernel, by decide +kernel⟩, by decide⟩
theorem ok_Ls_partner : pOkV m_Ls_partner := ⟨(pG (inT4 _ (List.mem_of_getElem? (i := 233) rfl)) rfl), (pG (inT4 _ (List.mem_of_getElem? (i := 234) rfl)) rfl), ini_Ls, (pG (inT4 _ (List.mem_of_getElem? (i := 235) rfl)) rfl), ⟨by decide +kernel, by decide +kernel⟩, by decide⟩
theorem ok_Ls_pay : pOkV m_Ls_pay := ⟨(pG (inT4 _ (List.mem_of_getElem? (i := 101) rfl)) rfl), (pG (inT4 _ (List.mem_of_getElem? (i := 102) rfl)) rfl), ini_Ls, (pG (inT4 _ (List.mem_of_getElem? (i := 103) rfl)) rfl), ⟨by decide +kernel, by decide +kernel⟩, by decide⟩
theorem ok_Ls_person : pOkV m_Ls_person := ⟨(pG (inT3 _ (List.mem_of_getElem? (i := 233) rfl)) rfl), (pG (inT3 _ (List.mem_of_getElem? (i := 234) rfl)) rfl), ini_Ls, (pG (inT3 _ (List.mem_of_getElem? (i := 235) rfl)) rfl), ⟨by decide +kernel, by decide +kernel⟩, by decide⟩
theorem ok_Ls_putBytes : pOkV m_Ls_putBytes := ⟨(pG (inT3 _ (List.mem_of_getElem? (i := 65) rfl)) rfl), (pG (inP _ (List.mem_of_getElem? (i := 0) rfl)) rfl), ini_Ls, (pG (inT3 _ (List.mem_of_getElem? (i := 66) rfl)) rfl), ⟨by decide +kernel, by decide +kernel⟩, by decide⟩
theorem ok_Ls_refused : pOkV m_Ls_refused := ⟨(pG (inT4 _ (List.mem_of_getElem? (i := 180) rfl)) rfl), (pG (inT4 _ (List.mem_of_getElem? (i := 181) rfl)) rfl), ini_Ls, (pG (inT4 _ (List.mem_of_getElem? (i := 182) rfl)) rfl), ⟨by decide +kernel, by decide +kernel⟩, by decide⟩
theorem ok_Ls_rest : pOkV m_Ls_rest := ⟨(pG (inT5 _ (List.mem_of_getElem? (i := 41) rfl)) rfl), (pG (inT5 _ (List.mem_of_getElem? (i := 42) rfl)) rfl), ini_Ls, (pG (inT5 _ (List.mem_of_getElem? (i := 43) rfl)) rfl), ⟨by decide +kernel, by decide +kernel⟩, by decide⟩
theorem ok_Ls_rests : pOkV m_Ls_rests := ⟨(pG (inT5 _ (List.mem_of_getElem? (i := 25) rfl)) rfl), (pG (inT5 _ (List.mem_of_getElem? (i := 26) rfl)) rfl), ini_Ls, (pG (inT5 _ (List.mem_of_getElem? (i := 27) rfl)) rfl), ⟨by decide +kernel, by decide +kernel⟩, by decide⟩
theorem ok_Ls_ring : pOkV m_Ls_ring := ⟨(pG (inT5 _ (List.mem_of_getElem? (i := 113) rfl)) rfl), (pG (inT5 _ (List.mem_of_getElem? (i := 114) rfl)) rfl), ini_Ls, (pG (inT5 _ (List.mem_of_getElem? (i := 115) rfl)) rfl), ⟨by decide +kernel, by decide +kernel⟩, by decide⟩
theorem ok_Ls_run : pOkV m_Ls_run := ⟨(pG (inT5 _ (List.mem_of_getElem? (i := 45) rfl)) rfl), (pG (inT5 _ (List.mem_of_getElem? (i := 46) rfl)) rfl), ini_Ls, (pG (inT5 _ (List.mem_of_getElem? (i := 47) rfl)) rfl), ⟨by decide +kernel, by decide +kernel⟩, by decide⟩
theorem ok_Ls_save : pOkV m_Ls_save := ⟨(pG (inT5 _ (List.mem_of_getElem? (i := 65) rfl)) rfl), (pG (inT5 _ (List.mem_of_getElem? (i := 66) rfl)) rfl), ini_Ls, (pG (inT5 _ (List.mem_of_getElem? (i := 67) rfl)) rfl), ⟨by decide +kernel, by decide +kernel⟩, by decide⟩
theorem ok_Ls_shoe : pOkV m_Ls_shoe := ⟨(pG (inT5 _ (List.mem_of_getElem? (i := 201) rfl)) rfl), (pG (inT5 _ (List.mem_of_getElem? (i := 202) rfl)) rfl), ini_Ls, (pG (inT5 _ (List.mem_of_getElem? (i := 203) rfl)) rfl), ⟨by decide +kernel, by decide +kernel⟩, by decide⟩
theorem ok_Ls_sizesUpTo : pOkV m_Ls_sizesUpTo := ⟨(pG (inT4 _ (List.mem_of_getElem? (i := 193) rfl)) rfl), (pG (inP _ (List.mem_of_getElem? (i := 24) rfl)) rfl), ini_Ls, (pG (inT4 _ (List.mem_of_getElem? (i := 194) rfl)) rfl), ⟨by decide +kernel, by decide +kernel⟩, by decide⟩
theorem ok_Ls_strike : pOkV m_Ls_strike := ⟨(pG (inT5 _ (List.mem_of_getElem? (i := 77) rfl)) rfl), (pG (inT5 _ (List.mem_of_getElem? (i := 78) rfl)) rfl), ini_Ls, (pG (inT5 _ (List.mem_of_getElem? (i := 79) rfl)) rfl), ⟨by decide +kernel, by decide +kernel⟩, by decide⟩
theorem ok_Ls_tells : pOkV m_Ls_tells := ⟨(pG (inT5 _ (List.mem_of_getElem? (i := 102) rfl)) rfl), (pG (inT5 _ (List.mem_of_getElem? (i := 103) rfl)) rfl), ini_Ls, (pG (inT5 _ (List.mem_of_getElem? (i := 104) rfl)) rfl), ⟨by decide +kernel, by decide +kernel⟩, by decide⟩
theorem ok_Ls_text : pOkV m_Ls_text := ⟨(pG (inT3 _ (List.mem_of_getElem? (i := 68) rfl)) rfl), (pG (inT3 _ (List.mem_of_getElem? (i := 69) rfl)) rfl), ini_Ls, (pG (inT3 _ (List.mem_of_getElem? (i := 70) rfl)) rfl), ⟨by decide +kernel, by decide +kernel⟩, by decide⟩
theorem ok_Ls_track : pOkV m_Ls_track := ⟨(pG (inT5 _ (List.mem_of_getElem? (i := 69) rfl)) rfl), (pG (inT5 _ (List.mem_of_getElem? (i := 70) rfl)) rfl), ini_Ls, (pG (inT5 _ (List.mem_of_getElem? (i := 71) rfl)) rfl), ⟨by decide +kernel, by decide +kernel⟩, by decide⟩
theorem ok_Ls_tried : pOkV m_Ls_tried := ⟨(pG (inT5 _ (List.mem_of_getElem? (i := 150) rfl)) rfl), (pG (inT5 _ (List.mem_of_getElem? (i := 151) rfl)) rfl), ini_Ls, (pG (inT5 _ (List.mem_of_getElem? (i := 152) rfl)) rfl), ⟨by decide +kernel, by decide +kernel⟩, by decide⟩
theorem ok_Ls_undo : pOkV m_Ls_undo := ⟨(pG (inT5 _ (List.mem_of_getElem? (i := 171) rfl)) rfl), (pG (inT5 _ (List.mem_of_getElem? (i := 172) rfl)) rfl), ini_Ls, (pG (inT5 _ (List.mem_of_getElem? (i := 173) rfl)) rfl), ⟨by decide +kernel, by decide +kernel⟩, by decide⟩
theorem ok_Ls_walk : pOkV m_Ls_walk := ⟨(pG (inT4 _ (List.mem_of_getElem? (i := 237) rfl)) rfl), (pG (inT4 _ (List.mem_of_getElem? (i := 238) rfl)) rfl), ini_Ls, (pG (inT4 _ (List.mem_of_getElem? (i := 239) rfl)) rfl), ⟨by decide +kernel, by decide +kernel⟩, by decide⟩
theorem ok_Ls_who : pOkV m_Ls_who := ⟨(pG (inT5 _ (List.mem_of_getElem? (i := 85) rfl)) rfl), (pG (inT5 _ (List.mem_of_getElem? (i := 86) rfl)) rfl), ini_Ls, (pG (inT5 _ (List.mem_of_getElem? (i := 87) rfl)) rfl), ⟨by decide +kernel, by decide +kernel⟩, by decide⟩
theorem ok_Cp_init : pOkI m_Cp_init := ⟨(pG (inT2 _ (List.mem_of_getElem? (i := 181) rfl)) rfl), rfl, ini_Cp, (pG (inT2 _ (List.mem_of_getElem? (i := 182) rfl)) rfl), ⟨by decide +kernel, by decide +kernel⟩, by decide⟩
theorem ok_Cp_bestWith : pOkV m_Cp_bestWith := ⟨(pG (inT4 _ (List.mem_of_getElem? (i := 225) rfl)) rfl), (pG (inP _ (List.mem_of_getElem? (i := 28) rfl)) rfl), ini_Cp, (pG (inT4 _ (List.mem_of_getElem? (i := 226) rfl)) rfl), ⟨by decide +kernel, by decide +kernel⟩, by decide⟩
theorem ok_Cp_gather : pOkV m_Cp_gather := ⟨(pG (inT4 _ (List.mem_of_getElem? (i := 214) rfl)) rfl), (pG (inP _ (List.mem_of_getElem? (i := 26) rfl)) rfl), ini_Cp, (pG (inT4 _ (List.mem_of_getElem? (i := 215) rfl)) rfl), ⟨by decide +kernel, by decide +kernel⟩, by decide⟩
theorem ok_Cp_match : pOkV m_Cp_match := ⟨(pG (inT4 _ (List.mem_of_getElem? (i := 209) rfl)) rfl), (pG (inT4 _ (List.mem_of_getElem? (i := 210) rfl)) rfl), ini_Cp, (pG (inT4 _ (List.mem_of_getElem? (i := 211) rfl)) rfl), ⟨by decide +kernel, by decide +kernel⟩, by decide⟩
theorem ok_Cp_tell : pOkV m_Cp_tell := ⟨(pG (inT4 _ (List.mem_of_getElem? (i := 230) rfl)) rfl), (pG (inP _ (List.mem_of_getElem? (i := 29) rfl)) rfl), ini_Cp, (pG (inT4 _ (List.mem_of_getElem? (i := 231) rfl)) rfl), ⟨by decide +kernel, by decide +kernel⟩, by decide⟩
theorem ok_Cp_weight : pOkV m_Cp_weight := ⟨(pG (inT4 _ (List.mem_of_getElem? (i := 220) rfl)) rfl), (pG (inP _ (List.mem_of_getElem? (i := 27) rfl)) rfl), ini_Cp, (pG (inT4 _ (List.mem_of_getElem? (i := 221) rfl)) rfl), ⟨by decide +kernel, by decide +kernel⟩, by decide⟩
theorem ok_Hi_init : pOkI m_Hi_init := ⟨(pG (inT2 _ (List.mem_of_getElem? (i := 138) rfl)) rfl), rfl, ini_Hi, (pG (inT2 _ (List.mem_of_getElem? (i := 139) rfl)) rfl), ⟨by decide +kernel, by decide +kernel⟩, by decide⟩
theorem ok_Hi_clear : pOkV m_Hi_clear := ⟨(pG (inT3 _ (List.mem_of_getElem? (i := 220) rfl)) rfl), (pG (inT3 _ (List.mem_of_getElem? (i := 221) rfl)) rfl), ini_Hi, (pG (inT3 _ (List.mem_of_getElem? (i := 222) rfl)) rfl), ⟨by decide +kernel, by decide +kernel⟩, by decide⟩
theorem ok_Hi_note : pOkV m_Hi_note := ⟨(pG (inT4 _ (List.mem_of_getElem? (i := 116) rfl)) rfl), (pG (inT4 _ (List.mem_of_getElem? (i := 117) rfl)) rfl), ini_Hi, (pG (inT4 _ (List.mem_of_getElem? (i := 118) rfl)) rfl), ⟨by decide +kernel, by decide +kernel⟩, by decide⟩
theorem ok_Hi_recall : pOkV m_Hi_recall := ⟨(pG (inT5 _ (List.mem_of_getElem? (i := 175) rfl)) rfl), (pG (inT5 _ (List.mem_of_getElem? (i := 176) rfl)) rfl), ini_Hi, (pG (inT5 _ (List.mem_of_getElem? (i := 177) rfl)) rfl), ⟨by decide +kernel, by decide +kernel⟩, by decide⟩
theorem ok_La_init : pOkI m_La_init := ⟨(pG (inT1 _ (List.mem_of_getElem? (i := 68) rfl)) rfl), rfl, ini_La, (pG (inT1 _ (List.mem_of_getElem? (i := 69) rfl)) rfl), ⟨by decide +kernel, by decide +kernel⟩, by decide⟩
theorem ok_La_clear : pOkV m_La_clear := ⟨(pG (inT3 _ (List.mem_of_getElem? (i := 84) rfl)) rfl), (pG (inT3 _ (List.mem_of_getElem? (i := 85) rfl)) rfl), ini_La, (pG (inT3 _ (List.mem_of_getElem? (i := 86) rfl)) rfl), ⟨by decide +kernel, by decide +kernel⟩, by decide⟩
theorem ok_La_close : pOkV m_La_close := ⟨(pG (inT3 _ (List.mem_of_getElem? (i := 208) rfl)) rfl), (pG (inT3 _ (List.mem_of_getElem? (i := 209) rfl)) rfl), ini_La, (pG (inT3 _ (List.mem_of_getElem? (i := 210) rfl)) rfl), ⟨by decide +kernel, by decide +kernel⟩, by decide⟩
theorem ok_La_isTold : pOkV m_La_isTold := ⟨(pG (inT3 _ (List.mem_of_getElem? (i := 173) rfl)) rfl), (pG (inT3 _ (List.mem_of_getElem? (i := 174) rfl)) rfl), ini_La, (pG (inT3 _ (List.mem_of_getElem? (i := 175) rfl)) rfl), ⟨by decide +kernel, by decide +kernel⟩, by decide⟩
theorem ok_La_join : pOkS m_La_join := ⟨(pG (inT4 _ (List.mem_of_getElem? (i := 45) rfl)) rfl), ini_La, (pG (inT4 _ (List.mem_of_getElem? (i := 46) rfl)) rfl), ⟨by decide +kernel, by decide +kernel⟩, by decide⟩
theorem ok_La_nameAt : pOkV m_La_nameAt := ⟨(pG (inT4 _ (List.mem_of_getElem? (i := 42) rfl)) rfl), (pG (inP _ (List.mem_of_getElem? (i := 22) rfl)) rfl), ini_La, (pG (inT4 _ (List.mem_of_getElem? (i := 43) rfl)) rfl), ⟨by decide +kernel, by decide +kernel⟩, by decide⟩
theorem ok_La_open : pOkV m_La_open := ⟨(pG (inT3 _ (List.mem_of_getElem? (i := 177) rfl)) rfl), (pG (inT3 _ (List.mem_of_getElem? (i := 178) rfl)) rfl), ini_La, (pG (inT3 _ (List.mem_of_getElem? (i := 179) rfl)) rfl), ⟨by decide +kernel, by decide +kernel⟩, by decide⟩
theorem ok_La_put : pOkV m_La_put := ⟨(pG (inT3 _ (List.mem_of_getElem? (i := 193) rfl)) rfl), (pG (inT3 _ (List.mem_of_getElem? (i := 194) rfl)) rfl), ini_La, (pG (inT3 _ (List.mem_of_getElem? (i := 195) rfl)) rfl), ⟨by decide +kernel, by decide +kernel⟩, by decide⟩
theorem ok_La_setOwner : pOkV m_La_setOwner := ⟨(pG (inT4 _ (List.mem_of_getElem? (i := 31) rfl)) rfl), (pG (inT4 _ (List.mem_of_getElem? (i := 32) rfl)) rfl), ini_La, (pG (inT4 _ (List.mem_of_getElem? (i := 33) rfl)) rfl), ⟨by decide +kernel, by decide +kernel⟩, by decide⟩
theorem ok_La_setShoe : pOkV m_La_setShoe := ⟨(pG (inT4 _ (List.mem_of_getElem? (i := 27) rfl)) rfl), (pG (inT4 _ (List.mem_of_getElem? (i := 28) rfl)) rfl), ini_La, (pG (inT4 _ (List.mem_of_getElem? (i := 29) rfl)) rfl), ⟨by decide +kernel, by decide +kernel⟩, by decide⟩
theorem ok_La_valueOf : pOkV m_La_valueOf := ⟨(pG (inT4 _ (List.mem_of_getElem? (i := 35) rfl)) rfl), (pG (inT4 _ (List.mem_of_getElem? (i := 36) rfl)) rfl), ini_La, (pG (inT4 _ (List.mem_of_getElem? (i := 37) rfl)) rfl), ⟨by decide +kernel, by decide +kernel⟩, by decide⟩
theorem ok_Re_init : pOkI m_Re_init := ⟨(pG (inT1 _ (List.mem_of_getElem? (i := 222) rfl)) rfl), rfl, ini_Re, (pG (inT1 _ (List.mem_of_getElem? (i := 223) rfl)) rfl), ⟨by decide +kernel, by decide +kernel⟩, by decide⟩
theorem ok_Re_advance : pOkV m_Re_advance := ⟨(pG (inT3 _ (List.mem_of_getElem? (i := 98) rfl)) rfl), (pG (inT3 _ (List.mem_of_getElem? (i := 99) rfl)) rfl), ini_Re, (pG (inT3 _ (List.mem_of_getElem? (i := 100) rfl)) rfl), ⟨by decide +kernel, by decide +kernel⟩, by decide⟩
theorem ok_Re_begin : pOkV m_Re_begin := ⟨(pG (inT3 _ (List.mem_of_getElem? (i := 88) rfl)) rfl), (pG (inT3 _ (List.mem_of_getElem? (i := 89) rfl)) rfl), ini_Re, (pG (inT3 _ (List.mem_of_getElem? (i := 90) rfl)) rfl), ⟨by decide +kernel, by decide +kernel⟩, by decide⟩
theorem ok_Re_readNumber : pOkV m_Re_readNumber := ⟨(pG (inT3 _ (List.mem_of_getElem? (i := 107) rfl)) rfl), (pG (inP _ (List.mem_of_getElem? (i := 2) rfl)) rfl), ini_Re, (pG (inT3 _ (List.mem_of_getElem? (i := 108) rfl)) rfl), ⟨by decide +kernel, by decide +kernel⟩, by decide⟩
theorem ok_Re_readSign : pOkV m_Re_readSign := ⟨(pG (inT3 _ (List.mem_of_getElem? (i := 112) rfl)) rfl), (pG (inP _ (List.mem_of_getElem? (i := 3) rfl)) rfl), ini_Re, (pG (inT3 _ (List.mem_of_getElem? (i := 113) rfl)) rfl), ⟨by decide +kernel, by decide +kernel⟩, by decide⟩
theorem ok_Re_readWord : pOkV m_Re_readWord := ⟨(pG (inT3 _ (List.mem_of_getElem? (i := 103) rfl)) rfl), (pG (inP _ (List.mem_of_getElem? (i := 1) rfl)) rfl), ini_Re, (pG (inT3 _ (List.mem_of_getElem? (i := 104) rfl)) rfl), ⟨by decide +kernel, by decide +kernel⟩, by decide⟩
theorem ok_Sc_init : pOkI m_Sc_init := ⟨(pG (inT1 _ (List.mem_of_getElem? (i := 216) rfl)) rfl), rfl, ini_Sc, (pG (inT1 _ (List.mem_of_getElem? (i := 217) rfl)) rfl), ⟨by decide +kernel, by decide +kernel⟩, by decide⟩
theorem ok_Sc_levelOf : pOkS m_Sc_levelOf := ⟨(pG (inT3 _ (List.mem_of_getElem? (i := 205) rfl)) rfl), ini_Sc, (pG (inT3 _ (List.mem_of_getElem? (i := 206) rfl)) rfl), ⟨by decide +kernel, by decide +kernel⟩, by decide⟩
theorem ok_Sc_lookAt : pOkV m_Sc_lookAt := ⟨(pG (inT3 _ (List.mem_of_getElem? (i := 145) rfl)) rfl), (pG (inP _ (List.mem_of_getElem? (i := 10) rfl)) rfl), ini_Sc, (pG (inT3 _ (List.mem_of_getElem? (i := 146) rfl)) rfl), ⟨by decide +kernel, by decide +kernel⟩, by decide⟩
theorem ok_Sc_lookAtPerson : pOkV m_Sc_lookAtPerson := ⟨(pG (inT3 _ (List.mem_of_getElem? (i := 149) rfl)) rfl), (pG (inP _ (List.mem_of_getElem? (i := 11) rfl)) rfl), ini_Sc, (pG (inT3 _ (List.mem_of_getElem? (i := 150) rfl)) rfl), ⟨by decide +kernel, by decide +kernel⟩, by decide⟩
theorem ok_Sc_readClaim : pOkV m_Sc_readClaim := ⟨(pG (inT3 _ (List.mem_of_getElem? (i := 157) rfl)) rfl), (pG (inP _ (List.mem_of_getElem? (i := 13) rfl)) rfl), ini_Sc, (pG (inT3 _ (List.mem_of_getElem? (i := 158) rfl)) rfl), ⟨by decide +kernel, by decide +kernel⟩, by decide⟩
theorem ok_Sc_readDebt : pOkV m_Sc_readDebt := ⟨(pG (inT3 _ (List.mem_of_getElem? (i := 153) rfl)) rfl), (pG (inP _ (List.mem_of_getElem? (i := 12) rfl)) rfl), ini_Sc, (pG (inT3 _ (List.mem_of_getElem? (i := 154) rfl)) rfl), ⟨by decide +kernel, by decide +kernel⟩, by decide⟩
theorem ok_Sc_readLaw : pOkV m_Sc_readLaw := ⟨(pG (inT3 _ (List.mem_of_getElem? (i := 170) rfl)) rfl), (pG (inP _ (List.mem_of_getElem? (i := 16) rfl)) rfl), ini_Sc, (pG (inT3 _ (List.mem_of_getElem? (i := 171) rfl)) rfl), ⟨by decide +kernel, by decide +kernel⟩, by decide⟩
theorem ok_Sc_readLevel : pOkV m_Sc_readLevel := ⟨(pG (inT3 _ (List.mem_of_getElem? (i := 182) rfl)) rfl), (pG (inP _ (List.mem_of_getElem? (i := 17) rfl)) rfl), ini_Sc, (pG (inT3 _ (List.mem_of_getElem? (i := 183) rfl)) rfl), ⟨by decide +kernel, by decide +kernel⟩, by decide⟩
theorem ok_Sc_readLine : pOkV m_Sc_readLine := ⟨(pG (inT3 _ (List.mem_of_getElem? (i := 116) rfl)) rfl), (pG (inP _ (List.mem_of_getElem? (i := 4) rfl)) rfl), ini_Sc, (pG (inT3 _ (List.mem_of_getElem? (i := 117) rfl)) rfl), ⟨by decide +kernel, by decide +kernel⟩, by decide⟩
theorem ok_Sc_readNots : pOkV m_Sc_readNots := ⟨(pG (inT3 _ (List.mem_of_getElem? (i := 202) rfl)) rfl), (pG (inP _ (List.mem_of_getElem? (i := 21) rfl)) rfl), ini_Sc, (pG (inT3 _ (List.mem_of_getElem? (i := 203) rfl)) rfl), ⟨by decide +kernel, by decide +kernel⟩, by decide⟩
theorem ok_Sc_readOperand : pOkV m_Sc_readOperand := ⟨(pG (inT3 _ (List.mem_of_getElem? (i := 186) rfl)) rfl), (pG (inP _ (List.mem_of_getElem? (i := 18) rfl)) rfl), ini_Sc, (pG (inT3 _ (List.mem_of_getElem? (i := 187) rfl)) rfl), ⟨by decide +kernel, by decide +kernel⟩, by decide⟩
theorem ok_Sc_readPerson : pOkV m_Sc_readPerson := ⟨(pG (inT3 _ (List.mem_of_getElem? (i := 120) rfl)) rfl), (pG (inP _ (List.mem_of_getElem? (i := 5) rfl)) rfl), ini_Sc, (pG (inT3 _ (List.mem_of_getElem? (i := 121) rfl)) rfl), ⟨by decide +kernel, by decide +kernel⟩, by decide⟩
theorem ok_Sc_readSeed : pOkV m_Sc_readSeed := ⟨(pG (inT3 _ (List.mem_of_getElem? (i := 165) rfl)) rfl), (pG (inP _ (List.mem_of_getElem? (i := 15) rfl)) rfl), ini_Sc, (pG (inT3 _ (List.mem_of_getElem? (i := 166) rfl)) rfl), ⟨by decide +kernel, by decide +kernel⟩, by decide⟩
theorem ok_Sc_readShoe : pOkV m_Sc_readShoe := ⟨(pG (inT3 _ (List.mem_of_getElem? (i := 137) rfl)) rfl), (pG (inP _ (List.mem_of_getElem? (i := 8) rfl)) rfl), ini_Sc, (pG (inT3 _ (List.mem_of_getElem? (i := 138) rfl)) rfl), ⟨by decide +kernel, by decide +kernel⟩, by decide⟩
theorem ok_Sc_readSwap : pOkV m_Sc_readSwap := ⟨(pG (inT3 _ (List.mem_of_getElem? (i := 161) rfl)) rfl), (pG (inP _ (List.mem_of_getElem? (i := 14) rfl)) rfl), ini_Sc, (pG (inT3 _ (List.mem_of_getElem? (i := 162) rfl)) rfl), ⟨by decide +kernel, by decide +kernel⟩, by decide⟩
theorem ok_Sc_refuse : pOkV m_Sc_refuse := ⟨(pG (inT3 _ (List.mem_of_getElem? (i := 124) rfl)) rfl), (pG (inP _ (List.mem_of_getElem? (i := 6) rfl)) rfl), ini_Sc, (pG (inT3 _ (List.mem_of_getElem? (i := 125) rfl)) rfl), ⟨by decide +kernel, by decide +kernel⟩, by decide⟩
theorem ok_Sc_take : pOkV m_Sc_take := ⟨(pG (inT3 _ (List.mem_of_getElem? (i := 190) rfl)) rfl), (pG (inP _ (List.mem_of_getElem? (i := 19) rfl)) rfl), ini_Sc, (pG (inT3 _ (List.mem_of_getElem? (i := 191) rfl)) rfl), ⟨by decide +kernel, by decide +kernel⟩, by decide⟩
theorem ok_Sc_takeKnot : pOkV m_Sc_takeKnot := ⟨(pG (inT3 _ (List.mem_of_getElem? (i := 198) rfl)) rfl), (pG (inP _ (List.mem_of_getElem? (i := 20) rfl)) rfl), ini_Sc, (pG (inT3 _ (List.mem_of_getElem? (i := 199) rfl)) rfl), ⟨by decide +kernel, by decide +kernel⟩, by decide⟩
theorem ok_Sc_takeNumber : pOkV m_Sc_takeNumber := ⟨(pG (inT3 _ (List.mem_of_getElem? (i := 133) rfl)) rfl), (pG (inP _ (List.mem_of_getElem? (i := 7) rfl)) rfl), ini_Sc, (pG (inT3 _ (List.mem_of_getElem? (i := 134) rfl)) rfl), ⟨by decide +kernel, by decide +kernel⟩, by decide⟩
theorem ok_Sc_takeOneOf : pOkV m_Sc_takeOneOf := ⟨(pG (inT3 _ (List.mem_of_getElem? (i := 141) rfl)) rfl), (pG (inP _ (List.mem_of_getElem? (i := 9) rfl)) rfl), ini_Sc, (pG (inT3 _ (List.mem_of_getElem? (i := 142) rfl)) rfl), ⟨by decide +kernel, by decide +kernel⟩, by decide⟩
theorem ok_Sc_write : pOkV m_Sc_write := ⟨(pG (inT3 _ (List.mem_of_getElem? (i := 72) rfl)) rfl), (pG (inT3 _ (List.mem_of_getElem? (i := 73) rfl)) rfl), ini_Sc, (pG (inT3 _ (List.mem_of_getElem? (i := 74) rfl)) rfl), ⟨by decide +kernel, by decide +kernel⟩, by decide⟩
theorem ok_St_init : pOkI m_St_init := ⟨(pG (inT2 _ (List.mem_of_getElem? (i := 217) rfl)) rfl), rfl, ini_St, (pG (inT2 _ (List.mem_of_getElem? (i := 218) rfl)) rfl), ⟨by decide +kernel, by decide +kernel⟩, by decide⟩
theorem ok_St_goOn : pOkV m_St_goOn := ⟨(pG (inT5 _ (List.mem_of_getElem? (i := 17) rfl)) rfl), (pG (inP _ (List.mem_of_getElem? (i := 32) rfl)) rfl), ini_St, (pG (inT5 _ (List.mem_of_getElem? (i := 18) rfl)) rfl), ⟨by decide +kernel, by decide +kernel⟩, by decide⟩
theorem ok_St_plan : pOkV m_St_plan := ⟨(pG (inT5 _ (List.mem_of_getElem? (i := 1) rfl)) rfl), (pG (inT5 _ (List.mem_of_getElem? (i := 2) rfl)) rfl), ini_St, (pG (inT5 _ (List.mem_of_getElem? (i := 3) rfl)) rfl), ⟨by decide +kernel, by decide +kernel⟩, by decide⟩
theorem ok_St_usedAfter : pOkV m_St_usedAfter := ⟨(pG (inT5 _ (List.mem_of_getElem? (i := 21) rfl)) rfl), (pG (inP _ (List.mem_of_getElem? (i := 33) rfl)) rfl), ini_St, (pG (inT5 _ (List.mem_of_getElem? (i := 22) rfl)) rfl), ⟨by decide +kernel, by decide +kernel⟩, by decide⟩
theorem ok_St_usedNow : pOkV m_St_usedNow := ⟨(pG (inT5 _ (List.mem_of_getElem? (i := 7) rfl)) rfl), (pG (inP _ (List.mem_of_getElem? (i := 30) rfl)) rfl), ini_St, (pG (inT5 _ (List.mem_of_getElem? (i := 8) rfl)) rfl), ⟨by decide +kernel, by decide +kernel⟩, by decide⟩
theorem ok_St_worthThen : pOkV m_St_worthThen := ⟨(pG (inT5 _ (List.mem_of_getElem? (i := 12) rfl)) rfl), (pG (inP _ (List.mem_of_getElem? (i := 31) rfl)) rfl), ini_St, (pG (inT5 _ (List.mem_of_getElem? (i := 13) rfl)) rfl), ⟨by decide +kernel, by decide +kernel⟩, by decide⟩
theorem ok_Sw_init : pOkI m_Sw_init := ⟨(pG (inT1 _ (List.mem_of_getElem? (i := 42) rfl)) rfl), rfl, ini_Sw, (pG (inT1 _ (List.mem_of_getElem? (i := 43) rfl)) rfl), ⟨by decide +kernel, by decide +kernel⟩, by decide⟩
theorem ok_Sw_clear : pOkV m_Sw_clear := ⟨(pG (inT3 _ (List.mem_of_getElem? (i := 80) rfl)) rfl), (pG (inT3 _ (List.mem_of_getElem? (i := 81) rfl)) rfl), ini_Sw, (pG (inT3 _ (List.mem_of_getElem? (i := 82) rfl)) rfl), ⟨by decide +kernel, by decide +kernel⟩, by decide⟩
theorem ok_Sw_findRing : pOkV m_Sw_findRing := ⟨(pG (inT5 _ (List.mem_of_getElem? (i := 117) rfl)) rfl), (pG (inT5 _ (List.mem_of_getElem? (i := 118) rfl)) rfl), ini_Sw, (pG (inT5 _ (List.mem_of_getElem? (i := 119) rfl)) rfl), ⟨by decide +kernel, by decide +kernel⟩, by decide⟩
theorem ok_Sw_gains : pOkV m_Sw_gains := ⟨(pG (inT5 _ (List.mem_of_getElem? (i := 122) rfl)) rfl), (pG (inP _ (List.mem_of_getElem? (i := 39) rfl)) rfl), ini_Sw, (pG (inT5 _ (List.mem_of_getElem? (i := 123) rfl)) rfl), ⟨by decide +kernel, by decide +kernel⟩, by decide⟩
theorem ok_Ta_init : pOkI m_Ta_init := ⟨(pG (inT1 _ (List.mem_of_getElem? (i := 36) rfl)) rfl), rfl, ini_Ta, (pG (inT1 _ (List.mem_of_getElem? (i := 37) rfl)) rfl), ⟨by decide +kernel, by decide +kernel⟩, by decide⟩
theorem ok_Ta_clear : pOkV m_Ta_clear := ⟨(pG (inT3 _ (List.mem_of_getElem? (i := 76) rfl)) rfl), (pG (inT3 _ (List.mem_of_getElem? (i := 77) rfl)) rfl), ini_Ta, (pG (inT3 _ (List.mem_of_getElem? (i := 78) rfl)) rfl), ⟨by decide +kernel, by decide +kernel⟩, by decide⟩
theorem ok_Ta_hasPerson : pOkV m_Ta_hasPerson := ⟨(pG (inT3 _ (List.mem_of_getElem? (i := 237) rfl)) rfl), (pG (inT3 _ (List.mem_of_getElem? (i := 238) rfl)) rfl), ini_Ta, (pG (inT3 _ (List.mem_of_getElem? (i := 239) rfl)) rfl), ⟨by decide +kernel, by decide +kernel⟩, by decide⟩
theorem ok_Ta_hasShoe : pOkV m_Ta_hasShoe := ⟨(pG (inT4 _ (List.mem_of_getElem? (i := 13) rfl)) rfl), (pG (inT4 _ (List.mem_of_getElem? (i := 14) rfl)) rfl), ini_Ta, (pG (inT4 _ (List.mem_of_getElem? (i := 15) rfl)) rfl), ⟨by decide +kernel, by decide +kernel⟩, by decide⟩
theorem ok_Ta_personNamed : pOkV m_Ta_personNamed := ⟨(pG (inT3 _ (List.mem_of_getElem? (i := 128) rfl)) rfl), (pG (inT3 _ (List.mem_of_getElem? (i := 129) rfl)) rfl), ini_Ta, (pG (inT3 _ (List.mem_of_getElem? (i := 130) rfl)) rfl), ⟨by decide +kernel, by decide +kernel⟩, by decide⟩
theorem ok_Tr_init : pOkI m_Tr_init := ⟨(pG (inT2 _ (List.mem_of_getElem? (i := 160) rfl)) rfl), rfl, ini_Tr, (pG (inT2 _ (List.mem_of_getElem? (i := 161) rfl)) rfl), ⟨by decide +kernel, by decide +kernel⟩, by decide⟩
theorem ok_Tr_add : pOkV m_Tr_add := ⟨(pG (inT5 _ (List.mem_of_getElem? (i := 73) rfl)) rfl), (pG (inT5 _ (List.mem_of_getElem? (i := 74) rfl)) rfl), ini_Tr, (pG (inT5 _ (List.mem_of_getElem? (i := 75) rfl)) rfl), ⟨by decide +kernel, by decide +kernel⟩, by decide⟩
theorem ok_Tr_clear : pOkV m_Tr_clear := ⟨(pG (inT3 _ (List.mem_of_getElem? (i := 216) rfl)) rfl), (pG (inT3 _ (List.mem_of_getElem? (i := 217) rfl)) rfl), ini_Tr, (pG (inT3 _ (List.mem_of_getElem? (i := 218) rfl)) rfl), ⟨by decide +kernel, by decide +kernel⟩, by decide⟩
theorem ok_Tr_fitting : pOkS m_Tr_fitting := ⟨(pG (inT5 _ (List.mem_of_getElem? (i := 98) rfl)) rfl), ini_Tr, (pG (inT5 _ (List.mem_of_getElem? (i := 99) rfl)) rfl), ⟨by decide +kernel, by decide +kernel⟩, by decide⟩
theorem ok_Tr_knownBy : pOkV m_Tr_knownBy := ⟨(pG (inT5 _ (List.mem_of_getElem? (i := 93) rfl)) rfl), (pG (inT5 _ (List.mem_of_getElem? (i := 94) rfl)) rfl), ini_Tr, (pG (inT5 _ (List.mem_of_getElem? (i := 95) rfl)) rfl), ⟨by decide +kernel, by decide +kernel⟩, by decide⟩
theorem ok_Tr_mostTelling : pOkV m_Tr_mostTelling := ⟨(pG (inT5 _ (List.mem_of_getElem? (i := 106) rfl)) rfl), (pG (inT5 _ (List.mem_of_getElem? (i := 107) rfl)) rfl), ini_Tr, (pG (inT5 _ (List.mem_of_getElem? (i := 108) rfl)) rfl), ⟨by decide +kernel, by decide +kernel⟩, by decide⟩
theorem ok_Tr_suspects : pOkV m_Tr_suspects := ⟨(pG (inT5 _ (List.mem_of_getElem? (i := 89) rfl)) rfl), (pG (inT5 _ (List.mem_of_getElem? (i := 90) rfl)) rfl), ini_Tr, (pG (inT5 _ (List.mem_of_getElem? (i := 91) rfl)) rfl), ⟨by decide +kernel, by decide +kernel⟩, by decide⟩
theorem ok_Wo_init : pOkI m_Wo_init := ⟨(pG (inT2 _ (List.mem_of_getElem? (i := 84) rfl)) rfl), rfl, ini_Wo, (pG (inT2 _ (List.mem_of_getElem? (i := 85) rfl)) rfl), ⟨by decide +kernel, by decide +kernel⟩, by decide⟩
theorem ok_Wo_arePair : pOkV m_Wo_arePair := ⟨(pG (inT4 _ (List.mem_of_getElem? (i := 78) rfl)) rfl), (pG (inT4 _ (List.mem_of_getElem? (i := 79) rfl)) rfl), ini_Wo, (pG (inT4 _ (List.mem_of_getElem? (i := 80) rfl)) rfl), ⟨by decide +kernel, by decide +kernel⟩, by decide⟩
theorem ok_Wo_begin : pOkV m_Wo_begin := ⟨(pG (inT3 _ (List.mem_of_getElem? (i := 212) rfl)) rfl), (pG (inT3 _ (List.mem_of_getElem? (i := 213) rfl)) rfl), ini_Wo, (pG (inT3 _ (List.mem_of_getElem? (i := 214) rfl)) rfl), ⟨by decide +kernel, by decide +kernel⟩, by decide⟩
theorem ok_Wo_bury : pOkV m_Wo_bury := ⟨(pG (inT4 _ (List.mem_of_getElem? (i := 174) rfl)) rfl), (pG (inT4 _ (List.mem_of_getElem? (i := 175) rfl)) rfl), ini_Wo, (pG (inT4 _ (List.mem_of_getElem? (i := 176) rfl)) rfl), ⟨by decide +kernel, by decide +kernel⟩, by decide⟩
theorem ok_Wo_copyFrom : pOkV m_Wo_copyFrom := ⟨(pG (inT5 _ (List.mem_of_getElem? (i := 133) rfl)) rfl), (pG (inT5 _ (List.mem_of_getElem? (i := 134) rfl)) rfl), ini_Wo, (pG (inT5 _ (List.mem_of_getElem? (i := 135) rfl)) rfl), ⟨by decide +kernel, by decide +kernel⟩, by decide⟩
theorem ok_Wo_debtsThatAre : pOkV m_Wo_debtsThatAre := ⟨(pG (inT5 _ (List.mem_of_getElem? (i := 191) rfl)) rfl), (pG (inT5 _ (List.mem_of_getElem? (i := 192) rfl)) rfl), ini_Wo, (pG (inT5 _ (List.mem_of_getElem? (i := 193) rfl)) rfl), ⟨by decide +kernel, by decide +kernel⟩, by decide⟩
theorem ok_Wo_handOver : pOkV m_Wo_handOver := ⟨(pG (inT4 _ (List.mem_of_getElem? (i := 124) rfl)) rfl), (pG (inT4 _ (List.mem_of_getElem? (i := 125) rfl)) rfl), ini_Wo, (pG (inT4 _ (List.mem_of_getElem? (i := 126) rfl)) rfl), ⟨by decide +kernel, by decide +kernel⟩, by decide⟩
theorem ok_Wo_isThere : pOkV m_Wo_isThere := ⟨(pG (inT4 _ (List.mem_of_getElem? (i := 9) rfl)) rfl), (pG (inT4 _ (List.mem_of_getElem? (i := 10) rfl)) rfl), ini_Wo, (pG (inT4 _ (List.mem_of_getElem? (i := 11) rfl)) rfl), ⟨by decide +kernel, by decide +kernel⟩, by decide⟩
theorem ok_Wo_isWorn : pOkV m_Wo_isWorn := ⟨(pG (inT4 _ (List.mem_of_getElem? (i := 145) rfl)) rfl), (pG (inT4 _ (List.mem_of_getElem? (i := 146) rfl)) rfl), ini_Wo, (pG (inT4 _ (List.mem_of_getElem? (i := 147) rfl)) rfl), ⟨by decide +kernel, by decide +kernel⟩, by decide⟩
theorem ok_Wo_lawOf : pOkV m_Wo_lawOf := ⟨(pG (inT4 _ (List.mem_of_getElem? (i := 21) rfl)) rfl), (pG (inT4 _ (List.mem_of_getElem? (i := 22) rfl)) rfl), ini_Wo, (pG (inT4 _ (List.mem_of_getElem? (i := 23) rfl)) rfl), ⟨by decide +kernel, by decide +kernel⟩, by decide⟩
theorem ok_Wo_lawOfPair : pOkV m_Wo_lawOfPair := ⟨(pG (inT4 _ (List.mem_of_getElem? (i := 86) rfl)) rfl), (pG (inT4 _ (List.mem_of_getElem? (i := 87) rfl)) rfl), ini_Wo, (pG (inT4 _ (List.mem_of_getElem? (i := 88) rfl)) rfl), ⟨by decide +kernel, by decide +kernel⟩, by decide⟩
theorem ok_Wo_makeAllLeft : pOkV m_Wo_makeAllLeft := ⟨(pG (inT5 _ (List.mem_of_getElem? (i := 163) rfl)) rfl), (pG (inT5 _ (List.mem_of_getElem? (i := 164) rfl)) rfl), ini_Wo, (pG (inT5 _ (List.mem_of_getElem? (i := 165) rfl)) rfl), ⟨by decide +kernel, by decide +kernel⟩, by decide⟩
theorem ok_Wo_move : pOkV m_Wo_move := ⟨(pG (inT4 _ (List.mem_of_getElem? (i := 128) rfl)) rfl), (pG (inT4 _ (List.mem_of_getElem? (i := 129) rfl)) rfl), ini_Wo, (pG (inT4 _ (List.mem_of_getElem? (i := 130) rfl)) rfl), ⟨by decide +kernel, by decide +kernel⟩, by decide⟩
theorem ok_Wo_pairOf : pOkV m_Wo_pairOf := ⟨(pG (inT4 _ (List.mem_of_getElem? (i := 82) rfl)) rfl), (pG (inT4 _ (List.mem_of_getElem? (i := 83) rfl)) rfl), ini_Wo, (pG (inT4 _ (List.mem_of_getElem? (i := 84) rfl)) rfl), ⟨by decide +kernel, by decide +kernel⟩, by decide⟩
theorem ok_Wo_passDay : pOkV m_Wo_passDay := ⟨(pG (inT4 _ (List.mem_of_getElem? (i := 162) rfl)) rfl), (pG (inT4 _ (List.mem_of_getElem? (i := 163) rfl)) rfl), ini_Wo, (pG (inT4 _ (List.mem_of_getElem? (i := 164) rfl)) rfl), ⟨by decide +kernel, by decide +kernel⟩, by decide⟩
theorem ok_Wo_putOn : pOkV m_Wo_putOn := ⟨(pG (inT4 _ (List.mem_of_getElem? (i := 149) rfl)) rfl), (pG (inT4 _ (List.mem_of_getElem? (i := 150) rfl)) rfl), ini_Wo, (pG (inT4 _ (List.mem_of_getElem? (i := 151) rfl)) rfl), ⟨by decide +kernel, by decide +kernel⟩, by decide⟩
theorem ok_Wo_shoesFor : pOkV m_Wo_shoesFor := ⟨(pG (inT4 _ (List.mem_of_getElem? (i := 108) rfl)) rfl), (pG (inT4 _ (List.mem_of_getElem? (i := 109) rfl)) rfl), ini_Wo, (pG (inT4 _ (List.mem_of_getElem? (i := 110) rfl)) rfl), ⟨by decide +kernel, by decide +kernel⟩, by decide⟩
theorem ok_Wo_shoesOf : pOkV m_Wo_shoesOf := ⟨(pG (inT4 _ (List.mem_of_getElem? (i := 60) rfl)) rfl), (pG (inT4 _ (List.mem_of_getElem? (i := 61) rfl)) rfl), ini_Wo, (pG (inT4 _ (List.mem_of_getElem? (i := 62) rfl)) rfl), ⟨by decide +kernel, by decide +kernel⟩, by decide⟩
theorem ok_Wo_takeOff : pOkV m_Wo_takeOff := ⟨(pG (inT4 _ (List.mem_of_getElem? (i := 132) rfl)) rfl), (pG (inT4 _ (List.mem_of_getElem? (i := 133) rfl)) rfl), ini_Wo, (pG (inT4 _ (List.mem_of_getElem? (i := 134) rfl)) rfl), ⟨by decide +kernel, by decide +kernel⟩, by decide⟩
theorem ok_Wo_undress : pOkV m_Wo_undress := ⟨(pG (inT5 _ (List.mem_of_getElem? (i := 159) rfl)) rfl), (pG (inT5 _ (List.mem_of_getElem? (i := 160) rfl)) rfl), ini_Wo, (pG (inT5 _ (List.mem_of_getElem? (i := 161) rfl)) rfl), ⟨by decide +kernel, by decide +kernel⟩, by decide⟩
theorem ok_Wo_useMore : pOkV m_Wo_useMore := ⟨(pG (inT4 _ (List.mem_of_getElem? (i := 171) rfl)) rfl), (pG (inP _ (List.mem_of_getElem? (i := 23) rfl)) rfl), ini_Wo, (pG (inT4 _ (List.mem_of_getElem? (i := 172) rfl)) rfl), ⟨by decide +kernel, by decide +kernel⟩, by decide⟩
theorem ok_Wo_walkThroughMud : pOkV m_Wo_walkThroughMud := ⟨(pG (inT5 _ (List.mem_of_getElem? (i := 145) rfl)) rfl), (pG (inT5 _ (List.mem_of_getElem? (i := 146) rfl)) rfl), ini_Wo, (pG (inT5 _ (List.mem_of_getElem? (i := 147) rfl)) rfl), ⟨by decide +kernel, by decide +kernel⟩, by decide⟩
theorem ok_Wo_wearWhen : pOkV m_Wo_wearWhen := ⟨(pG (inT4 _ (List.mem_of_getElem? (i := 166) rfl)) rfl), (pG (inT4 _ (List.mem_of_getElem? (i := 167) rfl)) rfl), ini_Wo, (pG (inT4 _ (List.mem_of_getElem? (i := 168) rfl)) rfl), ⟨by decide +kernel, by decide +kernel⟩, by decide⟩
theorem ok_Wo_within : pOkS m_Wo_within := ⟨(pG (inT4 _ (List.mem_of_getElem? (i := 50) rfl)) rfl), ini_Wo, (pG (inT4 _ (List.mem_of_getElem? (i := 51) rfl)) rfl), ⟨by decide +kernel, by decide +kernel⟩, by decide⟩
theorem ok_Wo_worthOf : pOkV m_Wo_worthOf := ⟨(pG (inT4 _ (List.mem_of_getElem? (i := 5) rfl)) rfl), (pG (inT4 _ (List.mem_of_getElem? (i := 6) rfl)) rfl), ini_Wo, (pG (inT4 _ (List.mem_of_getElem? (i := 7) rfl)) rfl), ⟨by decide +kernel, by decide +kernel⟩, by decide⟩
theorem ok_Wo_worthOfAll : pOkV m_Wo_worthOfAll := ⟨(pG (inT5 _ (List.mem_of_getElem? (i := 167) rfl)) rfl), (pG (inT5 _ (List.mem_of_getElem? (i := 168) rfl)) rfl), ini_Wo, (pG (inT5 _ (List.mem_of_getElem? (i := 169) rfl)) rfl), ⟨by decide +kernel, by decide +kernel⟩, by decide⟩
theorem ok_Wo_worthOfFreshBoot : pOkV m_Wo_worthOfFreshBoot := ⟨(pG (inT4 _ (List.mem_of_getElem? (i := 196) rfl)) rfl), (pG (inT4 _ (List.mem_of_getElem? (i := 197) rfl)) rfl), ini_Wo, (pG (inT4 _ (List.mem_of_getElem? (i := 198) rfl)) rfl), ⟨by decide +kernel, by decide +kernel⟩, by decide⟩
theorem ok_Wo_worthOwned : pOkV m_Wo_worthOwned := ⟨(pG (inT4 _ (List.mem_of_getElem? (i := 1) rfl)) rfl), (pG (inT4 _ (List.mem_of_getElem? (i := 2) rfl)) rfl), ini_Wo, (pG (inT4 _ (List.mem_of_getElem? (i := 3) rfl)) rfl), ⟨by decide +kernel, by decide +kernel⟩, by decide⟩
theorem ok_Wo_worthWhen : pOkV m_Wo_worthWhen := ⟨(pG (inT4 _ (List.mem_of_getElem? (i := 17) rfl)) rfl), (pG (inT4 _ (List.mem_of_getElem? (i := 18) rfl)) rfl), ini_Wo, (pG (inT4 _ (List.mem_of_getElem? (i := 19) rfl)) rfl), ⟨by decide +kernel, by decide +kernel⟩, by decide⟩
theorem ok_Mo_init : pOkI m_Mo_init := ⟨(pG (inT6 _ (List.mem_of_getElem? (i := 50) rfl)) rfl), rfl, ini_Mo, (pG (inT6 _ (List.mem_of_getElem? (i := 51) rfl)) rfl), ⟨by decide +kernel, by decide +kernel⟩, by decide⟩
theorem ok_Mo_aDay : pOkV m_Mo_aDay := ⟨(pG (inT8 _ (List.mem_of_getElem? (i := 161) rfl)) rfl), (pG (inP _ (List.mem_of_getElem? (i := 97) rfl)) rfl), ini_Mo, (pG (inT8 _ (List.mem_of_getElem? (i := 162) rfl)) rfl), ⟨by decide +kernel, by decide +kernel⟩, by decide⟩
theorem ok_Mo_allWorth : pOkV m_Mo_allWorth := ⟨(pG (inT9 _ (List.mem_of_getElem? (i := 97) rfl)) rfl), (pG (inP _ (List.mem_of_getElem? (i := 119) rfl)) rfl), ini_Mo, (pG (inT9 _ (List.mem_of_getElem? (i := 98) rfl)) rfl), ⟨by decide +kernel, by decide +kernel⟩, by decide⟩
theorem ok_Mo_areClaims : pOkV m_Mo_areClaims := ⟨(pG (inT9 _ (List.mem_of_getElem? (i := 2) rfl)) rfl), (pG (inP _ (List.mem_of_getElem? (i := 107) rfl)) rfl), ini_Mo, (pG (inT9 _ (List.mem_of_getElem? (i := 3) rfl)) rfl), ⟨by decide +kernel, by decide +kernel⟩, by decide⟩
theorem ok_Mo_areHalves : pOkV m_Mo_areHalves := ⟨(pG (inT8 _ (List.mem_of_getElem? (i := 220) rfl)) rfl), (pG (inP _ (List.mem_of_getElem? (i := 105) rfl)) rfl), ini_Mo, (pG (inT8 _ (List.mem_of_getElem? (i := 221) rfl)) rfl), ⟨by decide +kernel, by decide +kernel⟩, by decide⟩
theorem ok_Mo_arePair : pOkV m_Mo_arePair := ⟨(pG (inT8 _ (List.mem_of_getElem? (i := 85) rfl)) rfl), (pG (inP _ (List.mem_of_getElem? (i := 86) rfl)) rfl), ini_Mo, (pG (inT8 _ (List.mem_of_getElem? (i := 86) rfl)) rfl), ⟨by decide +kernel, by decide +kernel⟩, by decide⟩
theorem ok_Mo_back : pOkV m_Mo_back := ⟨(pG (inT9 _ (List.mem_of_getElem? (i := 112) rfl)) rfl), (pG (inT9 _ (List.mem_of_getElem? (i := 113) rfl)) rfl), ini_Mo, (pG (inT9 _ (List.mem_of_getElem? (i := 114) rfl)) rfl), ⟨by decide +kernel, by decide +kernel⟩, by decide⟩
theorem ok_Mo_begin : pOkV m_Mo_begin := ⟨(pG (inT6 _ (List.mem_of_getElem? (i := 66) rfl)) rfl), (pG (inP _ (List.mem_of_getElem? (i := 44) rfl)) rfl), ini_Mo, (pG (inT6 _ (List.mem_of_getElem? (i := 67) rfl)) rfl), ⟨by decide +kernel, by decide +kernel⟩, by decide⟩
theorem ok_Mo_bind : pOkV m_Mo_bind := ⟨(pG (inT7 _ (List.mem_of_getElem? (i := 229) rfl)) rfl), (pG (inP _ (List.mem_of_getElem? (i := 70) rfl)) rfl), ini_Mo, (pG (inT7 _ (List.mem_of_getElem? (i := 230) rfl)) rfl), ⟨by decide +kernel, by decide +kernel⟩, by decide⟩
theorem ok_Mo_boundLaw : pOkV m_Mo_boundLaw := ⟨(pG (inT8 _ (List.mem_of_getElem? (i := 36) rfl)) rfl), (pG (inP _ (List.mem_of_getElem? (i := 78) rfl)) rfl), ini_Mo, (pG (inT8 _ (List.mem_of_getElem? (i := 37) rfl)) rfl), ⟨by decide +kernel, by decide +kernel⟩, by decide⟩
theorem ok_Mo_bounded : pOkV m_Mo_bounded := ⟨(pG (inT8 _ (List.mem_of_getElem? (i := 48) rfl)) rfl), (pG (inP _ (List.mem_of_getElem? (i := 81) rfl)) rfl), ini_Mo, (pG (inT8 _ (List.mem_of_getElem? (i := 49) rfl)) rfl), ⟨by decide +kernel, by decide +kernel⟩, by decide⟩
theorem ok_Mo_chance : pOkV m_Mo_chance := ⟨(pG (inT9 _ (List.mem_of_getElem? (i := 72) rfl)) rfl), (pG (inT9 _ (List.mem_of_getElem? (i := 73) rfl)) rfl), ini_Mo, (pG (inT9 _ (List.mem_of_getElem? (i := 74) rfl)) rfl), ⟨by decide +kernel, by decide +kernel⟩, by decide⟩
theorem ok_Mo_chances : pOkV m_Mo_chances := ⟨(pG (inT9 _ (List.mem_of_getElem? (i := 81) rfl)) rfl), (pG (inP _ (List.mem_of_getElem? (i := 117) rfl)) rfl), ini_Mo, (pG (inT9 _ (List.mem_of_getElem? (i := 82) rfl)) rfl), ⟨by decide +kernel, by decide +kernel⟩, by decide⟩
theorem ok_Mo_change : pOkV m_Mo_change := ⟨(pG (inT8 _ (List.mem_of_getElem? (i := 140) rfl)) rfl), (pG (inT8 _ (List.mem_of_getElem? (i := 141) rfl)) rfl), ini_Mo, (pG (inT8 _ (List.mem_of_getElem? (i := 142) rfl)) rfl), ⟨by decide +kernel, by decide +kernel⟩, by decide⟩
theorem ok_Mo_changeOf : pOkV m_Mo_changeOf := ⟨(pG (inT8 _ (List.mem_of_getElem? (i := 110) rfl)) rfl), (pG (inP _ (List.mem_of_getElem? (i := 90) rfl)) rfl), ini_Mo, (pG (inT8 _ (List.mem_of_getElem? (i := 111) rfl)) rfl), ⟨by decide +kernel, by decide +kernel⟩, by decide⟩
theorem ok_Mo_claimLine : pOkV m_Mo_claimLine := ⟨(pG (inT7 _ (List.mem_of_getElem? (i := 189) rfl)) rfl), (pG (inP _ (List.mem_of_getElem? (i := 60) rfl)) rfl), ini_Mo, (pG (inT7 _ (List.mem_of_getElem? (i := 190) rfl)) rfl), ⟨by decide +kernel, by decide +kernel⟩, by decide⟩
theorem ok_Mo_compares : pOkS m_Mo_compares := ⟨(pG (inT8 _ (List.mem_of_getElem? (i := 57) rfl)) rfl), ini_Mo, (pG (inT8 _ (List.mem_of_getElem? (i := 58) rfl)) rfl), ⟨by decide +kernel, by decide +kernel⟩, by decide⟩
theorem ok_Mo_copies : pOkS m_Mo_copies := ⟨(pG (inT6 _ (List.mem_of_getElem? (i := 62) rfl)) rfl), ini_Mo, (pG (inT6 _ (List.mem_of_getElem? (i := 63) rfl)) rfl), ⟨by decide +kernel, by decide +kernel⟩, by decide⟩
theorem ok_Mo_count : pOkV m_Mo_count := ⟨(pG (inT9 _ (List.mem_of_getElem? (i := 116) rfl)) rfl), (pG (inT9 _ (List.mem_of_getElem? (i := 117) rfl)) rfl), ini_Mo, (pG (inT9 _ (List.mem_of_getElem? (i := 118) rfl)) rfl), ⟨by decide +kernel, by decide +kernel⟩, by decide⟩
theorem ok_Mo_days : pOkV m_Mo_days := ⟨(pG (inT8 _ (List.mem_of_getElem? (i := 156) rfl)) rfl), (pG (inT8 _ (List.mem_of_getElem? (i := 157) rfl)) rfl), ini_Mo, (pG (inT8 _ (List.mem_of_getElem? (i := 158) rfl)) rfl), ⟨by decide +kernel, by decide +kernel⟩, by decide⟩
theorem ok_Mo_debt : pOkV m_Mo_debt := ⟨(pG (inT8 _ (List.mem_of_getElem? (i := 76) rfl)) rfl), (pG (inT8 _ (List.mem_of_getElem? (i := 77) rfl)) rfl), ini_Mo, (pG (inT8 _ (List.mem_of_getElem? (i := 78) rfl)) rfl), ⟨by decide +kernel, by decide +kernel⟩, by decide⟩
theorem ok_Mo_debtLine : pOkV m_Mo_debtLine := ⟨(pG (inT7 _ (List.mem_of_getElem? (i := 185) rfl)) rfl), (pG (inP _ (List.mem_of_getElem? (i := 59) rfl)) rfl), ini_Mo, (pG (inT7 _ (List.mem_of_getElem? (i := 186) rfl)) rfl), ⟨by decide +kernel, by decide +kernel⟩, by decide⟩
theorem ok_Mo_dropHeld : pOkV m_Mo_dropHeld := ⟨(pG (inT7 _ (List.mem_of_getElem? (i := 236) rfl)) rfl), (pG (inP _ (List.mem_of_getElem? (i := 71) rfl)) rfl), ini_Mo, (pG (inT7 _ (List.mem_of_getElem? (i := 237) rfl)) rfl), ⟨by decide +kernel, by decide +kernel⟩, by decide⟩
theorem ok_Mo_fails : pOkV m_Mo_fails := ⟨(pG (inT8 _ (List.mem_of_getElem? (i := 16) rfl)) rfl), (pG (inP _ (List.mem_of_getElem? (i := 73) rfl)) rfl), ini_Mo, (pG (inT8 _ (List.mem_of_getElem? (i := 17) rfl)) rfl), ⟨by decide +kernel, by decide +kernel⟩, by decide⟩
theorem ok_Mo_fault : pOkV m_Mo_fault := ⟨(pG (inT7 _ (List.mem_of_getElem? (i := 239) rfl)) rfl), (pG (inT8 _ (List.mem_of_getElem? (i := 0) rfl)) rfl), ini_Mo, (pG (inT8 _ (List.mem_of_getElem? (i := 1) rfl)) rfl), ⟨by decide +kernel, by decide +kernel⟩, by decide⟩
theorem ok_Mo_feed : pOkV m_Mo_feed := ⟨(pG (inT7 _ (List.mem_of_getElem? (i := 113) rfl)) rfl), (pG (inT7 _ (List.mem_of_getElem? (i := 114) rfl)) rfl), ini_Mo, (pG (inT7 _ (List.mem_of_getElem? (i := 115) rfl)) rfl), ⟨by decide +kernel, by decide +kernel⟩, by decide⟩
theorem ok_Mo_find : pOkS m_Mo_find := ⟨(pG (inT7 _ (List.mem_of_getElem? (i := 158) rfl)) rfl), ini_Mo, (pG (inT7 _ (List.mem_of_getElem? (i := 159) rfl)) rfl), ⟨by decide +kernel, by decide +kernel⟩, by decide⟩
theorem ok_Mo_give : pOkV m_Mo_give := ⟨(pG (inT8 _ (List.mem_of_getElem? (i := 144) rfl)) rfl), (pG (inT8 _ (List.mem_of_getElem? (i := 145) rfl)) rfl), ini_Mo, (pG (inT8 _ (List.mem_of_getElem? (i := 146) rfl)) rfl), ⟨by decide +kernel, by decide +kernel⟩, by decide⟩
theorem ok_Mo_goes : pOkV m_Mo_goes := ⟨(pG (inT8 _ (List.mem_of_getElem? (i := 133) rfl)) rfl), (pG (inP _ (List.mem_of_getElem? (i := 95) rfl)) rfl), ini_Mo, (pG (inT8 _ (List.mem_of_getElem? (i := 134) rfl)) rfl), ⟨by decide +kernel, by decide +kernel⟩, by decide⟩
theorem ok_Mo_good : pOkV m_Mo_good := ⟨(pG (inT9 _ (List.mem_of_getElem? (i := 68) rfl)) rfl), (pG (inT9 _ (List.mem_of_getElem? (i := 69) rfl)) rfl), ini_Mo, (pG (inT9 _ (List.mem_of_getElem? (i := 70) rfl)) rfl), ⟨by decide +kernel, by decide +kernel⟩, by decide⟩
theorem ok_Mo_grown : pOkV m_Mo_grown := ⟨(pG (inT7 _ (List.mem_of_getElem? (i := 221) rfl)) rfl), (pG (inP _ (List.mem_of_getElem? (i := 68) rfl)) rfl), ini_Mo, (pG (inT7 _ (List.mem_of_getElem? (i := 222) rfl)) rfl), ⟨by decide +kernel, by decide +kernel⟩, by decide⟩
theorem ok_Mo_hasOf : pOkS m_Mo_hasOf := ⟨(pG (inT8 _ (List.mem_of_getElem? (i := 230) rfl)) rfl), ini_Mo, (pG (inT8 _ (List.mem_of_getElem? (i := 231) rfl)) rfl), ⟨by decide +kernel, by decide +kernel⟩, by decide⟩
theorem ok_Mo_isCounted : pOkV m_Mo_isCounted := ⟨(pG (inT7 _ (List.mem_of_getElem? (i := 213) rfl)) rfl), (pG (inP _ (List.mem_of_getElem? (i := 66) rfl)) rfl), ini_Mo, (pG (inT7 _ (List.mem_of_getElem? (i := 214) rfl)) rfl), ⟨by decide +kernel, by decide +kernel⟩, by decide⟩
theorem ok_Mo_isDigit : pOkV m_Mo_isDigit := ⟨(pG (inT7 _ (List.mem_of_getElem? (i := 138) rfl)) rfl), (pG (inP _ (List.mem_of_getElem? (i := 49) rfl)) rfl), ini_Mo, (pG (inT7 _ (List.mem_of_getElem? (i := 139) rfl)) rfl), ⟨by decide +kernel, by decide +kernel⟩, by decide⟩
theorem ok_Mo_isIn : pOkS m_Mo_isIn := ⟨(pG (inT7 _ (List.mem_of_getElem? (i := 165) rfl)) rfl), ini_Mo, (pG (inT7 _ (List.mem_of_getElem? (i := 166) rfl)) rfl), ⟨by decide +kernel, by decide +kernel⟩, by decide⟩
theorem ok_Mo_isKey : pOkV m_Mo_isKey := ⟨(pG (inT7 _ (List.mem_of_getElem? (i := 177) rfl)) rfl), (pG (inP _ (List.mem_of_getElem? (i := 57) rfl)) rfl), ini_Mo, (pG (inT7 _ (List.mem_of_getElem? (i := 178) rfl)) rfl), ⟨by decide +kernel, by decide +kernel⟩, by decide⟩
theorem ok_Mo_isMinted : pOkV m_Mo_isMinted := ⟨(pG (inT8 _ (List.mem_of_getElem? (i := 184) rfl)) rfl), (pG (inP _ (List.mem_of_getElem? (i := 100) rfl)) rfl), ini_Mo, (pG (inT8 _ (List.mem_of_getElem? (i := 185) rfl)) rfl), ⟨by decide +kernel, by decide +kernel⟩, by decide⟩
theorem ok_Mo_isOf : pOkS m_Mo_isOf := ⟨(pG (inT8 _ (List.mem_of_getElem? (i := 117) rfl)) rfl), ini_Mo, (pG (inT8 _ (List.mem_of_getElem? (i := 118) rfl)) rfl), ⟨by decide +kernel, by decide +kernel⟩, by decide⟩
theorem ok_Mo_isPerson : pOkV m_Mo_isPerson := ⟨(pG (inT8 _ (List.mem_of_getElem? (i := 69) rfl)) rfl), (pG (inP _ (List.mem_of_getElem? (i := 84) rfl)) rfl), ini_Mo, (pG (inT8 _ (List.mem_of_getElem? (i := 70) rfl)) rfl), ⟨by decide +kernel, by decide +kernel⟩, by decide⟩
theorem ok_Mo_isRest : pOkS m_Mo_isRest := ⟨(pG (inT8 _ (List.mem_of_getElem? (i := 227) rfl)) rfl), ini_Mo, (pG (inT8 _ (List.mem_of_getElem? (i := 228) rfl)) rfl), ⟨by decide +kernel, by decide +kernel⟩, by decide⟩
theorem ok_Mo_isRing : pOkV m_Mo_isRing := ⟨(pG (inT9 _ (List.mem_of_getElem? (i := 61) rfl)) rfl), (pG (inP _ (List.mem_of_getElem? (i := 114) rfl)) rfl), ini_Mo, (pG (inT9 _ (List.mem_of_getElem? (i := 62) rfl)) rfl), ⟨by decide +kernel, by decide +kernel⟩, by decide⟩
theorem ok_Mo_isShoe : pOkV m_Mo_isShoe := ⟨(pG (inT8 _ (List.mem_of_getElem? (i := 12) rfl)) rfl), (pG (inP _ (List.mem_of_getElem? (i := 72) rfl)) rfl), ini_Mo, (pG (inT8 _ (List.mem_of_getElem? (i := 13) rfl)) rfl), ⟨by decide +kernel, by decide +kernel⟩, by decide⟩
theorem ok_Mo_isSign : pOkV m_Mo_isSign := ⟨(pG (inT7 _ (List.mem_of_getElem? (i := 201) rfl)) rfl), (pG (inP _ (List.mem_of_getElem? (i := 63) rfl)) rfl), ini_Mo, (pG (inT7 _ (List.mem_of_getElem? (i := 202) rfl)) rfl), ⟨by decide +kernel, by decide +kernel⟩, by decide⟩
theorem ok_Mo_isSmall : pOkV m_Mo_isSmall := ⟨(pG (inT7 _ (List.mem_of_getElem? (i := 126) rfl)) rfl), (pG (inP _ (List.mem_of_getElem? (i := 46) rfl)) rfl), ini_Mo, (pG (inT7 _ (List.mem_of_getElem? (i := 127) rfl)) rfl), ⟨by decide +kernel, by decide +kernel⟩, by decide⟩
theorem ok_Mo_isThere : pOkV m_Mo_isThere := ⟨(pG (inT8 _ (List.mem_of_getElem? (i := 89) rfl)) rfl), (pG (inP _ (List.mem_of_getElem? (i := 87) rfl)) rfl), ini_Mo, (pG (inT8 _ (List.mem_of_getElem? (i := 90) rfl)) rfl), ⟨by decide +kernel, by decide +kernel⟩, by decide⟩
theorem ok_Mo_isTrackOf : pOkV m_Mo_isTrackOf := ⟨(pG (inT9 _ (List.mem_of_getElem? (i := 42) rfl)) rfl), (pG (inP _ (List.mem_of_getElem? (i := 112) rfl)) rfl), ini_Mo, (pG (inT9 _ (List.mem_of_getElem? (i := 43) rfl)) rfl), ⟨by decide +kernel, by decide +kernel⟩, by decide⟩
theorem ok_Mo_isWorn : pOkV m_Mo_isWorn := ⟨(pG (inT8 _ (List.mem_of_getElem? (i := 61) rfl)) rfl), (pG (inP _ (List.mem_of_getElem? (i := 83) rfl)) rfl), ini_Mo, (pG (inT8 _ (List.mem_of_getElem? (i := 62) rfl)) rfl), ⟨by decide +kernel, by decide +kernel⟩, by decide⟩
theorem ok_Mo_keep : pOkV m_Mo_keep := ⟨(pG (inT9 _ (List.mem_of_getElem? (i := 108) rfl)) rfl), (pG (inT9 _ (List.mem_of_getElem? (i := 109) rfl)) rfl), ini_Mo, (pG (inT9 _ (List.mem_of_getElem? (i := 110) rfl)) rfl), ⟨by decide +kernel, by decide +kernel⟩, by decide⟩
theorem ok_Mo_keepText : pOkV m_Mo_keepText := ⟨(pG (inT6 _ (List.mem_of_getElem? (i := 59) rfl)) rfl), (pG (inP _ (List.mem_of_getElem? (i := 43) rfl)) rfl), ini_Mo, (pG (inT6 _ (List.mem_of_getElem? (i := 60) rfl)) rfl), ⟨by decide +kernel, by decide +kernel⟩, by decide⟩
theorem ok_Mo_known : pOkV m_Mo_known := ⟨(pG (inT9 _ (List.mem_of_getElem? (i := 25) rfl)) rfl), (pG (inT9 _ (List.mem_of_getElem? (i := 26) rfl)) rfl), ini_Mo, (pG (inT9 _ (List.mem_of_getElem? (i := 27) rfl)) rfl), ⟨by decide +kernel, by decide +kernel⟩, by decide⟩
theorem ok_Mo_knownBy : pOkV m_Mo_knownBy := ⟨(pG (inT9 _ (List.mem_of_getElem? (i := 38) rfl)) rfl), (pG (inP _ (List.mem_of_getElem? (i := 111) rfl)) rfl), ini_Mo, (pG (inT9 _ (List.mem_of_getElem? (i := 39) rfl)) rfl), ⟨by decide +kernel, by decide +kernel⟩, by decide⟩
theorem ok_Mo_law : pOkV m_Mo_law := ⟨(pG (inT8 _ (List.mem_of_getElem? (i := 100) rfl)) rfl), (pG (inT8 _ (List.mem_of_getElem? (i := 101) rfl)) rfl), ini_Mo, (pG (inT8 _ (List.mem_of_getElem? (i := 102) rfl)) rfl), ⟨by decide +kernel, by decide +kernel⟩, by decide⟩
theorem ok_Mo_lawOf : pOkV m_Mo_lawOf := ⟨(pG (inT8 _ (List.mem_of_getElem? (i := 40) rfl)) rfl), (pG (inP _ (List.mem_of_getElem? (i := 79) rfl)) rfl), ini_Mo, (pG (inT8 _ (List.mem_of_getElem? (i := 41) rfl)) rfl), ⟨by decide +kernel, by decide +kernel⟩, by decide⟩
theorem ok_Mo_layHalf : pOkV m_Mo_layHalf := ⟨(pG (inT8 _ (List.mem_of_getElem? (i := 114) rfl)) rfl), (pG (inP _ (List.mem_of_getElem? (i := 91) rfl)) rfl), ini_Mo, (pG (inT8 _ (List.mem_of_getElem? (i := 115) rfl)) rfl), ⟨by decide +kernel, by decide +kernel⟩, by decide⟩
theorem ok_Mo_layNames : pOkV m_Mo_layNames := ⟨(pG (inT8 _ (List.mem_of_getElem? (i := 32) rfl)) rfl), (pG (inP _ (List.mem_of_getElem? (i := 77) rfl)) rfl), ini_Mo, (pG (inT8 _ (List.mem_of_getElem? (i := 33) rfl)) rfl), ⟨by decide +kernel, by decide +kernel⟩, by decide⟩
theorem ok_Mo_layPair : pOkV m_Mo_layPair := ⟨(pG (inT8 _ (List.mem_of_getElem? (i := 97) rfl)) rfl), (pG (inP _ (List.mem_of_getElem? (i := 89) rfl)) rfl), ini_Mo, (pG (inT8 _ (List.mem_of_getElem? (i := 98) rfl)) rfl), ⟨by decide +kernel, by decide +kernel⟩, by decide⟩
theorem ok_Mo_layPairs : pOkV m_Mo_layPairs := ⟨(pG (inT8 _ (List.mem_of_getElem? (i := 192) rfl)) rfl), (pG (inP _ (List.mem_of_getElem? (i := 101) rfl)) rfl), ini_Mo, (pG (inT8 _ (List.mem_of_getElem? (i := 193) rfl)) rfl), ⟨by decide +kernel, by decide +kernel⟩, by decide⟩
theorem ok_Mo_layRing : pOkV m_Mo_layRing := ⟨(pG (inT9 _ (List.mem_of_getElem? (i := 54) rfl)) rfl), (pG (inP _ (List.mem_of_getElem? (i := 113) rfl)) rfl), ini_Mo, (pG (inT9 _ (List.mem_of_getElem? (i := 55) rfl)) rfl), ⟨by decide +kernel, by decide +kernel⟩, by decide⟩
theorem ok_Mo_layTried : pOkV m_Mo_layTried := ⟨(pG (inT9 _ (List.mem_of_getElem? (i := 77) rfl)) rfl), (pG (inP _ (List.mem_of_getElem? (i := 116) rfl)) rfl), ini_Mo, (pG (inT9 _ (List.mem_of_getElem? (i := 78) rfl)) rfl), ⟨by decide +kernel, by decide +kernel⟩, by decide⟩
theorem ok_Mo_layWalk : pOkV m_Mo_layWalk := ⟨(pG (inT8 _ (List.mem_of_getElem? (i := 208) rfl)) rfl), (pG (inP _ (List.mem_of_getElem? (i := 103) rfl)) rfl), ini_Mo, (pG (inT8 _ (List.mem_of_getElem? (i := 209) rfl)) rfl), ⟨by decide +kernel, by decide +kernel⟩, by decide⟩
theorem ok_Mo_leafRead : pOkV m_Mo_leafRead := ⟨(pG (inT7 _ (List.mem_of_getElem? (i := 205) rfl)) rfl), (pG (inP _ (List.mem_of_getElem? (i := 64) rfl)) rfl), ini_Mo, (pG (inT7 _ (List.mem_of_getElem? (i := 206) rfl)) rfl), ⟨by decide +kernel, by decide +kernel⟩, by decide⟩
theorem ok_Mo_lineRead : pOkV m_Mo_lineRead := ⟨(pG (inT7 _ (List.mem_of_getElem? (i := 147) rfl)) rfl), (pG (inP _ (List.mem_of_getElem? (i := 51) rfl)) rfl), ini_Mo, (pG (inT7 _ (List.mem_of_getElem? (i := 148) rfl)) rfl), ⟨by decide +kernel, by decide +kernel⟩, by decide⟩
theorem ok_Mo_manyDebts : pOkV m_Mo_manyDebts := ⟨(pG (inT9 _ (List.mem_of_getElem? (i := 121) rfl)) rfl), (pG (inP _ (List.mem_of_getElem? (i := 121) rfl)) rfl), ini_Mo, (pG (inT9 _ (List.mem_of_getElem? (i := 122) rfl)) rfl), ⟨by decide +kernel, by decide +kernel⟩, by decide⟩
theorem ok_Mo_manyOf : pOkS m_Mo_manyOf := ⟨(pG (inT8 _ (List.mem_of_getElem? (i := 180) rfl)) rfl), ini_Mo, (pG (inT8 _ (List.mem_of_getElem? (i := 181) rfl)) rfl), ⟨by decide +kernel, by decide +kernel⟩, by decide⟩
theorem ok_Mo_mint : pOkV m_Mo_mint := ⟨(pG (inT8 _ (List.mem_of_getElem? (i := 176) rfl)) rfl), (pG (inT8 _ (List.mem_of_getElem? (i := 177) rfl)) rfl), ini_Mo, (pG (inT8 _ (List.mem_of_getElem? (i := 178) rfl)) rfl), ⟨by decide +kernel, by decide +kernel⟩, by decide⟩
theorem ok_Mo_mostBy : pOkV m_Mo_mostBy := ⟨(pG (inT8 _ (List.mem_of_getElem? (i := 196) rfl)) rfl), (pG (inP _ (List.mem_of_getElem? (i := 102) rfl)) rfl), ini_Mo, (pG (inT8 _ (List.mem_of_getElem? (i := 197) rfl)) rfl), ⟨by decide +kernel, by decide +kernel⟩, by decide⟩
theorem ok_Mo_nameMet : pOkV m_Mo_nameMet := ⟨(pG (inT7 _ (List.mem_of_getElem? (i := 217) rfl)) rfl), (pG (inP _ (List.mem_of_getElem? (i := 67) rfl)) rfl), ini_Mo, (pG (inT7 _ (List.mem_of_getElem? (i := 218) rfl)) rfl), ⟨by decide +kernel, by decide +kernel⟩, by decide⟩
theorem ok_Mo_named : pOkV m_Mo_named := ⟨(pG (inT8 _ (List.mem_of_getElem? (i := 3) rfl)) rfl), (pG (inT8 _ (List.mem_of_getElem? (i := 4) rfl)) rfl), ini_Mo, (pG (inT8 _ (List.mem_of_getElem? (i := 5) rfl)) rfl), ⟨by decide +kernel, by decide +kernel⟩, by decide⟩
theorem ok_Mo_number : pOkV m_Mo_number := ⟨(pG (inT7 _ (List.mem_of_getElem? (i := 162) rfl)) rfl), (pG (inP _ (List.mem_of_getElem? (i := 54) rfl)) rfl), ini_Mo, (pG (inT7 _ (List.mem_of_getElem? (i := 163) rfl)) rfl), ⟨by decide +kernel, by decide +kernel⟩, by decide⟩
theorem ok_Mo_number1 : pOkV m_Mo_number1 := ⟨(pG (inT9 _ (List.mem_of_getElem? (i := 85) rfl)) rfl), (pG (inP _ (List.mem_of_getElem? (i := 118) rfl)) rfl), ini_Mo, (pG (inT9 _ (List.mem_of_getElem? (i := 86) rfl)) rfl), ⟨by decide +kernel, by decide +kernel⟩, by decide⟩
theorem ok_Mo_ofOne : pOkV m_Mo_ofOne := ⟨(pG (inT8 _ (List.mem_of_getElem? (i := 73) rfl)) rfl), (pG (inP _ (List.mem_of_getElem? (i := 85) rfl)) rfl), ini_Mo, (pG (inT8 _ (List.mem_of_getElem? (i := 74) rfl)) rfl), ⟨by decide +kernel, by decide +kernel⟩, by decide⟩
theorem ok_Mo_off : pOkV m_Mo_off := ⟨(pG (inT8 _ (List.mem_of_getElem? (i := 152) rfl)) rfl), (pG (inT8 _ (List.mem_of_getElem? (i := 153) rfl)) rfl), ini_Mo, (pG (inT8 _ (List.mem_of_getElem? (i := 154) rfl)) rfl), ⟨by decide +kernel, by decide +kernel⟩, by decide⟩
theorem ok_Mo_on : pOkV m_Mo_on := ⟨(pG (inT8 _ (List.mem_of_getElem? (i := 148) rfl)) rfl), (pG (inT8 _ (List.mem_of_getElem? (i := 149) rfl)) rfl), ini_Mo, (pG (inT8 _ (List.mem_of_getElem? (i := 150) rfl)) rfl), ⟨by decide +kernel, by decide +kernel⟩, by decide⟩
theorem ok_Mo_packed : pOkV m_Mo_packed := ⟨(pG (inT7 _ (List.mem_of_getElem? (i := 134) rfl)) rfl), (pG (inP _ (List.mem_of_getElem? (i := 48) rfl)) rfl), ini_Mo, (pG (inT7 _ (List.mem_of_getElem? (i := 135) rfl)) rfl), ⟨by decide +kernel, by decide +kernel⟩, by decide⟩
theorem ok_Mo_pair : pOkV m_Mo_pair := ⟨(pG (inT8 _ (List.mem_of_getElem? (i := 80) rfl)) rfl), (pG (inT8 _ (List.mem_of_getElem? (i := 81) rfl)) rfl), ini_Mo, (pG (inT8 _ (List.mem_of_getElem? (i := 82) rfl)) rfl), ⟨by decide +kernel, by decide +kernel⟩, by decide⟩
theorem ok_Mo_pairOf : pOkV m_Mo_pairOf := ⟨(pG (inT8 _ (List.mem_of_getElem? (i := 93) rfl)) rfl), (pG (inP _ (List.mem_of_getElem? (i := 88) rfl)) rfl), ini_Mo, (pG (inT8 _ (List.mem_of_getElem? (i := 94) rfl)) rfl), ⟨by decide +kernel, by decide +kernel⟩, by decide⟩
theorem ok_Mo_pairs : pOkV m_Mo_pairs := ⟨(pG (inT8 _ (List.mem_of_getElem? (i := 187) rfl)) rfl), (pG (inT8 _ (List.mem_of_getElem? (i := 188) rfl)) rfl), ini_Mo, (pG (inT8 _ (List.mem_of_getElem? (i := 189) rfl)) rfl), ⟨by decide +kernel, by decide +kernel⟩, by decide⟩
theorem ok_Mo_partner : pOkV m_Mo_partner := ⟨(pG (inT8 _ (List.mem_of_getElem? (i := 199) rfl)) rfl), (pG (inT8 _ (List.mem_of_getElem? (i := 200) rfl)) rfl), ini_Mo, (pG (inT8 _ (List.mem_of_getElem? (i := 201) rfl)) rfl), ⟨by decide +kernel, by decide +kernel⟩, by decide⟩
theorem ok_Mo_pay : pOkV m_Mo_pay := ⟨(pG (inT8 _ (List.mem_of_getElem? (i := 105) rfl)) rfl), (pG (inT8 _ (List.mem_of_getElem? (i := 106) rfl)) rfl), ini_Mo, (pG (inT8 _ (List.mem_of_getElem? (i := 107) rfl)) rfl), ⟨by decide +kernel, by decide +kernel⟩, by decide⟩
theorem ok_Mo_pays : pOkV m_Mo_pays := ⟨(pG (inT8 _ (List.mem_of_getElem? (i := 129) rfl)) rfl), (pG (inP _ (List.mem_of_getElem? (i := 94) rfl)) rfl), ini_Mo, (pG (inT8 _ (List.mem_of_getElem? (i := 130) rfl)) rfl), ⟨by decide +kernel, by decide +kernel⟩, by decide⟩
theorem ok_Mo_person : pOkV m_Mo_person := ⟨(pG (inT8 _ (List.mem_of_getElem? (i := 64) rfl)) rfl), (pG (inT8 _ (List.mem_of_getElem? (i := 65) rfl)) rfl), ini_Mo, (pG (inT8 _ (List.mem_of_getElem? (i := 66) rfl)) rfl), ⟨by decide +kernel, by decide +kernel⟩, by decide⟩
theorem ok_Mo_personLine : pOkV m_Mo_personLine := ⟨(pG (inT7 _ (List.mem_of_getElem? (i := 155) rfl)) rfl), (pG (inP _ (List.mem_of_getElem? (i := 53) rfl)) rfl), ini_Mo, (pG (inT7 _ (List.mem_of_getElem? (i := 156) rfl)) rfl), ⟨by decide +kernel, by decide +kernel⟩, by decide⟩
theorem ok_Mo_personRead : pOkV m_Mo_personRead := ⟨(pG (inT7 _ (List.mem_of_getElem? (i := 181) rfl)) rfl), (pG (inP _ (List.mem_of_getElem? (i := 58) rfl)) rfl), ini_Mo, (pG (inT7 _ (List.mem_of_getElem? (i := 182) rfl)) rfl), ⟨by decide +kernel, by decide +kernel⟩, by decide⟩
theorem ok_Mo_pick : pOkV m_Mo_pick := ⟨(pG (inT7 _ (List.mem_of_getElem? (i := 173) rfl)) rfl), (pG (inP _ (List.mem_of_getElem? (i := 56) rfl)) rfl), ini_Mo, (pG (inT7 _ (List.mem_of_getElem? (i := 174) rfl)) rfl), ⟨by decide +kernel, by decide +kernel⟩, by decide⟩
theorem ok_Mo_plain : pOkV m_Mo_plain := ⟨(pG (inT6 _ (List.mem_of_getElem? (i := 55) rfl)) rfl), (pG (inP _ (List.mem_of_getElem? (i := 42) rfl)) rfl), ini_Mo, (pG (inT6 _ (List.mem_of_getElem? (i := 56) rfl)) rfl), ⟨by decide +kernel, by decide +kernel⟩, by decide⟩
theorem ok_Mo_powerOf : pOkS m_Mo_powerOf := ⟨(pG (inT9 _ (List.mem_of_getElem? (i := 57) rfl)) rfl), ini_Mo, (pG (inT9 _ (List.mem_of_getElem? (i := 58) rfl)) rfl), ⟨by decide +kernel, by decide +kernel⟩, by decide⟩
theorem ok_Mo_put : pOkV m_Mo_put := ⟨(pG (inT8 _ (List.mem_of_getElem? (i := 125) rfl)) rfl), (pG (inP _ (List.mem_of_getElem? (i := 93) rfl)) rfl), ini_Mo, (pG (inT8 _ (List.mem_of_getElem? (i := 126) rfl)) rfl), ⟨by decide +kernel, by decide +kernel⟩, by decide⟩
theorem ok_Mo_rank : pOkS m_Mo_rank := ⟨(pG (inT7 _ (List.mem_of_getElem? (i := 232) rfl)) rfl), ini_Mo, (pG (inT7 _ (List.mem_of_getElem? (i := 233) rfl)) rfl), ⟨by decide +kernel, by decide +kernel⟩, by decide⟩
theorem ok_Mo_rateOf : pOkV m_Mo_rateOf := ⟨(pG (inT9 _ (List.mem_of_getElem? (i := 65) rfl)) rfl), (pG (inP _ (List.mem_of_getElem? (i := 115) rfl)) rfl), ini_Mo, (pG (inT9 _ (List.mem_of_getElem? (i := 66) rfl)) rfl), ⟨by decide +kernel, by decide +kernel⟩, by decide⟩
theorem ok_Mo_refused : pOkV m_Mo_refused := ⟨(pG (inT8 _ (List.mem_of_getElem? (i := 172) rfl)) rfl), (pG (inT8 _ (List.mem_of_getElem? (i := 173) rfl)) rfl), ini_Mo, (pG (inT8 _ (List.mem_of_getElem? (i := 174) rfl)) rfl), ⟨by decide +kernel, by decide +kernel⟩, by decide⟩
theorem ok_Mo_remember : pOkV m_Mo_remember := ⟨(pG (inT8 _ (List.mem_of_getElem? (i := 121) rfl)) rfl), (pG (inP _ (List.mem_of_getElem? (i := 92) rfl)) rfl), ini_Mo, (pG (inT8 _ (List.mem_of_getElem? (i := 122) rfl)) rfl), ⟨by decide +kernel, by decide +kernel⟩, by decide⟩
theorem ok_Mo_rest : pOkV m_Mo_rest := ⟨(pG (inT8 _ (List.mem_of_getElem? (i := 233) rfl)) rfl), (pG (inT8 _ (List.mem_of_getElem? (i := 234) rfl)) rfl), ini_Mo, (pG (inT8 _ (List.mem_of_getElem? (i := 235) rfl)) rfl), ⟨by decide +kernel, by decide +kernel⟩, by decide⟩
theorem ok_Mo_restAt : pOkV m_Mo_restAt := ⟨(pG (inT8 _ (List.mem_of_getElem? (i := 224) rfl)) rfl), (pG (inP _ (List.mem_of_getElem? (i := 106) rfl)) rfl), ini_Mo, (pG (inT8 _ (List.mem_of_getElem? (i := 225) rfl)) rfl), ⟨by decide +kernel, by decide +kernel⟩, by decide⟩
theorem ok_Mo_rests : pOkV m_Mo_rests := ⟨(pG (inT8 _ (List.mem_of_getElem? (i := 215) rfl)) rfl), (pG (inT8 _ (List.mem_of_getElem? (i := 216) rfl)) rfl), ini_Mo, (pG (inT8 _ (List.mem_of_getElem? (i := 217) rfl)) rfl), ⟨by decide +kernel, by decide +kernel⟩, by decide⟩
theorem ok_Mo_ring : pOkV m_Mo_ring := ⟨(pG (inT9 _ (List.mem_of_getElem? (i := 49) rfl)) rfl), (pG (inT9 _ (List.mem_of_getElem? (i := 50) rfl)) rfl), ini_Mo, (pG (inT9 _ (List.mem_of_getElem? (i := 51) rfl)) rfl), ⟨by decide +kernel, by decide +kernel⟩, by decide⟩
theorem ok_Mo_run : pOkV m_Mo_run := ⟨(pG (inT8 _ (List.mem_of_getElem? (i := 237) rfl)) rfl), (pG (inT8 _ (List.mem_of_getElem? (i := 238) rfl)) rfl), ini_Mo, (pG (inT8 _ (List.mem_of_getElem? (i := 239) rfl)) rfl), ⟨by decide +kernel, by decide +kernel⟩, by decide⟩
theorem ok_Mo_runOf : pOkV m_Mo_runOf := ⟨(pG (inT9 _ (List.mem_of_getElem? (i := 6) rfl)) rfl), (pG (inP _ (List.mem_of_getElem? (i := 108) rfl)) rfl), ini_Mo, (pG (inT9 _ (List.mem_of_getElem? (i := 7) rfl)) rfl), ⟨by decide +kernel, by decide +kernel⟩, by decide⟩
theorem ok_Mo_save : pOkV m_Mo_save := ⟨(pG (inT9 _ (List.mem_of_getElem? (i := 9) rfl)) rfl), (pG (inT9 _ (List.mem_of_getElem? (i := 10) rfl)) rfl), ini_Mo, (pG (inT9 _ (List.mem_of_getElem? (i := 11) rfl)) rfl), ⟨by decide +kernel, by decide +kernel⟩, by decide⟩
theorem ok_Mo_shoe : pOkV m_Mo_shoe := ⟨(pG (inT8 _ (List.mem_of_getElem? (i := 7) rfl)) rfl), (pG (inT8 _ (List.mem_of_getElem? (i := 8) rfl)) rfl), ini_Mo, (pG (inT8 _ (List.mem_of_getElem? (i := 9) rfl)) rfl), ⟨by decide +kernel, by decide +kernel⟩, by decide⟩
theorem ok_Mo_shoeLine : pOkV m_Mo_shoeLine := ⟨(pG (inT7 _ (List.mem_of_getElem? (i := 169) rfl)) rfl), (pG (inP _ (List.mem_of_getElem? (i := 55) rfl)) rfl), ini_Mo, (pG (inT7 _ (List.mem_of_getElem? (i := 170) rfl)) rfl), ⟨by decide +kernel, by decide +kernel⟩, by decide⟩
theorem ok_Mo_sideNow : pOkV m_Mo_sideNow := ⟨(pG (inT8 _ (List.mem_of_getElem? (i := 28) rfl)) rfl), (pG (inP _ (List.mem_of_getElem? (i := 76) rfl)) rfl), ini_Mo, (pG (inT8 _ (List.mem_of_getElem? (i := 29) rfl)) rfl), ⟨by decide +kernel, by decide +kernel⟩, by decide⟩
theorem ok_Mo_signToken : pOkV m_Mo_signToken := ⟨(pG (inT7 _ (List.mem_of_getElem? (i := 143) rfl)) rfl), (pG (inP _ (List.mem_of_getElem? (i := 50) rfl)) rfl), ini_Mo, (pG (inT7 _ (List.mem_of_getElem? (i := 144) rfl)) rfl), ⟨by decide +kernel, by decide +kernel⟩, by decide⟩
theorem ok_Mo_signs : pOkV m_Mo_signs := ⟨(pG (inT7 _ (List.mem_of_getElem? (i := 225) rfl)) rfl), (pG (inP _ (List.mem_of_getElem? (i := 69) rfl)) rfl), ini_Mo, (pG (inT7 _ (List.mem_of_getElem? (i := 226) rfl)) rfl), ⟨by decide +kernel, by decide +kernel⟩, by decide⟩
theorem ok_Mo_strike : pOkV m_Mo_strike := ⟨(pG (inT9 _ (List.mem_of_getElem? (i := 21) rfl)) rfl), (pG (inT9 _ (List.mem_of_getElem? (i := 22) rfl)) rfl), ini_Mo, (pG (inT9 _ (List.mem_of_getElem? (i := 23) rfl)) rfl), ⟨by decide +kernel, by decide +kernel⟩, by decide⟩
theorem ok_Mo_sumRead : pOkV m_Mo_sumRead := ⟨(pG (inT7 _ (List.mem_of_getElem? (i := 197) rfl)) rfl), (pG (inP _ (List.mem_of_getElem? (i := 62) rfl)) rfl), ini_Mo, (pG (inT7 _ (List.mem_of_getElem? (i := 198) rfl)) rfl), ⟨by decide +kernel, by decide +kernel⟩, by decide⟩
theorem ok_Mo_swapLine : pOkV m_Mo_swapLine := ⟨(pG (inT7 _ (List.mem_of_getElem? (i := 193) rfl)) rfl), (pG (inP _ (List.mem_of_getElem? (i := 61) rfl)) rfl), ini_Mo, (pG (inT7 _ (List.mem_of_getElem? (i := 194) rfl)) rfl), ⟨by decide +kernel, by decide +kernel⟩, by decide⟩
theorem ok_Mo_take : pOkV m_Mo_take := ⟨(pG (inT9 _ (List.mem_of_getElem? (i := 105) rfl)) rfl), (pG (inP _ (List.mem_of_getElem? (i := 120) rfl)) rfl), ini_Mo, (pG (inT9 _ (List.mem_of_getElem? (i := 106) rfl)) rfl), ⟨by decide +kernel, by decide +kernel⟩, by decide⟩
theorem ok_Mo_takeOff : pOkV m_Mo_takeOff := ⟨(pG (inT8 _ (List.mem_of_getElem? (i := 137) rfl)) rfl), (pG (inP _ (List.mem_of_getElem? (i := 96) rfl)) rfl), ini_Mo, (pG (inT8 _ (List.mem_of_getElem? (i := 138) rfl)) rfl), ⟨by decide +kernel, by decide +kernel⟩, by decide⟩
theorem ok_Mo_tells : pOkV m_Mo_tells := ⟨(pG (inT9 _ (List.mem_of_getElem? (i := 45) rfl)) rfl), (pG (inT9 _ (List.mem_of_getElem? (i := 46) rfl)) rfl), ini_Mo, (pG (inT9 _ (List.mem_of_getElem? (i := 47) rfl)) rfl), ⟨by decide +kernel, by decide +kernel⟩, by decide⟩
theorem ok_Mo_text : pOkV m_Mo_text := ⟨(pG (inT7 _ (List.mem_of_getElem? (i := 117) rfl)) rfl), (pG (inT7 _ (List.mem_of_getElem? (i := 118) rfl)) rfl), ini_Mo, (pG (inT7 _ (List.mem_of_getElem? (i := 119) rfl)) rfl), ⟨by decide +kernel, by decide +kernel⟩, by decide⟩
theorem ok_Mo_thrown : pOkV m_Mo_thrown := ⟨(pG (inT7 _ (List.mem_of_getElem? (i := 109) rfl)) rfl), (pG (inT7 _ (List.mem_of_getElem? (i := 110) rfl)) rfl), ini_Mo, (pG (inT7 _ (List.mem_of_getElem? (i := 111) rfl)) rfl), ⟨by decide +kernel, by decide +kernel⟩, by decide⟩
theorem ok_Mo_times : pOkV m_Mo_times := ⟨(pG (inT8 _ (List.mem_of_getElem? (i := 54) rfl)) rfl), (pG (inP _ (List.mem_of_getElem? (i := 82) rfl)) rfl), ini_Mo, (pG (inT8 _ (List.mem_of_getElem? (i := 55) rfl)) rfl), ⟨by decide +kernel, by decide +kernel⟩, by decide⟩
theorem ok_Mo_token : pOkV m_Mo_token := ⟨(pG (inT7 _ (List.mem_of_getElem? (i := 122) rfl)) rfl), (pG (inP _ (List.mem_of_getElem? (i := 45) rfl)) rfl), ini_Mo, (pG (inT7 _ (List.mem_of_getElem? (i := 123) rfl)) rfl), ⟨by decide +kernel, by decide +kernel⟩, by decide⟩
theorem ok_Mo_track : pOkV m_Mo_track := ⟨(pG (inT9 _ (List.mem_of_getElem? (i := 13) rfl)) rfl), (pG (inT9 _ (List.mem_of_getElem? (i := 14) rfl)) rfl), ini_Mo, (pG (inT9 _ (List.mem_of_getElem? (i := 15) rfl)) rfl), ⟨by decide +kernel, by decide +kernel⟩, by decide⟩
theorem ok_Mo_tracked : pOkV m_Mo_tracked := ⟨(pG (inT9 _ (List.mem_of_getElem? (i := 18) rfl)) rfl), (pG (inP _ (List.mem_of_getElem? (i := 109) rfl)) rfl), ini_Mo, (pG (inT9 _ (List.mem_of_getElem? (i := 19) rfl)) rfl), ⟨by decide +kernel, by decide +kernel⟩, by decide⟩
theorem ok_Mo_tried : pOkV m_Mo_tried := ⟨(pG (inT9 _ (List.mem_of_getElem? (i := 92) rfl)) rfl), (pG (inT9 _ (List.mem_of_getElem? (i := 93) rfl)) rfl), ini_Mo, (pG (inT9 _ (List.mem_of_getElem? (i := 94) rfl)) rfl), ⟨by decide +kernel, by decide +kernel⟩, by decide⟩
theorem ok_Mo_undo : pOkV m_Mo_undo := ⟨(pG (inT9 _ (List.mem_of_getElem? (i := 100) rfl)) rfl), (pG (inT9 _ (List.mem_of_getElem? (i := 101) rfl)) rfl), ini_Mo, (pG (inT9 _ (List.mem_of_getElem? (i := 102) rfl)) rfl), ⟨by decide +kernel, by decide +kernel⟩, by decide⟩
theorem ok_Mo_valueOf : pOkV m_Mo_valueOf := ⟨(pG (inT8 _ (List.mem_of_getElem? (i := 44) rfl)) rfl), (pG (inP _ (List.mem_of_getElem? (i := 80) rfl)) rfl), ini_Mo, (pG (inT8 _ (List.mem_of_getElem? (i := 45) rfl)) rfl), ⟨by decide +kernel, by decide +kernel⟩, by decide⟩
theorem ok_Mo_waitsFor : pOkV m_Mo_waitsFor := ⟨(pG (inT7 _ (List.mem_of_getElem? (i := 209) rfl)) rfl), (pG (inP _ (List.mem_of_getElem? (i := 65) rfl)) rfl), ini_Mo, (pG (inT7 _ (List.mem_of_getElem? (i := 210) rfl)) rfl), ⟨by decide +kernel, by decide +kernel⟩, by decide⟩
theorem ok_Mo_walk : pOkV m_Mo_walk := ⟨(pG (inT8 _ (List.mem_of_getElem? (i := 203) rfl)) rfl), (pG (inT8 _ (List.mem_of_getElem? (i := 204) rfl)) rfl), ini_Mo, (pG (inT8 _ (List.mem_of_getElem? (i := 205) rfl)) rfl), ⟨by decide +kernel, by decide +kernel⟩, by decide⟩
theorem ok_Mo_wearBy : pOkV m_Mo_wearBy := ⟨(pG (inT8 _ (List.mem_of_getElem? (i := 165) rfl)) rfl), (pG (inP _ (List.mem_of_getElem? (i := 98) rfl)) rfl), ini_Mo, (pG (inT8 _ (List.mem_of_getElem? (i := 166) rfl)) rfl), ⟨by decide +kernel, by decide +kernel⟩, by decide⟩
theorem ok_Mo_wears : pOkV m_Mo_wears := ⟨(pG (inT8 _ (List.mem_of_getElem? (i := 169) rfl)) rfl), (pG (inP _ (List.mem_of_getElem? (i := 99) rfl)) rfl), ini_Mo, (pG (inT8 _ (List.mem_of_getElem? (i := 170) rfl)) rfl), ⟨by decide +kernel, by decide +kernel⟩, by decide⟩
theorem ok_Mo_who : pOkV m_Mo_who := ⟨(pG (inT9 _ (List.mem_of_getElem? (i := 29) rfl)) rfl), (pG (inT9 _ (List.mem_of_getElem? (i := 30) rfl)) rfl), ini_Mo, (pG (inT9 _ (List.mem_of_getElem? (i := 31) rfl)) rfl), ⟨by decide +kernel, by decide +kernel⟩, by decide⟩
theorem ok_Mo_whoBits : pOkV m_Mo_whoBits := ⟨(pG (inT9 _ (List.mem_of_getElem? (i := 34) rfl)) rfl), (pG (inP _ (List.mem_of_getElem? (i := 110) rfl)) rfl), ini_Mo, (pG (inT9 _ (List.mem_of_getElem? (i := 35) rfl)) rfl), ⟨by decide +kernel, by decide +kernel⟩, by decide⟩
theorem ok_Mo_wordAt : pOkV m_Mo_wordAt := ⟨(pG (inT7 _ (List.mem_of_getElem? (i := 130) rfl)) rfl), (pG (inP _ (List.mem_of_getElem? (i := 47) rfl)) rfl), ini_Mo, (pG (inT7 _ (List.mem_of_getElem? (i := 131) rfl)) rfl), ⟨by decide +kernel, by decide +kernel⟩, by decide⟩
theorem ok_Mo_worthBehind : pOkV m_Mo_worthBehind := ⟨(pG (inT8 _ (List.mem_of_getElem? (i := 212) rfl)) rfl), (pG (inP _ (List.mem_of_getElem? (i := 104) rfl)) rfl), ini_Mo, (pG (inT8 _ (List.mem_of_getElem? (i := 213) rfl)) rfl), ⟨by decide +kernel, by decide +kernel⟩, by decide⟩
theorem ok_Mo_worthBy : pOkV m_Mo_worthBy := ⟨(pG (inT8 _ (List.mem_of_getElem? (i := 24) rfl)) rfl), (pG (inP _ (List.mem_of_getElem? (i := 75) rfl)) rfl), ini_Mo, (pG (inT8 _ (List.mem_of_getElem? (i := 25) rfl)) rfl), ⟨by decide +kernel, by decide +kernel⟩, by decide⟩
theorem ok_Mo_worthOf : pOkV m_Mo_worthOf := ⟨(pG (inT8 _ (List.mem_of_getElem? (i := 20) rfl)) rfl), (pG (inP _ (List.mem_of_getElem? (i := 74) rfl)) rfl), ini_Mo, (pG (inT8 _ (List.mem_of_getElem? (i := 21) rfl)) rfl), ⟨by decide +kernel, by decide +kernel⟩, by decide⟩
theorem ok_Mo_wrong : pOkV m_Mo_wrong := ⟨(pG (inT7 _ (List.mem_of_getElem? (i := 151) rfl)) rfl), (pG (inP _ (List.mem_of_getElem? (i := 52) rfl)) rfl), ini_Mo, (pG (inT7 _ (List.mem_of_getElem? (i := 152) rfl)) rfl), ⟨by decide +kernel, by decide +kernel⟩, by decide⟩
theorem ok_In_bitCount : pOkS m_In_bitCount := ⟨(pG (inT4 _ (List.mem_of_getElem? (i := 64) rfl)) rfl), ini_In, (pG (inT4 _ (List.mem_of_getElem? (i := 65) rfl)) rfl), ⟨by decide +kernel, by decide +kernel⟩, by decide⟩
theorem ok_Ma_abs : pOkS m_Ma_abs := ⟨(pG (inT4 _ (List.mem_of_getElem? (i := 90) rfl)) rfl), ini_Ma, (pG (inT4 _ (List.mem_of_getElem? (i := 91) rfl)) rfl), ⟨by decide +kernel, by decide +kernel⟩, by decide⟩
theorem ok_Ma_max : pOkS m_Ma_max := ⟨(pG (inT3 _ (List.mem_of_getElem? (i := 95) rfl)) rfl), ini_Ma, (pG (inT3 _ (List.mem_of_getElem? (i := 96) rfl)) rfl), ⟨by decide +kernel, by decide +kernel⟩, by decide⟩
theorem ok_Ma_maxJ : pOkS m_Ma_maxJ := ⟨(pG (inT4 _ (List.mem_of_getElem? (i := 56) rfl)) rfl), ini_Ma, (pG (inT4 _ (List.mem_of_getElem? (i := 57) rfl)) rfl), ⟨by decide +kernel, by decide +kernel⟩, by decide⟩
theorem ok_Ma_min : pOkS m_Ma_min := ⟨(pG (inT3 _ (List.mem_of_getElem? (i := 92) rfl)) rfl), ini_Ma, (pG (inT3 _ (List.mem_of_getElem? (i := 93) rfl)) rfl), ⟨by decide +kernel, by decide +kernel⟩, by decide⟩
theorem ok_Ma_minJ : pOkS m_Ma_minJ := ⟨(pG (inT4 _ (List.mem_of_getElem? (i := 53) rfl)) rfl), ini_Ma, (pG (inT4 _ (List.mem_of_getElem? (i := 54) rfl)) rfl), ⟨by decide +kernel, by decide +kernel⟩, by decide⟩
theorem lf_Ls_11 : Cond.fieldLink "LeftShoes" 11 (pF 10 0).1 (pF 10 0).2.1 (pF 10 0).2.2.1 ∈ lw_g := (pG (inT3 _ (List.mem_of_getElem? (i := 10) rfl)) rfl)
theorem lf_Ls_18 : Cond.fieldLink "LeftShoes" 18 (pF 10 2).1 (pF 10 2).2.1 (pF 10 2).2.2.1 ∈ lw_g := (pG (inT3 _ (List.mem_of_getElem? (i := 12) rfl)) rfl)
theorem lf_Ls_22 : Cond.fieldLink "LeftShoes" 22 (pF 10 3).1 (pF 10 3).2.1 (pF 10 3).2.2.1 ∈ lw_g := (pG (inT3 _ (List.mem_of_getElem? (i := 13) rfl)) rfl)
theorem lf_Ls_30 : Cond.fieldLink "LeftShoes" 30 (pF 10 4).1 (pF 10 4).2.1 (pF 10 4).2.2.1 ∈ lw_g := (pG (inT3 _ (List.mem_of_getElem? (i := 14) rfl)) rfl)
theorem lf_Ls_34 : Cond.fieldLink "LeftShoes" 34 (pF 10 6).1 (pF 10 6).2.1 (pF 10 6).2.2.1 ∈ lw_g := (pG (inT3 _ (List.mem_of_getElem? (i := 16) rfl)) rfl)
theorem lf_Ls_43 : Cond.fieldLink "LeftShoes" 43 (pF 10 7).1 (pF 10 7).2.1 (pF 10 7).2.2.1 ∈ lw_g := (pG (inT3 _ (List.mem_of_getElem? (i := 17) rfl)) rfl)
theorem lf_Ls_47 : Cond.fieldLink "LeftShoes" 47 (pF 10 8).1 (pF 10 8).2.1 (pF 10 8).2.2.1 ∈ lw_g := (pG (inT3 _ (List.mem_of_getElem? (i := 18) rfl)) rfl)
theorem lf_Ls_50 : Cond.fieldLink "LeftShoes" 50 (pF 10 9).1 (pF 10 9).2.1 (pF 10 9).2.2.1 ∈ lw_g := (pG (inT3 _ (List.mem_of_getElem? (i := 19) rfl)) rfl)
theorem lf_Ls_56 : Cond.fieldLink "LeftShoes" 56 (pF 10 11).1 (pF 10 11).2.1 (pF 10 11).2.2.1 ∈ lw_g := (pG (inT3 _ (List.mem_of_getElem? (i := 21) rfl)) rfl)
theorem lf_Ls_63 : Cond.fieldLink "LeftShoes" 63 (pF 10 12).1 (pF 10 12).2.1 (pF 10 12).2.2.1 ∈ lw_g := (pG (inT3 _ (List.mem_of_getElem? (i := 22) rfl)) rfl)
theorem lf_Ls_70 : Cond.fieldLink "LeftShoes" 70 (pF 10 13).1 (pF 10 13).2.1 (pF 10 13).2.2.1 ∈ lw_g := (pG (inT3 _ (List.mem_of_getElem? (i := 23) rfl)) rfl)
theorem lf_Ls_79 : Cond.fieldLink "LeftShoes" 79 (pF 10 14).1 (pF 10 14).2.1 (pF 10 14).2.2.1 ∈ lw_g := (pG (inT3 _ (List.mem_of_getElem? (i := 24) rfl)) rfl)
theorem lf_Ls_83 : Cond.fieldLink "LeftShoes" 83 (pF 10 15).1 (pF 10 15).2.1 (pF 10 15).2.2.1 ∈ lw_g := (pG (inT3 _ (List.mem_of_getElem? (i := 25) rfl)) rfl)
theorem lf_Ls_87 : Cond.fieldLink "LeftShoes" 87 (pF 10 1).1 (pF 10 1).2.1 (pF 10 1).2.2.1 ∈ lw_g := (pG (inT3 _ (List.mem_of_getElem? (i := 11) rfl)) rfl)
theorem lf_Ls_98 : Cond.fieldLink "LeftShoes" 98 (pF 4 1).1 (pF 4 1).2.1 (pF 4 1).2.2.1 ∈ lw_g := (pG (inT2 _ (List.mem_of_getElem? (i := 62) rfl)) rfl)
theorem lf_Ls_101 : Cond.fieldLink "LeftShoes" 101 (pF 10 5).1 (pF 10 5).2.1 (pF 10 5).2.2.1 ∈ lw_g := (pG (inT3 _ (List.mem_of_getElem? (i := 15) rfl)) rfl)
theorem lf_Ls_104 : Cond.fieldLink "LeftShoes" 104 (pF 4 2).1 (pF 4 2).2.1 (pF 4 2).2.2.1 ∈ lw_g := (pG (inT2 _ (List.mem_of_getElem? (i := 64) rfl)) rfl)
theorem lf_Ls_114 : Cond.fieldLink "LeftShoes" 114 (pF 10 10).1 (pF 10 10).2.1 (pF 10 10).2.2.1 ∈ lw_g := (pG (inT3 _ (List.mem_of_getElem? (i := 20) rfl)) rfl)
theorem lf_Ls_118 : Cond.fieldLink "LeftShoes" 118 (pF 4 0).1 (pF 4 0).2.1 (pF 4 0).2.2.1 ∈ lw_g := (pG (inT2 _ (List.mem_of_getElem? (i := 60) rfl)) rfl)
theorem lf_Ls_136 : Cond.fieldLink "LeftShoes" 136 (pF 7 7).1 (pF 7 7).2.1 (pF 7 7).2.2.1 ∈ lw_g := (pG (inT1 _ (List.mem_of_getElem? (i := 130) rfl)) rfl)
theorem lf_Ls_139 : Cond.fieldLink "LeftShoes" 139 (pF 7 8).1 (pF 7 8).2.1 (pF 7 8).2.2.1 ∈ lw_g := (pG (inT1 _ (List.mem_of_getElem? (i := 134) rfl)) rfl)
theorem lf_Ls_142 : Cond.fieldLink "LeftShoes" 142 (pF 9 5).1 (pF 9 5).2.1 (pF 9 5).2.2.1 ∈ lw_g := (pG (inT2 _ (List.mem_of_getElem? (i := 102) rfl)) rfl)
theorem lf_Ls_145 : Cond.fieldLink "LeftShoes" 145 (pF 7 10).1 (pF 7 10).2.1 (pF 7 10).2.2.1 ∈ lw_g := (pG (inT1 _ (List.mem_of_getElem? (i := 141) rfl)) rfl)
theorem lf_Ls_148 : Cond.fieldLink "LeftShoes" 148 (pF 9 6).1 (pF 9 6).2.1 (pF 9 6).2.2.1 ∈ lw_g := (pG (inT2 _ (List.mem_of_getElem? (i := 105) rfl)) rfl)
theorem lf_Ls_165 : Cond.fieldLink "LeftShoes" 165 (pF 9 7).1 (pF 9 7).2.1 (pF 9 7).2.2.1 ∈ lw_g := (pG (inT2 _ (List.mem_of_getElem? (i := 110) rfl)) rfl)
theorem lf_Ls_179 : Cond.fieldLink "LeftShoes" 179 (pF 7 12).1 (pF 7 12).2.1 (pF 7 12).2.2.1 ∈ lw_g := (pG (inT1 _ (List.mem_of_getElem? (i := 148) rfl)) rfl)
theorem lf_Ls_182 : Cond.fieldLink "LeftShoes" 182 (pF 7 13).1 (pF 7 13).2.1 (pF 7 13).2.2.1 ∈ lw_g := (pG (inT1 _ (List.mem_of_getElem? (i := 152) rfl)) rfl)
theorem lf_Ls_185 : Cond.fieldLink "LeftShoes" 185 (pF 7 14).1 (pF 7 14).2.1 (pF 7 14).2.2.1 ∈ lw_g := (pG (inT1 _ (List.mem_of_getElem? (i := 156) rfl)) rfl)
theorem lf_Ls_188 : Cond.fieldLink "LeftShoes" 188 (pF 7 15).1 (pF 7 15).2.1 (pF 7 15).2.2.1 ∈ lw_g := (pG (inT1 _ (List.mem_of_getElem? (i := 160) rfl)) rfl)
theorem lf_Ls_191 : Cond.fieldLink "LeftShoes" 191 (pF 7 16).1 (pF 7 16).2.1 (pF 7 16).2.2.1 ∈ lw_g := (pG (inT1 _ (List.mem_of_getElem? (i := 164) rfl)) rfl)
theorem lf_Ls_194 : Cond.fieldLink "LeftShoes" 194 (pF 9 8).1 (pF 9 8).2.1 (pF 9 8).2.2.1 ∈ lw_g := (pG (inT2 _ (List.mem_of_getElem? (i := 112) rfl)) rfl)
theorem lf_Ls_214 : Cond.fieldLink "LeftShoes" 214 (pF 9 1).1 (pF 9 1).2.1 (pF 9 1).2.2.1 ∈ lw_g := (pG (inT2 _ (List.mem_of_getElem? (i := 93) rfl)) rfl)
theorem lf_Ls_261 : Cond.fieldLink "LeftShoes" 261 (pF 0 0).1 (pF 0 0).2.1 (pF 0 0).2.2.1 ∈ lw_g := (pG (inT2 _ (List.mem_of_getElem? (i := 185) rfl)) rfl)
theorem lf_Ls_264 : Cond.fieldLink "LeftShoes" 264 (pF 0 1).1 (pF 0 1).2.1 (pF 0 1).2.2.1 ∈ lw_g := (pG (inT2 _ (List.mem_of_getElem? (i := 187) rfl)) rfl)
theorem lf_Ls_270 : Cond.fieldLink "LeftShoes" 270 (pF 5 0).1 (pF 5 0).2.1 (pF 5 0).2.2.1 ∈ lw_g := (pG (inT2 _ (List.mem_of_getElem? (i := 221) rfl)) rfl)
theorem lf_Ls_273 : Cond.fieldLink "LeftShoes" 273 (pF 5 1).1 (pF 5 1).2.1 (pF 5 1).2.2.1 ∈ lw_g := (pG (inT2 _ (List.mem_of_getElem? (i := 223) rfl)) rfl)
theorem lf_Ls_306 : Cond.fieldLink "LeftShoes" 306 (pF 7 0).1 (pF 7 0).2.1 (pF 7 0).2.2.1 ∈ lw_g := (pG (inT1 _ (List.mem_of_getElem? (i := 107) rfl)) rfl)
theorem lf_Ls_309 : Cond.fieldLink "LeftShoes" 309 (pF 7 5).1 (pF 7 5).2.1 (pF 7 5).2.2.1 ∈ lw_g := (pG (inT1 _ (List.mem_of_getElem? (i := 122) rfl)) rfl)
theorem lf_Ls_315 : Cond.fieldLink "LeftShoes" 315 (pF 8 0).1 (pF 8 0).2.1 (pF 8 0).2.2.1 ∈ lw_g := (pG (inT2 _ (List.mem_of_getElem? (i := 164) rfl)) rfl)
theorem lf_Ls_317 : Cond.fieldLink "LeftShoes" 317 (pF 8 1).1 (pF 8 1).2.1 (pF 8 1).2.2.1 ∈ lw_g := (pG (inT2 _ (List.mem_of_getElem? (i := 166) rfl)) rfl)
theorem lf_Ls_331 : Cond.fieldLink "LeftShoes" 331 (pF 7 17).1 (pF 7 17).2.1 (pF 7 17).2.2.1 ∈ lw_g := (pG (inT1 _ (List.mem_of_getElem? (i := 169) rfl)) rfl)
theorem lf_Ls_340 : Cond.fieldLink "LeftShoes" 340 (pF 6 3).1 (pF 6 3).2.1 (pF 6 3).2.2.1 ∈ lw_g := (pG (inT1 _ (List.mem_of_getElem? (i := 53) rfl)) rfl)
theorem lf_Ls_353 : Cond.fieldLink "LeftShoes" 353 (pF 7 6).1 (pF 7 6).2.1 (pF 7 6).2.2.1 ∈ lw_g := (pG (inT1 _ (List.mem_of_getElem? (i := 127) rfl)) rfl)
theorem lf_Ls_368 : Cond.fieldLink "LeftShoes" 368 (pF 9 2).1 (pF 9 2).2.1 (pF 9 2).2.2.1 ∈ lw_g := (pG (inT2 _ (List.mem_of_getElem? (i := 95) rfl)) rfl)
theorem lf_Ls_371 : Cond.fieldLink "LeftShoes" 371 (pF 9 3).1 (pF 9 3).2.1 (pF 9 3).2.2.1 ∈ lw_g := (pG (inT2 _ (List.mem_of_getElem? (i := 97) rfl)) rfl)
theorem lf_Ls_387 : Cond.fieldLink "LeftShoes" 387 (pF 1 0).1 (pF 1 0).2.1 (pF 1 0).2.2.1 ∈ lw_g := (pG (inT2 _ (List.mem_of_getElem? (i := 144) rfl)) rfl)
theorem lf_Ls_388 : Cond.fieldLink "LeftShoes" 388 (pF 6 0).1 (pF 6 0).2.1 (pF 6 0).2.2.1 ∈ lw_g := (pG (inT1 _ (List.mem_of_getElem? (i := 47) rfl)) rfl)
theorem lf_Ls_391 : Cond.fieldLink "LeftShoes" 391 (pF 7 18).1 (pF 7 18).2.1 (pF 7 18).2.2.1 ∈ lw_g := (pG (inT1 _ (List.mem_of_getElem? (i := 173) rfl)) rfl)
theorem lf_Ls_395 : Cond.fieldLink "LeftShoes" 395 (pF 2 0).1 (pF 2 0).2.1 (pF 2 0).2.2.1 ∈ lw_g := (pG (inT1 _ (List.mem_of_getElem? (i := 73) rfl)) rfl)
theorem lf_Cp_9 : Cond.fieldLink "LeftShoes$Couples" 9 (pF 0 1).1 (pF 0 1).2.1 (pF 0 1).2.2.1 ∈ lw_g := (pG (inT2 _ (List.mem_of_getElem? (i := 186) rfl)) rfl)
theorem lf_Cp_15 : Cond.fieldLink "LeftShoes$Couples" 15 (pF 0 2).1 (pF 0 2).2.1 (pF 0 2).2.2.1 ∈ lw_g := (pG (inT2 _ (List.mem_of_getElem? (i := 188) rfl)) rfl)
theorem lf_Cp_18 : Cond.fieldLink "LeftShoes$Couples" 18 (pF 0 3).1 (pF 0 3).2.1 (pF 0 3).2.2.1 ∈ lw_g := (pG (inT2 _ (List.mem_of_getElem? (i := 189) rfl)) rfl)
theorem lf_Cp_21 : Cond.fieldLink "LeftShoes$Couples" 21 (pF 0 4).1 (pF 0 4).2.1 (pF 0 4).2.2.1 ∈ lw_g := (pG (inT2 _ (List.mem_of_getElem? (i := 190) rfl)) rfl)
theorem lf_Cp_25 : Cond.fieldLink "LeftShoes$Couples" 25 (pF 0 5).1 (pF 0 5).2.1 (pF 0 5).2.2.1 ∈ lw_g := (pG (inT2 _ (List.mem_of_getElem? (i := 191) rfl)) rfl)
theorem lf_Cp_32 : Cond.fieldLink "LeftShoes$Couples" 32 (pF 0 6).1 (pF 0 6).2.1 (pF 0 6).2.2.1 ∈ lw_g := (pG (inT2 _ (List.mem_of_getElem? (i := 192) rfl)) rfl)
theorem lf_Cp_36 : Cond.fieldLink "LeftShoes$Couples" 36 (pF 0 7).1 (pF 0 7).2.1 (pF 0 7).2.2.1 ∈ lw_g := (pG (inT2 _ (List.mem_of_getElem? (i := 193) rfl)) rfl)
theorem lf_Cp_57 : Cond.fieldLink "LeftShoes$Couples" 57 (pF 9 0).1 (pF 9 0).2.1 (pF 9 0).2.2.1 ∈ lw_g := (pG (inT2 _ (List.mem_of_getElem? (i := 89) rfl)) rfl)
theorem lf_Cp_63 : Cond.fieldLink "LeftShoes$Couples" 63 (pF 7 6).1 (pF 7 6).2.1 (pF 7 6).2.2.1 ∈ lw_g := (pG (inT1 _ (List.mem_of_getElem? (i := 124) rfl)) rfl)
theorem lf_Cp_72 : Cond.fieldLink "LeftShoes$Couples" 72 (pF 9 4).1 (pF 9 4).2.1 (pF 9 4).2.2.1 ∈ lw_g := (pG (inT2 _ (List.mem_of_getElem? (i := 99) rfl)) rfl)
theorem lf_Cp_75 : Cond.fieldLink "LeftShoes$Couples" 75 (pF 0 8).1 (pF 0 8).2.1 (pF 0 8).2.2.1 ∈ lw_g := (pG (inT2 _ (List.mem_of_getElem? (i := 194) rfl)) rfl)
theorem lf_Cp_85 : Cond.fieldLink "LeftShoes$Couples" 85 (pF 0 0).1 (pF 0 0).2.1 (pF 0 0).2.2.1 ∈ lw_g := (pG (inT2 _ (List.mem_of_getElem? (i := 184) rfl)) rfl)
theorem lf_Hi_11 : Cond.fieldLink "LeftShoes$History" 11 (pF 1 2).1 (pF 1 2).2.1 (pF 1 2).2.2.1 ∈ lw_g := (pG (inT2 _ (List.mem_of_getElem? (i := 146) rfl)) rfl)
theorem lf_Hi_16 : Cond.fieldLink "LeftShoes$History" 16 (pF 1 3).1 (pF 1 3).2.1 (pF 1 3).2.2.1 ∈ lw_g := (pG (inT2 _ (List.mem_of_getElem? (i := 147) rfl)) rfl)
theorem lf_Hi_19 : Cond.fieldLink "LeftShoes$History" 19 (pF 1 0).1 (pF 1 0).2.1 (pF 1 0).2.2.1 ∈ lw_g := (pG (inT2 _ (List.mem_of_getElem? (i := 143) rfl)) rfl)
theorem lf_Hi_23 : Cond.fieldLink "LeftShoes$History" 23 (pF 1 1).1 (pF 1 1).2.1 (pF 1 1).2.2.1 ∈ lw_g := (pG (inT2 _ (List.mem_of_getElem? (i := 145) rfl)) rfl)
theorem lf_Hi_26 : Cond.fieldLink "LeftShoes$History" 26 (pF 9 6).1 (pF 9 6).2.1 (pF 9 6).2.2.1 ∈ lw_g := (pG (inT2 _ (List.mem_of_getElem? (i := 104) rfl)) rfl)
theorem lf_Hi_38 : Cond.fieldLink "LeftShoes$History" 38 (pF 9 7).1 (pF 9 7).2.1 (pF 9 7).2.2.1 ∈ lw_g := (pG (inT2 _ (List.mem_of_getElem? (i := 108) rfl)) rfl)
theorem lf_La_9 : Cond.fieldLink "LeftShoes$Laws" 9 (pF 2 2).1 (pF 2 2).2.1 (pF 2 2).2.2.1 ∈ lw_g := (pG (inT1 _ (List.mem_of_getElem? (i := 75) rfl)) rfl)
theorem lf_La_15 : Cond.fieldLink "LeftShoes$Laws" 15 (pF 2 3).1 (pF 2 3).2.1 (pF 2 3).2.2.1 ∈ lw_g := (pG (inT1 _ (List.mem_of_getElem? (i := 76) rfl)) rfl)
theorem lf_La_18 : Cond.fieldLink "LeftShoes$Laws" 18 (pF 2 4).1 (pF 2 4).2.1 (pF 2 4).2.2.1 ∈ lw_g := (pG (inT1 _ (List.mem_of_getElem? (i := 77) rfl)) rfl)
theorem lf_La_21 : Cond.fieldLink "LeftShoes$Laws" 21 (pF 2 5).1 (pF 2 5).2.1 (pF 2 5).2.2.1 ∈ lw_g := (pG (inT1 _ (List.mem_of_getElem? (i := 78) rfl)) rfl)
theorem lf_La_24 : Cond.fieldLink "LeftShoes$Laws" 24 (pF 2 6).1 (pF 2 6).2.1 (pF 2 6).2.2.1 ∈ lw_g := (pG (inT1 _ (List.mem_of_getElem? (i := 79) rfl)) rfl)
theorem lf_La_28 : Cond.fieldLink "LeftShoes$Laws" 28 (pF 2 7).1 (pF 2 7).2.1 (pF 2 7).2.2.1 ∈ lw_g := (pG (inT1 _ (List.mem_of_getElem? (i := 80) rfl)) rfl)
theorem lf_La_32 : Cond.fieldLink "LeftShoes$Laws" 32 (pF 2 8).1 (pF 2 8).2.1 (pF 2 8).2.2.1 ∈ lw_g := (pG (inT1 _ (List.mem_of_getElem? (i := 81) rfl)) rfl)
theorem lf_La_35 : Cond.fieldLink "LeftShoes$Laws" 35 (pF 2 0).1 (pF 2 0).2.1 (pF 2 0).2.2.1 ∈ lw_g := (pG (inT1 _ (List.mem_of_getElem? (i := 71) rfl)) rfl)
theorem lf_La_39 : Cond.fieldLink "LeftShoes$Laws" 39 (pF 2 1).1 (pF 2 1).2.1 (pF 2 1).2.2.1 ∈ lw_g := (pG (inT1 _ (List.mem_of_getElem? (i := 74) rfl)) rfl)
theorem lf_Re_9 : Cond.fieldLink "LeftShoes$Reader" 9 (pF 3 3).1 (pF 3 3).2.1 (pF 3 3).2.2.1 ∈ lw_g := (pG (inT2 _ (List.mem_of_getElem? (i := 40) rfl)) rfl)
theorem lf_Re_15 : Cond.fieldLink "LeftShoes$Reader" 15 (pF 3 6).1 (pF 3 6).2.1 (pF 3 6).2.2.1 ∈ lw_g := (pG (inT2 _ (List.mem_of_getElem? (i := 43) rfl)) rfl)
theorem lf_Re_40 : Cond.fieldLink "LeftShoes$Reader" 40 (pF 3 4).1 (pF 3 4).2.1 (pF 3 4).2.2.1 ∈ lw_g := (pG (inT2 _ (List.mem_of_getElem? (i := 41) rfl)) rfl)
theorem lf_Re_43 : Cond.fieldLink "LeftShoes$Reader" 43 (pF 3 5).1 (pF 3 5).2.1 (pF 3 5).2.2.1 ∈ lw_g := (pG (inT2 _ (List.mem_of_getElem? (i := 42) rfl)) rfl)
theorem lf_Re_49 : Cond.fieldLink "LeftShoes$Reader" 49 (pF 3 2).1 (pF 3 2).2.1 (pF 3 2).2.2.1 ∈ lw_g := (pG (inT2 _ (List.mem_of_getElem? (i := 39) rfl)) rfl)
theorem lf_Re_52 : Cond.fieldLink "LeftShoes$Reader" 52 (pF 3 1).1 (pF 3 1).2.1 (pF 3 1).2.2.1 ∈ lw_g := (pG (inT2 _ (List.mem_of_getElem? (i := 36) rfl)) rfl)
theorem lf_Re_55 : Cond.fieldLink "LeftShoes$Reader" 55 (pF 3 0).1 (pF 3 0).2.1 (pF 3 0).2.2.1 ∈ lw_g := (pG (inT2 _ (List.mem_of_getElem? (i := 35) rfl)) rfl)
theorem lf_Sc_12 : Cond.fieldLink "LeftShoes$Scribe" 12 (pF 4 4).1 (pF 4 4).2.1 (pF 4 4).2.2.1 ∈ lw_g := (pG (inT2 _ (List.mem_of_getElem? (i := 66) rfl)) rfl)
theorem lf_Sc_18 : Cond.fieldLink "LeftShoes$Scribe" 18 (pF 4 5).1 (pF 4 5).2.1 (pF 4 5).2.2.1 ∈ lw_g := (pG (inT2 _ (List.mem_of_getElem? (i := 67) rfl)) rfl)
theorem lf_Sc_27 : Cond.fieldLink "LeftShoes$Scribe" 27 (pF 4 0).1 (pF 4 0).2.1 (pF 4 0).2.2.1 ∈ lw_g := (pG (inT2 _ (List.mem_of_getElem? (i := 59) rfl)) rfl)
theorem lf_Sc_31 : Cond.fieldLink "LeftShoes$Scribe" 31 (pF 4 3).1 (pF 4 3).2.1 (pF 4 3).2.2.1 ∈ lw_g := (pG (inT2 _ (List.mem_of_getElem? (i := 65) rfl)) rfl)
theorem lf_Sc_35 : Cond.fieldLink "LeftShoes$Scribe" 35 (pF 4 1).1 (pF 4 1).2.1 (pF 4 1).2.2.1 ∈ lw_g := (pG (inT2 _ (List.mem_of_getElem? (i := 61) rfl)) rfl)
theorem lf_Sc_38 : Cond.fieldLink "LeftShoes$Scribe" 38 (pF 4 2).1 (pF 4 2).2.1 (pF 4 2).2.2.1 ∈ lw_g := (pG (inT2 _ (List.mem_of_getElem? (i := 63) rfl)) rfl)
theorem lf_Sc_45 : Cond.fieldLink "LeftShoes$Scribe" 45 (pF 3 0).1 (pF 3 0).2.1 (pF 3 0).2.2.1 ∈ lw_g := (pG (inT2 _ (List.mem_of_getElem? (i := 34) rfl)) rfl)
theorem lf_Sc_56 : Cond.fieldLink "LeftShoes$Scribe" 56 (pF 3 2).1 (pF 3 2).2.1 (pF 3 2).2.2.1 ∈ lw_g := (pG (inT2 _ (List.mem_of_getElem? (i := 38) rfl)) rfl)
theorem lf_Sc_86 : Cond.fieldLink "LeftShoes$Scribe" 86 (pF 3 1).1 (pF 3 1).2.1 (pF 3 1).2.2.1 ∈ lw_g := (pG (inT2 _ (List.mem_of_getElem? (i := 37) rfl)) rfl)
theorem lf_Sc_97 : Cond.fieldLink "LeftShoes$Scribe" 97 (pF 7 0).1 (pF 7 0).2.1 (pF 7 0).2.2.1 ∈ lw_g := (pG (inT1 _ (List.mem_of_getElem? (i := 105) rfl)) rfl)
theorem lf_Sc_100 : Cond.fieldLink "LeftShoes$Scribe" 100 (pF 7 1).1 (pF 7 1).2.1 (pF 7 1).2.2.1 ∈ lw_g := (pG (inT1 _ (List.mem_of_getElem? (i := 109) rfl)) rfl)
theorem lf_Sc_104 : Cond.fieldLink "LeftShoes$Scribe" 104 (pF 7 2).1 (pF 7 2).2.1 (pF 7 2).2.2.1 ∈ lw_g := (pG (inT1 _ (List.mem_of_getElem? (i := 112) rfl)) rfl)
theorem lf_Sc_110 : Cond.fieldLink "LeftShoes$Scribe" 110 (pF 7 3).1 (pF 7 3).2.1 (pF 7 3).2.2.1 ∈ lw_g := (pG (inT1 _ (List.mem_of_getElem? (i := 115) rfl)) rfl)
theorem lf_Sc_113 : Cond.fieldLink "LeftShoes$Scribe" 113 (pF 7 4).1 (pF 7 4).2.1 (pF 7 4).2.2.1 ∈ lw_g := (pG (inT1 _ (List.mem_of_getElem? (i := 119) rfl)) rfl)
theorem lf_Sc_116 : Cond.fieldLink "LeftShoes$Scribe" 116 (pF 7 6).1 (pF 7 6).2.1 (pF 7 6).2.2.1 ∈ lw_g := (pG (inT1 _ (List.mem_of_getElem? (i := 125) rfl)) rfl)
theorem lf_Sc_119 : Cond.fieldLink "LeftShoes$Scribe" 119 (pF 7 7).1 (pF 7 7).2.1 (pF 7 7).2.2.1 ∈ lw_g := (pG (inT1 _ (List.mem_of_getElem? (i := 131) rfl)) rfl)
theorem lf_Sc_125 : Cond.fieldLink "LeftShoes$Scribe" 125 (pF 7 8).1 (pF 7 8).2.1 (pF 7 8).2.2.1 ∈ lw_g := (pG (inT1 _ (List.mem_of_getElem? (i := 135) rfl)) rfl)
theorem lf_Sc_128 : Cond.fieldLink "LeftShoes$Scribe" 128 (pF 7 9).1 (pF 7 9).2.1 (pF 7 9).2.2.1 ∈ lw_g := (pG (inT1 _ (List.mem_of_getElem? (i := 139) rfl)) rfl)
theorem lf_Sc_131 : Cond.fieldLink "LeftShoes$Scribe" 131 (pF 7 10).1 (pF 7 10).2.1 (pF 7 10).2.2.1 ∈ lw_g := (pG (inT1 _ (List.mem_of_getElem? (i := 142) rfl)) rfl)
theorem lf_Sc_133 : Cond.fieldLink "LeftShoes$Scribe" 133 (pF 7 11).1 (pF 7 11).2.1 (pF 7 11).2.2.1 ∈ lw_g := (pG (inT1 _ (List.mem_of_getElem? (i := 146) rfl)) rfl)
theorem lf_Sc_140 : Cond.fieldLink "LeftShoes$Scribe" 140 (pF 7 12).1 (pF 7 12).2.1 (pF 7 12).2.2.1 ∈ lw_g := (pG (inT1 _ (List.mem_of_getElem? (i := 149) rfl)) rfl)
theorem lf_Sc_143 : Cond.fieldLink "LeftShoes$Scribe" 143 (pF 7 13).1 (pF 7 13).2.1 (pF 7 13).2.2.1 ∈ lw_g := (pG (inT1 _ (List.mem_of_getElem? (i := 153) rfl)) rfl)
theorem lf_Sc_146 : Cond.fieldLink "LeftShoes$Scribe" 146 (pF 7 14).1 (pF 7 14).2.1 (pF 7 14).2.2.1 ∈ lw_g := (pG (inT1 _ (List.mem_of_getElem? (i := 157) rfl)) rfl)
theorem lf_Sc_149 : Cond.fieldLink "LeftShoes$Scribe" 149 (pF 7 15).1 (pF 7 15).2.1 (pF 7 15).2.2.1 ∈ lw_g := (pG (inT1 _ (List.mem_of_getElem? (i := 161) rfl)) rfl)
theorem lf_Sc_152 : Cond.fieldLink "LeftShoes$Scribe" 152 (pF 7 16).1 (pF 7 16).2.1 (pF 7 16).2.2.1 ∈ lw_g := (pG (inT1 _ (List.mem_of_getElem? (i := 165) rfl)) rfl)
theorem lf_Sc_155 : Cond.fieldLink "LeftShoes$Scribe" 155 (pF 7 5).1 (pF 7 5).2.1 (pF 7 5).2.2.1 ∈ lw_g := (pG (inT1 _ (List.mem_of_getElem? (i := 121) rfl)) rfl)
theorem lf_Sc_158 : Cond.fieldLink "LeftShoes$Scribe" 158 (pF 7 17).1 (pF 7 17).2.1 (pF 7 17).2.2.1 ∈ lw_g := (pG (inT1 _ (List.mem_of_getElem? (i := 168) rfl)) rfl)
theorem lf_Sc_162 : Cond.fieldLink "LeftShoes$Scribe" 162 (pF 6 0).1 (pF 6 0).2.1 (pF 6 0).2.2.1 ∈ lw_g := (pG (inT1 _ (List.mem_of_getElem? (i := 46) rfl)) rfl)
theorem lf_Sc_167 : Cond.fieldLink "LeftShoes$Scribe" 167 (pF 6 2).1 (pF 6 2).2.1 (pF 6 2).2.2.1 ∈ lw_g := (pG (inT1 _ (List.mem_of_getElem? (i := 51) rfl)) rfl)
theorem lf_Sc_170 : Cond.fieldLink "LeftShoes$Scribe" 170 (pF 6 1).1 (pF 6 1).2.1 (pF 6 1).2.2.1 ∈ lw_g := (pG (inT1 _ (List.mem_of_getElem? (i := 49) rfl)) rfl)
theorem lf_Sc_174 : Cond.fieldLink "LeftShoes$Scribe" 174 (pF 7 18).1 (pF 7 18).2.1 (pF 7 18).2.2.1 ∈ lw_g := (pG (inT1 _ (List.mem_of_getElem? (i := 171) rfl)) rfl)
theorem lf_Sc_194 : Cond.fieldLink "LeftShoes$Scribe" 194 (pF 2 0).1 (pF 2 0).2.1 (pF 2 0).2.2.1 ∈ lw_g := (pG (inT1 _ (List.mem_of_getElem? (i := 72) rfl)) rfl)
theorem lf_St_9 : Cond.fieldLink "LeftShoes$Stroll" 9 (pF 5 2).1 (pF 5 2).2.1 (pF 5 2).2.2.1 ∈ lw_g := (pG (inT2 _ (List.mem_of_getElem? (i := 224) rfl)) rfl)
theorem lf_St_15 : Cond.fieldLink "LeftShoes$Stroll" 15 (pF 9 0).1 (pF 9 0).2.1 (pF 9 0).2.2.1 ∈ lw_g := (pG (inT2 _ (List.mem_of_getElem? (i := 88) rfl)) rfl)
theorem lf_St_27 : Cond.fieldLink "LeftShoes$Stroll" 27 (pF 5 3).1 (pF 5 3).2.1 (pF 5 3).2.2.1 ∈ lw_g := (pG (inT2 _ (List.mem_of_getElem? (i := 225) rfl)) rfl)
theorem lf_St_31 : Cond.fieldLink "LeftShoes$Stroll" 31 (pF 7 4).1 (pF 7 4).2.1 (pF 7 4).2.2.1 ∈ lw_g := (pG (inT1 _ (List.mem_of_getElem? (i := 118) rfl)) rfl)
theorem lf_St_35 : Cond.fieldLink "LeftShoes$Stroll" 35 (pF 5 4).1 (pF 5 4).2.1 (pF 5 4).2.2.1 ∈ lw_g := (pG (inT2 _ (List.mem_of_getElem? (i := 226) rfl)) rfl)
theorem lf_St_37 : Cond.fieldLink "LeftShoes$Stroll" 37 (pF 9 7).1 (pF 9 7).2.1 (pF 9 7).2.2.1 ∈ lw_g := (pG (inT2 _ (List.mem_of_getElem? (i := 107) rfl)) rfl)
theorem lf_St_40 : Cond.fieldLink "LeftShoes$Stroll" 40 (pF 5 5).1 (pF 5 5).2.1 (pF 5 5).2.2.1 ∈ lw_g := (pG (inT2 _ (List.mem_of_getElem? (i := 227) rfl)) rfl)
theorem lf_St_43 : Cond.fieldLink "LeftShoes$Stroll" 43 (pF 5 6).1 (pF 5 6).2.1 (pF 5 6).2.2.1 ∈ lw_g := (pG (inT2 _ (List.mem_of_getElem? (i := 228) rfl)) rfl)
theorem lf_St_54 : Cond.fieldLink "LeftShoes$Stroll" 54 (pF 5 7).1 (pF 5 7).2.1 (pF 5 7).2.2.1 ∈ lw_g := (pG (inT2 _ (List.mem_of_getElem? (i := 229) rfl)) rfl)
theorem lf_St_57 : Cond.fieldLink "LeftShoes$Stroll" 57 (pF 5 8).1 (pF 5 8).2.1 (pF 5 8).2.2.1 ∈ lw_g := (pG (inT2 _ (List.mem_of_getElem? (i := 230) rfl)) rfl)
theorem lf_St_68 : Cond.fieldLink "LeftShoes$Stroll" 68 (pF 9 5).1 (pF 9 5).2.1 (pF 9 5).2.2.1 ∈ lw_g := (pG (inT2 _ (List.mem_of_getElem? (i := 101) rfl)) rfl)
theorem lf_St_71 : Cond.fieldLink "LeftShoes$Stroll" 71 (pF 9 1).1 (pF 9 1).2.1 (pF 9 1).2.2.1 ∈ lw_g := (pG (inT2 _ (List.mem_of_getElem? (i := 92) rfl)) rfl)
theorem lf_St_81 : Cond.fieldLink "LeftShoes$Stroll" 81 (pF 5 0).1 (pF 5 0).2.1 (pF 5 0).2.2.1 ∈ lw_g := (pG (inT2 _ (List.mem_of_getElem? (i := 220) rfl)) rfl)
theorem lf_St_84 : Cond.fieldLink "LeftShoes$Stroll" 84 (pF 5 1).1 (pF 5 1).2.1 (pF 5 1).2.2.1 ∈ lw_g := (pG (inT2 _ (List.mem_of_getElem? (i := 222) rfl)) rfl)
theorem lf_Sw_9 : Cond.fieldLink "LeftShoes$Swaps" 9 (pF 6 1).1 (pF 6 1).2.1 (pF 6 1).2.2.1 ∈ lw_g := (pG (inT1 _ (List.mem_of_getElem? (i := 48) rfl)) rfl)
theorem lf_Sw_15 : Cond.fieldLink "LeftShoes$Swaps" 15 (pF 6 2).1 (pF 6 2).2.1 (pF 6 2).2.2.1 ∈ lw_g := (pG (inT1 _ (List.mem_of_getElem? (i := 50) rfl)) rfl)
theorem lf_Sw_18 : Cond.fieldLink "LeftShoes$Swaps" 18 (pF 6 3).1 (pF 6 3).2.1 (pF 6 3).2.2.1 ∈ lw_g := (pG (inT1 _ (List.mem_of_getElem? (i := 52) rfl)) rfl)
theorem lf_Sw_21 : Cond.fieldLink "LeftShoes$Swaps" 21 (pF 6 0).1 (pF 6 0).2.1 (pF 6 0).2.2.1 ∈ lw_g := (pG (inT1 _ (List.mem_of_getElem? (i := 45) rfl)) rfl)
theorem lf_Ta_9 : Cond.fieldLink "LeftShoes$Tale" 9 (pF 7 1).1 (pF 7 1).2.1 (pF 7 1).2.2.1 ∈ lw_g := (pG (inT1 _ (List.mem_of_getElem? (i := 108) rfl)) rfl)
theorem lf_Ta_15 : Cond.fieldLink "LeftShoes$Tale" 15 (pF 7 2).1 (pF 7 2).2.1 (pF 7 2).2.2.1 ∈ lw_g := (pG (inT1 _ (List.mem_of_getElem? (i := 110) rfl)) rfl)
theorem lf_Ta_18 : Cond.fieldLink "LeftShoes$Tale" 18 (pF 7 3).1 (pF 7 3).2.1 (pF 7 3).2.2.1 ∈ lw_g := (pG (inT1 _ (List.mem_of_getElem? (i := 114) rfl)) rfl)
theorem lf_Ta_21 : Cond.fieldLink "LeftShoes$Tale" 21 (pF 7 4).1 (pF 7 4).2.1 (pF 7 4).2.2.1 ∈ lw_g := (pG (inT1 _ (List.mem_of_getElem? (i := 117) rfl)) rfl)
theorem lf_Ta_24 : Cond.fieldLink "LeftShoes$Tale" 24 (pF 7 5).1 (pF 7 5).2.1 (pF 7 5).2.2.1 ∈ lw_g := (pG (inT1 _ (List.mem_of_getElem? (i := 120) rfl)) rfl)
theorem lf_Ta_27 : Cond.fieldLink "LeftShoes$Tale" 27 (pF 7 7).1 (pF 7 7).2.1 (pF 7 7).2.2.1 ∈ lw_g := (pG (inT1 _ (List.mem_of_getElem? (i := 128) rfl)) rfl)
theorem lf_Ta_30 : Cond.fieldLink "LeftShoes$Tale" 30 (pF 7 8).1 (pF 7 8).2.1 (pF 7 8).2.2.1 ∈ lw_g := (pG (inT1 _ (List.mem_of_getElem? (i := 132) rfl)) rfl)
theorem lf_Ta_33 : Cond.fieldLink "LeftShoes$Tale" 33 (pF 7 9).1 (pF 7 9).2.1 (pF 7 9).2.2.1 ∈ lw_g := (pG (inT1 _ (List.mem_of_getElem? (i := 137) rfl)) rfl)
theorem lf_Ta_36 : Cond.fieldLink "LeftShoes$Tale" 36 (pF 7 10).1 (pF 7 10).2.1 (pF 7 10).2.2.1 ∈ lw_g := (pG (inT1 _ (List.mem_of_getElem? (i := 140) rfl)) rfl)
theorem lf_Ta_39 : Cond.fieldLink "LeftShoes$Tale" 39 (pF 7 11).1 (pF 7 11).2.1 (pF 7 11).2.2.1 ∈ lw_g := (pG (inT1 _ (List.mem_of_getElem? (i := 144) rfl)) rfl)
theorem lf_Ta_42 : Cond.fieldLink "LeftShoes$Tale" 42 (pF 7 13).1 (pF 7 13).2.1 (pF 7 13).2.2.1 ∈ lw_g := (pG (inT1 _ (List.mem_of_getElem? (i := 151) rfl)) rfl)
theorem lf_Ta_45 : Cond.fieldLink "LeftShoes$Tale" 45 (pF 7 14).1 (pF 7 14).2.1 (pF 7 14).2.2.1 ∈ lw_g := (pG (inT1 _ (List.mem_of_getElem? (i := 155) rfl)) rfl)
theorem lf_Ta_48 : Cond.fieldLink "LeftShoes$Tale" 48 (pF 7 15).1 (pF 7 15).2.1 (pF 7 15).2.2.1 ∈ lw_g := (pG (inT1 _ (List.mem_of_getElem? (i := 159) rfl)) rfl)
theorem lf_Ta_51 : Cond.fieldLink "LeftShoes$Tale" 51 (pF 7 16).1 (pF 7 16).2.1 (pF 7 16).2.2.1 ∈ lw_g := (pG (inT1 _ (List.mem_of_getElem? (i := 163) rfl)) rfl)
theorem lf_Ta_57 : Cond.fieldLink "LeftShoes$Tale" 57 (pF 7 17).1 (pF 7 17).2.1 (pF 7 17).2.2.1 ∈ lw_g := (pG (inT1 _ (List.mem_of_getElem? (i := 167) rfl)) rfl)
theorem lf_Ta_64 : Cond.fieldLink "LeftShoes$Tale" 64 (pF 7 18).1 (pF 7 18).2.1 (pF 7 18).2.2.1 ∈ lw_g := (pG (inT1 _ (List.mem_of_getElem? (i := 170) rfl)) rfl)
theorem lf_Ta_68 : Cond.fieldLink "LeftShoes$Tale" 68 (pF 7 0).1 (pF 7 0).2.1 (pF 7 0).2.2.1 ∈ lw_g := (pG (inT1 _ (List.mem_of_getElem? (i := 103) rfl)) rfl)
theorem lf_Ta_72 : Cond.fieldLink "LeftShoes$Tale" 72 (pF 7 6).1 (pF 7 6).2.1 (pF 7 6).2.2.1 ∈ lw_g := (pG (inT1 _ (List.mem_of_getElem? (i := 123) rfl)) rfl)
theorem lf_Ta_75 : Cond.fieldLink "LeftShoes$Tale" 75 (pF 7 12).1 (pF 7 12).2.1 (pF 7 12).2.2.1 ∈ lw_g := (pG (inT1 _ (List.mem_of_getElem? (i := 147) rfl)) rfl)
theorem lf_Tr_11 : Cond.fieldLink "LeftShoes$Tracks" 11 (pF 8 1).1 (pF 8 1).2.1 (pF 8 1).2.2.1 ∈ lw_g := (pG (inT2 _ (List.mem_of_getElem? (i := 165) rfl)) rfl)
theorem lf_Tr_15 : Cond.fieldLink "LeftShoes$Tracks" 15 (pF 8 2).1 (pF 8 2).2.1 (pF 8 2).2.2.1 ∈ lw_g := (pG (inT2 _ (List.mem_of_getElem? (i := 167) rfl)) rfl)
theorem lf_Tr_19 : Cond.fieldLink "LeftShoes$Tracks" 19 (pF 8 3).1 (pF 8 3).2.1 (pF 8 3).2.2.1 ∈ lw_g := (pG (inT2 _ (List.mem_of_getElem? (i := 168) rfl)) rfl)
theorem lf_Tr_22 : Cond.fieldLink "LeftShoes$Tracks" 22 (pF 8 0).1 (pF 8 0).2.1 (pF 8 0).2.2.1 ∈ lw_g := (pG (inT2 _ (List.mem_of_getElem? (i := 163) rfl)) rfl)
theorem lf_Tr_25 : Cond.fieldLink "LeftShoes$Tracks" 25 (pF 9 0).1 (pF 9 0).2.1 (pF 9 0).2.2.1 ∈ lw_g := (pG (inT2 _ (List.mem_of_getElem? (i := 90) rfl)) rfl)
theorem lf_Tr_31 : Cond.fieldLink "LeftShoes$Tracks" 31 (pF 7 0).1 (pF 7 0).2.1 (pF 7 0).2.2.1 ∈ lw_g := (pG (inT1 _ (List.mem_of_getElem? (i := 104) rfl)) rfl)
theorem lf_Tr_50 : Cond.fieldLink "LeftShoes$Tracks" 50 (pF 9 7).1 (pF 9 7).2.1 (pF 9 7).2.2.1 ∈ lw_g := (pG (inT2 _ (List.mem_of_getElem? (i := 109) rfl)) rfl)
theorem lf_Tr_57 : Cond.fieldLink "LeftShoes$Tracks" 57 (pF 7 8).1 (pF 7 8).2.1 (pF 7 8).2.2.1 ∈ lw_g := (pG (inT1 _ (List.mem_of_getElem? (i := 133) rfl)) rfl)
theorem lf_Tr_59 : Cond.fieldLink "LeftShoes$Tracks" 59 (pF 7 2).1 (pF 7 2).2.1 (pF 7 2).2.2.1 ∈ lw_g := (pG (inT1 _ (List.mem_of_getElem? (i := 111) rfl)) rfl)
theorem lf_Wo_11 : Cond.fieldLink "LeftShoes$World" 11 (pF 9 4).1 (pF 9 4).2.1 (pF 9 4).2.2.1 ∈ lw_g := (pG (inT2 _ (List.mem_of_getElem? (i := 98) rfl)) rfl)
theorem lf_Wo_17 : Cond.fieldLink "LeftShoes$World" 17 (pF 9 5).1 (pF 9 5).2.1 (pF 9 5).2.2.1 ∈ lw_g := (pG (inT2 _ (List.mem_of_getElem? (i := 100) rfl)) rfl)
theorem lf_Wo_20 : Cond.fieldLink "LeftShoes$World" 20 (pF 9 6).1 (pF 9 6).2.1 (pF 9 6).2.2.1 ∈ lw_g := (pG (inT2 _ (List.mem_of_getElem? (i := 103) rfl)) rfl)
theorem lf_Wo_23 : Cond.fieldLink "LeftShoes$World" 23 (pF 9 7).1 (pF 9 7).2.1 (pF 9 7).2.2.1 ∈ lw_g := (pG (inT2 _ (List.mem_of_getElem? (i := 106) rfl)) rfl)
theorem lf_Wo_26 : Cond.fieldLink "LeftShoes$World" 26 (pF 9 8).1 (pF 9 8).2.1 (pF 9 8).2.2.1 ∈ lw_g := (pG (inT2 _ (List.mem_of_getElem? (i := 111) rfl)) rfl)
theorem lf_Wo_29 : Cond.fieldLink "LeftShoes$World" 29 (pF 9 0).1 (pF 9 0).2.1 (pF 9 0).2.2.1 ∈ lw_g := (pG (inT2 _ (List.mem_of_getElem? (i := 87) rfl)) rfl)
theorem lf_Wo_33 : Cond.fieldLink "LeftShoes$World" 33 (pF 9 9).1 (pF 9 9).2.1 (pF 9 9).2.2.1 ∈ lw_g := (pG (inT2 _ (List.mem_of_getElem? (i := 113) rfl)) rfl)
theorem lf_Wo_36 : Cond.fieldLink "LeftShoes$World" 36 (pF 9 2).1 (pF 9 2).2.1 (pF 9 2).2.2.1 ∈ lw_g := (pG (inT2 _ (List.mem_of_getElem? (i := 94) rfl)) rfl)
theorem lf_Wo_40 : Cond.fieldLink "LeftShoes$World" 40 (pF 9 3).1 (pF 9 3).2.1 (pF 9 3).2.2.1 ∈ lw_g := (pG (inT2 _ (List.mem_of_getElem? (i := 96) rfl)) rfl)
theorem lf_Wo_43 : Cond.fieldLink "LeftShoes$World" 43 (pF 9 1).1 (pF 9 1).2.1 (pF 9 1).2.2.1 ∈ lw_g := (pG (inT2 _ (List.mem_of_getElem? (i := 91) rfl)) rfl)
theorem lf_Wo_47 : Cond.fieldLink "LeftShoes$World" 47 (pF 7 7).1 (pF 7 7).2.1 (pF 7 7).2.2.1 ∈ lw_g := (pG (inT1 _ (List.mem_of_getElem? (i := 129) rfl)) rfl)
theorem lf_Wo_50 : Cond.fieldLink "LeftShoes$World" 50 (pF 7 9).1 (pF 7 9).2.1 (pF 7 9).2.2.1 ∈ lw_g := (pG (inT1 _ (List.mem_of_getElem? (i := 138) rfl)) rfl)
theorem lf_Wo_51 : Cond.fieldLink "LeftShoes$World" 51 (pF 7 11).1 (pF 7 11).2.1 (pF 7 11).2.2.1 ∈ lw_g := (pG (inT1 _ (List.mem_of_getElem? (i := 145) rfl)) rfl)
theorem lf_Wo_76 : Cond.fieldLink "LeftShoes$World" 76 (pF 7 6).1 (pF 7 6).2.1 (pF 7 6).2.2.1 ∈ lw_g := (pG (inT1 _ (List.mem_of_getElem? (i := 126) rfl)) rfl)
theorem lf_Wo_79 : Cond.fieldLink "LeftShoes$World" 79 (pF 7 12).1 (pF 7 12).2.1 (pF 7 12).2.2.1 ∈ lw_g := (pG (inT1 _ (List.mem_of_getElem? (i := 150) rfl)) rfl)
theorem lf_Wo_84 : Cond.fieldLink "LeftShoes$World" 84 (pF 7 18).1 (pF 7 18).2.1 (pF 7 18).2.2.1 ∈ lw_g := (pG (inT1 _ (List.mem_of_getElem? (i := 172) rfl)) rfl)
theorem lf_Wo_88 : Cond.fieldLink "LeftShoes$World" 88 (pF 7 8).1 (pF 7 8).2.1 (pF 7 8).2.2.1 ∈ lw_g := (pG (inT1 _ (List.mem_of_getElem? (i := 136) rfl)) rfl)
theorem lf_Wo_91 : Cond.fieldLink "LeftShoes$World" 91 (pF 7 10).1 (pF 7 10).2.1 (pF 7 10).2.2.1 ∈ lw_g := (pG (inT1 _ (List.mem_of_getElem? (i := 143) rfl)) rfl)
theorem lf_Wo_100 : Cond.fieldLink "LeftShoes$World" 100 (pF 7 3).1 (pF 7 3).2.1 (pF 7 3).2.2.1 ∈ lw_g := (pG (inT1 _ (List.mem_of_getElem? (i := 116) rfl)) rfl)
theorem lf_Wo_103 : Cond.fieldLink "LeftShoes$World" 103 (pF 7 2).1 (pF 7 2).2.1 (pF 7 2).2.2.1 ∈ lw_g := (pG (inT1 _ (List.mem_of_getElem? (i := 113) rfl)) rfl)
theorem lf_Wo_154 : Cond.fieldLink "LeftShoes$World" 154 (pF 7 0).1 (pF 7 0).2.1 (pF 7 0).2.2.1 ∈ lw_g := (pG (inT1 _ (List.mem_of_getElem? (i := 106) rfl)) rfl)
theorem lf_Wo_163 : Cond.fieldLink "LeftShoes$World" 163 (pF 7 16).1 (pF 7 16).2.1 (pF 7 16).2.2.1 ∈ lw_g := (pG (inT1 _ (List.mem_of_getElem? (i := 166) rfl)) rfl)
theorem lf_Wo_166 : Cond.fieldLink "LeftShoes$World" 166 (pF 7 13).1 (pF 7 13).2.1 (pF 7 13).2.2.1 ∈ lw_g := (pG (inT1 _ (List.mem_of_getElem? (i := 154) rfl)) rfl)
theorem lf_Wo_169 : Cond.fieldLink "LeftShoes$World" 169 (pF 7 15).1 (pF 7 15).2.1 (pF 7 15).2.2.1 ∈ lw_g := (pG (inT1 _ (List.mem_of_getElem? (i := 162) rfl)) rfl)
theorem lf_Wo_175 : Cond.fieldLink "LeftShoes$World" 175 (pF 7 14).1 (pF 7 14).2.1 (pF 7 14).2.2.1 ∈ lw_g := (pG (inT1 _ (List.mem_of_getElem? (i := 158) rfl)) rfl)
theorem lf_Mo_7 : Cond.fieldLink "LeftShoesModel" 7 (pF 11 0).1 (pF 11 0).2.1 (pF 11 0).2.2.1 ∈ lw_g := (pG (inT6 _ (List.mem_of_getElem? (i := 68) rfl)) rfl)
theorem lf_Mo_13 : Cond.fieldLink "LeftShoesModel" 13 (pF 11 3).1 (pF 11 3).2.1 (pF 11 3).2.2.1 ∈ lw_g := (pG (inT6 _ (List.mem_of_getElem? (i := 71) rfl)) rfl)
theorem lf_Mo_16 : Cond.fieldLink "LeftShoesModel" 16 (pF 11 5).1 (pF 11 5).2.1 (pF 11 5).2.2.1 ∈ lw_g := (pG (inT6 _ (List.mem_of_getElem? (i := 73) rfl)) rfl)
theorem lf_Mo_20 : Cond.fieldLink "LeftShoesModel" 20 (pF 11 23).1 (pF 11 23).2.1 (pF 11 23).2.2.1 ∈ lw_g := (pG (inT6 _ (List.mem_of_getElem? (i := 91) rfl)) rfl)
theorem lf_Mo_23 : Cond.fieldLink "LeftShoesModel" 23 (pF 11 24).1 (pF 11 24).2.1 (pF 11 24).2.2.1 ∈ lw_g := (pG (inT6 _ (List.mem_of_getElem? (i := 92) rfl)) rfl)
theorem lf_Mo_26 : Cond.fieldLink "LeftShoesModel" 26 (pF 11 25).1 (pF 11 25).2.1 (pF 11 25).2.2.1 ∈ lw_g := (pG (inT6 _ (List.mem_of_getElem? (i := 93) rfl)) rfl)
theorem lf_Mo_29 : Cond.fieldLink "LeftShoesModel" 29 (pF 11 26).1 (pF 11 26).2.1 (pF 11 26).2.2.1 ∈ lw_g := (pG (inT6 _ (List.mem_of_getElem? (i := 94) rfl)) rfl)
theorem lf_Mo_32 : Cond.fieldLink "LeftShoesModel" 32 (pF 11 27).1 (pF 11 27).2.1 (pF 11 27).2.2.1 ∈ lw_g := (pG (inT6 _ (List.mem_of_getElem? (i := 95) rfl)) rfl)
theorem lf_Mo_35 : Cond.fieldLink "LeftShoesModel" 35 (pF 11 28).1 (pF 11 28).2.1 (pF 11 28).2.2.1 ∈ lw_g := (pG (inT6 _ (List.mem_of_getElem? (i := 96) rfl)) rfl)
theorem lf_Mo_38 : Cond.fieldLink "LeftShoesModel" 38 (pF 11 29).1 (pF 11 29).2.1 (pF 11 29).2.2.1 ∈ lw_g := (pG (inT6 _ (List.mem_of_getElem? (i := 97) rfl)) rfl)
theorem lf_Mo_41 : Cond.fieldLink "LeftShoesModel" 41 (pF 11 30).1 (pF 11 30).2.1 (pF 11 30).2.2.1 ∈ lw_g := (pG (inT6 _ (List.mem_of_getElem? (i := 98) rfl)) rfl)
theorem lf_Mo_44 : Cond.fieldLink "LeftShoesModel" 44 (pF 11 31).1 (pF 11 31).2.1 (pF 11 31).2.2.1 ∈ lw_g := (pG (inT6 _ (List.mem_of_getElem? (i := 99) rfl)) rfl)
theorem lf_Mo_47 : Cond.fieldLink "LeftShoesModel" 47 (pF 11 32).1 (pF 11 32).2.1 (pF 11 32).2.2.1 ∈ lw_g := (pG (inT6 _ (List.mem_of_getElem? (i := 100) rfl)) rfl)
theorem lf_Mo_50 : Cond.fieldLink "LeftShoesModel" 50 (pF 11 33).1 (pF 11 33).2.1 (pF 11 33).2.2.1 ∈ lw_g := (pG (inT6 _ (List.mem_of_getElem? (i := 101) rfl)) rfl)
theorem lf_Mo_53 : Cond.fieldLink "LeftShoesModel" 53 (pF 11 34).1 (pF 11 34).2.1 (pF 11 34).2.2.1 ∈ lw_g := (pG (inT6 _ (List.mem_of_getElem? (i := 102) rfl)) rfl)
theorem lf_Mo_56 : Cond.fieldLink "LeftShoesModel" 56 (pF 11 35).1 (pF 11 35).2.1 (pF 11 35).2.2.1 ∈ lw_g := (pG (inT6 _ (List.mem_of_getElem? (i := 103) rfl)) rfl)
theorem lf_Mo_59 : Cond.fieldLink "LeftShoesModel" 59 (pF 11 36).1 (pF 11 36).2.1 (pF 11 36).2.2.1 ∈ lw_g := (pG (inT6 _ (List.mem_of_getElem? (i := 104) rfl)) rfl)
theorem lf_Mo_62 : Cond.fieldLink "LeftShoesModel" 62 (pF 11 37).1 (pF 11 37).2.1 (pF 11 37).2.2.1 ∈ lw_g := (pG (inT6 _ (List.mem_of_getElem? (i := 105) rfl)) rfl)
theorem lf_Mo_65 : Cond.fieldLink "LeftShoesModel" 65 (pF 11 38).1 (pF 11 38).2.1 (pF 11 38).2.2.1 ∈ lw_g := (pG (inT6 _ (List.mem_of_getElem? (i := 106) rfl)) rfl)
theorem lf_Mo_69 : Cond.fieldLink "LeftShoesModel" 69 (pF 11 39).1 (pF 11 39).2.1 (pF 11 39).2.2.1 ∈ lw_g := (pG (inT6 _ (List.mem_of_getElem? (i := 107) rfl)) rfl)
theorem lf_Mo_72 : Cond.fieldLink "LeftShoesModel" 72 (pF 11 40).1 (pF 11 40).2.1 (pF 11 40).2.2.1 ∈ lw_g := (pG (inT6 _ (List.mem_of_getElem? (i := 108) rfl)) rfl)
theorem lf_Mo_75 : Cond.fieldLink "LeftShoesModel" 75 (pF 11 41).1 (pF 11 41).2.1 (pF 11 41).2.2.1 ∈ lw_g := (pG (inT6 _ (List.mem_of_getElem? (i := 109) rfl)) rfl)
theorem lf_Mo_78 : Cond.fieldLink "LeftShoesModel" 78 (pF 11 42).1 (pF 11 42).2.1 (pF 11 42).2.2.1 ∈ lw_g := (pG (inT6 _ (List.mem_of_getElem? (i := 110) rfl)) rfl)
theorem lf_Mo_81 : Cond.fieldLink "LeftShoesModel" 81 (pF 11 43).1 (pF 11 43).2.1 (pF 11 43).2.2.1 ∈ lw_g := (pG (inT6 _ (List.mem_of_getElem? (i := 111) rfl)) rfl)
theorem lf_Mo_84 : Cond.fieldLink "LeftShoesModel" 84 (pF 11 44).1 (pF 11 44).2.1 (pF 11 44).2.2.1 ∈ lw_g := (pG (inT6 _ (List.mem_of_getElem? (i := 112) rfl)) rfl)
theorem lf_Mo_87 : Cond.fieldLink "LeftShoesModel" 87 (pF 11 45).1 (pF 11 45).2.1 (pF 11 45).2.2.1 ∈ lw_g := (pG (inT6 _ (List.mem_of_getElem? (i := 113) rfl)) rfl)
theorem lf_Mo_90 : Cond.fieldLink "LeftShoesModel" 90 (pF 11 52).1 (pF 11 52).2.1 (pF 11 52).2.2.1 ∈ lw_g := (pG (inT6 _ (List.mem_of_getElem? (i := 120) rfl)) rfl)
theorem lf_Mo_94 : Cond.fieldLink "LeftShoesModel" 94 (pF 11 53).1 (pF 11 53).2.1 (pF 11 53).2.2.1 ∈ lw_g := (pG (inT6 _ (List.mem_of_getElem? (i := 121) rfl)) rfl)
theorem lf_Mo_97 : Cond.fieldLink "LeftShoesModel" 97 (pF 11 55).1 (pF 11 55).2.1 (pF 11 55).2.2.1 ∈ lw_g := (pG (inT6 _ (List.mem_of_getElem? (i := 123) rfl)) rfl)
theorem lf_Mo_100 : Cond.fieldLink "LeftShoesModel" 100 (pF 11 56).1 (pF 11 56).2.1 (pF 11 56).2.2.1 ∈ lw_g := (pG (inT6 _ (List.mem_of_getElem? (i := 124) rfl)) rfl)
theorem lf_Mo_103 : Cond.fieldLink "LeftShoesModel" 103 (pF 11 57).1 (pF 11 57).2.1 (pF 11 57).2.2.1 ∈ lw_g := (pG (inT6 _ (List.mem_of_getElem? (i := 125) rfl)) rfl)
theorem lf_Mo_106 : Cond.fieldLink "LeftShoesModel" 106 (pF 11 58).1 (pF 11 58).2.1 (pF 11 58).2.2.1 ∈ lw_g := (pG (inT6 _ (List.mem_of_getElem? (i := 126) rfl)) rfl)
theorem lf_Mo_109 : Cond.fieldLink "LeftShoesModel" 109 (pF 11 59).1 (pF 11 59).2.1 (pF 11 59).2.2.1 ∈ lw_g := (pG (inT6 _ (List.mem_of_getElem? (i := 127) rfl)) rfl)
theorem lf_Mo_112 : Cond.fieldLink "LeftShoesModel" 112 (pF 11 60).1 (pF 11 60).2.1 (pF 11 60).2.2.1 ∈ lw_g := (pG (inT6 _ (List.mem_of_getElem? (i := 128) rfl)) rfl)
theorem lf_Mo_115 : Cond.fieldLink "LeftShoesModel" 115 (pF 11 65).1 (pF 11 65).2.1 (pF 11 65).2.2.1 ∈ lw_g := (pG (inT6 _ (List.mem_of_getElem? (i := 133) rfl)) rfl)
theorem lf_Mo_118 : Cond.fieldLink "LeftShoesModel" 118 (pF 11 66).1 (pF 11 66).2.1 (pF 11 66).2.2.1 ∈ lw_g := (pG (inT6 _ (List.mem_of_getElem? (i := 134) rfl)) rfl)
theorem lf_Mo_121 : Cond.fieldLink "LeftShoesModel" 121 (pF 11 67).1 (pF 11 67).2.1 (pF 11 67).2.2.1 ∈ lw_g := (pG (inT6 _ (List.mem_of_getElem? (i := 135) rfl)) rfl)
theorem lf_Mo_124 : Cond.fieldLink "LeftShoesModel" 124 (pF 11 68).1 (pF 11 68).2.1 (pF 11 68).2.2.1 ∈ lw_g := (pG (inT6 _ (List.mem_of_getElem? (i := 136) rfl)) rfl)
theorem lf_Mo_127 : Cond.fieldLink "LeftShoesModel" 127 (pF 11 69).1 (pF 11 69).2.1 (pF 11 69).2.2.1 ∈ lw_g := (pG (inT6 _ (List.mem_of_getElem? (i := 137) rfl)) rfl)
theorem lf_Mo_130 : Cond.fieldLink "LeftShoesModel" 130 (pF 11 72).1 (pF 11 72).2.1 (pF 11 72).2.2.1 ∈ lw_g := (pG (inT6 _ (List.mem_of_getElem? (i := 140) rfl)) rfl)
theorem lf_Mo_133 : Cond.fieldLink "LeftShoesModel" 133 (pF 11 73).1 (pF 11 73).2.1 (pF 11 73).2.2.1 ∈ lw_g := (pG (inT6 _ (List.mem_of_getElem? (i := 141) rfl)) rfl)
theorem lf_Mo_136 : Cond.fieldLink "LeftShoesModel" 136 (pF 11 74).1 (pF 11 74).2.1 (pF 11 74).2.2.1 ∈ lw_g := (pG (inT6 _ (List.mem_of_getElem? (i := 142) rfl)) rfl)
theorem lf_Mo_139 : Cond.fieldLink "LeftShoesModel" 139 (pF 11 75).1 (pF 11 75).2.1 (pF 11 75).2.2.1 ∈ lw_g := (pG (inT6 _ (List.mem_of_getElem? (i := 143) rfl)) rfl)
theorem lf_Mo_142 : Cond.fieldLink "LeftShoesModel" 142 (pF 11 76).1 (pF 11 76).2.1 (pF 11 76).2.2.1 ∈ lw_g := (pG (inT6 _ (List.mem_of_getElem? (i := 144) rfl)) rfl)
theorem lf_Mo_145 : Cond.fieldLink "LeftShoesModel" 145 (pF 11 81).1 (pF 11 81).2.1 (pF 11 81).2.2.1 ∈ lw_g := (pG (inT6 _ (List.mem_of_getElem? (i := 149) rfl)) rfl)
theorem lf_Mo_148 : Cond.fieldLink "LeftShoesModel" 148 (pF 11 82).1 (pF 11 82).2.1 (pF 11 82).2.2.1 ∈ lw_g := (pG (inT6 _ (List.mem_of_getElem? (i := 150) rfl)) rfl)
theorem lf_Mo_151 : Cond.fieldLink "LeftShoesModel" 151 (pF 11 83).1 (pF 11 83).2.1 (pF 11 83).2.2.1 ∈ lw_g := (pG (inT6 _ (List.mem_of_getElem? (i := 151) rfl)) rfl)
theorem lf_Mo_154 : Cond.fieldLink "LeftShoesModel" 154 (pF 11 84).1 (pF 11 84).2.1 (pF 11 84).2.2.1 ∈ lw_g := (pG (inT6 _ (List.mem_of_getElem? (i := 152) rfl)) rfl)
theorem lf_Mo_157 : Cond.fieldLink "LeftShoesModel" 157 (pF 11 87).1 (pF 11 87).2.1 (pF 11 87).2.2.1 ∈ lw_g := (pG (inT6 _ (List.mem_of_getElem? (i := 155) rfl)) rfl)
theorem lf_Mo_160 : Cond.fieldLink "LeftShoesModel" 160 (pF 11 89).1 (pF 11 89).2.1 (pF 11 89).2.2.1 ∈ lw_g := (pG (inT6 _ (List.mem_of_getElem? (i := 157) rfl)) rfl)
theorem lf_Mo_163 : Cond.fieldLink "LeftShoesModel" 163 (pF 11 90).1 (pF 11 90).2.1 (pF 11 90).2.2.1 ∈ lw_g := (pG (inT6 _ (List.mem_of_getElem? (i := 158) rfl)) rfl)
theorem lf_Mo_166 : Cond.fieldLink "LeftShoesModel" 166 (pF 11 91).1 (pF 11 91).2.1 (pF 11 91).2.2.1 ∈ lw_g := (pG (inT6 _ (List.mem_of_getElem? (i := 159) rfl)) rfl)
theorem lf_Mo_175 : Cond.fieldLink "LeftShoesModel" 175 (pF 11 2).1 (pF 11 2).2.1 (pF 11 2).2.2.1 ∈ lw_g := (pG (inT6 _ (List.mem_of_getElem? (i := 70) rfl)) rfl)
theorem lf_Mo_178 : Cond.fieldLink "LeftShoesModel" 178 (pF 11 1).1 (pF 11 1).2.1 (pF 11 1).2.2.1 ∈ lw_g := (pG (inT6 _ (List.mem_of_getElem? (i := 69) rfl)) rfl)
theorem lf_Mo_181 : Cond.fieldLink "LeftShoesModel" 181 (pF 11 4).1 (pF 11 4).2.1 (pF 11 4).2.2.1 ∈ lw_g := (pG (inT6 _ (List.mem_of_getElem? (i := 72) rfl)) rfl)
theorem lf_Mo_184 : Cond.fieldLink "LeftShoesModel" 184 (pF 11 10).1 (pF 11 10).2.1 (pF 11 10).2.2.1 ∈ lw_g := (pG (inT6 _ (List.mem_of_getElem? (i := 78) rfl)) rfl)
theorem lf_Mo_187 : Cond.fieldLink "LeftShoesModel" 187 (pF 11 6).1 (pF 11 6).2.1 (pF 11 6).2.2.1 ∈ lw_g := (pG (inT6 _ (List.mem_of_getElem? (i := 74) rfl)) rfl)
theorem lf_Mo_190 : Cond.fieldLink "LeftShoesModel" 190 (pF 11 7).1 (pF 11 7).2.1 (pF 11 7).2.2.1 ∈ lw_g := (pG (inT6 _ (List.mem_of_getElem? (i := 75) rfl)) rfl)
theorem lf_Mo_193 : Cond.fieldLink "LeftShoesModel" 193 (pF 11 8).1 (pF 11 8).2.1 (pF 11 8).2.2.1 ∈ lw_g := (pG (inT6 _ (List.mem_of_getElem? (i := 76) rfl)) rfl)
theorem lf_Mo_204 : Cond.fieldLink "LeftShoesModel" 204 (pF 11 9).1 (pF 11 9).2.1 (pF 11 9).2.2.1 ∈ lw_g := (pG (inT6 _ (List.mem_of_getElem? (i := 77) rfl)) rfl)
theorem lf_Mo_224 : Cond.fieldLink "LeftShoesModel" 224 (pF 11 11).1 (pF 11 11).2.1 (pF 11 11).2.2.1 ∈ lw_g := (pG (inT6 _ (List.mem_of_getElem? (i := 79) rfl)) rfl)
theorem lf_Mo_237 : Cond.fieldLink "LeftShoesModel" 237 (pF 11 17).1 (pF 11 17).2.1 (pF 11 17).2.2.1 ∈ lw_g := (pG (inT6 _ (List.mem_of_getElem? (i := 85) rfl)) rfl)
theorem lf_Mo_240 : Cond.fieldLink "LeftShoesModel" 240 (pF 11 18).1 (pF 11 18).2.1 (pF 11 18).2.2.1 ∈ lw_g := (pG (inT6 _ (List.mem_of_getElem? (i := 86) rfl)) rfl)
theorem lf_Mo_243 : Cond.fieldLink "LeftShoesModel" 243 (pF 11 19).1 (pF 11 19).2.1 (pF 11 19).2.2.1 ∈ lw_g := (pG (inT6 _ (List.mem_of_getElem? (i := 87) rfl)) rfl)
theorem lf_Mo_246 : Cond.fieldLink "LeftShoesModel" 246 (pF 11 20).1 (pF 11 20).2.1 (pF 11 20).2.2.1 ∈ lw_g := (pG (inT6 _ (List.mem_of_getElem? (i := 88) rfl)) rfl)
theorem lf_Mo_249 : Cond.fieldLink "LeftShoesModel" 249 (pF 11 21).1 (pF 11 21).2.1 (pF 11 21).2.2.1 ∈ lw_g := (pG (inT6 _ (List.mem_of_getElem? (i := 89) rfl)) rfl)
theorem lf_Mo_252 : Cond.fieldLink "LeftShoesModel" 252 (pF 11 49).1 (pF 11 49).2.1 (pF 11 49).2.2.1 ∈ lw_g := (pG (inT6 _ (List.mem_of_getElem? (i := 117) rfl)) rfl)
theorem lf_Mo_255 : Cond.fieldLink "LeftShoesModel" 255 (pF 11 22).1 (pF 11 22).2.1 (pF 11 22).2.2.1 ∈ lw_g := (pG (inT6 _ (List.mem_of_getElem? (i := 90) rfl)) rfl)
theorem lf_Mo_259 : Cond.fieldLink "LeftShoesModel" 259 (pF 11 12).1 (pF 11 12).2.1 (pF 11 12).2.2.1 ∈ lw_g := (pG (inT6 _ (List.mem_of_getElem? (i := 80) rfl)) rfl)
theorem lf_Mo_262 : Cond.fieldLink "LeftShoesModel" 262 (pF 11 13).1 (pF 11 13).2.1 (pF 11 13).2.2.1 ∈ lw_g := (pG (inT6 _ (List.mem_of_getElem? (i := 81) rfl)) rfl)
theorem lf_Mo_265 : Cond.fieldLink "LeftShoesModel" 265 (pF 11 14).1 (pF 11 14).2.1 (pF 11 14).2.2.1 ∈ lw_g := (pG (inT6 _ (List.mem_of_getElem? (i := 82) rfl)) rfl)
theorem lf_Mo_268 : Cond.fieldLink "LeftShoesModel" 268 (pF 11 15).1 (pF 11 15).2.1 (pF 11 15).2.2.1 ∈ lw_g := (pG (inT6 _ (List.mem_of_getElem? (i := 83) rfl)) rfl)
theorem lf_Mo_271 : Cond.fieldLink "LeftShoesModel" 271 (pF 11 16).1 (pF 11 16).2.1 (pF 11 16).2.2.1 ∈ lw_g := (pG (inT6 _ (List.mem_of_getElem? (i := 84) rfl)) rfl)
theorem lf_Mo_316 : Cond.fieldLink "LeftShoesModel" 316 (pF 11 47).1 (pF 11 47).2.1 (pF 11 47).2.2.1 ∈ lw_g := (pG (inT6 _ (List.mem_of_getElem? (i := 115) rfl)) rfl)
theorem lf_Mo_319 : Cond.fieldLink "LeftShoesModel" 319 (pF 11 46).1 (pF 11 46).2.1 (pF 11 46).2.2.1 ∈ lw_g := (pG (inT6 _ (List.mem_of_getElem? (i := 114) rfl)) rfl)
theorem lf_Mo_334 : Cond.fieldLink "LeftShoesModel" 334 (pF 11 48).1 (pF 11 48).2.1 (pF 11 48).2.2.1 ∈ lw_g := (pG (inT6 _ (List.mem_of_getElem? (i := 116) rfl)) rfl)
theorem lf_Mo_341 : Cond.fieldLink "LeftShoesModel" 341 (pF 11 51).1 (pF 11 51).2.1 (pF 11 51).2.2.1 ∈ lw_g := (pG (inT6 _ (List.mem_of_getElem? (i := 119) rfl)) rfl)
theorem lf_Mo_350 : Cond.fieldLink "LeftShoesModel" 350 (pF 11 50).1 (pF 11 50).2.1 (pF 11 50).2.2.1 ∈ lw_g := (pG (inT6 _ (List.mem_of_getElem? (i := 118) rfl)) rfl)
theorem lf_Mo_362 : Cond.fieldLink "LeftShoesModel" 362 (pF 11 54).1 (pF 11 54).2.1 (pF 11 54).2.2.1 ∈ lw_g := (pG (inT6 _ (List.mem_of_getElem? (i := 122) rfl)) rfl)
theorem lf_Mo_381 : Cond.fieldLink "LeftShoesModel" 381 (pF 11 62).1 (pF 11 62).2.1 (pF 11 62).2.2.1 ∈ lw_g := (pG (inT6 _ (List.mem_of_getElem? (i := 130) rfl)) rfl)
theorem lf_Mo_384 : Cond.fieldLink "LeftShoesModel" 384 (pF 11 63).1 (pF 11 63).2.1 (pF 11 63).2.2.1 ∈ lw_g := (pG (inT6 _ (List.mem_of_getElem? (i := 131) rfl)) rfl)
theorem lf_Mo_387 : Cond.fieldLink "LeftShoesModel" 387 (pF 11 64).1 (pF 11 64).2.1 (pF 11 64).2.2.1 ∈ lw_g := (pG (inT6 _ (List.mem_of_getElem? (i := 132) rfl)) rfl)
theorem lf_Mo_390 : Cond.fieldLink "LeftShoesModel" 390 (pF 11 80).1 (pF 11 80).2.1 (pF 11 80).2.2.1 ∈ lw_g := (pG (inT6 _ (List.mem_of_getElem? (i := 148) rfl)) rfl)
theorem lf_Mo_393 : Cond.fieldLink "LeftShoesModel" 393 (pF 11 86).1 (pF 11 86).2.1 (pF 11 86).2.2.1 ∈ lw_g := (pG (inT6 _ (List.mem_of_getElem? (i := 154) rfl)) rfl)
theorem lf_Mo_396 : Cond.fieldLink "LeftShoesModel" 396 (pF 11 88).1 (pF 11 88).2.1 (pF 11 88).2.2.1 ∈ lw_g := (pG (inT6 _ (List.mem_of_getElem? (i := 156) rfl)) rfl)
theorem lf_Mo_490 : Cond.fieldLink "LeftShoesModel" 490 (pF 11 71).1 (pF 11 71).2.1 (pF 11 71).2.2.1 ∈ lw_g := (pG (inT6 _ (List.mem_of_getElem? (i := 139) rfl)) rfl)
theorem lf_Mo_493 : Cond.fieldLink "LeftShoesModel" 493 (pF 11 70).1 (pF 11 70).2.1 (pF 11 70).2.2.1 ∈ lw_g := (pG (inT6 _ (List.mem_of_getElem? (i := 138) rfl)) rfl)
theorem lf_Mo_499 : Cond.fieldLink "LeftShoesModel" 499 (pF 11 77).1 (pF 11 77).2.1 (pF 11 77).2.2.1 ∈ lw_g := (pG (inT6 _ (List.mem_of_getElem? (i := 145) rfl)) rfl)
theorem lf_Mo_508 : Cond.fieldLink "LeftShoesModel" 508 (pF 11 78).1 (pF 11 78).2.1 (pF 11 78).2.2.1 ∈ lw_g := (pG (inT6 _ (List.mem_of_getElem? (i := 146) rfl)) rfl)
theorem lf_Mo_511 : Cond.fieldLink "LeftShoesModel" 511 (pF 11 79).1 (pF 11 79).2.1 (pF 11 79).2.2.1 ∈ lw_g := (pG (inT6 _ (List.mem_of_getElem? (i := 147) rfl)) rfl)
theorem lf_Mo_550 : Cond.fieldLink "LeftShoesModel" 550 (pF 11 85).1 (pF 11 85).2.1 (pF 11 85).2.2.1 ∈ lw_g := (pG (inT6 _ (List.mem_of_getElem? (i := 153) rfl)) rfl)
theorem lf_Mo_562 : Cond.fieldLink "LeftShoesModel" 562 (pF 11 61).1 (pF 11 61).2.1 (pF 11 61).2.2.1 ∈ lw_g := (pG (inT6 _ (List.mem_of_getElem? (i := 129) rfl)) rfl)
theorem lf_Mo_592 : Cond.fieldLink "LeftShoesModel" 592 (pF 11 92).1 (pF 11 92).2.1 (pF 11 92).2.2.1 ∈ lw_g := (pG (inT6 _ (List.mem_of_getElem? (i := 160) rfl)) rfl)
theorem lm_Ls_27 : Cond.methodLink "LeftShoes" 27 m_Sc_init.1 ∈ lw_g := (pG (inT1 _ (List.mem_of_getElem? (i := 215) rfl)) rfl)
theorem lm_Ls_40 : Cond.methodLink "LeftShoes" 40 m_Wo_init.1 ∈ lw_g := (pG (inT2 _ (List.mem_of_getElem? (i := 83) rfl)) rfl)
theorem lm_Ls_76 : Cond.methodLink "LeftShoes" 76 m_St_init.1 ∈ lw_g := (pG (inT2 _ (List.mem_of_getElem? (i := 216) rfl)) rfl)
theorem lm_Ls_90 : Cond.methodLink "LeftShoes" 90 m_Ls_putBytes.1 ∈ lw_g := (pG (inT3 _ (List.mem_of_getElem? (i := 63) rfl)) rfl)
theorem lm_Ls_94 : Cond.methodLink "LeftShoes" 94 m_Sc_write.1 ∈ lw_g := (pG (inT3 _ (List.mem_of_getElem? (i := 71) rfl)) rfl)
theorem lm_Ls_107 : Cond.methodLink "LeftShoes" 107 m_Wo_begin.1 ∈ lw_g := (pG (inT3 _ (List.mem_of_getElem? (i := 211) rfl)) rfl)
theorem lm_Ls_110 : Cond.methodLink "LeftShoes" 110 m_Tr_clear.1 ∈ lw_g := (pG (inT3 _ (List.mem_of_getElem? (i := 215) rfl)) rfl)
theorem lm_Ls_113 : Cond.methodLink "LeftShoes" 113 m_Hi_clear.1 ∈ lw_g := (pG (inT3 _ (List.mem_of_getElem? (i := 219) rfl)) rfl)
theorem lm_Ls_121 : Cond.methodLink "LeftShoes" 121 m_Ta_personNamed.1 ∈ lw_g := (pG (inT3 _ (List.mem_of_getElem? (i := 231) rfl)) rfl)
theorem lm_Ls_125 : Cond.methodLink "LeftShoes" 125 m_Ta_hasShoe.1 ∈ lw_g := (pG (inT5 _ (List.mem_of_getElem? (i := 157) rfl)) rfl)
theorem lm_Ls_151 : Cond.methodLink "LeftShoes" 151 m_Wo_worthOf.1 ∈ lw_g := (pG (inT6 _ (List.mem_of_getElem? (i := 30) rfl)) rfl)
theorem lm_Ls_154 : Cond.methodLink "LeftShoes" 154 m_Wo_isWorn.1 ∈ lw_g := (pG (inT4 _ (List.mem_of_getElem? (i := 144) rfl)) rfl)
theorem lm_Ls_162 : Cond.methodLink "LeftShoes" 162 m_Ta_hasPerson.1 ∈ lw_g := (pG (inT3 _ (List.mem_of_getElem? (i := 236) rfl)) rfl)
theorem lm_Ls_168 : Cond.methodLink "LeftShoes" 168 m_Wo_worthOwned.1 ∈ lw_g := (pG (inT4 _ (List.mem_of_getElem? (i := 0) rfl)) rfl)
theorem lm_Ls_171 : Cond.methodLink "LeftShoes" 171 m_Wo_shoesOf.1 ∈ lw_g := (pG (inT4 _ (List.mem_of_getElem? (i := 59) rfl)) rfl)
theorem lm_Ls_174 : Cond.methodLink "LeftShoes" 174 m_In_bitCount.1 ∈ lw_g := (pG (inT4 _ (List.mem_of_getElem? (i := 63) rfl)) rfl)
theorem lm_Ls_197 : Cond.methodLink "LeftShoes" 197 m_Wo_arePair.1 ∈ lw_g := (pG (inT4 _ (List.mem_of_getElem? (i := 77) rfl)) rfl)
theorem lm_Ls_201 : Cond.methodLink "LeftShoes" 201 m_Wo_pairOf.1 ∈ lw_g := (pG (inT4 _ (List.mem_of_getElem? (i := 81) rfl)) rfl)
theorem lm_Ls_205 : Cond.methodLink "LeftShoes" 205 m_Wo_lawOfPair.1 ∈ lw_g := (pG (inT4 _ (List.mem_of_getElem? (i := 96) rfl)) rfl)
theorem lm_Ls_211 : Cond.methodLink "LeftShoes" 211 m_Wo_isThere.1 ∈ lw_g := (pG (inT4 _ (List.mem_of_getElem? (i := 98) rfl)) rfl)
theorem lm_Ls_217 : Cond.methodLink "LeftShoes" 217 m_Wo_lawOf.1 ∈ lw_g := (pG (inT4 _ (List.mem_of_getElem? (i := 99) rfl)) rfl)
theorem lm_Ls_221 : Cond.methodLink "LeftShoes" 221 m_Ls_isPrice.1 ∈ lw_g := (pG (inT4 _ (List.mem_of_getElem? (i := 104) rfl)) rfl)
theorem lm_Ls_224 : Cond.methodLink "LeftShoes" 224 m_Wo_shoesFor.1 ∈ lw_g := (pG (inT4 _ (List.mem_of_getElem? (i := 107) rfl)) rfl)
theorem lm_Ls_227 : Cond.methodLink "LeftShoes" 227 m_Hi_note.1 ∈ lw_g := (pG (inT4 _ (List.mem_of_getElem? (i := 115) rfl)) rfl)
theorem lm_Ls_230 : Cond.methodLink "LeftShoes" 230 m_Wo_handOver.1 ∈ lw_g := (pG (inT4 _ (List.mem_of_getElem? (i := 123) rfl)) rfl)
theorem lm_Ls_234 : Cond.methodLink "LeftShoes" 234 m_Wo_move.1 ∈ lw_g := (pG (inT4 _ (List.mem_of_getElem? (i := 139) rfl)) rfl)
theorem lm_Ls_237 : Cond.methodLink "LeftShoes" 237 m_Wo_putOn.1 ∈ lw_g := (pG (inT4 _ (List.mem_of_getElem? (i := 148) rfl)) rfl)
theorem lm_Ls_240 : Cond.methodLink "LeftShoes" 240 m_Wo_takeOff.1 ∈ lw_g := (pG (inT4 _ (List.mem_of_getElem? (i := 156) rfl)) rfl)
theorem lm_Ls_243 : Cond.methodLink "LeftShoes" 243 m_Wo_passDay.1 ∈ lw_g := (pG (inT4 _ (List.mem_of_getElem? (i := 161) rfl)) rfl)
theorem lm_Ls_246 : Cond.methodLink "LeftShoes" 246 m_Ls_sizesUpTo.1 ∈ lw_g := (pG (inT4 _ (List.mem_of_getElem? (i := 191) rfl)) rfl)
theorem lm_Ls_249 : Cond.methodLink "LeftShoes" 249 m_Ls_makesAll.1 ∈ lw_g := (pG (inT4 _ (List.mem_of_getElem? (i := 199) rfl)) rfl)
theorem lm_Ls_253 : Cond.methodLink "LeftShoes" 253 m_Wo_worthOfFreshBoot.1 ∈ lw_g := (pG (inT4 _ (List.mem_of_getElem? (i := 195) rfl)) rfl)
theorem lm_Ls_258 : Cond.methodLink "LeftShoes" 258 m_Cp_match.1 ∈ lw_g := (pG (inT4 _ (List.mem_of_getElem? (i := 208) rfl)) rfl)
theorem lm_Ls_267 : Cond.methodLink "LeftShoes" 267 m_St_plan.1 ∈ lw_g := (pG (inT5 _ (List.mem_of_getElem? (i := 0) rfl)) rfl)
theorem lm_Ls_276 : Cond.methodLink "LeftShoes" 276 m_Ls_areHalves.1 ∈ lw_g := (pG (inT5 _ (List.mem_of_getElem? (i := 28) rfl)) rfl)
theorem lm_Ls_279 : Cond.methodLink "LeftShoes" 279 m_Ls_isRest.1 ∈ lw_g := (pG (inT5 _ (List.mem_of_getElem? (i := 32) rfl)) rfl)
theorem lm_Ls_282 : Cond.methodLink "LeftShoes" 282 m_Ls_mostAgainst.1 ∈ lw_g := (pG (inT5 _ (List.mem_of_getElem? (i := 35) rfl)) rfl)
theorem lm_Ls_285 : Cond.methodLink "LeftShoes" 285 m_Ma_min.1 ∈ lw_g := (pG (inT5 _ (List.mem_of_getElem? (i := 38) rfl)) rfl)
theorem lm_Ls_290 : Cond.methodLink "LeftShoes" 290 m_Ma_max.1 ∈ lw_g := (pG (inT5 _ (List.mem_of_getElem? (i := 39) rfl)) rfl)
theorem lm_Ls_293 : Cond.methodLink "LeftShoes" 293 m_Ls_allHaveClaims.1 ∈ lw_g := (pG (inT5 _ (List.mem_of_getElem? (i := 48) rfl)) rfl)
theorem lm_Ls_296 : Cond.methodLink "LeftShoes" 296 m_Ls_bankShoes.1 ∈ lw_g := (pG (inT5 _ (List.mem_of_getElem? (i := 52) rfl)) rfl)
theorem lm_Ls_300 : Cond.methodLink "LeftShoes" 300 m_Ls_claimed.1 ∈ lw_g := (pG (inT5 _ (List.mem_of_getElem? (i := 56) rfl)) rfl)
theorem lm_Ls_303 : Cond.methodLink "LeftShoes" 303 m_Ls_frightened.1 ∈ lw_g := (pG (inT5 _ (List.mem_of_getElem? (i := 60) rfl)) rfl)
theorem lm_Ls_312 : Cond.methodLink "LeftShoes" 312 m_Tr_add.1 ∈ lw_g := (pG (inT5 _ (List.mem_of_getElem? (i := 72) rfl)) rfl)
theorem lm_Ls_320 : Cond.methodLink "LeftShoes" 320 m_Tr_suspects.1 ∈ lw_g := (pG (inT5 _ (List.mem_of_getElem? (i := 88) rfl)) rfl)
theorem lm_Ls_324 : Cond.methodLink "LeftShoes" 324 m_Tr_mostTelling.1 ∈ lw_g := (pG (inT5 _ (List.mem_of_getElem? (i := 105) rfl)) rfl)
theorem lm_Ls_327 : Cond.methodLink "LeftShoes" 327 m_Tr_fitting.1 ∈ lw_g := (pG (inT5 _ (List.mem_of_getElem? (i := 111) rfl)) rfl)
theorem lm_Ls_335 : Cond.methodLink "LeftShoes" 335 m_Sw_findRing.1 ∈ lw_g := (pG (inT5 _ (List.mem_of_getElem? (i := 116) rfl)) rfl)
theorem lm_Ls_343 : Cond.methodLink "LeftShoes" 343 m_Wo_copyFrom.1 ∈ lw_g := (pG (inT5 _ (List.mem_of_getElem? (i := 132) rfl)) rfl)
theorem lm_Ls_346 : Cond.methodLink "LeftShoes" 346 m_Ls_nextNumber.1 ∈ lw_g := (pG (inT5 _ (List.mem_of_getElem? (i := 137) rfl)) rfl)
theorem lm_Ls_350 : Cond.methodLink "LeftShoes" 350 m_Wo_walkThroughMud.1 ∈ lw_g := (pG (inT5 _ (List.mem_of_getElem? (i := 144) rfl)) rfl)
theorem lm_Ls_356 : Cond.methodLink "LeftShoes" 356 m_Wo_bury.1 ∈ lw_g := (pG (inT5 _ (List.mem_of_getElem? (i := 148) rfl)) rfl)
theorem lm_Ls_365 : Cond.methodLink "LeftShoes" 365 m_Ls_canTry.1 ∈ lw_g := (pG (inT5 _ (List.mem_of_getElem? (i := 153) rfl)) rfl)
theorem lm_Ls_374 : Cond.methodLink "LeftShoes" 374 m_Wo_undress.1 ∈ lw_g := (pG (inT5 _ (List.mem_of_getElem? (i := 158) rfl)) rfl)
theorem lm_Ls_377 : Cond.methodLink "LeftShoes" 377 m_Wo_makeAllLeft.1 ∈ lw_g := (pG (inT5 _ (List.mem_of_getElem? (i := 162) rfl)) rfl)
theorem lm_Ls_380 : Cond.methodLink "LeftShoes" 380 m_Wo_worthOfAll.1 ∈ lw_g := (pG (inT5 _ (List.mem_of_getElem? (i := 166) rfl)) rfl)
theorem lm_Ls_383 : Cond.methodLink "LeftShoes" 383 m_Hi_recall.1 ∈ lw_g := (pG (inT5 _ (List.mem_of_getElem? (i := 174) rfl)) rfl)
theorem lm_Ls_400 : Cond.methodLink "LeftShoes" 400 m_Wo_debtsThatAre.1 ∈ lw_g := (pG (inT5 _ (List.mem_of_getElem? (i := 190) rfl)) rfl)
theorem lm_Ls_403 : Cond.methodLink "LeftShoes" 403 m_Tr_knownBy.1 ∈ lw_g := (pG (inT5 _ (List.mem_of_getElem? (i := 194) rfl)) rfl)
theorem lm_Cp_28 : Cond.methodLink "LeftShoes$Couples" 28 m_Cp_gather.1 ∈ lw_g := (pG (inT4 _ (List.mem_of_getElem? (i := 212) rfl)) rfl)
theorem lm_Cp_39 : Cond.methodLink "LeftShoes$Couples" 39 m_Ma_min.1 ∈ lw_g := (pG (inT4 _ (List.mem_of_getElem? (i := 217) rfl)) rfl)
theorem lm_Cp_45 : Cond.methodLink "LeftShoes$Couples" 45 m_Cp_weight.1 ∈ lw_g := (pG (inT4 _ (List.mem_of_getElem? (i := 218) rfl)) rfl)
theorem lm_Cp_49 : Cond.methodLink "LeftShoes$Couples" 49 m_Cp_bestWith.1 ∈ lw_g := (pG (inT4 _ (List.mem_of_getElem? (i := 223) rfl)) rfl)
theorem lm_Cp_53 : Cond.methodLink "LeftShoes$Couples" 53 m_Cp_tell.1 ∈ lw_g := (pG (inT4 _ (List.mem_of_getElem? (i := 228) rfl)) rfl)
theorem lm_Cp_68 : Cond.methodLink "LeftShoes$Couples" 68 m_Wo_isThere.1 ∈ lw_g := (pG (inT4 _ (List.mem_of_getElem? (i := 216) rfl)) rfl)
theorem lm_Cp_78 : Cond.methodLink "LeftShoes$Couples" 78 m_Wo_pairOf.1 ∈ lw_g := (pG (inT4 _ (List.mem_of_getElem? (i := 222) rfl)) rfl)
theorem lm_Cp_81 : Cond.methodLink "LeftShoes$Couples" 81 m_Ma_maxJ.1 ∈ lw_g := (pG (inT4 _ (List.mem_of_getElem? (i := 227) rfl)) rfl)
theorem lm_Hi_40 : Cond.methodLink "LeftShoes$History" 40 m_Ma_min.1 ∈ lw_g := (pG (inT4 _ (List.mem_of_getElem? (i := 122) rfl)) rfl)
theorem lm_La_42 : Cond.methodLink "LeftShoes$Laws" 42 m_La_isTold.1 ∈ lw_g := (pG (inT4 _ (List.mem_of_getElem? (i := 38) rfl)) rfl)
theorem lm_La_48 : Cond.methodLink "LeftShoes$Laws" 48 m_La_nameAt.1 ∈ lw_g := (pG (inT4 _ (List.mem_of_getElem? (i := 40) rfl)) rfl)
theorem lm_La_52 : Cond.methodLink "LeftShoes$Laws" 52 m_La_join.1 ∈ lw_g := (pG (inT4 _ (List.mem_of_getElem? (i := 44) rfl)) rfl)
theorem lm_Re_31 : Cond.methodLink "LeftShoes$Reader" 31 m_Ma_min.1 ∈ lw_g := (pG (inT3 _ (List.mem_of_getElem? (i := 91) rfl)) rfl)
theorem lm_Re_37 : Cond.methodLink "LeftShoes$Reader" 37 m_Ma_max.1 ∈ lw_g := (pG (inT3 _ (List.mem_of_getElem? (i := 94) rfl)) rfl)
theorem lm_Re_46 : Cond.methodLink "LeftShoes$Reader" 46 m_Re_advance.1 ∈ lw_g := (pG (inT3 _ (List.mem_of_getElem? (i := 97) rfl)) rfl)
theorem lm_Re_58 : Cond.methodLink "LeftShoes$Reader" 58 m_Re_readWord.1 ∈ lw_g := (pG (inT3 _ (List.mem_of_getElem? (i := 101) rfl)) rfl)
theorem lm_Re_61 : Cond.methodLink "LeftShoes$Reader" 61 m_Re_readNumber.1 ∈ lw_g := (pG (inT3 _ (List.mem_of_getElem? (i := 105) rfl)) rfl)
theorem lm_Re_64 : Cond.methodLink "LeftShoes$Reader" 64 m_Re_readSign.1 ∈ lw_g := (pG (inT3 _ (List.mem_of_getElem? (i := 110) rfl)) rfl)
theorem lm_Sc_11 : Cond.methodLink "LeftShoes$Scribe" 11 m_Re_init.1 ∈ lw_g := (pG (inT1 _ (List.mem_of_getElem? (i := 221) rfl)) rfl)
theorem lm_Sc_22 : Cond.methodLink "LeftShoes$Scribe" 22 m_Ta_clear.1 ∈ lw_g := (pG (inT3 _ (List.mem_of_getElem? (i := 75) rfl)) rfl)
theorem lm_Sc_41 : Cond.methodLink "LeftShoes$Scribe" 41 m_Re_begin.1 ∈ lw_g := (pG (inT3 _ (List.mem_of_getElem? (i := 87) rfl)) rfl)
theorem lm_Sc_48 : Cond.methodLink "LeftShoes$Scribe" 48 m_Sc_readLine.1 ∈ lw_g := (pG (inT3 _ (List.mem_of_getElem? (i := 114) rfl)) rfl)
theorem lm_Sc_52 : Cond.methodLink "LeftShoes$Scribe" 52 m_Sc_take.1 ∈ lw_g := (pG (inT3 _ (List.mem_of_getElem? (i := 188) rfl)) rfl)
theorem lm_Sc_59 : Cond.methodLink "LeftShoes$Scribe" 59 m_Sc_refuse.1 ∈ lw_g := (pG (inT3 _ (List.mem_of_getElem? (i := 122) rfl)) rfl)
theorem lm_Sc_62 : Cond.methodLink "LeftShoes$Scribe" 62 m_Re_advance.1 ∈ lw_g := (pG (inT3 _ (List.mem_of_getElem? (i := 126) rfl)) rfl)
theorem lm_Sc_65 : Cond.methodLink "LeftShoes$Scribe" 65 m_Sc_readPerson.1 ∈ lw_g := (pG (inT3 _ (List.mem_of_getElem? (i := 118) rfl)) rfl)
theorem lm_Sc_68 : Cond.methodLink "LeftShoes$Scribe" 68 m_Sc_readShoe.1 ∈ lw_g := (pG (inT3 _ (List.mem_of_getElem? (i := 135) rfl)) rfl)
theorem lm_Sc_71 : Cond.methodLink "LeftShoes$Scribe" 71 m_Sc_readDebt.1 ∈ lw_g := (pG (inT3 _ (List.mem_of_getElem? (i := 151) rfl)) rfl)
theorem lm_Sc_74 : Cond.methodLink "LeftShoes$Scribe" 74 m_Sc_readClaim.1 ∈ lw_g := (pG (inT3 _ (List.mem_of_getElem? (i := 155) rfl)) rfl)
theorem lm_Sc_77 : Cond.methodLink "LeftShoes$Scribe" 77 m_Sc_readSwap.1 ∈ lw_g := (pG (inT3 _ (List.mem_of_getElem? (i := 159) rfl)) rfl)
theorem lm_Sc_80 : Cond.methodLink "LeftShoes$Scribe" 80 m_Sc_readSeed.1 ∈ lw_g := (pG (inT3 _ (List.mem_of_getElem? (i := 163) rfl)) rfl)
theorem lm_Sc_83 : Cond.methodLink "LeftShoes$Scribe" 83 m_Sc_readLaw.1 ∈ lw_g := (pG (inT3 _ (List.mem_of_getElem? (i := 168) rfl)) rfl)
theorem lm_Sc_89 : Cond.methodLink "LeftShoes$Scribe" 89 m_Sc_lookAt.1 ∈ lw_g := (pG (inT3 _ (List.mem_of_getElem? (i := 143) rfl)) rfl)
theorem lm_Sc_93 : Cond.methodLink "LeftShoes$Scribe" 93 m_Ta_personNamed.1 ∈ lw_g := (pG (inT3 _ (List.mem_of_getElem? (i := 127) rfl)) rfl)
theorem lm_Sc_107 : Cond.methodLink "LeftShoes$Scribe" 107 m_Sc_takeNumber.1 ∈ lw_g := (pG (inT3 _ (List.mem_of_getElem? (i := 131) rfl)) rfl)
theorem lm_Sc_122 : Cond.methodLink "LeftShoes$Scribe" 122 m_Sc_takeOneOf.1 ∈ lw_g := (pG (inT3 _ (List.mem_of_getElem? (i := 139) rfl)) rfl)
theorem lm_Sc_136 : Cond.methodLink "LeftShoes$Scribe" 136 m_Sc_lookAtPerson.1 ∈ lw_g := (pG (inT3 _ (List.mem_of_getElem? (i := 147) rfl)) rfl)
theorem lm_Sc_178 : Cond.methodLink "LeftShoes$Scribe" 178 m_La_isTold.1 ∈ lw_g := (pG (inT3 _ (List.mem_of_getElem? (i := 172) rfl)) rfl)
theorem lm_Sc_183 : Cond.methodLink "LeftShoes$Scribe" 183 m_La_open.1 ∈ lw_g := (pG (inT3 _ (List.mem_of_getElem? (i := 176) rfl)) rfl)
theorem lm_Sc_187 : Cond.methodLink "LeftShoes$Scribe" 187 m_Sc_readLevel.1 ∈ lw_g := (pG (inT3 _ (List.mem_of_getElem? (i := 180) rfl)) rfl)
theorem lm_Sc_191 : Cond.methodLink "LeftShoes$Scribe" 191 m_La_close.1 ∈ lw_g := (pG (inT3 _ (List.mem_of_getElem? (i := 207) rfl)) rfl)
theorem lm_Sc_197 : Cond.methodLink "LeftShoes$Scribe" 197 m_Sc_readOperand.1 ∈ lw_g := (pG (inT3 _ (List.mem_of_getElem? (i := 184) rfl)) rfl)
theorem lm_Sc_200 : Cond.methodLink "LeftShoes$Scribe" 200 m_Sc_readNots.1 ∈ lw_g := (pG (inT3 _ (List.mem_of_getElem? (i := 200) rfl)) rfl)
theorem lm_Sc_203 : Cond.methodLink "LeftShoes$Scribe" 203 m_Sc_levelOf.1 ∈ lw_g := (pG (inT3 _ (List.mem_of_getElem? (i := 204) rfl)) rfl)
theorem lm_Sc_206 : Cond.methodLink "LeftShoes$Scribe" 206 m_Sc_takeKnot.1 ∈ lw_g := (pG (inT3 _ (List.mem_of_getElem? (i := 196) rfl)) rfl)
theorem lm_Sc_209 : Cond.methodLink "LeftShoes$Scribe" 209 m_La_put.1 ∈ lw_g := (pG (inT3 _ (List.mem_of_getElem? (i := 192) rfl)) rfl)
theorem lm_St_21 : Cond.methodLink "LeftShoes$Stroll" 21 m_Ta_hasPerson.1 ∈ lw_g := (pG (inT5 _ (List.mem_of_getElem? (i := 4) rfl)) rfl)
theorem lm_St_46 : Cond.methodLink "LeftShoes$Stroll" 46 m_St_usedNow.1 ∈ lw_g := (pG (inT5 _ (List.mem_of_getElem? (i := 5) rfl)) rfl)
theorem lm_St_50 : Cond.methodLink "LeftShoes$Stroll" 50 m_St_worthThen.1 ∈ lw_g := (pG (inT5 _ (List.mem_of_getElem? (i := 10) rfl)) rfl)
theorem lm_St_61 : Cond.methodLink "LeftShoes$Stroll" 61 m_St_goOn.1 ∈ lw_g := (pG (inT5 _ (List.mem_of_getElem? (i := 15) rfl)) rfl)
theorem lm_St_65 : Cond.methodLink "LeftShoes$Stroll" 65 m_Wo_isThere.1 ∈ lw_g := (pG (inT5 _ (List.mem_of_getElem? (i := 9) rfl)) rfl)
theorem lm_St_74 : Cond.methodLink "LeftShoes$Stroll" 74 m_Wo_worthWhen.1 ∈ lw_g := (pG (inT5 _ (List.mem_of_getElem? (i := 14) rfl)) rfl)
theorem lm_St_78 : Cond.methodLink "LeftShoes$Stroll" 78 m_Wo_wearWhen.1 ∈ lw_g := (pG (inT5 _ (List.mem_of_getElem? (i := 23) rfl)) rfl)
theorem lm_St_87 : Cond.methodLink "LeftShoes$Stroll" 87 m_St_usedAfter.1 ∈ lw_g := (pG (inT5 _ (List.mem_of_getElem? (i := 19) rfl)) rfl)
theorem lm_Sw_25 : Cond.methodLink "LeftShoes$Swaps" 25 m_Sw_gains.1 ∈ lw_g := (pG (inT5 _ (List.mem_of_getElem? (i := 120) rfl)) rfl)
theorem lm_Ta_78 : Cond.methodLink "LeftShoes$Tale" 78 m_Sw_clear.1 ∈ lw_g := (pG (inT3 _ (List.mem_of_getElem? (i := 79) rfl)) rfl)
theorem lm_Ta_81 : Cond.methodLink "LeftShoes$Tale" 81 m_La_clear.1 ∈ lw_g := (pG (inT3 _ (List.mem_of_getElem? (i := 83) rfl)) rfl)
theorem lm_Tr_36 : Cond.methodLink "LeftShoes$Tracks" 36 m_Tr_knownBy.1 ∈ lw_g := (pG (inT5 _ (List.mem_of_getElem? (i := 92) rfl)) rfl)
theorem lm_Tr_40 : Cond.methodLink "LeftShoes$Tracks" 40 m_Ma_min.1 ∈ lw_g := (pG (inT5 _ (List.mem_of_getElem? (i := 96) rfl)) rfl)
theorem lm_Tr_46 : Cond.methodLink "LeftShoes$Tracks" 46 m_Tr_fitting.1 ∈ lw_g := (pG (inT5 _ (List.mem_of_getElem? (i := 97) rfl)) rfl)
theorem lm_Tr_53 : Cond.methodLink "LeftShoes$Tracks" 53 m_Ta_hasShoe.1 ∈ lw_g := (pG (inT5 _ (List.mem_of_getElem? (i := 100) rfl)) rfl)
theorem lm_Tr_62 : Cond.methodLink "LeftShoes$Tracks" 62 m_Tr_suspects.1 ∈ lw_g := (pG (inT5 _ (List.mem_of_getElem? (i := 109) rfl)) rfl)
theorem lm_Tr_66 : Cond.methodLink "LeftShoes$Tracks" 66 m_In_bitCount.1 ∈ lw_g := (pG (inT5 _ (List.mem_of_getElem? (i := 110) rfl)) rfl)
theorem lm_Wo_58 : Cond.methodLink "LeftShoes$World" 58 m_Ta_hasShoe.1 ∈ lw_g := (pG (inT4 _ (List.mem_of_getElem? (i := 12) rfl)) rfl)
theorem lm_Wo_62 : Cond.methodLink "LeftShoes$World" 62 m_Wo_isThere.1 ∈ lw_g := (pG (inT4 _ (List.mem_of_getElem? (i := 8) rfl)) rfl)
theorem lm_Wo_65 : Cond.methodLink "LeftShoes$World" 65 m_Ta_hasPerson.1 ∈ lw_g := (pG (inT4 _ (List.mem_of_getElem? (i := 25) rfl)) rfl)
theorem lm_Wo_68 : Cond.methodLink "LeftShoes$World" 68 m_Wo_takeOff.1 ∈ lw_g := (pG (inT4 _ (List.mem_of_getElem? (i := 131) rfl)) rfl)
theorem lm_Wo_72 : Cond.methodLink "LeftShoes$World" 72 m_Wo_move.1 ∈ lw_g := (pG (inT4 _ (List.mem_of_getElem? (i := 127) rfl)) rfl)
theorem lm_Wo_94 : Cond.methodLink "LeftShoes$World" 94 m_La_setShoe.1 ∈ lw_g := (pG (inT4 _ (List.mem_of_getElem? (i := 26) rfl)) rfl)
theorem lm_Wo_106 : Cond.methodLink "LeftShoes$World" 106 m_La_setOwner.1 ∈ lw_g := (pG (inT4 _ (List.mem_of_getElem? (i := 30) rfl)) rfl)
theorem lm_Wo_110 : Cond.methodLink "LeftShoes$World" 110 m_La_valueOf.1 ∈ lw_g := (pG (inT4 _ (List.mem_of_getElem? (i := 34) rfl)) rfl)
theorem lm_Wo_114 : Cond.methodLink "LeftShoes$World" 114 m_Ma_abs.1 ∈ lw_g := (pG (inT4 _ (List.mem_of_getElem? (i := 89) rfl)) rfl)
theorem lm_Wo_120 : Cond.methodLink "LeftShoes$World" 120 m_Ma_minJ.1 ∈ lw_g := (pG (inT4 _ (List.mem_of_getElem? (i := 52) rfl)) rfl)
theorem lm_Wo_124 : Cond.methodLink "LeftShoes$World" 124 m_Ma_maxJ.1 ∈ lw_g := (pG (inT4 _ (List.mem_of_getElem? (i := 55) rfl)) rfl)
theorem lm_Wo_127 : Cond.methodLink "LeftShoes$World" 127 m_Wo_worthWhen.1 ∈ lw_g := (pG (inT4 _ (List.mem_of_getElem? (i := 16) rfl)) rfl)
theorem lm_Wo_131 : Cond.methodLink "LeftShoes$World" 131 m_Wo_lawOf.1 ∈ lw_g := (pG (inT4 _ (List.mem_of_getElem? (i := 20) rfl)) rfl)
theorem lm_Wo_135 : Cond.methodLink "LeftShoes$World" 135 m_Wo_within.1 ∈ lw_g := (pG (inT4 _ (List.mem_of_getElem? (i := 49) rfl)) rfl)
theorem lm_Wo_139 : Cond.methodLink "LeftShoes$World" 139 m_Ma_max.1 ∈ lw_g := (pG (inT4 _ (List.mem_of_getElem? (i := 58) rfl)) rfl)
theorem lm_Wo_142 : Cond.methodLink "LeftShoes$World" 142 m_Wo_lawOfPair.1 ∈ lw_g := (pG (inT4 _ (List.mem_of_getElem? (i := 85) rfl)) rfl)
theorem lm_Wo_146 : Cond.methodLink "LeftShoes$World" 146 m_Wo_worthOf.1 ∈ lw_g := (pG (inT4 _ (List.mem_of_getElem? (i := 4) rfl)) rfl)
theorem lm_Wo_149 : Cond.methodLink "LeftShoes$World" 149 m_Ma_min.1 ∈ lw_g := (pG (inT4 _ (List.mem_of_getElem? (i := 111) rfl)) rfl)
theorem lm_Wo_157 : Cond.methodLink "LeftShoes$World" 157 m_Wo_wearWhen.1 ∈ lw_g := (pG (inT4 _ (List.mem_of_getElem? (i := 165) rfl)) rfl)
theorem lm_Wo_160 : Cond.methodLink "LeftShoes$World" 160 m_Wo_useMore.1 ∈ lw_g := (pG (inT4 _ (List.mem_of_getElem? (i := 169) rfl)) rfl)
theorem lm_Wo_172 : Cond.methodLink "LeftShoes$World" 172 m_Wo_shoesFor.1 ∈ lw_g := (pG (inT4 _ (List.mem_of_getElem? (i := 177) rfl)) rfl)
theorem lm_Wo_178 : Cond.methodLink "LeftShoes$World" 178 m_Wo_handOver.1 ∈ lw_g := (pG (inT4 _ (List.mem_of_getElem? (i := 178) rfl)) rfl)
theorem lm_Wo_181 : Cond.methodLink "LeftShoes$World" 181 m_Wo_bury.1 ∈ lw_g := (pG (inT4 _ (List.mem_of_getElem? (i := 173) rfl)) rfl)
theorem lm_Lw_7 : Cond.methodLink "LeftShoesLaw" 7 m_Ls_shoe.1 ∈ lw_g := (pG (inT5 _ (List.mem_of_getElem? (i := 200) rfl)) rfl)
theorem lm_Lw_17 : Cond.methodLink "LeftShoesLaw" 17 m_Ls_init.1 ∈ lw_g := (pG (inT1 _ (List.mem_of_getElem? (i := 27) rfl)) rfl)
theorem lm_Lw_20 : Cond.methodLink "LeftShoesLaw" 20 m_Mo_init.1 ∈ lw_g := (pG (inT6 _ (List.mem_of_getElem? (i := 49) rfl)) rfl)
theorem lm_Lw_21 : Cond.methodLink "LeftShoesLaw" 21 m_Ls_feed.1 ∈ lw_g := (pG (inT3 _ (List.mem_of_getElem? (i := 59) rfl)) rfl)
theorem lm_Lw_25 : Cond.methodLink "LeftShoesLaw" 25 m_Mo_feed.1 ∈ lw_g := (pG (inT7 _ (List.mem_of_getElem? (i := 112) rfl)) rfl)
theorem lm_Lw_26 : Cond.methodLink "LeftShoesLaw" 26 m_Ls_text.1 ∈ lw_g := (pG (inT3 _ (List.mem_of_getElem? (i := 67) rfl)) rfl)
theorem lm_Lw_30 : Cond.methodLink "LeftShoesLaw" 30 m_Mo_text.1 ∈ lw_g := (pG (inT7 _ (List.mem_of_getElem? (i := 116) rfl)) rfl)
theorem lm_Lw_31 : Cond.methodLink "LeftShoesLaw" 31 m_Ls_fault.1 ∈ lw_g := (pG (inT3 _ (List.mem_of_getElem? (i := 223) rfl)) rfl)
theorem lm_Lw_34 : Cond.methodLink "LeftShoesLaw" 34 m_Mo_fault.1 ∈ lw_g := (pG (inT7 _ (List.mem_of_getElem? (i := 238) rfl)) rfl)
theorem lm_Lw_35 : Cond.methodLink "LeftShoesLaw" 35 m_Ls_named.1 ∈ lw_g := (pG (inT3 _ (List.mem_of_getElem? (i := 227) rfl)) rfl)
theorem lm_Lw_38 : Cond.methodLink "LeftShoesLaw" 38 m_Mo_named.1 ∈ lw_g := (pG (inT8 _ (List.mem_of_getElem? (i := 2) rfl)) rfl)
theorem lm_Lw_44 : Cond.methodLink "LeftShoesLaw" 44 m_Mo_shoe.1 ∈ lw_g := (pG (inT8 _ (List.mem_of_getElem? (i := 6) rfl)) rfl)
theorem lm_Lw_45 : Cond.methodLink "LeftShoesLaw" 45 m_Mo_thrown.1 ∈ lw_g := (pG (inT7 _ (List.mem_of_getElem? (i := 108) rfl)) rfl)
theorem lm_Lw_49 : Cond.methodLink "LeftShoesLaw" 49 m_Ls_person.1 ∈ lw_g := (pG (inT3 _ (List.mem_of_getElem? (i := 232) rfl)) rfl)
theorem lm_Lw_52 : Cond.methodLink "LeftShoesLaw" 52 m_Mo_person.1 ∈ lw_g := (pG (inT8 _ (List.mem_of_getElem? (i := 63) rfl)) rfl)
theorem lm_Lw_53 : Cond.methodLink "LeftShoesLaw" 53 m_Ls_debt.1 ∈ lw_g := (pG (inT4 _ (List.mem_of_getElem? (i := 69) rfl)) rfl)
theorem lm_Lw_56 : Cond.methodLink "LeftShoesLaw" 56 m_Mo_debt.1 ∈ lw_g := (pG (inT8 _ (List.mem_of_getElem? (i := 75) rfl)) rfl)
theorem lm_Lw_57 : Cond.methodLink "LeftShoesLaw" 57 m_Ls_pair.1 ∈ lw_g := (pG (inT4 _ (List.mem_of_getElem? (i := 73) rfl)) rfl)
theorem lm_Lw_60 : Cond.methodLink "LeftShoesLaw" 60 m_Mo_pair.1 ∈ lw_g := (pG (inT8 _ (List.mem_of_getElem? (i := 79) rfl)) rfl)
theorem lm_Lw_61 : Cond.methodLink "LeftShoesLaw" 61 m_Ls_law.1 ∈ lw_g := (pG (inT4 _ (List.mem_of_getElem? (i := 92) rfl)) rfl)
theorem lm_Lw_65 : Cond.methodLink "LeftShoesLaw" 65 m_Mo_law.1 ∈ lw_g := (pG (inT8 _ (List.mem_of_getElem? (i := 99) rfl)) rfl)
theorem lm_Lw_66 : Cond.methodLink "LeftShoesLaw" 66 m_Ls_pay.1 ∈ lw_g := (pG (inT4 _ (List.mem_of_getElem? (i := 100) rfl)) rfl)
theorem lm_Lw_70 : Cond.methodLink "LeftShoesLaw" 70 m_Mo_pay.1 ∈ lw_g := (pG (inT8 _ (List.mem_of_getElem? (i := 104) rfl)) rfl)
theorem lm_Lw_71 : Cond.methodLink "LeftShoesLaw" 71 m_Ls_give.1 ∈ lw_g := (pG (inT4 _ (List.mem_of_getElem? (i := 135) rfl)) rfl)
theorem lm_Lw_75 : Cond.methodLink "LeftShoesLaw" 75 m_Mo_give.1 ∈ lw_g := (pG (inT8 _ (List.mem_of_getElem? (i := 143) rfl)) rfl)
theorem lm_Lw_76 : Cond.methodLink "LeftShoesLaw" 76 m_Ls_on.1 ∈ lw_g := (pG (inT4 _ (List.mem_of_getElem? (i := 140) rfl)) rfl)
theorem lm_Lw_80 : Cond.methodLink "LeftShoesLaw" 80 m_Mo_on.1 ∈ lw_g := (pG (inT8 _ (List.mem_of_getElem? (i := 147) rfl)) rfl)
theorem lm_Lw_81 : Cond.methodLink "LeftShoesLaw" 81 m_Ls_off.1 ∈ lw_g := (pG (inT4 _ (List.mem_of_getElem? (i := 152) rfl)) rfl)
theorem lm_Lw_84 : Cond.methodLink "LeftShoesLaw" 84 m_Mo_off.1 ∈ lw_g := (pG (inT8 _ (List.mem_of_getElem? (i := 151) rfl)) rfl)
theorem lm_Lw_85 : Cond.methodLink "LeftShoesLaw" 85 m_Ls_days.1 ∈ lw_g := (pG (inT4 _ (List.mem_of_getElem? (i := 157) rfl)) rfl)
theorem lm_Lw_88 : Cond.methodLink "LeftShoesLaw" 88 m_Mo_days.1 ∈ lw_g := (pG (inT8 _ (List.mem_of_getElem? (i := 155) rfl)) rfl)
theorem lm_Lw_89 : Cond.methodLink "LeftShoesLaw" 89 m_Ls_refused.1 ∈ lw_g := (pG (inT4 _ (List.mem_of_getElem? (i := 179) rfl)) rfl)
theorem lm_Lw_92 : Cond.methodLink "LeftShoesLaw" 92 m_Mo_refused.1 ∈ lw_g := (pG (inT8 _ (List.mem_of_getElem? (i := 171) rfl)) rfl)
theorem lm_Lw_93 : Cond.methodLink "LeftShoesLaw" 93 m_Ls_change.1 ∈ lw_g := (pG (inT4 _ (List.mem_of_getElem? (i := 183) rfl)) rfl)
theorem lm_Lw_96 : Cond.methodLink "LeftShoesLaw" 96 m_Mo_change.1 ∈ lw_g := (pG (inT8 _ (List.mem_of_getElem? (i := 139) rfl)) rfl)
theorem lm_Lw_97 : Cond.methodLink "LeftShoesLaw" 97 m_Ls_mint.1 ∈ lw_g := (pG (inT4 _ (List.mem_of_getElem? (i := 187) rfl)) rfl)
theorem lm_Lw_100 : Cond.methodLink "LeftShoesLaw" 100 m_Mo_mint.1 ∈ lw_g := (pG (inT8 _ (List.mem_of_getElem? (i := 175) rfl)) rfl)
theorem lm_Lw_101 : Cond.methodLink "LeftShoesLaw" 101 m_Ls_pairs.1 ∈ lw_g := (pG (inT4 _ (List.mem_of_getElem? (i := 204) rfl)) rfl)
theorem lm_Lw_104 : Cond.methodLink "LeftShoesLaw" 104 m_Mo_pairs.1 ∈ lw_g := (pG (inT8 _ (List.mem_of_getElem? (i := 186) rfl)) rfl)
theorem lm_Lw_105 : Cond.methodLink "LeftShoesLaw" 105 m_Ls_partner.1 ∈ lw_g := (pG (inT4 _ (List.mem_of_getElem? (i := 232) rfl)) rfl)
theorem lm_Lw_108 : Cond.methodLink "LeftShoesLaw" 108 m_Mo_partner.1 ∈ lw_g := (pG (inT8 _ (List.mem_of_getElem? (i := 198) rfl)) rfl)
theorem lm_Lw_109 : Cond.methodLink "LeftShoesLaw" 109 m_Ls_walk.1 ∈ lw_g := (pG (inT4 _ (List.mem_of_getElem? (i := 236) rfl)) rfl)
theorem lm_Lw_112 : Cond.methodLink "LeftShoesLaw" 112 m_Mo_walk.1 ∈ lw_g := (pG (inT8 _ (List.mem_of_getElem? (i := 202) rfl)) rfl)
theorem lm_Lw_113 : Cond.methodLink "LeftShoesLaw" 113 m_Ls_rests.1 ∈ lw_g := (pG (inT5 _ (List.mem_of_getElem? (i := 24) rfl)) rfl)
theorem lm_Lw_116 : Cond.methodLink "LeftShoesLaw" 116 m_Mo_rests.1 ∈ lw_g := (pG (inT8 _ (List.mem_of_getElem? (i := 214) rfl)) rfl)
theorem lm_Lw_117 : Cond.methodLink "LeftShoesLaw" 117 m_Ls_rest.1 ∈ lw_g := (pG (inT5 _ (List.mem_of_getElem? (i := 40) rfl)) rfl)
theorem lm_Lw_120 : Cond.methodLink "LeftShoesLaw" 120 m_Mo_rest.1 ∈ lw_g := (pG (inT8 _ (List.mem_of_getElem? (i := 232) rfl)) rfl)
theorem lm_Lw_121 : Cond.methodLink "LeftShoesLaw" 121 m_Ls_run.1 ∈ lw_g := (pG (inT5 _ (List.mem_of_getElem? (i := 44) rfl)) rfl)
theorem lm_Lw_124 : Cond.methodLink "LeftShoesLaw" 124 m_Mo_run.1 ∈ lw_g := (pG (inT8 _ (List.mem_of_getElem? (i := 236) rfl)) rfl)
theorem lm_Lw_125 : Cond.methodLink "LeftShoesLaw" 125 m_Ls_save.1 ∈ lw_g := (pG (inT5 _ (List.mem_of_getElem? (i := 64) rfl)) rfl)
theorem lm_Lw_128 : Cond.methodLink "LeftShoesLaw" 128 m_Mo_save.1 ∈ lw_g := (pG (inT9 _ (List.mem_of_getElem? (i := 8) rfl)) rfl)
theorem lm_Lw_129 : Cond.methodLink "LeftShoesLaw" 129 m_Ls_track.1 ∈ lw_g := (pG (inT5 _ (List.mem_of_getElem? (i := 68) rfl)) rfl)
theorem lm_Lw_132 : Cond.methodLink "LeftShoesLaw" 132 m_Mo_track.1 ∈ lw_g := (pG (inT9 _ (List.mem_of_getElem? (i := 12) rfl)) rfl)
theorem lm_Lw_133 : Cond.methodLink "LeftShoesLaw" 133 m_Ls_strike.1 ∈ lw_g := (pG (inT5 _ (List.mem_of_getElem? (i := 76) rfl)) rfl)
theorem lm_Lw_136 : Cond.methodLink "LeftShoesLaw" 136 m_Mo_strike.1 ∈ lw_g := (pG (inT9 _ (List.mem_of_getElem? (i := 20) rfl)) rfl)
theorem lm_Lw_137 : Cond.methodLink "LeftShoesLaw" 137 m_Ls_known.1 ∈ lw_g := (pG (inT5 _ (List.mem_of_getElem? (i := 80) rfl)) rfl)
theorem lm_Lw_140 : Cond.methodLink "LeftShoesLaw" 140 m_Mo_known.1 ∈ lw_g := (pG (inT9 _ (List.mem_of_getElem? (i := 24) rfl)) rfl)
theorem lm_Lw_141 : Cond.methodLink "LeftShoesLaw" 141 m_Ls_who.1 ∈ lw_g := (pG (inT5 _ (List.mem_of_getElem? (i := 84) rfl)) rfl)
theorem lm_Lw_144 : Cond.methodLink "LeftShoesLaw" 144 m_Mo_who.1 ∈ lw_g := (pG (inT9 _ (List.mem_of_getElem? (i := 28) rfl)) rfl)
theorem lm_Lw_145 : Cond.methodLink "LeftShoesLaw" 145 m_Ls_tells.1 ∈ lw_g := (pG (inT5 _ (List.mem_of_getElem? (i := 101) rfl)) rfl)
theorem lm_Lw_148 : Cond.methodLink "LeftShoesLaw" 148 m_Mo_tells.1 ∈ lw_g := (pG (inT9 _ (List.mem_of_getElem? (i := 44) rfl)) rfl)
theorem lm_Lw_149 : Cond.methodLink "LeftShoesLaw" 149 m_Ls_ring.1 ∈ lw_g := (pG (inT5 _ (List.mem_of_getElem? (i := 112) rfl)) rfl)
theorem lm_Lw_152 : Cond.methodLink "LeftShoesLaw" 152 m_Mo_ring.1 ∈ lw_g := (pG (inT9 _ (List.mem_of_getElem? (i := 48) rfl)) rfl)
theorem lm_Lw_153 : Cond.methodLink "LeftShoesLaw" 153 m_Ls_good.1 ∈ lw_g := (pG (inT5 _ (List.mem_of_getElem? (i := 124) rfl)) rfl)
theorem lm_Lw_156 : Cond.methodLink "LeftShoesLaw" 156 m_Mo_good.1 ∈ lw_g := (pG (inT9 _ (List.mem_of_getElem? (i := 67) rfl)) rfl)
theorem lm_Lw_157 : Cond.methodLink "LeftShoesLaw" 157 m_Ls_chance.1 ∈ lw_g := (pG (inT5 _ (List.mem_of_getElem? (i := 128) rfl)) rfl)
theorem lm_Lw_161 : Cond.methodLink "LeftShoesLaw" 161 m_Mo_chance.1 ∈ lw_g := (pG (inT9 _ (List.mem_of_getElem? (i := 71) rfl)) rfl)
theorem lm_Lw_162 : Cond.methodLink "LeftShoesLaw" 162 m_Ls_tried.1 ∈ lw_g := (pG (inT5 _ (List.mem_of_getElem? (i := 149) rfl)) rfl)
theorem lm_Lw_165 : Cond.methodLink "LeftShoesLaw" 165 m_Mo_tried.1 ∈ lw_g := (pG (inT9 _ (List.mem_of_getElem? (i := 91) rfl)) rfl)
theorem lm_Lw_166 : Cond.methodLink "LeftShoesLaw" 166 m_Ls_undo.1 ∈ lw_g := (pG (inT5 _ (List.mem_of_getElem? (i := 170) rfl)) rfl)
theorem lm_Lw_169 : Cond.methodLink "LeftShoesLaw" 169 m_Mo_undo.1 ∈ lw_g := (pG (inT9 _ (List.mem_of_getElem? (i := 99) rfl)) rfl)
theorem lm_Lw_170 : Cond.methodLink "LeftShoesLaw" 170 m_Ls_keep.1 ∈ lw_g := (pG (inT5 _ (List.mem_of_getElem? (i := 178) rfl)) rfl)
theorem lm_Lw_173 : Cond.methodLink "LeftShoesLaw" 173 m_Mo_keep.1 ∈ lw_g := (pG (inT9 _ (List.mem_of_getElem? (i := 107) rfl)) rfl)
theorem lm_Lw_174 : Cond.methodLink "LeftShoesLaw" 174 m_Ls_back.1 ∈ lw_g := (pG (inT5 _ (List.mem_of_getElem? (i := 182) rfl)) rfl)
theorem lm_Lw_177 : Cond.methodLink "LeftShoesLaw" 177 m_Mo_back.1 ∈ lw_g := (pG (inT9 _ (List.mem_of_getElem? (i := 111) rfl)) rfl)
theorem lm_Lw_178 : Cond.methodLink "LeftShoesLaw" 178 m_Ls_count.1 ∈ lw_g := (pG (inT5 _ (List.mem_of_getElem? (i := 186) rfl)) rfl)
theorem lm_Lw_181 : Cond.methodLink "LeftShoesLaw" 181 m_Mo_count.1 ∈ lw_g := (pG (inT9 _ (List.mem_of_getElem? (i := 115) rfl)) rfl)
theorem lm_Mo_169 : Cond.methodLink "LeftShoesModel" 169 m_Mo_plain.1 ∈ lw_g := (pG (inT6 _ (List.mem_of_getElem? (i := 53) rfl)) rfl)
theorem lm_Mo_172 : Cond.methodLink "LeftShoesModel" 172 m_Mo_keepText.1 ∈ lw_g := (pG (inT6 _ (List.mem_of_getElem? (i := 57) rfl)) rfl)
theorem lm_Mo_196 : Cond.methodLink "LeftShoesModel" 196 m_Mo_isSmall.1 ∈ lw_g := (pG (inT7 _ (List.mem_of_getElem? (i := 124) rfl)) rfl)
theorem lm_Mo_200 : Cond.methodLink "LeftShoesModel" 200 m_Mo_wordAt.1 ∈ lw_g := (pG (inT7 _ (List.mem_of_getElem? (i := 128) rfl)) rfl)
theorem lm_Mo_207 : Cond.methodLink "LeftShoesModel" 207 m_Mo_packed.1 ∈ lw_g := (pG (inT7 _ (List.mem_of_getElem? (i := 132) rfl)) rfl)
theorem lm_Mo_210 : Cond.methodLink "LeftShoesModel" 210 m_Mo_isDigit.1 ∈ lw_g := (pG (inT7 _ (List.mem_of_getElem? (i := 136) rfl)) rfl)
theorem lm_Mo_214 : Cond.methodLink "LeftShoesModel" 214 m_Mo_signToken.1 ∈ lw_g := (pG (inT7 _ (List.mem_of_getElem? (i := 141) rfl)) rfl)
theorem lm_Mo_217 : Cond.methodLink "LeftShoesModel" 217 m_Mo_wrong.1 ∈ lw_g := (pG (inT7 _ (List.mem_of_getElem? (i := 149) rfl)) rfl)
theorem lm_Mo_220 : Cond.methodLink "LeftShoesModel" 220 m_Mo_isIn.1 ∈ lw_g := (pG (inT7 _ (List.mem_of_getElem? (i := 164) rfl)) rfl)
theorem lm_Mo_227 : Cond.methodLink "LeftShoesModel" 227 m_Mo_token.1 ∈ lw_g := (pG (inT7 _ (List.mem_of_getElem? (i := 120) rfl)) rfl)
theorem lm_Mo_230 : Cond.methodLink "LeftShoesModel" 230 m_Mo_isSign.1 ∈ lw_g := (pG (inT7 _ (List.mem_of_getElem? (i := 199) rfl)) rfl)
theorem lm_Mo_233 : Cond.methodLink "LeftShoesModel" 233 m_Mo_number.1 ∈ lw_g := (pG (inT7 _ (List.mem_of_getElem? (i := 160) rfl)) rfl)
theorem lm_Mo_274 : Cond.methodLink "LeftShoesModel" 274 m_Mo_copies.1 ∈ lw_g := (pG (inT6 _ (List.mem_of_getElem? (i := 61) rfl)) rfl)
theorem lm_Mo_278 : Cond.methodLink "LeftShoesModel" 278 m_Mo_begin.1 ∈ lw_g := (pG (inT6 _ (List.mem_of_getElem? (i := 64) rfl)) rfl)
theorem lm_Mo_281 : Cond.methodLink "LeftShoesModel" 281 m_Mo_find.1 ∈ lw_g := (pG (inT7 _ (List.mem_of_getElem? (i := 157) rfl)) rfl)
theorem lm_Mo_285 : Cond.methodLink "LeftShoesModel" 285 m_Mo_pick.1 ∈ lw_g := (pG (inT7 _ (List.mem_of_getElem? (i := 171) rfl)) rfl)
theorem lm_Mo_288 : Cond.methodLink "LeftShoesModel" 288 m_Mo_isKey.1 ∈ lw_g := (pG (inT7 _ (List.mem_of_getElem? (i := 175) rfl)) rfl)
theorem lm_Mo_291 : Cond.methodLink "LeftShoesModel" 291 m_Mo_personRead.1 ∈ lw_g := (pG (inT7 _ (List.mem_of_getElem? (i := 179) rfl)) rfl)
theorem lm_Mo_295 : Cond.methodLink "LeftShoesModel" 295 m_Mo_personLine.1 ∈ lw_g := (pG (inT7 _ (List.mem_of_getElem? (i := 153) rfl)) rfl)
theorem lm_Mo_298 : Cond.methodLink "LeftShoesModel" 298 m_Mo_shoeLine.1 ∈ lw_g := (pG (inT7 _ (List.mem_of_getElem? (i := 167) rfl)) rfl)
theorem lm_Mo_301 : Cond.methodLink "LeftShoesModel" 301 m_Mo_debtLine.1 ∈ lw_g := (pG (inT7 _ (List.mem_of_getElem? (i := 183) rfl)) rfl)
theorem lm_Mo_304 : Cond.methodLink "LeftShoesModel" 304 m_Mo_claimLine.1 ∈ lw_g := (pG (inT7 _ (List.mem_of_getElem? (i := 187) rfl)) rfl)
theorem lm_Mo_307 : Cond.methodLink "LeftShoesModel" 307 m_Mo_swapLine.1 ∈ lw_g := (pG (inT7 _ (List.mem_of_getElem? (i := 191) rfl)) rfl)
theorem lm_Mo_310 : Cond.methodLink "LeftShoesModel" 310 m_Mo_sumRead.1 ∈ lw_g := (pG (inT7 _ (List.mem_of_getElem? (i := 195) rfl)) rfl)
theorem lm_Mo_313 : Cond.methodLink "LeftShoesModel" 313 m_Mo_lineRead.1 ∈ lw_g := (pG (inT7 _ (List.mem_of_getElem? (i := 145) rfl)) rfl)
theorem lm_Mo_322 : Cond.methodLink "LeftShoesModel" 322 m_Mo_rank.1 ∈ lw_g := (pG (inT7 _ (List.mem_of_getElem? (i := 231) rfl)) rfl)
theorem lm_Mo_326 : Cond.methodLink "LeftShoesModel" 326 m_Mo_dropHeld.1 ∈ lw_g := (pG (inT7 _ (List.mem_of_getElem? (i := 234) rfl)) rfl)
theorem lm_Mo_330 : Cond.methodLink "LeftShoesModel" 330 m_Mo_grown.1 ∈ lw_g := (pG (inT7 _ (List.mem_of_getElem? (i := 219) rfl)) rfl)
theorem lm_Mo_337 : Cond.methodLink "LeftShoesModel" 337 m_Mo_waitsFor.1 ∈ lw_g := (pG (inT7 _ (List.mem_of_getElem? (i := 207) rfl)) rfl)
theorem lm_Mo_344 : Cond.methodLink "LeftShoesModel" 344 m_Mo_isCounted.1 ∈ lw_g := (pG (inT7 _ (List.mem_of_getElem? (i := 211) rfl)) rfl)
theorem lm_Mo_347 : Cond.methodLink "LeftShoesModel" 347 m_Mo_nameMet.1 ∈ lw_g := (pG (inT7 _ (List.mem_of_getElem? (i := 215) rfl)) rfl)
theorem lm_Mo_353 : Cond.methodLink "LeftShoesModel" 353 m_Mo_bind.1 ∈ lw_g := (pG (inT7 _ (List.mem_of_getElem? (i := 227) rfl)) rfl)
theorem lm_Mo_356 : Cond.methodLink "LeftShoesModel" 356 m_Mo_leafRead.1 ∈ lw_g := (pG (inT7 _ (List.mem_of_getElem? (i := 203) rfl)) rfl)
theorem lm_Mo_359 : Cond.methodLink "LeftShoesModel" 359 m_Mo_signs.1 ∈ lw_g := (pG (inT7 _ (List.mem_of_getElem? (i := 223) rfl)) rfl)
theorem lm_Mo_369 : Cond.methodLink "LeftShoesModel" 369 m_Mo_bounded.1 ∈ lw_g := (pG (inT8 _ (List.mem_of_getElem? (i := 46) rfl)) rfl)
theorem lm_Mo_373 : Cond.methodLink "LeftShoesModel" 373 m_Mo_times.1 ∈ lw_g := (pG (inT8 _ (List.mem_of_getElem? (i := 52) rfl)) rfl)
theorem lm_Mo_377 : Cond.methodLink "LeftShoesModel" 377 m_Mo_compares.1 ∈ lw_g := (pG (inT8 _ (List.mem_of_getElem? (i := 56) rfl)) rfl)
theorem lm_Mo_399 : Cond.methodLink "LeftShoesModel" 399 m_Mo_isShoe.1 ∈ lw_g := (pG (inT8 _ (List.mem_of_getElem? (i := 10) rfl)) rfl)
theorem lm_Mo_402 : Cond.methodLink "LeftShoesModel" 402 m_Mo_sideNow.1 ∈ lw_g := (pG (inT8 _ (List.mem_of_getElem? (i := 26) rfl)) rfl)
theorem lm_Mo_405 : Cond.methodLink "LeftShoesModel" 405 m_Mo_valueOf.1 ∈ lw_g := (pG (inT8 _ (List.mem_of_getElem? (i := 42) rfl)) rfl)
theorem lm_Mo_409 : Cond.methodLink "LeftShoesModel" 409 m_Mo_lawOf.1 ∈ lw_g := (pG (inT8 _ (List.mem_of_getElem? (i := 38) rfl)) rfl)
theorem lm_Mo_412 : Cond.methodLink "LeftShoesModel" 412 m_Mo_layNames.1 ∈ lw_g := (pG (inT8 _ (List.mem_of_getElem? (i := 30) rfl)) rfl)
theorem lm_Mo_416 : Cond.methodLink "LeftShoesModel" 416 m_Mo_boundLaw.1 ∈ lw_g := (pG (inT8 _ (List.mem_of_getElem? (i := 34) rfl)) rfl)
theorem lm_Mo_420 : Cond.methodLink "LeftShoesModel" 420 m_Mo_worthBy.1 ∈ lw_g := (pG (inT8 _ (List.mem_of_getElem? (i := 22) rfl)) rfl)
theorem lm_Mo_424 : Cond.methodLink "LeftShoesModel" 424 m_Mo_layPair.1 ∈ lw_g := (pG (inT8 _ (List.mem_of_getElem? (i := 95) rfl)) rfl)
theorem lm_Mo_428 : Cond.methodLink "LeftShoesModel" 428 m_Mo_takeOff.1 ∈ lw_g := (pG (inT8 _ (List.mem_of_getElem? (i := 135) rfl)) rfl)
theorem lm_Mo_431 : Cond.methodLink "LeftShoesModel" 431 m_Mo_fails.1 ∈ lw_g := (pG (inT8 _ (List.mem_of_getElem? (i := 14) rfl)) rfl)
theorem lm_Mo_434 : Cond.methodLink "LeftShoesModel" 434 m_Mo_worthOf.1 ∈ lw_g := (pG (inT8 _ (List.mem_of_getElem? (i := 18) rfl)) rfl)
theorem lm_Mo_437 : Cond.methodLink "LeftShoesModel" 437 m_Mo_isWorn.1 ∈ lw_g := (pG (inT8 _ (List.mem_of_getElem? (i := 59) rfl)) rfl)
theorem lm_Mo_440 : Cond.methodLink "LeftShoesModel" 440 m_Mo_isPerson.1 ∈ lw_g := (pG (inT8 _ (List.mem_of_getElem? (i := 67) rfl)) rfl)
theorem lm_Mo_443 : Cond.methodLink "LeftShoesModel" 443 m_Mo_ofOne.1 ∈ lw_g := (pG (inT8 _ (List.mem_of_getElem? (i := 71) rfl)) rfl)
theorem lm_Mo_446 : Cond.methodLink "LeftShoesModel" 446 m_Mo_isThere.1 ∈ lw_g := (pG (inT8 _ (List.mem_of_getElem? (i := 87) rfl)) rfl)
theorem lm_Mo_449 : Cond.methodLink "LeftShoesModel" 449 m_Mo_arePair.1 ∈ lw_g := (pG (inT8 _ (List.mem_of_getElem? (i := 83) rfl)) rfl)
theorem lm_Mo_452 : Cond.methodLink "LeftShoesModel" 452 m_Mo_pairOf.1 ∈ lw_g := (pG (inT8 _ (List.mem_of_getElem? (i := 91) rfl)) rfl)
theorem lm_Mo_457 : Cond.methodLink "LeftShoesModel" 457 m_Mo_isOf.1 ∈ lw_g := (pG (inT8 _ (List.mem_of_getElem? (i := 116) rfl)) rfl)
theorem lm_Mo_460 : Cond.methodLink "LeftShoesModel" 460 m_Mo_layHalf.1 ∈ lw_g := (pG (inT8 _ (List.mem_of_getElem? (i := 112) rfl)) rfl)
theorem lm_Mo_463 : Cond.methodLink "LeftShoesModel" 463 m_Mo_changeOf.1 ∈ lw_g := (pG (inT8 _ (List.mem_of_getElem? (i := 108) rfl)) rfl)
theorem lm_Mo_466 : Cond.methodLink "LeftShoesModel" 466 m_Mo_goes.1 ∈ lw_g := (pG (inT8 _ (List.mem_of_getElem? (i := 131) rfl)) rfl)
theorem lm_Mo_469 : Cond.methodLink "LeftShoesModel" 469 m_Mo_remember.1 ∈ lw_g := (pG (inT8 _ (List.mem_of_getElem? (i := 119) rfl)) rfl)
theorem lm_Mo_472 : Cond.methodLink "LeftShoesModel" 472 m_Mo_pays.1 ∈ lw_g := (pG (inT8 _ (List.mem_of_getElem? (i := 127) rfl)) rfl)
theorem lm_Mo_475 : Cond.methodLink "LeftShoesModel" 475 m_Mo_wearBy.1 ∈ lw_g := (pG (inT8 _ (List.mem_of_getElem? (i := 163) rfl)) rfl)
theorem lm_Mo_478 : Cond.methodLink "LeftShoesModel" 478 m_Mo_wears.1 ∈ lw_g := (pG (inT8 _ (List.mem_of_getElem? (i := 167) rfl)) rfl)
theorem lm_Mo_481 : Cond.methodLink "LeftShoesModel" 481 m_Mo_aDay.1 ∈ lw_g := (pG (inT8 _ (List.mem_of_getElem? (i := 159) rfl)) rfl)
theorem lm_Mo_484 : Cond.methodLink "LeftShoesModel" 484 m_Mo_manyOf.1 ∈ lw_g := (pG (inT8 _ (List.mem_of_getElem? (i := 179) rfl)) rfl)
theorem lm_Mo_487 : Cond.methodLink "LeftShoesModel" 487 m_Mo_isMinted.1 ∈ lw_g := (pG (inT8 _ (List.mem_of_getElem? (i := 182) rfl)) rfl)
theorem lm_Mo_496 : Cond.methodLink "LeftShoesModel" 496 m_Mo_mostBy.1 ∈ lw_g := (pG (inT8 _ (List.mem_of_getElem? (i := 194) rfl)) rfl)
theorem lm_Mo_502 : Cond.methodLink "LeftShoesModel" 502 m_Mo_layPairs.1 ∈ lw_g := (pG (inT8 _ (List.mem_of_getElem? (i := 190) rfl)) rfl)
theorem lm_Mo_505 : Cond.methodLink "LeftShoesModel" 505 m_Mo_worthBehind.1 ∈ lw_g := (pG (inT8 _ (List.mem_of_getElem? (i := 210) rfl)) rfl)
theorem lm_Mo_514 : Cond.methodLink "LeftShoesModel" 514 m_Mo_layWalk.1 ∈ lw_g := (pG (inT8 _ (List.mem_of_getElem? (i := 206) rfl)) rfl)
theorem lm_Mo_517 : Cond.methodLink "LeftShoesModel" 517 m_Mo_hasOf.1 ∈ lw_g := (pG (inT8 _ (List.mem_of_getElem? (i := 229) rfl)) rfl)
theorem lm_Mo_520 : Cond.methodLink "LeftShoesModel" 520 m_Mo_isRest.1 ∈ lw_g := (pG (inT8 _ (List.mem_of_getElem? (i := 226) rfl)) rfl)
theorem lm_Mo_523 : Cond.methodLink "LeftShoesModel" 523 m_Mo_areHalves.1 ∈ lw_g := (pG (inT8 _ (List.mem_of_getElem? (i := 218) rfl)) rfl)
theorem lm_Mo_526 : Cond.methodLink "LeftShoesModel" 526 m_Mo_restAt.1 ∈ lw_g := (pG (inT8 _ (List.mem_of_getElem? (i := 222) rfl)) rfl)
theorem lm_Mo_529 : Cond.methodLink "LeftShoesModel" 529 m_Mo_areClaims.1 ∈ lw_g := (pG (inT9 _ (List.mem_of_getElem? (i := 0) rfl)) rfl)
theorem lm_Mo_532 : Cond.methodLink "LeftShoesModel" 532 m_Mo_runOf.1 ∈ lw_g := (pG (inT9 _ (List.mem_of_getElem? (i := 4) rfl)) rfl)
theorem lm_Mo_535 : Cond.methodLink "LeftShoesModel" 535 m_Mo_tracked.1 ∈ lw_g := (pG (inT9 _ (List.mem_of_getElem? (i := 16) rfl)) rfl)
theorem lm_Mo_538 : Cond.methodLink "LeftShoesModel" 538 m_Mo_knownBy.1 ∈ lw_g := (pG (inT9 _ (List.mem_of_getElem? (i := 36) rfl)) rfl)
theorem lm_Mo_541 : Cond.methodLink "LeftShoesModel" 541 m_Mo_isTrackOf.1 ∈ lw_g := (pG (inT9 _ (List.mem_of_getElem? (i := 40) rfl)) rfl)
theorem lm_Mo_544 : Cond.methodLink "LeftShoesModel" 544 m_Mo_whoBits.1 ∈ lw_g := (pG (inT9 _ (List.mem_of_getElem? (i := 32) rfl)) rfl)
theorem lm_Mo_547 : Cond.methodLink "LeftShoesModel" 547 m_Mo_rateOf.1 ∈ lw_g := (pG (inT9 _ (List.mem_of_getElem? (i := 63) rfl)) rfl)
theorem lm_Mo_553 : Cond.methodLink "LeftShoesModel" 553 m_Mo_powerOf.1 ∈ lw_g := (pG (inT9 _ (List.mem_of_getElem? (i := 56) rfl)) rfl)
theorem lm_Mo_556 : Cond.methodLink "LeftShoesModel" 556 m_Mo_isRing.1 ∈ lw_g := (pG (inT9 _ (List.mem_of_getElem? (i := 59) rfl)) rfl)
theorem lm_Mo_559 : Cond.methodLink "LeftShoesModel" 559 m_Mo_layRing.1 ∈ lw_g := (pG (inT9 _ (List.mem_of_getElem? (i := 52) rfl)) rfl)
theorem lm_Mo_574 : Cond.methodLink "LeftShoesModel" 574 m_Mo_number1.1 ∈ lw_g := (pG (inT9 _ (List.mem_of_getElem? (i := 83) rfl)) rfl)
theorem lm_Mo_577 : Cond.methodLink "LeftShoesModel" 577 m_Mo_layTried.1 ∈ lw_g := (pG (inT9 _ (List.mem_of_getElem? (i := 75) rfl)) rfl)
theorem lm_Mo_580 : Cond.methodLink "LeftShoesModel" 580 m_Mo_chances.1 ∈ lw_g := (pG (inT9 _ (List.mem_of_getElem? (i := 79) rfl)) rfl)
theorem lm_Mo_583 : Cond.methodLink "LeftShoesModel" 583 m_Mo_allWorth.1 ∈ lw_g := (pG (inT9 _ (List.mem_of_getElem? (i := 95) rfl)) rfl)
theorem lm_Mo_586 : Cond.methodLink "LeftShoesModel" 586 m_Mo_put.1 ∈ lw_g := (pG (inT8 _ (List.mem_of_getElem? (i := 123) rfl)) rfl)
theorem lm_Mo_589 : Cond.methodLink "LeftShoesModel" 589 m_Mo_take.1 ∈ lw_g := (pG (inT9 _ (List.mem_of_getElem? (i := 103) rfl)) rfl)
theorem lm_Mo_595 : Cond.methodLink "LeftShoesModel" 595 m_Mo_manyDebts.1 ∈ lw_g := (pG (inT9 _ (List.mem_of_getElem? (i := 119) rfl)) rfl)
theorem lc_Ls_349 : Cond.constant "LeftShoes" 349 (65536) ∈ lw_g := (pG (inT5 _ (List.mem_of_getElem? (i := 143) rfl)) rfl)
theorem lc_Re_68 : Cond.constant "LeftShoes$Reader" 68 (1000000) ∈ lw_g := (pG (inT3 _ (List.mem_of_getElem? (i := 109) rfl)) rfl)
theorem lc_Sc_173 : Cond.constant "LeftShoes$Scribe" 173 (99999) ∈ lw_g := (pG (inT3 _ (List.mem_of_getElem? (i := 167) rfl)) rfl)
theorem lc_Wo_151 : Cond.constant "LeftShoes$World" 151 (2147483647) ∈ lw_g := (pG (inT4 _ (List.mem_of_getElem? (i := 112) rfl)) rfl)
theorem lc_Wo_152 : Cond.constant "LeftShoes$World" 152 (65536) ∈ lw_g := (pG (inT4 _ (List.mem_of_getElem? (i := 113) rfl)) rfl)
theorem lc_Wo_153 : Cond.constant "LeftShoes$World" 153 (65535) ∈ lw_g := (pG (inT4 _ (List.mem_of_getElem? (i := 114) rfl)) rfl)
theorem lc_Mo_213 : Cond.constant "LeftShoesModel" 213 (99999) ∈ lw_g := (pG (inT7 _ (List.mem_of_getElem? (i := 140) rfl)) rfl)
theorem lc_In_265 : Cond.constant "java/lang/Integer" 265 (1431655765) ∈ lw_g := (pG (inT4 _ (List.mem_of_getElem? (i := 66) rfl)) rfl)
theorem lc_In_266 : Cond.constant "java/lang/Integer" 266 (858993459) ∈ lw_g := (pG (inT4 _ (List.mem_of_getElem? (i := 67) rfl)) rfl)
theorem lc_In_267 : Cond.constant "java/lang/Integer" 267 (252645135) ∈ lw_g := (pG (inT4 _ (List.mem_of_getElem? (i := 68) rfl)) rfl)
theorem lc_Ls_209 : Cond.constantLong "LeftShoes" 209 (-9223372036854775808) ∈ lw_g := (pG (inT4 _ (List.mem_of_getElem? (i := 97) rfl)) rfl)
theorem lc_Ls_256 : Cond.constantLong "LeftShoes" 256 (2) ∈ lw_g := (pG (inT4 _ (List.mem_of_getElem? (i := 203) rfl)) rfl)
theorem lc_Ls_359 : Cond.constantLong "LeftShoes" 359 (1103515245) ∈ lw_g := (pG (inT5 _ (List.mem_of_getElem? (i := 140) rfl)) rfl)
theorem lc_Ls_361 : Cond.constantLong "LeftShoes" 361 (12345) ∈ lw_g := (pG (inT5 _ (List.mem_of_getElem? (i := 141) rfl)) rfl)
theorem lc_Ls_363 : Cond.constantLong "LeftShoes" 363 (2147483647) ∈ lw_g := (pG (inT5 _ (List.mem_of_getElem? (i := 142) rfl)) rfl)
theorem lc_La_46 : Cond.constantLong "LeftShoes$Laws" 46 (-9223372036854775808) ∈ lw_g := (pG (inT4 _ (List.mem_of_getElem? (i := 39) rfl)) rfl)
theorem lc_La_56 : Cond.constantLong "LeftShoes$Laws" 56 (1000000000000) ∈ lw_g := (pG (inT4 _ (List.mem_of_getElem? (i := 47) rfl)) rfl)
theorem lc_La_58 : Cond.constantLong "LeftShoes$Laws" 58 (-1000000000000) ∈ lw_g := (pG (inT4 _ (List.mem_of_getElem? (i := 48) rfl)) rfl)
theorem lc_Wo_82 : Cond.constantLong "LeftShoes$World" 82 (-9223372036854775808) ∈ lw_g := (pG (inT4 _ (List.mem_of_getElem? (i := 24) rfl)) rfl)
theorem lc_Mo_365 : Cond.constantLong "LeftShoesModel" 365 (1000000000000) ∈ lw_g := (pG (inT8 _ (List.mem_of_getElem? (i := 50) rfl)) rfl)
theorem lc_Mo_367 : Cond.constantLong "LeftShoesModel" 367 (-1000000000000) ∈ lw_g := (pG (inT8 _ (List.mem_of_getElem? (i := 51) rfl)) rfl)
theorem lc_Mo_455 : Cond.constantLong "LeftShoesModel" 455 (-9223372036854775808) ∈ lw_g := (pG (inT8 _ (List.mem_of_getElem? (i := 103) rfl)) rfl)
theorem lc_Mo_566 : Cond.constantLong "LeftShoesModel" 566 (1103515245) ∈ lw_g := (pG (inT9 _ (List.mem_of_getElem? (i := 87) rfl)) rfl)
theorem lc_Mo_568 : Cond.constantLong "LeftShoesModel" 568 (12345) ∈ lw_g := (pG (inT9 _ (List.mem_of_getElem? (i := 88) rfl)) rfl)
theorem lc_Mo_570 : Cond.constantLong "LeftShoesModel" 570 (2147483647) ∈ lw_g := (pG (inT9 _ (List.mem_of_getElem? (i := 89) rfl)) rfl)
theorem lc_Mo_572 : Cond.constantLong "LeftShoesModel" 572 (65536) ∈ lw_g := (pG (inT9 _ (List.mem_of_getElem? (i := 90) rfl)) rfl)
theorem lk_Ls_15 : Cond.classLink "LeftShoes" 15 (pRn 7) ∈ lw_g := (pG (inT1 _ (List.mem_of_getElem? (i := 33) rfl)) rfl)
theorem lk_Ls_25 : Cond.classLink "LeftShoes" 25 (pRn 4) ∈ lw_g := (pG (inT1 _ (List.mem_of_getElem? (i := 213) rfl)) rfl)
theorem lk_Ls_38 : Cond.classLink "LeftShoes" 38 (pRn 9) ∈ lw_g := (pG (inT2 _ (List.mem_of_getElem? (i := 81) rfl)) rfl)
theorem lk_Ls_53 : Cond.classLink "LeftShoes" 53 (pRn 1) ∈ lw_g := (pG (inT2 _ (List.mem_of_getElem? (i := 135) rfl)) rfl)
theorem lk_Ls_60 : Cond.classLink "LeftShoes" 60 (pRn 8) ∈ lw_g := (pG (inT2 _ (List.mem_of_getElem? (i := 157) rfl)) rfl)
theorem lk_Ls_67 : Cond.classLink "LeftShoes" 67 (pRn 0) ∈ lw_g := (pG (inT2 _ (List.mem_of_getElem? (i := 178) rfl)) rfl)
theorem lk_Ls_74 : Cond.classLink "LeftShoes" 74 (pRn 5) ∈ lw_g := (pG (inT2 _ (List.mem_of_getElem? (i := 214) rfl)) rfl)
theorem lk_Sc_9 : Cond.classLink "LeftShoes$Scribe" 9 (pRn 3) ∈ lw_g := (pG (inT1 _ (List.mem_of_getElem? (i := 219) rfl)) rfl)
theorem lk_Ta_54 : Cond.classLink "LeftShoes$Tale" 54 (pRn 6) ∈ lw_g := (pG (inT1 _ (List.mem_of_getElem? (i := 39) rfl)) rfl)
theorem lk_Ta_61 : Cond.classLink "LeftShoes$Tale" 61 (pRn 2) ∈ lw_g := (pG (inT1 _ (List.mem_of_getElem? (i := 65) rfl)) rfl)
theorem lk_Lw_8 : Cond.classLink "LeftShoesLaw" 8 (pRn 10) ∈ lw_g := (pG (inT1 _ (List.mem_of_getElem? (i := 25) rfl)) rfl)
theorem lk_Lw_18 : Cond.classLink "LeftShoesLaw" 18 (pRn 11) ∈ lw_g := (pG (inT6 _ (List.mem_of_getElem? (i := 47) rfl)) rfl)
theorem ins_Cp : Cond.instantiable (pRn 0) (pNf 0) ∈ lw_g := (pG (inT2 _ (List.mem_of_getElem? (i := 179) rfl)) rfl)
theorem ins_Hi : Cond.instantiable (pRn 1) (pNf 1) ∈ lw_g := (pG (inT2 _ (List.mem_of_getElem? (i := 136) rfl)) rfl)
theorem ins_La : Cond.instantiable (pRn 2) (pNf 2) ∈ lw_g := (pG (inT1 _ (List.mem_of_getElem? (i := 66) rfl)) rfl)
theorem ins_Re : Cond.instantiable (pRn 3) (pNf 3) ∈ lw_g := (pG (inT1 _ (List.mem_of_getElem? (i := 220) rfl)) rfl)
theorem ins_Sc : Cond.instantiable (pRn 4) (pNf 4) ∈ lw_g := (pG (inT1 _ (List.mem_of_getElem? (i := 214) rfl)) rfl)
theorem ins_St : Cond.instantiable (pRn 5) (pNf 5) ∈ lw_g := (pG (inT2 _ (List.mem_of_getElem? (i := 215) rfl)) rfl)
theorem ins_Sw : Cond.instantiable (pRn 6) (pNf 6) ∈ lw_g := (pG (inT1 _ (List.mem_of_getElem? (i := 40) rfl)) rfl)
theorem ins_Ta : Cond.instantiable (pRn 7) (pNf 7) ∈ lw_g := (pG (inT1 _ (List.mem_of_getElem? (i := 34) rfl)) rfl)
theorem ins_Tr : Cond.instantiable (pRn 8) (pNf 8) ∈ lw_g := (pG (inT2 _ (List.mem_of_getElem? (i := 158) rfl)) rfl)
theorem ins_Wo : Cond.instantiable (pRn 9) (pNf 9) ∈ lw_g := (pG (inT2 _ (List.mem_of_getElem? (i := 82) rfl)) rfl)
theorem ins_Ls : Cond.instantiable (pRn 10) (pNf 10) ∈ lw_g := (pG (inT1 _ (List.mem_of_getElem? (i := 26) rfl)) rfl)
theorem ins_Mo : Cond.instantiable (pRn 11) (pNf 11) ∈ lw_g := (pG (inT6 _ (List.mem_of_getElem? (i := 48) rfl)) rfl)
