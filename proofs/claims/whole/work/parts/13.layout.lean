/-! ===== where the cells lie: 0 the script, 1 LeftShoes, 3 and 30 the tales, 62, 68, 74 the worlds, 134 the reference ===== -/
def kSs : List (Nat × pSh) := [
  (1, .inl 10), (2, .inr (1, 700)), (3, .inl 7), (4, .inr (0, 5)), (5, .inr (0, 5)), (6, .inr (0, 5)), (7, .inr (0, 5)), (8, .inr (0, 5)), (9, .inr (0, 16)), (10, .inr (0, 16)), (11, .inr (0, 16)), (12, .inr (0, 16)),
  (13, .inr (0, 16)), (14, .inr (0, 8)), (15, .inr (0, 8)), (16, .inr (0, 8)), (17, .inr (0, 8)), (18, .inl 6), (19, .inr (0, 36)), (20, .inr (0, 36)), (21, .inr (0, 6)), (22, .inl 2), (23, .inr (0, 64)), (24, .inr (0, 64)),
  (25, .inr (0, 3)), (26, .inr (0, 3)), (27, .inr (2, 3)), (28, .inr (3, 7)), (29, .inr (3, 64)), (30, .inl 7), (31, .inr (0, 5)), (32, .inr (0, 5)), (33, .inr (0, 5)), (34, .inr (0, 5)), (35, .inr (0, 5)), (36, .inr (0, 16)),
  (37, .inr (0, 16)), (38, .inr (0, 16)), (39, .inr (0, 16)), (40, .inr (0, 16)), (41, .inr (0, 8)), (42, .inr (0, 8)), (43, .inr (0, 8)), (44, .inr (0, 8)), (45, .inl 6), (46, .inr (0, 36)), (47, .inr (0, 36)), (48, .inr (0, 6)),
  (49, .inl 2), (50, .inr (0, 64)), (51, .inr (0, 64)), (52, .inr (0, 3)), (53, .inr (0, 3)), (54, .inr (2, 3)), (55, .inr (3, 7)), (56, .inr (3, 64)), (57, .inl 4), (58, .inl 3), (59, .inr (1, 0)), (60, .inr (0, 25)),
  (61, .inr (0, 10000)), (62, .inl 9), (63, .inr (0, 16)), (64, .inr (0, 16)), (65, .inr (0, 16)), (66, .inr (0, 10)), (67, .inr (0, 8)), (68, .inl 9), (69, .inr (0, 16)), (70, .inr (0, 16)), (71, .inr (0, 16)), (72, .inr (0, 10)),
  (73, .inr (0, 8)), (74, .inl 9), (75, .inr (0, 16)), (76, .inr (0, 16)), (77, .inr (0, 16)), (78, .inr (0, 10)), (79, .inr (0, 8)), (80, .inl 1), (81, .inr (4, 20)), (82, .inr (0, 16)), (83, .inr (0, 16)), (84, .inr (0, 16)),
  (85, .inr (0, 16)), (86, .inr (0, 16)), (87, .inr (0, 16)), (88, .inr (0, 16)), (89, .inr (0, 16)), (90, .inr (0, 16)), (91, .inr (0, 16)), (92, .inr (0, 16)), (93, .inr (0, 16)), (94, .inr (0, 16)), (95, .inr (0, 16)), (96, .inr (0, 16)),
  (97, .inr (0, 16)), (98, .inr (0, 16)), (99, .inr (0, 16)), (100, .inr (0, 16)), (101, .inr (0, 16)), (102, .inr (4, 20)), (103, .inr (0, 10)), (104, .inr (0, 10)), (105, .inr (0, 10)), (106, .inr (0, 10)), (107, .inr (0, 10)), (108, .inr (0, 10)),
  (109, .inr (0, 10)), (110, .inr (0, 10)), (111, .inr (0, 10)), (112, .inr (0, 10)), (113, .inr (0, 10)), (114, .inr (0, 10)), (115, .inr (0, 10)), (116, .inr (0, 10)), (117, .inr (0, 10)), (118, .inr (0, 10)), (119, .inr (0, 10)), (120, .inr (0, 10)),
  (121, .inr (0, 10)), (122, .inr (0, 10)), (123, .inl 8), (124, .inr (0, 24)), (125, .inr (0, 24)), (126, .inl 0), (127, .inr (0, 16)), (128, .inr (0, 16)), (129, .inr (0, 16)), (130, .inr (3, 256)), (131, .inr (3, 8)), (132, .inl 5),
  (133, .inr (0, 10)), (134, .inl 11), (135, .inr (0, 700)), (136, .inr (0, 127)), (137, .inr (0, 10)), (138, .inr (0, 10)), (139, .inr (0, 10)), (140, .inr (0, 10)), (141, .inr (0, 10)), (142, .inr (0, 32)), (143, .inr (0, 32)), (144, .inr (0, 32)),
  (145, .inr (0, 32)), (146, .inr (0, 32)), (147, .inr (0, 16)), (148, .inr (0, 16)), (149, .inr (0, 16)), (150, .inr (0, 16)), (151, .inr (0, 64)), (152, .inr (2, 6)), (153, .inr (0, 6)), (154, .inr (0, 6)), (155, .inr (0, 128)), (156, .inr (0, 128)),
  (157, .inr (0, 128)), (158, .inr (0, 96)), (159, .inr (0, 96)), (160, .inr (3, 7)), (161, .inr (3, 64)), (162, .inr (0, 32)), (163, .inr (0, 32)), (164, .inr (0, 10)), (165, .inr (0, 10)), (166, .inr (0, 16)), (167, .inr (0, 2)), (168, .inr (0, 512)),
  (169, .inr (0, 512)), (170, .inr (0, 16)), (171, .inr (0, 11)), (172, .inr (0, 41)), (173, .inr (0, 16)), (174, .inr (0, 16)), (175, .inr (0, 256)), (176, .inr (0, 256)), (177, .inr (0, 16)), (178, .inr (0, 48)), (179, .inr (2, 24)), (180, .inr (0, 6)),
  (181, .inr (0, 520)), (182, .inr (0, 26)), (183, .inr (0, 16)), (184, .inr (0, 8))]
def kPs : List (Nat × Nat × Nat) := [
  (1, 0, 2), (1, 4, 57), (1, 7, 62), (1, 8, 68), (1, 9, 74), (1, 11, 80), (1, 12, 123), (1, 13, 126), (1, 14, 132), (1, 15, 133), (3, 1, 4), (3, 2, 5),
  (3, 3, 6), (3, 4, 7), (3, 5, 8), (3, 7, 9), (3, 8, 10), (3, 9, 11), (3, 10, 12), (3, 11, 13), (3, 13, 14), (3, 14, 15), (3, 15, 16), (3, 16, 17),
  (3, 17, 18), (3, 18, 22), (18, 1, 19), (18, 2, 20), (18, 3, 21), (22, 2, 23), (22, 3, 24), (22, 4, 25), (22, 5, 26), (22, 6, 27), (22, 7, 28), (22, 8, 29),
  (30, 1, 31), (30, 2, 32), (30, 3, 33), (30, 4, 34), (30, 5, 35), (30, 7, 36), (30, 8, 37), (30, 9, 38), (30, 10, 39), (30, 11, 40), (30, 13, 41), (30, 14, 42),
  (30, 15, 43), (30, 16, 44), (30, 17, 45), (30, 18, 49), (45, 1, 46), (45, 2, 47), (45, 3, 48), (49, 2, 50), (49, 3, 51), (49, 4, 52), (49, 5, 53), (49, 6, 54),
  (49, 7, 55), (49, 8, 56), (57, 4, 58), (58, 6, 60), (62, 4, 63), (62, 5, 64), (62, 6, 65), (62, 7, 66), (62, 8, 67), (62, 9, 61), (68, 4, 69), (68, 5, 70),
  (68, 6, 71), (68, 7, 72), (68, 8, 73), (68, 9, 61), (74, 4, 75), (74, 5, 76), (74, 6, 77), (74, 7, 78), (74, 8, 79), (74, 9, 61), (80, 2, 81), (80, 3, 102),
  (81, 0, 82), (81, 1, 83), (81, 2, 84), (81, 3, 85), (81, 4, 86), (81, 5, 87), (81, 6, 88), (81, 7, 89), (81, 8, 90), (81, 9, 91), (81, 10, 92), (81, 11, 93),
  (81, 12, 94), (81, 13, 95), (81, 14, 96), (81, 15, 97), (81, 16, 98), (81, 17, 99), (81, 18, 100), (81, 19, 101), (102, 0, 103), (102, 1, 104), (102, 2, 105), (102, 3, 106),
  (102, 4, 107), (102, 5, 108), (102, 6, 109), (102, 7, 110), (102, 8, 111), (102, 9, 112), (102, 10, 113), (102, 11, 114), (102, 12, 115), (102, 13, 116), (102, 14, 117), (102, 15, 118),
  (102, 16, 119), (102, 17, 120), (102, 18, 121), (102, 19, 122), (123, 2, 124), (123, 3, 125), (126, 1, 127), (126, 2, 128), (126, 3, 129), (126, 4, 130), (126, 5, 131), (132, 2, 62),
  (134, 0, 135), (134, 3, 136), (134, 23, 137), (134, 24, 138), (134, 25, 139), (134, 26, 140), (134, 27, 141), (134, 28, 142), (134, 29, 143), (134, 30, 144), (134, 31, 145), (134, 32, 146),
  (134, 33, 147), (134, 34, 148), (134, 35, 149), (134, 36, 150), (134, 37, 151), (134, 38, 152), (134, 39, 153), (134, 40, 154), (134, 41, 155), (134, 42, 156), (134, 43, 157), (134, 44, 158),
  (134, 45, 159), (134, 52, 160), (134, 53, 161), (134, 55, 162), (134, 56, 163), (134, 57, 164), (134, 58, 165), (134, 59, 166), (134, 60, 167), (134, 65, 168), (134, 66, 169), (134, 67, 170),
  (134, 68, 171), (134, 69, 172), (134, 72, 173), (134, 73, 174), (134, 74, 175), (134, 75, 176), (134, 76, 177), (134, 82, 178), (134, 83, 179), (134, 84, 180), (134, 87, 181), (134, 89, 182),
  (134, 90, 183), (134, 91, 184)]
/-- the shapes and the pointers that never change -/
def kA (sh : List pSh) (P : Nat → Nat → Option Nat) : Prop := (∀ q ∈ kSs, sh[q.1]? = some q.2) ∧ ∀ q ∈ kPs, P q.1 q.2.1 = some q.2.2
theorem kA_s {sh : List pSh} {P : Nat → Nat → Option Nat} (h : kA sh P) (i a : Nat) (x : pSh) (hx : kSs[i]? = some (a, x)) : sh[a]? = some x := h.1 (a, x) (List.mem_of_getElem? hx)
theorem kA_p {sh : List pSh} {P : Nat → Nat → Option Nat} (h : kA sh P) (i a k q : Nat) (hx : kPs[i]? = some (a, k, q)) : P a k = some q := h.2 (a, k, q) (List.mem_of_getElem? hx)
section
variable {sh : List pSh} {P : Nat → Nat → Option Nat} {t w : Nat}
theorem ks_x (h : kA sh P) : sh[1]? = some (.inl 10) := kA_s h 0 1 _ rfl
theorem ks_x_tape (h : kA sh P) : sh[2]? = some (.inr (1, 700)) := kA_s h 1 2 _ rfl
theorem ks_sc (h : kA sh P) : sh[57]? = some (.inl 4) := kA_s h 56 57 _ rfl
theorem ks_re (h : kA sh P) : sh[58]? = some (.inl 3) := kA_s h 57 58 _ rfl
theorem ks_re_bytes (h : kA sh P) : sh[59]? = some (.inr (1, 0)) := kA_s h 58 59 _ rfl
theorem ks_re_words (h : kA sh P) : sh[60]? = some (.inr (0, 25)) := kA_s h 59 60 _ rfl
theorem ks_sums (h : kA sh P) : sh[61]? = some (.inr (0, 10000)) := kA_s h 60 61 _ rfl
theorem ks_hi (h : kA sh P) : sh[80]? = some (.inl 1) := kA_s h 79 80 _ rfl
theorem ks_hi_owners (h : kA sh P) : sh[81]? = some (.inr (4, 20)) := kA_s h 80 81 _ rfl
theorem ks_hi_worn (h : kA sh P) : sh[102]? = some (.inr (4, 20)) := kA_s h 101 102 _ rfl
theorem ks_tr (h : kA sh P) : sh[123]? = some (.inl 8) := kA_s h 122 123 _ rfl
theorem ks_tr_sideOf (h : kA sh P) : sh[124]? = some (.inr (0, 24)) := kA_s h 123 124 _ rfl
theorem ks_tr_sizeOf (h : kA sh P) : sh[125]? = some (.inr (0, 24)) := kA_s h 124 125 _ rfl
theorem ks_cp (h : kA sh P) : sh[126]? = some (.inl 0) := kA_s h 125 126 _ rfl
theorem ks_cp_partnerOf (h : kA sh P) : sh[127]? = some (.inr (0, 16)) := kA_s h 126 127 _ rfl
theorem ks_cp_lefts (h : kA sh P) : sh[128]? = some (.inr (0, 16)) := kA_s h 127 128 _ rfl
theorem ks_cp_rights (h : kA sh P) : sh[129]? = some (.inr (0, 16)) := kA_s h 128 129 _ rfl
theorem ks_cp_best (h : kA sh P) : sh[130]? = some (.inr (3, 256)) := kA_s h 129 130 _ rfl
theorem ks_cp_row (h : kA sh P) : sh[131]? = some (.inr (3, 8)) := kA_s h 130 131 _ rfl
theorem ks_st (h : kA sh P) : sh[132]? = some (.inl 5) := kA_s h 131 132 _ rfl
theorem ks_x_minted (h : kA sh P) : sh[133]? = some (.inr (0, 10)) := kA_s h 132 133 _ rfl
theorem ks_m (h : kA sh P) : sh[134]? = some (.inl 11) := kA_s h 133 134 _ rfl
theorem ks_m_tape (h : kA sh P) : sh[135]? = some (.inr (0, 700)) := kA_s h 134 135 _ rfl
theorem ks_m_words (h : kA sh P) : sh[136]? = some (.inr (0, 127)) := kA_s h 135 136 _ rfl
theorem ks_m_personName (h : kA sh P) : sh[137]? = some (.inr (0, 10)) := kA_s h 136 137 _ rfl
theorem ks_m_footOf (h : kA sh P) : sh[138]? = some (.inr (0, 10)) := kA_s h 137 138 _ rfl
theorem ks_m_stepsOf (h : kA sh P) : sh[139]? = some (.inr (0, 10)) := kA_s h 138 139 _ rfl
theorem ks_m_fareOf (h : kA sh P) : sh[140]? = some (.inr (0, 10)) := kA_s h 139 140 _ rfl
theorem ks_m_claimOf (h : kA sh P) : sh[141]? = some (.inr (0, 10)) := kA_s h 140 141 _ rfl
theorem ks_m_sideOf (h : kA sh P) : sh[142]? = some (.inr (0, 32)) := kA_s h 141 142 _ rfl
theorem ks_m_sizeOf (h : kA sh P) : sh[143]? = some (.inr (0, 32)) := kA_s h 142 143 _ rfl
theorem ks_m_usedTold (h : kA sh P) : sh[144]? = some (.inr (0, 32)) := kA_s h 143 144 _ rfl
theorem ks_m_kindOf (h : kA sh P) : sh[145]? = some (.inr (0, 32)) := kA_s h 144 145 _ rfl
theorem ks_m_whoseTold (h : kA sh P) : sh[146]? = some (.inr (0, 32)) := kA_s h 145 146 _ rfl
theorem ks_m_debtBy (h : kA sh P) : sh[147]? = some (.inr (0, 16)) := kA_s h 146 147 _ rfl
theorem ks_m_debtTo (h : kA sh P) : sh[148]? = some (.inr (0, 16)) := kA_s h 147 148 _ rfl
theorem ks_m_debtMuch (h : kA sh P) : sh[149]? = some (.inr (0, 16)) := kA_s h 148 149 _ rfl
theorem ks_m_debtDay (h : kA sh P) : sh[150]? = some (.inr (0, 16)) := kA_s h 149 150 _ rfl
theorem ks_m_rate (h : kA sh P) : sh[151]? = some (.inr (0, 64)) := kA_s h 150 151 _ rfl
theorem ks_m_lawTold (h : kA sh P) : sh[152]? = some (.inr (2, 6)) := kA_s h 151 152 _ rfl
theorem ks_m_first (h : kA sh P) : sh[153]? = some (.inr (0, 6)) := kA_s h 152 153 _ rfl
theorem ks_m_last (h : kA sh P) : sh[154]? = some (.inr (0, 6)) := kA_s h 153 154 _ rfl
theorem ks_m_knot (h : kA sh P) : sh[155]? = some (.inr (0, 128)) := kA_s h 154 155 _ rfl
theorem ks_m_part (h : kA sh P) : sh[156]? = some (.inr (0, 128)) := kA_s h 155 156 _ rfl
theorem ks_m_other (h : kA sh P) : sh[157]? = some (.inr (0, 128)) := kA_s h 156 157 _ rfl
theorem ks_m_wait (h : kA sh P) : sh[158]? = some (.inr (0, 96)) := kA_s h 157 158 _ rfl
theorem ks_m_held (h : kA sh P) : sh[159]? = some (.inr (0, 96)) := kA_s h 158 159 _ rfl
theorem ks_m_names (h : kA sh P) : sh[160]? = some (.inr (3, 7)) := kA_s h 159 160 _ rfl
theorem ks_m_value (h : kA sh P) : sh[161]? = some (.inr (3, 64)) := kA_s h 160 161 _ rfl
theorem ks_m_used (h : kA sh P) : sh[162]? = some (.inr (0, 32)) := kA_s h 161 162 _ rfl
theorem ks_m_whose (h : kA sh P) : sh[163]? = some (.inr (0, 32)) := kA_s h 162 163 _ rfl
theorem ks_m_leftOn (h : kA sh P) : sh[164]? = some (.inr (0, 10)) := kA_s h 163 164 _ rfl
theorem ks_m_rightOn (h : kA sh P) : sh[165]? = some (.inr (0, 10)) := kA_s h 164 165 _ rfl
theorem ks_m_became (h : kA sh P) : sh[166]? = some (.inr (0, 16)) := kA_s h 165 166 _ rfl
theorem ks_m_day (h : kA sh P) : sh[167]? = some (.inr (0, 2)) := kA_s h 166 167 _ rfl
theorem ks_m_halfSum (h : kA sh P) : sh[168]? = some (.inr (0, 512)) := kA_s h 167 168 _ rfl
theorem ks_m_halfMany (h : kA sh P) : sh[169]? = some (.inr (0, 512)) := kA_s h 168 169 _ rfl
theorem ks_m_change1 (h : kA sh P) : sh[170]? = some (.inr (0, 16)) := kA_s h 169 170 _ rfl
theorem ks_m_coin (h : kA sh P) : sh[171]? = some (.inr (0, 11)) := kA_s h 170 171 _ rfl
theorem ks_m_fewest (h : kA sh P) : sh[172]? = some (.inr (0, 41)) := kA_s h 171 172 _ rfl
theorem ks_m_leftAt (h : kA sh P) : sh[173]? = some (.inr (0, 16)) := kA_s h 172 173 _ rfl
theorem ks_m_rightAt (h : kA sh P) : sh[174]? = some (.inr (0, 16)) := kA_s h 173 174 _ rfl
theorem ks_m_gain (h : kA sh P) : sh[175]? = some (.inr (0, 256)) := kA_s h 174 175 _ rfl
theorem ks_m_sumOf (h : kA sh P) : sh[176]? = some (.inr (0, 256)) := kA_s h 175 176 _ rfl
theorem ks_m_partnerOf (h : kA sh P) : sh[177]? = some (.inr (0, 16)) := kA_s h 176 177 _ rfl
theorem ks_m_track (h : kA sh P) : sh[178]? = some (.inr (0, 48)) := kA_s h 177 178 _ rfl
theorem ks_m_counts (h : kA sh P) : sh[179]? = some (.inr (2, 24)) := kA_s h 178 179 _ rfl
theorem ks_m_ringAt (h : kA sh P) : sh[180]? = some (.inr (0, 6)) := kA_s h 179 180 _ rfl
theorem ks_m_undo (h : kA sh P) : sh[181]? = some (.inr (0, 520)) := kA_s h 180 181 _ rfl
theorem ks_m_image (h : kA sh P) : sh[182]? = some (.inr (0, 26)) := kA_s h 181 182 _ rfl
theorem ks_m_imageUsed (h : kA sh P) : sh[183]? = some (.inr (0, 16)) := kA_s h 182 183 _ rfl
theorem ks_m_imageBecame (h : kA sh P) : sh[184]? = some (.inr (0, 8)) := kA_s h 183 184 _ rfl
theorem kp_x_tape (h : kA sh P) : P 1 0 = some 2 := kA_p h 0 1 0 2 rfl
theorem kp_x_scribe (h : kA sh P) : P 1 4 = some 57 := kA_p h 1 1 4 57 rfl
theorem kp_x_world (h : kA sh P) : P 1 7 = some 62 := kA_p h 2 1 7 62 rfl
theorem kp_x_image (h : kA sh P) : P 1 8 = some 68 := kA_p h 3 1 8 68 rfl
theorem kp_x_trial (h : kA sh P) : P 1 9 = some 74 := kA_p h 4 1 9 74 rfl
theorem kp_x_history (h : kA sh P) : P 1 11 = some 80 := kA_p h 5 1 11 80 rfl
theorem kp_x_tracks (h : kA sh P) : P 1 12 = some 123 := kA_p h 6 1 12 123 rfl
theorem kp_x_couples (h : kA sh P) : P 1 13 = some 126 := kA_p h 7 1 13 126 rfl
theorem kp_x_stroll (h : kA sh P) : P 1 14 = some 132 := kA_p h 8 1 14 132 rfl
theorem kp_x_minted (h : kA sh P) : P 1 15 = some 133 := kA_p h 9 1 15 133 rfl
theorem kp_sc_reader (h : kA sh P) : P 57 4 = some 58 := kA_p h 62 57 4 58 rfl
theorem kp_re_words (h : kA sh P) : P 58 6 = some 60 := kA_p h 63 58 6 60 rfl
theorem kp_hi_owners (h : kA sh P) : P 80 2 = some 81 := kA_p h 82 80 2 81 rfl
theorem kp_hi_worn (h : kA sh P) : P 80 3 = some 102 := kA_p h 83 80 3 102 rfl
theorem kp_tr_sideOf (h : kA sh P) : P 123 2 = some 124 := kA_p h 124 123 2 124 rfl
theorem kp_tr_sizeOf (h : kA sh P) : P 123 3 = some 125 := kA_p h 125 123 3 125 rfl
theorem kp_cp_partnerOf (h : kA sh P) : P 126 1 = some 127 := kA_p h 126 126 1 127 rfl
theorem kp_cp_lefts (h : kA sh P) : P 126 2 = some 128 := kA_p h 127 126 2 128 rfl
theorem kp_cp_rights (h : kA sh P) : P 126 3 = some 129 := kA_p h 128 126 3 129 rfl
theorem kp_cp_best (h : kA sh P) : P 126 4 = some 130 := kA_p h 129 126 4 130 rfl
theorem kp_cp_row (h : kA sh P) : P 126 5 = some 131 := kA_p h 130 126 5 131 rfl
theorem kp_st_world (h : kA sh P) : P 132 2 = some 62 := kA_p h 131 132 2 62 rfl
theorem kp_m_tape (h : kA sh P) : P 134 0 = some 135 := kA_p h 132 134 0 135 rfl
theorem kp_m_words (h : kA sh P) : P 134 3 = some 136 := kA_p h 133 134 3 136 rfl
theorem kp_m_personName (h : kA sh P) : P 134 23 = some 137 := kA_p h 134 134 23 137 rfl
theorem kp_m_footOf (h : kA sh P) : P 134 24 = some 138 := kA_p h 135 134 24 138 rfl
theorem kp_m_stepsOf (h : kA sh P) : P 134 25 = some 139 := kA_p h 136 134 25 139 rfl
theorem kp_m_fareOf (h : kA sh P) : P 134 26 = some 140 := kA_p h 137 134 26 140 rfl
theorem kp_m_claimOf (h : kA sh P) : P 134 27 = some 141 := kA_p h 138 134 27 141 rfl
theorem kp_m_sideOf (h : kA sh P) : P 134 28 = some 142 := kA_p h 139 134 28 142 rfl
theorem kp_m_sizeOf (h : kA sh P) : P 134 29 = some 143 := kA_p h 140 134 29 143 rfl
theorem kp_m_usedTold (h : kA sh P) : P 134 30 = some 144 := kA_p h 141 134 30 144 rfl
theorem kp_m_kindOf (h : kA sh P) : P 134 31 = some 145 := kA_p h 142 134 31 145 rfl
theorem kp_m_whoseTold (h : kA sh P) : P 134 32 = some 146 := kA_p h 143 134 32 146 rfl
theorem kp_m_debtBy (h : kA sh P) : P 134 33 = some 147 := kA_p h 144 134 33 147 rfl
theorem kp_m_debtTo (h : kA sh P) : P 134 34 = some 148 := kA_p h 145 134 34 148 rfl
theorem kp_m_debtMuch (h : kA sh P) : P 134 35 = some 149 := kA_p h 146 134 35 149 rfl
theorem kp_m_debtDay (h : kA sh P) : P 134 36 = some 150 := kA_p h 147 134 36 150 rfl
theorem kp_m_rate (h : kA sh P) : P 134 37 = some 151 := kA_p h 148 134 37 151 rfl
theorem kp_m_lawTold (h : kA sh P) : P 134 38 = some 152 := kA_p h 149 134 38 152 rfl
theorem kp_m_first (h : kA sh P) : P 134 39 = some 153 := kA_p h 150 134 39 153 rfl
theorem kp_m_last (h : kA sh P) : P 134 40 = some 154 := kA_p h 151 134 40 154 rfl
theorem kp_m_knot (h : kA sh P) : P 134 41 = some 155 := kA_p h 152 134 41 155 rfl
theorem kp_m_part (h : kA sh P) : P 134 42 = some 156 := kA_p h 153 134 42 156 rfl
theorem kp_m_other (h : kA sh P) : P 134 43 = some 157 := kA_p h 154 134 43 157 rfl
theorem kp_m_wait (h : kA sh P) : P 134 44 = some 158 := kA_p h 155 134 44 158 rfl
theorem kp_m_held (h : kA sh P) : P 134 45 = some 159 := kA_p h 156 134 45 159 rfl
theorem kp_m_names (h : kA sh P) : P 134 52 = some 160 := kA_p h 157 134 52 160 rfl
theorem kp_m_value (h : kA sh P) : P 134 53 = some 161 := kA_p h 158 134 53 161 rfl
theorem kp_m_used (h : kA sh P) : P 134 55 = some 162 := kA_p h 159 134 55 162 rfl
theorem kp_m_whose (h : kA sh P) : P 134 56 = some 163 := kA_p h 160 134 56 163 rfl
theorem kp_m_leftOn (h : kA sh P) : P 134 57 = some 164 := kA_p h 161 134 57 164 rfl
theorem kp_m_rightOn (h : kA sh P) : P 134 58 = some 165 := kA_p h 162 134 58 165 rfl
theorem kp_m_became (h : kA sh P) : P 134 59 = some 166 := kA_p h 163 134 59 166 rfl
theorem kp_m_day (h : kA sh P) : P 134 60 = some 167 := kA_p h 164 134 60 167 rfl
theorem kp_m_halfSum (h : kA sh P) : P 134 65 = some 168 := kA_p h 165 134 65 168 rfl
theorem kp_m_halfMany (h : kA sh P) : P 134 66 = some 169 := kA_p h 166 134 66 169 rfl
theorem kp_m_change1 (h : kA sh P) : P 134 67 = some 170 := kA_p h 167 134 67 170 rfl
theorem kp_m_coin (h : kA sh P) : P 134 68 = some 171 := kA_p h 168 134 68 171 rfl
theorem kp_m_fewest (h : kA sh P) : P 134 69 = some 172 := kA_p h 169 134 69 172 rfl
theorem kp_m_leftAt (h : kA sh P) : P 134 72 = some 173 := kA_p h 170 134 72 173 rfl
theorem kp_m_rightAt (h : kA sh P) : P 134 73 = some 174 := kA_p h 171 134 73 174 rfl
theorem kp_m_gain (h : kA sh P) : P 134 74 = some 175 := kA_p h 172 134 74 175 rfl
theorem kp_m_sumOf (h : kA sh P) : P 134 75 = some 176 := kA_p h 173 134 75 176 rfl
theorem kp_m_partnerOf (h : kA sh P) : P 134 76 = some 177 := kA_p h 174 134 76 177 rfl
theorem kp_m_track (h : kA sh P) : P 134 82 = some 178 := kA_p h 175 134 82 178 rfl
theorem kp_m_counts (h : kA sh P) : P 134 83 = some 179 := kA_p h 176 134 83 179 rfl
theorem kp_m_ringAt (h : kA sh P) : P 134 84 = some 180 := kA_p h 177 134 84 180 rfl
theorem kp_m_undo (h : kA sh P) : P 134 87 = some 181 := kA_p h 178 134 87 181 rfl
theorem kp_m_image (h : kA sh P) : P 134 89 = some 182 := kA_p h 179 134 89 182 rfl
theorem kp_m_imageUsed (h : kA sh P) : P 134 90 = some 183 := kA_p h 180 134 90 183 rfl
theorem kp_m_imageBecame (h : kA sh P) : P 134 91 = some 184 := kA_p h 181 134 91 184 rfl
theorem ks_t (h : kA sh P) (ht : t = 3 ∨ t = 30) : sh[t]? = some (.inl 7) := by
  rcases ht with rfl | rfl
  · exact kA_s h 2 3 _ rfl
  · exact kA_s h 29 30 _ rfl
theorem ks_t_name (h : kA sh P) (ht : t = 3 ∨ t = 30) : sh[t + 1]? = some (.inr (0, 5)) := by
  rcases ht with rfl | rfl
  · exact kA_s h 3 4 _ rfl
  · exact kA_s h 30 31 _ rfl
theorem ks_t_foot (h : kA sh P) (ht : t = 3 ∨ t = 30) : sh[t + 2]? = some (.inr (0, 5)) := by
  rcases ht with rfl | rfl
  · exact kA_s h 4 5 _ rfl
  · exact kA_s h 31 32 _ rfl
theorem ks_t_steps (h : kA sh P) (ht : t = 3 ∨ t = 30) : sh[t + 3]? = some (.inr (0, 5)) := by
  rcases ht with rfl | rfl
  · exact kA_s h 5 6 _ rfl
  · exact kA_s h 32 33 _ rfl
theorem ks_t_fare (h : kA sh P) (ht : t = 3 ∨ t = 30) : sh[t + 4]? = some (.inr (0, 5)) := by
  rcases ht with rfl | rfl
  · exact kA_s h 6 7 _ rfl
  · exact kA_s h 33 34 _ rfl
theorem ks_t_claim (h : kA sh P) (ht : t = 3 ∨ t = 30) : sh[t + 5]? = some (.inr (0, 5)) := by
  rcases ht with rfl | rfl
  · exact kA_s h 7 8 _ rfl
  · exact kA_s h 34 35 _ rfl
theorem ks_t_side (h : kA sh P) (ht : t = 3 ∨ t = 30) : sh[t + 6]? = some (.inr (0, 16)) := by
  rcases ht with rfl | rfl
  · exact kA_s h 8 9 _ rfl
  · exact kA_s h 35 36 _ rfl
theorem ks_t_size (h : kA sh P) (ht : t = 3 ∨ t = 30) : sh[t + 7]? = some (.inr (0, 16)) := by
  rcases ht with rfl | rfl
  · exact kA_s h 9 10 _ rfl
  · exact kA_s h 36 37 _ rfl
theorem ks_t_used (h : kA sh P) (ht : t = 3 ∨ t = 30) : sh[t + 8]? = some (.inr (0, 16)) := by
  rcases ht with rfl | rfl
  · exact kA_s h 10 11 _ rfl
  · exact kA_s h 37 38 _ rfl
theorem ks_t_kind (h : kA sh P) (ht : t = 3 ∨ t = 30) : sh[t + 9]? = some (.inr (0, 16)) := by
  rcases ht with rfl | rfl
  · exact kA_s h 11 12 _ rfl
  · exact kA_s h 38 39 _ rfl
theorem ks_t_owner (h : kA sh P) (ht : t = 3 ∨ t = 30) : sh[t + 10]? = some (.inr (0, 16)) := by
  rcases ht with rfl | rfl
  · exact kA_s h 12 13 _ rfl
  · exact kA_s h 39 40 _ rfl
theorem ks_t_debtor (h : kA sh P) (ht : t = 3 ∨ t = 30) : sh[t + 11]? = some (.inr (0, 8)) := by
  rcases ht with rfl | rfl
  · exact kA_s h 13 14 _ rfl
  · exact kA_s h 40 41 _ rfl
theorem ks_t_creditor (h : kA sh P) (ht : t = 3 ∨ t = 30) : sh[t + 12]? = some (.inr (0, 8)) := by
  rcases ht with rfl | rfl
  · exact kA_s h 14 15 _ rfl
  · exact kA_s h 41 42 _ rfl
theorem ks_t_owed (h : kA sh P) (ht : t = 3 ∨ t = 30) : sh[t + 13]? = some (.inr (0, 8)) := by
  rcases ht with rfl | rfl
  · exact kA_s h 15 16 _ rfl
  · exact kA_s h 42 43 _ rfl
theorem ks_t_due (h : kA sh P) (ht : t = 3 ∨ t = 30) : sh[t + 14]? = some (.inr (0, 8)) := by
  rcases ht with rfl | rfl
  · exact kA_s h 16 17 _ rfl
  · exact kA_s h 43 44 _ rfl
theorem ks_t_swaps (h : kA sh P) (ht : t = 3 ∨ t = 30) : sh[t + 15]? = some (.inl 6) := by
  rcases ht with rfl | rfl
  · exact kA_s h 17 18 _ rfl
  · exact kA_s h 44 45 _ rfl
theorem ks_t_swaps_given (h : kA sh P) (ht : t = 3 ∨ t = 30) : sh[t + 16]? = some (.inr (0, 36)) := by
  rcases ht with rfl | rfl
  · exact kA_s h 18 19 _ rfl
  · exact kA_s h 45 46 _ rfl
theorem ks_t_swaps_got (h : kA sh P) (ht : t = 3 ∨ t = 30) : sh[t + 17]? = some (.inr (0, 36)) := by
  rcases ht with rfl | rfl
  · exact kA_s h 19 20 _ rfl
  · exact kA_s h 46 47 _ rfl
theorem ks_t_swaps_path (h : kA sh P) (ht : t = 3 ∨ t = 30) : sh[t + 18]? = some (.inr (0, 6)) := by
  rcases ht with rfl | rfl
  · exact kA_s h 20 21 _ rfl
  · exact kA_s h 47 48 _ rfl
theorem ks_t_laws (h : kA sh P) (ht : t = 3 ∨ t = 30) : sh[t + 19]? = some (.inl 2) := by
  rcases ht with rfl | rfl
  · exact kA_s h 21 22 _ rfl
  · exact kA_s h 48 49 _ rfl
theorem ks_t_laws_code (h : kA sh P) (ht : t = 3 ∨ t = 30) : sh[t + 20]? = some (.inr (0, 64)) := by
  rcases ht with rfl | rfl
  · exact kA_s h 22 23 _ rfl
  · exact kA_s h 49 50 _ rfl
theorem ks_t_laws_number (h : kA sh P) (ht : t = 3 ∨ t = 30) : sh[t + 21]? = some (.inr (0, 64)) := by
  rcases ht with rfl | rfl
  · exact kA_s h 23 24 _ rfl
  · exact kA_s h 50 51 _ rfl
theorem ks_t_laws_from (h : kA sh P) (ht : t = 3 ∨ t = 30) : sh[t + 22]? = some (.inr (0, 3)) := by
  rcases ht with rfl | rfl
  · exact kA_s h 24 25 _ rfl
  · exact kA_s h 51 52 _ rfl
theorem ks_t_laws_to (h : kA sh P) (ht : t = 3 ∨ t = 30) : sh[t + 23]? = some (.inr (0, 3)) := by
  rcases ht with rfl | rfl
  · exact kA_s h 25 26 _ rfl
  · exact kA_s h 52 53 _ rfl
theorem ks_t_laws_told (h : kA sh P) (ht : t = 3 ∨ t = 30) : sh[t + 24]? = some (.inr (2, 3)) := by
  rcases ht with rfl | rfl
  · exact kA_s h 26 27 _ rfl
  · exact kA_s h 53 54 _ rfl
theorem ks_t_laws_names (h : kA sh P) (ht : t = 3 ∨ t = 30) : sh[t + 25]? = some (.inr (3, 7)) := by
  rcases ht with rfl | rfl
  · exact kA_s h 27 28 _ rfl
  · exact kA_s h 54 55 _ rfl
theorem ks_t_laws_stack (h : kA sh P) (ht : t = 3 ∨ t = 30) : sh[t + 26]? = some (.inr (3, 64)) := by
  rcases ht with rfl | rfl
  · exact kA_s h 28 29 _ rfl
  · exact kA_s h 55 56 _ rfl
theorem kp_t_name (h : kA sh P) (ht : t = 3 ∨ t = 30) : P (t) 1 = some (t + 1) := by
  rcases ht with rfl | rfl
  · exact kA_p h 10 3 1 4 rfl
  · exact kA_p h 36 30 1 31 rfl
theorem kp_t_foot (h : kA sh P) (ht : t = 3 ∨ t = 30) : P (t) 2 = some (t + 2) := by
  rcases ht with rfl | rfl
  · exact kA_p h 11 3 2 5 rfl
  · exact kA_p h 37 30 2 32 rfl
theorem kp_t_steps (h : kA sh P) (ht : t = 3 ∨ t = 30) : P (t) 3 = some (t + 3) := by
  rcases ht with rfl | rfl
  · exact kA_p h 12 3 3 6 rfl
  · exact kA_p h 38 30 3 33 rfl
theorem kp_t_fare (h : kA sh P) (ht : t = 3 ∨ t = 30) : P (t) 4 = some (t + 4) := by
  rcases ht with rfl | rfl
  · exact kA_p h 13 3 4 7 rfl
  · exact kA_p h 39 30 4 34 rfl
theorem kp_t_claim (h : kA sh P) (ht : t = 3 ∨ t = 30) : P (t) 5 = some (t + 5) := by
  rcases ht with rfl | rfl
  · exact kA_p h 14 3 5 8 rfl
  · exact kA_p h 40 30 5 35 rfl
theorem kp_t_side (h : kA sh P) (ht : t = 3 ∨ t = 30) : P (t) 7 = some (t + 6) := by
  rcases ht with rfl | rfl
  · exact kA_p h 15 3 7 9 rfl
  · exact kA_p h 41 30 7 36 rfl
theorem kp_t_size (h : kA sh P) (ht : t = 3 ∨ t = 30) : P (t) 8 = some (t + 7) := by
  rcases ht with rfl | rfl
  · exact kA_p h 16 3 8 10 rfl
  · exact kA_p h 42 30 8 37 rfl
theorem kp_t_used (h : kA sh P) (ht : t = 3 ∨ t = 30) : P (t) 9 = some (t + 8) := by
  rcases ht with rfl | rfl
  · exact kA_p h 17 3 9 11 rfl
  · exact kA_p h 43 30 9 38 rfl
theorem kp_t_kind (h : kA sh P) (ht : t = 3 ∨ t = 30) : P (t) 10 = some (t + 9) := by
  rcases ht with rfl | rfl
  · exact kA_p h 18 3 10 12 rfl
  · exact kA_p h 44 30 10 39 rfl
theorem kp_t_owner (h : kA sh P) (ht : t = 3 ∨ t = 30) : P (t) 11 = some (t + 10) := by
  rcases ht with rfl | rfl
  · exact kA_p h 19 3 11 13 rfl
  · exact kA_p h 45 30 11 40 rfl
theorem kp_t_debtor (h : kA sh P) (ht : t = 3 ∨ t = 30) : P (t) 13 = some (t + 11) := by
  rcases ht with rfl | rfl
  · exact kA_p h 20 3 13 14 rfl
  · exact kA_p h 46 30 13 41 rfl
theorem kp_t_creditor (h : kA sh P) (ht : t = 3 ∨ t = 30) : P (t) 14 = some (t + 12) := by
  rcases ht with rfl | rfl
  · exact kA_p h 21 3 14 15 rfl
  · exact kA_p h 47 30 14 42 rfl
theorem kp_t_owed (h : kA sh P) (ht : t = 3 ∨ t = 30) : P (t) 15 = some (t + 13) := by
  rcases ht with rfl | rfl
  · exact kA_p h 22 3 15 16 rfl
  · exact kA_p h 48 30 15 43 rfl
theorem kp_t_due (h : kA sh P) (ht : t = 3 ∨ t = 30) : P (t) 16 = some (t + 14) := by
  rcases ht with rfl | rfl
  · exact kA_p h 23 3 16 17 rfl
  · exact kA_p h 49 30 16 44 rfl
theorem kp_t_swaps (h : kA sh P) (ht : t = 3 ∨ t = 30) : P (t) 17 = some (t + 15) := by
  rcases ht with rfl | rfl
  · exact kA_p h 24 3 17 18 rfl
  · exact kA_p h 50 30 17 45 rfl
theorem kp_t_laws (h : kA sh P) (ht : t = 3 ∨ t = 30) : P (t) 18 = some (t + 19) := by
  rcases ht with rfl | rfl
  · exact kA_p h 25 3 18 22 rfl
  · exact kA_p h 51 30 18 49 rfl
theorem kp_t_swaps_given (h : kA sh P) (ht : t = 3 ∨ t = 30) : P (t + 15) 1 = some (t + 16) := by
  rcases ht with rfl | rfl
  · exact kA_p h 26 18 1 19 rfl
  · exact kA_p h 52 45 1 46 rfl
theorem kp_t_swaps_got (h : kA sh P) (ht : t = 3 ∨ t = 30) : P (t + 15) 2 = some (t + 17) := by
  rcases ht with rfl | rfl
  · exact kA_p h 27 18 2 20 rfl
  · exact kA_p h 53 45 2 47 rfl
theorem kp_t_swaps_path (h : kA sh P) (ht : t = 3 ∨ t = 30) : P (t + 15) 3 = some (t + 18) := by
  rcases ht with rfl | rfl
  · exact kA_p h 28 18 3 21 rfl
  · exact kA_p h 54 45 3 48 rfl
theorem kp_t_laws_code (h : kA sh P) (ht : t = 3 ∨ t = 30) : P (t + 19) 2 = some (t + 20) := by
  rcases ht with rfl | rfl
  · exact kA_p h 29 22 2 23 rfl
  · exact kA_p h 55 49 2 50 rfl
theorem kp_t_laws_number (h : kA sh P) (ht : t = 3 ∨ t = 30) : P (t + 19) 3 = some (t + 21) := by
  rcases ht with rfl | rfl
  · exact kA_p h 30 22 3 24 rfl
  · exact kA_p h 56 49 3 51 rfl
theorem kp_t_laws_from (h : kA sh P) (ht : t = 3 ∨ t = 30) : P (t + 19) 4 = some (t + 22) := by
  rcases ht with rfl | rfl
  · exact kA_p h 31 22 4 25 rfl
  · exact kA_p h 57 49 4 52 rfl
theorem kp_t_laws_to (h : kA sh P) (ht : t = 3 ∨ t = 30) : P (t + 19) 5 = some (t + 23) := by
  rcases ht with rfl | rfl
  · exact kA_p h 32 22 5 26 rfl
  · exact kA_p h 58 49 5 53 rfl
theorem kp_t_laws_told (h : kA sh P) (ht : t = 3 ∨ t = 30) : P (t + 19) 6 = some (t + 24) := by
  rcases ht with rfl | rfl
  · exact kA_p h 33 22 6 27 rfl
  · exact kA_p h 59 49 6 54 rfl
theorem kp_t_laws_names (h : kA sh P) (ht : t = 3 ∨ t = 30) : P (t + 19) 7 = some (t + 25) := by
  rcases ht with rfl | rfl
  · exact kA_p h 34 22 7 28 rfl
  · exact kA_p h 60 49 7 55 rfl
theorem kp_t_laws_stack (h : kA sh P) (ht : t = 3 ∨ t = 30) : P (t + 19) 8 = some (t + 26) := by
  rcases ht with rfl | rfl
  · exact kA_p h 35 22 8 29 rfl
  · exact kA_p h 61 49 8 56 rfl
theorem ks_w (h : kA sh P) (hw : w = 62 ∨ w = 68 ∨ w = 74) : sh[w]? = some (.inl 9) := by
  rcases hw with rfl | rfl | rfl
  · exact kA_s h 61 62 _ rfl
  · exact kA_s h 67 68 _ rfl
  · exact kA_s h 73 74 _ rfl
theorem ks_w_side (h : kA sh P) (hw : w = 62 ∨ w = 68 ∨ w = 74) : sh[w + 1]? = some (.inr (0, 16)) := by
  rcases hw with rfl | rfl | rfl
  · exact kA_s h 62 63 _ rfl
  · exact kA_s h 68 69 _ rfl
  · exact kA_s h 74 75 _ rfl
theorem ks_w_used (h : kA sh P) (hw : w = 62 ∨ w = 68 ∨ w = 74) : sh[w + 2]? = some (.inr (0, 16)) := by
  rcases hw with rfl | rfl | rfl
  · exact kA_s h 63 64 _ rfl
  · exact kA_s h 69 70 _ rfl
  · exact kA_s h 75 76 _ rfl
theorem ks_w_owner (h : kA sh P) (hw : w = 62 ∨ w = 68 ∨ w = 74) : sh[w + 3]? = some (.inr (0, 16)) := by
  rcases hw with rfl | rfl | rfl
  · exact kA_s h 64 65 _ rfl
  · exact kA_s h 70 71 _ rfl
  · exact kA_s h 76 77 _ rfl
theorem ks_w_worn (h : kA sh P) (hw : w = 62 ∨ w = 68 ∨ w = 74) : sh[w + 4]? = some (.inr (0, 10)) := by
  rcases hw with rfl | rfl | rfl
  · exact kA_s h 65 66 _ rfl
  · exact kA_s h 71 72 _ rfl
  · exact kA_s h 77 78 _ rfl
theorem ks_w_settled (h : kA sh P) (hw : w = 62 ∨ w = 68 ∨ w = 74) : sh[w + 5]? = some (.inr (0, 8)) := by
  rcases hw with rfl | rfl | rfl
  · exact kA_s h 66 67 _ rfl
  · exact kA_s h 72 73 _ rfl
  · exact kA_s h 78 79 _ rfl
theorem kp_w_side (h : kA sh P) (hw : w = 62 ∨ w = 68 ∨ w = 74) : P w 4 = some (w + 1) := by
  rcases hw with rfl | rfl | rfl
  · exact kA_p h 64 62 4 63 rfl
  · exact kA_p h 70 68 4 69 rfl
  · exact kA_p h 76 74 4 75 rfl
theorem kp_w_used (h : kA sh P) (hw : w = 62 ∨ w = 68 ∨ w = 74) : P w 5 = some (w + 2) := by
  rcases hw with rfl | rfl | rfl
  · exact kA_p h 65 62 5 64 rfl
  · exact kA_p h 71 68 5 70 rfl
  · exact kA_p h 77 74 5 76 rfl
theorem kp_w_owner (h : kA sh P) (hw : w = 62 ∨ w = 68 ∨ w = 74) : P w 6 = some (w + 3) := by
  rcases hw with rfl | rfl | rfl
  · exact kA_p h 66 62 6 65 rfl
  · exact kA_p h 72 68 6 71 rfl
  · exact kA_p h 78 74 6 77 rfl
theorem kp_w_worn (h : kA sh P) (hw : w = 62 ∨ w = 68 ∨ w = 74) : P w 7 = some (w + 4) := by
  rcases hw with rfl | rfl | rfl
  · exact kA_p h 67 62 7 66 rfl
  · exact kA_p h 73 68 7 72 rfl
  · exact kA_p h 79 74 7 78 rfl
theorem kp_w_settled (h : kA sh P) (hw : w = 62 ∨ w = 68 ∨ w = 74) : P w 8 = some (w + 5) := by
  rcases hw with rfl | rfl | rfl
  · exact kA_p h 68 62 8 67 rfl
  · exact kA_p h 74 68 8 73 rfl
  · exact kA_p h 80 74 8 79 rfl
theorem kp_w_sums (h : kA sh P) (hw : w = 62 ∨ w = 68 ∨ w = 74) : P w 9 = some 61 := by
  rcases hw with rfl | rfl | rfl
  · exact kA_p h 69 62 9 61 rfl
  · exact kA_p h 75 68 9 61 rfl
  · exact kA_p h 81 74 9 61 rfl
theorem ks_hiO (h : kA sh P) {j : Nat} (hj : j < 20) : sh[82 + j]? = some (.inr (0, 16)) ∧ P 81 j = some (82 + j) := by
  match j, hj with
  | 0, _ => exact ⟨kA_s h 81 82 _ rfl, kA_p h 84 81 0 82 rfl⟩
  | 1, _ => exact ⟨kA_s h 82 83 _ rfl, kA_p h 85 81 1 83 rfl⟩
  | 2, _ => exact ⟨kA_s h 83 84 _ rfl, kA_p h 86 81 2 84 rfl⟩
  | 3, _ => exact ⟨kA_s h 84 85 _ rfl, kA_p h 87 81 3 85 rfl⟩
  | 4, _ => exact ⟨kA_s h 85 86 _ rfl, kA_p h 88 81 4 86 rfl⟩
  | 5, _ => exact ⟨kA_s h 86 87 _ rfl, kA_p h 89 81 5 87 rfl⟩
  | 6, _ => exact ⟨kA_s h 87 88 _ rfl, kA_p h 90 81 6 88 rfl⟩
  | 7, _ => exact ⟨kA_s h 88 89 _ rfl, kA_p h 91 81 7 89 rfl⟩
  | 8, _ => exact ⟨kA_s h 89 90 _ rfl, kA_p h 92 81 8 90 rfl⟩
  | 9, _ => exact ⟨kA_s h 90 91 _ rfl, kA_p h 93 81 9 91 rfl⟩
  | 10, _ => exact ⟨kA_s h 91 92 _ rfl, kA_p h 94 81 10 92 rfl⟩
  | 11, _ => exact ⟨kA_s h 92 93 _ rfl, kA_p h 95 81 11 93 rfl⟩
  | 12, _ => exact ⟨kA_s h 93 94 _ rfl, kA_p h 96 81 12 94 rfl⟩
  | 13, _ => exact ⟨kA_s h 94 95 _ rfl, kA_p h 97 81 13 95 rfl⟩
  | 14, _ => exact ⟨kA_s h 95 96 _ rfl, kA_p h 98 81 14 96 rfl⟩
  | 15, _ => exact ⟨kA_s h 96 97 _ rfl, kA_p h 99 81 15 97 rfl⟩
  | 16, _ => exact ⟨kA_s h 97 98 _ rfl, kA_p h 100 81 16 98 rfl⟩
  | 17, _ => exact ⟨kA_s h 98 99 _ rfl, kA_p h 101 81 17 99 rfl⟩
  | 18, _ => exact ⟨kA_s h 99 100 _ rfl, kA_p h 102 81 18 100 rfl⟩
  | 19, _ => exact ⟨kA_s h 100 101 _ rfl, kA_p h 103 81 19 101 rfl⟩
  | n + 20, hn => exact absurd hn (by omega)
theorem ks_hiW (h : kA sh P) {j : Nat} (hj : j < 20) : sh[103 + j]? = some (.inr (0, 10)) ∧ P 102 j = some (103 + j) := by
  match j, hj with
  | 0, _ => exact ⟨kA_s h 102 103 _ rfl, kA_p h 104 102 0 103 rfl⟩
  | 1, _ => exact ⟨kA_s h 103 104 _ rfl, kA_p h 105 102 1 104 rfl⟩
  | 2, _ => exact ⟨kA_s h 104 105 _ rfl, kA_p h 106 102 2 105 rfl⟩
  | 3, _ => exact ⟨kA_s h 105 106 _ rfl, kA_p h 107 102 3 106 rfl⟩
  | 4, _ => exact ⟨kA_s h 106 107 _ rfl, kA_p h 108 102 4 107 rfl⟩
  | 5, _ => exact ⟨kA_s h 107 108 _ rfl, kA_p h 109 102 5 108 rfl⟩
  | 6, _ => exact ⟨kA_s h 108 109 _ rfl, kA_p h 110 102 6 109 rfl⟩
  | 7, _ => exact ⟨kA_s h 109 110 _ rfl, kA_p h 111 102 7 110 rfl⟩
  | 8, _ => exact ⟨kA_s h 110 111 _ rfl, kA_p h 112 102 8 111 rfl⟩
  | 9, _ => exact ⟨kA_s h 111 112 _ rfl, kA_p h 113 102 9 112 rfl⟩
  | 10, _ => exact ⟨kA_s h 112 113 _ rfl, kA_p h 114 102 10 113 rfl⟩
  | 11, _ => exact ⟨kA_s h 113 114 _ rfl, kA_p h 115 102 11 114 rfl⟩
  | 12, _ => exact ⟨kA_s h 114 115 _ rfl, kA_p h 116 102 12 115 rfl⟩
  | 13, _ => exact ⟨kA_s h 115 116 _ rfl, kA_p h 117 102 13 116 rfl⟩
  | 14, _ => exact ⟨kA_s h 116 117 _ rfl, kA_p h 118 102 14 117 rfl⟩
  | 15, _ => exact ⟨kA_s h 117 118 _ rfl, kA_p h 119 102 15 118 rfl⟩
  | 16, _ => exact ⟨kA_s h 118 119 _ rfl, kA_p h 120 102 16 119 rfl⟩
  | 17, _ => exact ⟨kA_s h 119 120 _ rfl, kA_p h 121 102 17 120 rfl⟩
  | 18, _ => exact ⟨kA_s h 120 121 _ rfl, kA_p h 122 102 18 121 rfl⟩
  | 19, _ => exact ⟨kA_s h 121 122 _ rfl, kA_p h 123 102 19 122 rfl⟩
  | n + 20, hn => exact absurd hn (by omega)
end
def scrA : List Nat := [21, 48, 61, 126, 127, 128, 129, 132, 133, 168, 169, 170, 171, 172, 173, 174, 175, 176, 177, 179, 180]
def scrF : List Nat := [2, 54, 70, 71, 77, 78, 79, 85]
/-- scratch: ints that a call may leave changed and that no later call reads -/
def scr (a k : Nat) : Bool := scrA.contains a || (a == 134 && scrF.contains k)
/-- this memory holds J but for scratch -/
def rep (I J : Nat → Nat → Int32) : Prop := ∀ a k, scr a k = false → I a k = J a k
theorem rep.rf (I : Nat → Nat → Int32) : rep I I := fun _ _ _ => rfl
theorem rep.tr {I J K : Nat → Nat → Int32} (h1 : rep I J) (h2 : rep J K) : rep I K := fun a k h => (h1 a k h).trans (h2 a k h)
theorem scr_no {a : Nat} (h : scrA.contains a = false) (h2 : a ≠ 134) (k : Nat) : scr a k = false := by
  unfold scr
  rw [h]
  simp [h2]
theorem rep.arr {I J : Nat → Nat → Int32} (h : rep I J) {a : Nat} (h1 : scrA.contains a = false) (h2 : a ≠ 134) : I a = J a := funext fun k => h a k (scr_no h1 h2 k)
theorem rep.set {I J : Nat → Nat → Int32} (h : rep I J) (a k : Nat) (x : Int32) : rep (sI I a k x) (sI J a k x) := by
  intro b j hb
  unfold sI va_up upd
  by_cases e : b = a
  · subst e
    simp only [if_true]
    by_cases e2 : j = k
    · simp [e2]
    · simp [e2, h b j hb]
  · simp [e, h b j hb]
theorem rep.scr {I J : Nat → Nat → Int32} (h : rep I J) {a k : Nat} (hs : scr a k = true) (x : Int32) : rep (sI I a k x) J := by
  intro b j hb
  unfold sI va_up upd
  by_cases e : b = a
  · subst e
    simp only [if_true]
    by_cases e2 : j = k
    · subst e2; rw [hs] at hb; cases hb
    · simp [e2, h b j hb]
  · simp [e, h b j hb]
