def kSg (b : Nat → Nat) (n a : Nat) : Nat := if b a = 59 then 27 else if b a = 40 then 28 else if b a = 41 then 29 else if b a = 60 then (if sgN b n a = 61 then 31 else if sgN b n a = 62 then 33 else 30) else if b a = 61 then 32 else if b a = 62 then (if sgN b n a = 61 then 34 else 35) else if b a = 43 then 36 else if b a = 45 then 37 else if b a = 42 then 38 else if b a = 47 then 39 else 41
abbrev jnP (b : Nat → Nat) (n a : Nat) : Prop := (b a = 60 ∧ (sgN b n a = 61 ∨ sgN b n a = 62)) ∨ (b a = 62 ∧ sgN b n a = 61)
theorem sgE_j (b : Nat → Nat) (n a : Nat) : sgE b n a = if jnP b n a then a + 2 else a + 1 := by
  unfold sgE
  by_cases z : jnP b n a
  · rw [if_pos z, if_pos]
    unfold jnP at z
    unfold sgC sgQ sgU
    omega
  · rw [if_neg z, if_neg]
    unfold jnP at z
    unfold sgC sgQ sgU
    omega
theorem sgA_2 {b : Nat → Nat} {n a c : Nat} (hb2 : ∀ k, k < n → b k < 256) (hc : c < 128) (h0 : c ≠ 0) : sgA b n (a + 1) = nI c ↔ sgN b n a = c := by
  unfold sgA sgN
  by_cases z : a + 1 < n
  · rw [if_pos z, if_pos z]
    exact sg_eq hc (hb2 _ z)
  · rw [if_neg z, if_neg z]
    exact ⟨fun q => absurd ((nI_eq (by decide) (by omega)).mp q) (Ne.symm h0), fun q => absurd q (Ne.symm h0)⟩
theorem sw_no {c : Nat} (h1 : 40 ≤ c) (h2 : c ≤ 62) (z : (nI c).toInt < 40 ∨ 62 < (nI c).toInt) : False := by
  rw [nI_toInt (by omega)] at z
  omega
set_option maxHeartbeats 8000000 in
theorem ct_Re_readSign {sh : List pSh} {I : Nat → Nat → Int32} {L : Nat → Nat → Int64} {P : Nat → Nat → Option Nat} (hA : kA sh P) (hrb : P 58 3 = some 2) {n : Nat} (hln : I 58 4 = nI n) (hn7 : n ≤ 700) {b : Nat → Nat} (hb : ∀ k, k < n → I 2 k = sgB (b k)) (hb2 : ∀ k, k < n → b k < 256) {a : Nat} (han : a < n) (kd pl : Int32) : pCn m_Re_readSign 1 [.ref 58] sh (reQ I kd 0 pl (nI a), L, P) (rV (reQ I (nI (kSg b n a)) 0 pl (nI (sgE b n a)), L, P)) := by
  refine pCn_of (by decide +kernel) (Nat.le_of_ble_eq_true rfl) ?_
  have sg_iff : ∀ c, c < 128 → (sgA b n a = nI c ↔ b a = c) := fun c hc => by
    rw [show sgA b n a = sgB (b a) from if_pos han]
    exact sg_eq hc (hb2 a han)
  have k60 : sgA b n a = 60 ↔ b a = 60 := sg_iff 60 (by decide)
  have k62 : sgA b n a = 62 ↔ b a = 62 := sg_iff 62 (by decide)
  have m61 : sgA b n (a + 1) = 61 ↔ sgN b n a = 61 := sgA_2 (c := 61) hb2 (by decide) (by decide)
  have m62 : sgA b n (a + 1) = 62 ↔ sgN b n a = 62 := sgA_2 (c := 62) hb2 (by decide) (by decide)
  have h74 : ∀ jn : Nat, (jn = 1 ∧ jnP b n a) ∨ (jn = 0 ∧ ¬ jnP b n a) → pWn m_Re_readSign 1 sh (rV (reQ I (nI (kSg b n a)) 0 pl (nI (sgE b n a)), L, P)) 74 [some (.ref 58), some (.int (sgA b n a)), some (.int (sgA b n (a + 1))), some (.int (nI jn))] [] (reQ I kd 0 pl (nI (sgE b n a)), L, P) := by
    intro jn hJ
    refine pw_iload_n (k4 := 1) rfl (by decide +kernel) ?_
    have hsw75 : decode m_Re_readSign.2.1 75 = .ok (.tableswitch 224 40 62 #[114, 123, 206, 188, 224, 197, 224, 215, 224, 224, 224, 224, 224, 224, 224, 224, 224, 224, 224, 105, 132, 161, 170], 105) := by decide +kernel
    rcases swIn (sgA b n a) 40 62 (by decide) (by decide) with z75 | ⟨j75, z75, y75, e75⟩
    · refine pw_tableOut (tgt := 299) hsw75 z75 (by decide +kernel) ?_
      have hno : ∀ c, 40 ≤ c → c ≤ 62 → ¬ b a = c := fun c c1 c2 q => by
        rw [(sg_iff c (by omega)).mpr q] at z75
        exact sw_no c1 c2 z75
      refine pw_aload_n (k4 := 0) rfl (by decide +kernel) ?_
      refine pw_bipush (n := 41) (v := 41) (by decide) (by decide +kernel) ?_
      refine pq_putI (c := 3) (k := 0) (ks_re hA) (by decide) (by decide) lf_Re_59 (Or.inl rfl) (by decide +kernel) ?_
      rw [reQ_0]
      exact pq_vret rfl (by decide +kernel) ⟨rfl, congrArg (fun z => (reQ I z 0 pl (nI (sgE b n a)), L, P)) (show (41 : Int32) = nI (kSg b n a) from by simp [kSg, hno] <;> rfl)⟩
    · rcases (show j75 = 40 ∨ j75 = 41 ∨ j75 = 42 ∨ j75 = 43 ∨ j75 = 44 ∨ j75 = 45 ∨ j75 = 46 ∨ j75 = 47 ∨ j75 = 48 ∨ j75 = 49 ∨ j75 = 50 ∨ j75 = 51 ∨ j75 = 52 ∨ j75 = 53 ∨ j75 = 54 ∨ j75 = 55 ∨ j75 = 56 ∨ j75 = 57 ∨ j75 = 58 ∨ j75 = 59 ∨ j75 = 60 ∨ j75 = 61 ∨ j75 = 62 by omega) with rfl | rfl | rfl | rfl | rfl | rfl | rfl | rfl | rfl | rfl | rfl | rfl | rfl | rfl | rfl | rfl | rfl | rfl | rfl | rfl | rfl | rfl | rfl
      · refine pw_tableIn (off := 114) (tgt := 189) hsw75 (by rw [e75]; decide) (by rw [e75]; decide) (by rw [e75]; decide) (by decide +kernel) ?_
        have hba := (sg_iff 40 (by decide)).mp e75
        refine pw_aload_n (k4 := 0) rfl (by decide +kernel) ?_
        refine pw_bipush (n := 28) (v := 28) (by decide) (by decide +kernel) ?_
        refine pq_putI (c := 3) (k := 0) (ks_re hA) (by decide) (by decide) lf_Re_59 (Or.inl rfl) (by decide +kernel) ?_
        rw [reQ_0]
        refine pw_goto (off := 110) (tgt := 305) (by decide +kernel) (by decide +kernel) ?_
        exact pq_vret rfl (by decide +kernel) ⟨rfl, congrArg (fun z => (reQ I z 0 pl (nI (sgE b n a)), L, P)) (show (28 : Int32) = nI (kSg b n a) from by simp [kSg, hba] <;> rfl)⟩
      · refine pw_tableIn (off := 123) (tgt := 198) hsw75 (by rw [e75]; decide) (by rw [e75]; decide) (by rw [e75]; decide) (by decide +kernel) ?_
        have hba := (sg_iff 41 (by decide)).mp e75
        refine pw_aload_n (k4 := 0) rfl (by decide +kernel) ?_
        refine pw_bipush (n := 29) (v := 29) (by decide) (by decide +kernel) ?_
        refine pq_putI (c := 3) (k := 0) (ks_re hA) (by decide) (by decide) lf_Re_59 (Or.inl rfl) (by decide +kernel) ?_
        rw [reQ_0]
        refine pw_goto (off := 101) (tgt := 305) (by decide +kernel) (by decide +kernel) ?_
        exact pq_vret rfl (by decide +kernel) ⟨rfl, congrArg (fun z => (reQ I z 0 pl (nI (sgE b n a)), L, P)) (show (29 : Int32) = nI (kSg b n a) from by simp [kSg, hba] <;> rfl)⟩
      · refine pw_tableIn (off := 206) (tgt := 281) hsw75 (by rw [e75]; decide) (by rw [e75]; decide) (by rw [e75]; decide) (by decide +kernel) ?_
        have hba := (sg_iff 42 (by decide)).mp e75
        refine pw_aload_n (k4 := 0) rfl (by decide +kernel) ?_
        refine pw_bipush (n := 38) (v := 38) (by decide) (by decide +kernel) ?_
        refine pq_putI (c := 3) (k := 0) (ks_re hA) (by decide) (by decide) lf_Re_59 (Or.inl rfl) (by decide +kernel) ?_
        rw [reQ_0]
        refine pw_goto (off := 18) (tgt := 305) (by decide +kernel) (by decide +kernel) ?_
        exact pq_vret rfl (by decide +kernel) ⟨rfl, congrArg (fun z => (reQ I z 0 pl (nI (sgE b n a)), L, P)) (show (38 : Int32) = nI (kSg b n a) from by simp [kSg, hba] <;> rfl)⟩
      · refine pw_tableIn (off := 188) (tgt := 263) hsw75 (by rw [e75]; decide) (by rw [e75]; decide) (by rw [e75]; decide) (by decide +kernel) ?_
        have hba := (sg_iff 43 (by decide)).mp e75
        refine pw_aload_n (k4 := 0) rfl (by decide +kernel) ?_
        refine pw_bipush (n := 36) (v := 36) (by decide) (by decide +kernel) ?_
        refine pq_putI (c := 3) (k := 0) (ks_re hA) (by decide) (by decide) lf_Re_59 (Or.inl rfl) (by decide +kernel) ?_
        rw [reQ_0]
        refine pw_goto (off := 36) (tgt := 305) (by decide +kernel) (by decide +kernel) ?_
        exact pq_vret rfl (by decide +kernel) ⟨rfl, congrArg (fun z => (reQ I z 0 pl (nI (sgE b n a)), L, P)) (show (36 : Int32) = nI (kSg b n a) from by simp [kSg, hba] <;> rfl)⟩
      · refine pw_tableIn (off := 224) (tgt := 299) hsw75 (by rw [e75]; decide) (by rw [e75]; decide) (by rw [e75]; decide) (by decide +kernel) ?_
        have hba := (sg_iff 44 (by decide)).mp e75
        refine pw_aload_n (k4 := 0) rfl (by decide +kernel) ?_
        refine pw_bipush (n := 41) (v := 41) (by decide) (by decide +kernel) ?_
        refine pq_putI (c := 3) (k := 0) (ks_re hA) (by decide) (by decide) lf_Re_59 (Or.inl rfl) (by decide +kernel) ?_
        rw [reQ_0]
        exact pq_vret rfl (by decide +kernel) ⟨rfl, congrArg (fun z => (reQ I z 0 pl (nI (sgE b n a)), L, P)) (show (41 : Int32) = nI (kSg b n a) from by simp [kSg, hba] <;> rfl)⟩
      · refine pw_tableIn (off := 197) (tgt := 272) hsw75 (by rw [e75]; decide) (by rw [e75]; decide) (by rw [e75]; decide) (by decide +kernel) ?_
        have hba := (sg_iff 45 (by decide)).mp e75
        refine pw_aload_n (k4 := 0) rfl (by decide +kernel) ?_
        refine pw_bipush (n := 37) (v := 37) (by decide) (by decide +kernel) ?_
        refine pq_putI (c := 3) (k := 0) (ks_re hA) (by decide) (by decide) lf_Re_59 (Or.inl rfl) (by decide +kernel) ?_
        rw [reQ_0]
        refine pw_goto (off := 27) (tgt := 305) (by decide +kernel) (by decide +kernel) ?_
        exact pq_vret rfl (by decide +kernel) ⟨rfl, congrArg (fun z => (reQ I z 0 pl (nI (sgE b n a)), L, P)) (show (37 : Int32) = nI (kSg b n a) from by simp [kSg, hba] <;> rfl)⟩
      · refine pw_tableIn (off := 224) (tgt := 299) hsw75 (by rw [e75]; decide) (by rw [e75]; decide) (by rw [e75]; decide) (by decide +kernel) ?_
        have hba := (sg_iff 46 (by decide)).mp e75
        refine pw_aload_n (k4 := 0) rfl (by decide +kernel) ?_
        refine pw_bipush (n := 41) (v := 41) (by decide) (by decide +kernel) ?_
        refine pq_putI (c := 3) (k := 0) (ks_re hA) (by decide) (by decide) lf_Re_59 (Or.inl rfl) (by decide +kernel) ?_
        rw [reQ_0]
        exact pq_vret rfl (by decide +kernel) ⟨rfl, congrArg (fun z => (reQ I z 0 pl (nI (sgE b n a)), L, P)) (show (41 : Int32) = nI (kSg b n a) from by simp [kSg, hba] <;> rfl)⟩
      · refine pw_tableIn (off := 215) (tgt := 290) hsw75 (by rw [e75]; decide) (by rw [e75]; decide) (by rw [e75]; decide) (by decide +kernel) ?_
        have hba := (sg_iff 47 (by decide)).mp e75
        refine pw_aload_n (k4 := 0) rfl (by decide +kernel) ?_
        refine pw_bipush (n := 39) (v := 39) (by decide) (by decide +kernel) ?_
        refine pq_putI (c := 3) (k := 0) (ks_re hA) (by decide) (by decide) lf_Re_59 (Or.inl rfl) (by decide +kernel) ?_
        rw [reQ_0]
        refine pw_goto (off := 9) (tgt := 305) (by decide +kernel) (by decide +kernel) ?_
        exact pq_vret rfl (by decide +kernel) ⟨rfl, congrArg (fun z => (reQ I z 0 pl (nI (sgE b n a)), L, P)) (show (39 : Int32) = nI (kSg b n a) from by simp [kSg, hba] <;> rfl)⟩
      · refine pw_tableIn (off := 224) (tgt := 299) hsw75 (by rw [e75]; decide) (by rw [e75]; decide) (by rw [e75]; decide) (by decide +kernel) ?_
        have hba := (sg_iff 48 (by decide)).mp e75
        refine pw_aload_n (k4 := 0) rfl (by decide +kernel) ?_
        refine pw_bipush (n := 41) (v := 41) (by decide) (by decide +kernel) ?_
        refine pq_putI (c := 3) (k := 0) (ks_re hA) (by decide) (by decide) lf_Re_59 (Or.inl rfl) (by decide +kernel) ?_
        rw [reQ_0]
        exact pq_vret rfl (by decide +kernel) ⟨rfl, congrArg (fun z => (reQ I z 0 pl (nI (sgE b n a)), L, P)) (show (41 : Int32) = nI (kSg b n a) from by simp [kSg, hba] <;> rfl)⟩
      · refine pw_tableIn (off := 224) (tgt := 299) hsw75 (by rw [e75]; decide) (by rw [e75]; decide) (by rw [e75]; decide) (by decide +kernel) ?_
        have hba := (sg_iff 49 (by decide)).mp e75
        refine pw_aload_n (k4 := 0) rfl (by decide +kernel) ?_
        refine pw_bipush (n := 41) (v := 41) (by decide) (by decide +kernel) ?_
        refine pq_putI (c := 3) (k := 0) (ks_re hA) (by decide) (by decide) lf_Re_59 (Or.inl rfl) (by decide +kernel) ?_
        rw [reQ_0]
        exact pq_vret rfl (by decide +kernel) ⟨rfl, congrArg (fun z => (reQ I z 0 pl (nI (sgE b n a)), L, P)) (show (41 : Int32) = nI (kSg b n a) from by simp [kSg, hba] <;> rfl)⟩
      · refine pw_tableIn (off := 224) (tgt := 299) hsw75 (by rw [e75]; decide) (by rw [e75]; decide) (by rw [e75]; decide) (by decide +kernel) ?_
        have hba := (sg_iff 50 (by decide)).mp e75
        refine pw_aload_n (k4 := 0) rfl (by decide +kernel) ?_
        refine pw_bipush (n := 41) (v := 41) (by decide) (by decide +kernel) ?_
        refine pq_putI (c := 3) (k := 0) (ks_re hA) (by decide) (by decide) lf_Re_59 (Or.inl rfl) (by decide +kernel) ?_
        rw [reQ_0]
        exact pq_vret rfl (by decide +kernel) ⟨rfl, congrArg (fun z => (reQ I z 0 pl (nI (sgE b n a)), L, P)) (show (41 : Int32) = nI (kSg b n a) from by simp [kSg, hba] <;> rfl)⟩
      · refine pw_tableIn (off := 224) (tgt := 299) hsw75 (by rw [e75]; decide) (by rw [e75]; decide) (by rw [e75]; decide) (by decide +kernel) ?_
        have hba := (sg_iff 51 (by decide)).mp e75
        refine pw_aload_n (k4 := 0) rfl (by decide +kernel) ?_
        refine pw_bipush (n := 41) (v := 41) (by decide) (by decide +kernel) ?_
        refine pq_putI (c := 3) (k := 0) (ks_re hA) (by decide) (by decide) lf_Re_59 (Or.inl rfl) (by decide +kernel) ?_
        rw [reQ_0]
        exact pq_vret rfl (by decide +kernel) ⟨rfl, congrArg (fun z => (reQ I z 0 pl (nI (sgE b n a)), L, P)) (show (41 : Int32) = nI (kSg b n a) from by simp [kSg, hba] <;> rfl)⟩
      · refine pw_tableIn (off := 224) (tgt := 299) hsw75 (by rw [e75]; decide) (by rw [e75]; decide) (by rw [e75]; decide) (by decide +kernel) ?_
        have hba := (sg_iff 52 (by decide)).mp e75
        refine pw_aload_n (k4 := 0) rfl (by decide +kernel) ?_
        refine pw_bipush (n := 41) (v := 41) (by decide) (by decide +kernel) ?_
        refine pq_putI (c := 3) (k := 0) (ks_re hA) (by decide) (by decide) lf_Re_59 (Or.inl rfl) (by decide +kernel) ?_
        rw [reQ_0]
        exact pq_vret rfl (by decide +kernel) ⟨rfl, congrArg (fun z => (reQ I z 0 pl (nI (sgE b n a)), L, P)) (show (41 : Int32) = nI (kSg b n a) from by simp [kSg, hba] <;> rfl)⟩
      · refine pw_tableIn (off := 224) (tgt := 299) hsw75 (by rw [e75]; decide) (by rw [e75]; decide) (by rw [e75]; decide) (by decide +kernel) ?_
        have hba := (sg_iff 53 (by decide)).mp e75
        refine pw_aload_n (k4 := 0) rfl (by decide +kernel) ?_
        refine pw_bipush (n := 41) (v := 41) (by decide) (by decide +kernel) ?_
        refine pq_putI (c := 3) (k := 0) (ks_re hA) (by decide) (by decide) lf_Re_59 (Or.inl rfl) (by decide +kernel) ?_
        rw [reQ_0]
        exact pq_vret rfl (by decide +kernel) ⟨rfl, congrArg (fun z => (reQ I z 0 pl (nI (sgE b n a)), L, P)) (show (41 : Int32) = nI (kSg b n a) from by simp [kSg, hba] <;> rfl)⟩
      · refine pw_tableIn (off := 224) (tgt := 299) hsw75 (by rw [e75]; decide) (by rw [e75]; decide) (by rw [e75]; decide) (by decide +kernel) ?_
        have hba := (sg_iff 54 (by decide)).mp e75
        refine pw_aload_n (k4 := 0) rfl (by decide +kernel) ?_
        refine pw_bipush (n := 41) (v := 41) (by decide) (by decide +kernel) ?_
        refine pq_putI (c := 3) (k := 0) (ks_re hA) (by decide) (by decide) lf_Re_59 (Or.inl rfl) (by decide +kernel) ?_
        rw [reQ_0]
        exact pq_vret rfl (by decide +kernel) ⟨rfl, congrArg (fun z => (reQ I z 0 pl (nI (sgE b n a)), L, P)) (show (41 : Int32) = nI (kSg b n a) from by simp [kSg, hba] <;> rfl)⟩
      · refine pw_tableIn (off := 224) (tgt := 299) hsw75 (by rw [e75]; decide) (by rw [e75]; decide) (by rw [e75]; decide) (by decide +kernel) ?_
        have hba := (sg_iff 55 (by decide)).mp e75
        refine pw_aload_n (k4 := 0) rfl (by decide +kernel) ?_
        refine pw_bipush (n := 41) (v := 41) (by decide) (by decide +kernel) ?_
        refine pq_putI (c := 3) (k := 0) (ks_re hA) (by decide) (by decide) lf_Re_59 (Or.inl rfl) (by decide +kernel) ?_
        rw [reQ_0]
        exact pq_vret rfl (by decide +kernel) ⟨rfl, congrArg (fun z => (reQ I z 0 pl (nI (sgE b n a)), L, P)) (show (41 : Int32) = nI (kSg b n a) from by simp [kSg, hba] <;> rfl)⟩
      · refine pw_tableIn (off := 224) (tgt := 299) hsw75 (by rw [e75]; decide) (by rw [e75]; decide) (by rw [e75]; decide) (by decide +kernel) ?_
        have hba := (sg_iff 56 (by decide)).mp e75
        refine pw_aload_n (k4 := 0) rfl (by decide +kernel) ?_
        refine pw_bipush (n := 41) (v := 41) (by decide) (by decide +kernel) ?_
        refine pq_putI (c := 3) (k := 0) (ks_re hA) (by decide) (by decide) lf_Re_59 (Or.inl rfl) (by decide +kernel) ?_
        rw [reQ_0]
        exact pq_vret rfl (by decide +kernel) ⟨rfl, congrArg (fun z => (reQ I z 0 pl (nI (sgE b n a)), L, P)) (show (41 : Int32) = nI (kSg b n a) from by simp [kSg, hba] <;> rfl)⟩
      · refine pw_tableIn (off := 224) (tgt := 299) hsw75 (by rw [e75]; decide) (by rw [e75]; decide) (by rw [e75]; decide) (by decide +kernel) ?_
        have hba := (sg_iff 57 (by decide)).mp e75
        refine pw_aload_n (k4 := 0) rfl (by decide +kernel) ?_
        refine pw_bipush (n := 41) (v := 41) (by decide) (by decide +kernel) ?_
        refine pq_putI (c := 3) (k := 0) (ks_re hA) (by decide) (by decide) lf_Re_59 (Or.inl rfl) (by decide +kernel) ?_
        rw [reQ_0]
        exact pq_vret rfl (by decide +kernel) ⟨rfl, congrArg (fun z => (reQ I z 0 pl (nI (sgE b n a)), L, P)) (show (41 : Int32) = nI (kSg b n a) from by simp [kSg, hba] <;> rfl)⟩
      · refine pw_tableIn (off := 224) (tgt := 299) hsw75 (by rw [e75]; decide) (by rw [e75]; decide) (by rw [e75]; decide) (by decide +kernel) ?_
        have hba := (sg_iff 58 (by decide)).mp e75
        refine pw_aload_n (k4 := 0) rfl (by decide +kernel) ?_
        refine pw_bipush (n := 41) (v := 41) (by decide) (by decide +kernel) ?_
        refine pq_putI (c := 3) (k := 0) (ks_re hA) (by decide) (by decide) lf_Re_59 (Or.inl rfl) (by decide +kernel) ?_
        rw [reQ_0]
        exact pq_vret rfl (by decide +kernel) ⟨rfl, congrArg (fun z => (reQ I z 0 pl (nI (sgE b n a)), L, P)) (show (41 : Int32) = nI (kSg b n a) from by simp [kSg, hba] <;> rfl)⟩
      · refine pw_tableIn (off := 105) (tgt := 180) hsw75 (by rw [e75]; decide) (by rw [e75]; decide) (by rw [e75]; decide) (by decide +kernel) ?_
        have hba := (sg_iff 59 (by decide)).mp e75
        refine pw_aload_n (k4 := 0) rfl (by decide +kernel) ?_
        refine pw_bipush (n := 27) (v := 27) (by decide) (by decide +kernel) ?_
        refine pq_putI (c := 3) (k := 0) (ks_re hA) (by decide) (by decide) lf_Re_59 (Or.inl rfl) (by decide +kernel) ?_
        rw [reQ_0]
        refine pw_goto (off := 119) (tgt := 305) (by decide +kernel) (by decide +kernel) ?_
        exact pq_vret rfl (by decide +kernel) ⟨rfl, congrArg (fun z => (reQ I z 0 pl (nI (sgE b n a)), L, P)) (show (27 : Int32) = nI (kSg b n a) from by simp [kSg, hba] <;> rfl)⟩
      · refine pw_tableIn (off := 132) (tgt := 207) hsw75 (by rw [e75]; decide) (by rw [e75]; decide) (by rw [e75]; decide) (by decide +kernel) ?_
        have hba := (sg_iff 60 (by decide)).mp e75
        refine pw_aload_n (k4 := 0) rfl (by decide +kernel) ?_
        refine pw_iload_n (k4 := 3) rfl (by decide +kernel) ?_
        refine pn_if_ne (off := 8) (tgt := 217) jn rfl (by omega) (by decide +kernel) (by decide +kernel) (fun z209 => ?_) (fun z209 => ?_)
        · have hq : sgN b n a = 61 ∨ sgN b n a = 62 := by unfold jnP at hJ; omega
          refine pw_iload_n (k4 := 2) rfl (by decide +kernel) ?_
          refine pw_bipush (n := 61) (v := 61) (by decide) (by decide +kernel) ?_
          refine pw_icmp_ne (off := 8) (tgt := 228) (by decide +kernel) (by decide +kernel) (fun z220 => ?_) (fun z220 => ?_)
          · rw [m61] at z220
            have hq2 : sgN b n a = 62 := by omega
            have hq : ¬ sgN b n a = 61 := z220
            refine pw_bipush (n := 33) (v := 33) (by decide) (by decide +kernel) ?_
            refine pq_putI (c := 3) (k := 0) (ks_re hA) (by decide) (by decide) lf_Re_59 (Or.inl rfl) (by decide +kernel) ?_
            rw [reQ_0]
            refine pw_goto (off := 72) (tgt := 305) (by decide +kernel) (by decide +kernel) ?_
            exact pq_vret rfl (by decide +kernel) ⟨rfl, congrArg (fun z => (reQ I z 0 pl (nI (sgE b n a)), L, P)) (show (33 : Int32) = nI (kSg b n a) from by simp [kSg, hba, hq, hq2] <;> rfl)⟩
          · rw [m61] at z220
            have hq : sgN b n a = 61 := z220
            refine pw_bipush (n := 31) (v := 31) (by decide) (by decide +kernel) ?_
            refine pw_goto (off := 5) (tgt := 230) (by decide +kernel) (by decide +kernel) ?_
            refine pq_putI (c := 3) (k := 0) (ks_re hA) (by decide) (by decide) lf_Re_59 (Or.inl rfl) (by decide +kernel) ?_
            rw [reQ_0]
            refine pw_goto (off := 72) (tgt := 305) (by decide +kernel) (by decide +kernel) ?_
            exact pq_vret rfl (by decide +kernel) ⟨rfl, congrArg (fun z => (reQ I z 0 pl (nI (sgE b n a)), L, P)) (show (31 : Int32) = nI (kSg b n a) from by simp [kSg, hba, hq] <;> rfl)⟩
        · have hq1 : ¬ sgN b n a = 61 := by unfold jnP at hJ; omega
          have hq2 : ¬ sgN b n a = 62 := by unfold jnP at hJ; omega
          refine pw_bipush (n := 30) (v := 30) (by decide) (by decide +kernel) ?_
          refine pw_goto (off := 16) (tgt := 230) (by decide +kernel) (by decide +kernel) ?_
          refine pq_putI (c := 3) (k := 0) (ks_re hA) (by decide) (by decide) lf_Re_59 (Or.inl rfl) (by decide +kernel) ?_
          rw [reQ_0]
          refine pw_goto (off := 72) (tgt := 305) (by decide +kernel) (by decide +kernel) ?_
          exact pq_vret rfl (by decide +kernel) ⟨rfl, congrArg (fun z => (reQ I z 0 pl (nI (sgE b n a)), L, P)) (show (30 : Int32) = nI (kSg b n a) from by simp [kSg, hba, hq1, hq2] <;> rfl)⟩
      · refine pw_tableIn (off := 161) (tgt := 236) hsw75 (by rw [e75]; decide) (by rw [e75]; decide) (by rw [e75]; decide) (by decide +kernel) ?_
        have hba := (sg_iff 61 (by decide)).mp e75
        refine pw_aload_n (k4 := 0) rfl (by decide +kernel) ?_
        refine pw_bipush (n := 32) (v := 32) (by decide) (by decide +kernel) ?_
        refine pq_putI (c := 3) (k := 0) (ks_re hA) (by decide) (by decide) lf_Re_59 (Or.inl rfl) (by decide +kernel) ?_
        rw [reQ_0]
        refine pw_goto (off := 63) (tgt := 305) (by decide +kernel) (by decide +kernel) ?_
        exact pq_vret rfl (by decide +kernel) ⟨rfl, congrArg (fun z => (reQ I z 0 pl (nI (sgE b n a)), L, P)) (show (32 : Int32) = nI (kSg b n a) from by simp [kSg, hba] <;> rfl)⟩
      · refine pw_tableIn (off := 170) (tgt := 245) hsw75 (by rw [e75]; decide) (by rw [e75]; decide) (by rw [e75]; decide) (by decide +kernel) ?_
        have hba := (sg_iff 62 (by decide)).mp e75
        refine pw_aload_n (k4 := 0) rfl (by decide +kernel) ?_
        refine pw_iload_n (k4 := 3) rfl (by decide +kernel) ?_
        refine pn_if_eq (off := 8) (tgt := 255) jn rfl (by omega) (by decide +kernel) (by decide +kernel) (fun z247 => ?_) (fun z247 => ?_)
        · have hq : ¬ sgN b n a = 61 := by unfold jnP at hJ; omega
          refine pw_bipush (n := 35) (v := 35) (by decide) (by decide +kernel) ?_
          refine pq_putI (c := 3) (k := 0) (ks_re hA) (by decide) (by decide) lf_Re_59 (Or.inl rfl) (by decide +kernel) ?_
          rw [reQ_0]
          refine pw_goto (off := 45) (tgt := 305) (by decide +kernel) (by decide +kernel) ?_
          exact pq_vret rfl (by decide +kernel) ⟨rfl, congrArg (fun z => (reQ I z 0 pl (nI (sgE b n a)), L, P)) (show (35 : Int32) = nI (kSg b n a) from by simp [kSg, hba, hq] <;> rfl)⟩
        · have hq : sgN b n a = 61 := by unfold jnP at hJ; omega
          refine pw_bipush (n := 34) (v := 34) (by decide) (by decide +kernel) ?_
          refine pw_goto (off := 5) (tgt := 257) (by decide +kernel) (by decide +kernel) ?_
          refine pq_putI (c := 3) (k := 0) (ks_re hA) (by decide) (by decide) lf_Re_59 (Or.inl rfl) (by decide +kernel) ?_
          rw [reQ_0]
          refine pw_goto (off := 45) (tgt := 305) (by decide +kernel) (by decide +kernel) ?_
          exact pq_vret rfl (by decide +kernel) ⟨rfl, congrArg (fun z => (reQ I z 0 pl (nI (sgE b n a)), L, P)) (show (34 : Int32) = nI (kSg b n a) from by simp [kSg, hba, hq] <;> rfl)⟩
  have h56 : ∀ jn : Nat, (jn = 1 ∧ jnP b n a) ∨ (jn = 0 ∧ ¬ jnP b n a) → pWn m_Re_readSign 1 sh (rV (reQ I (nI (kSg b n a)) 0 pl (nI (sgE b n a)), L, P)) 56 [some (.ref 58), some (.int (sgA b n a)), some (.int (sgA b n (a + 1))), some (.int (nI jn))] [] (reQ I kd 0 pl (nI a), L, P) := by
    intro jn hJ
    refine pw_aload_n (k4 := 0) rfl (by decide +kernel) ?_
    refine pw_dup rfl (by decide +kernel) ?_
    refine pq_getI (c := 3) (k := 5) (ks_re hA) (by decide) (by decide) lf_Re_43 (by decide +kernel) ?_
    refine pn_val (nI (a)) rfl ?_
    refine pw_iload_n (k4 := 3) rfl (by decide +kernel) ?_
    refine pn_if_eq (off := 7) (tgt := 69) jn rfl (by omega) (by decide +kernel) (by decide +kernel) (fun z62 => ?_) (fun z62 => ?_)
    · have hE : sgE b n a = a + 1 := by rw [sgE_j, if_neg (by omega)]
      refine pw_iconst (n := 1) (v := 1) (by decide) (by decide +kernel) ?_
      refine pn_iadd a 1 rfl rfl (by decide +kernel) ?_
      refine pq_putI (c := 3) (k := 5) (ks_re hA) (by decide) (by decide) lf_Re_43 (Or.inl rfl) (by decide +kernel) ?_
      rw [reQ_5]
      refine pn_memI (reQ I kd 0 pl (nI (sgE b n a))) (by rw [hE]) ?_
      exact h74 jn hJ
    · have hE : sgE b n a = a + 2 := by rw [sgE_j, if_pos (by omega)]
      refine pw_iconst (n := 2) (v := 2) (by decide) (by decide +kernel) ?_
      refine pw_goto (off := 4) (tgt := 70) (by decide +kernel) (by decide +kernel) ?_
      refine pn_iadd a 2 rfl rfl (by decide +kernel) ?_
      refine pq_putI (c := 3) (k := 5) (ks_re hA) (by decide) (by decide) lf_Re_43 (Or.inl rfl) (by decide +kernel) ?_
      rw [reQ_5]
      refine pn_memI (reQ I kd 0 pl (nI (sgE b n a))) (by rw [hE]) ?_
      exact h74 jn hJ
  refine pw_aload_n (k4 := 0) rfl (by decide +kernel) ?_
  refine pw_aload_n (k4 := 0) rfl (by decide +kernel) ?_
  refine pq_getI (c := 3) (k := 5) (ks_re hA) (by decide) (by decide) lf_Re_43 (by decide +kernel) ?_
  refine pn_val (nI (a)) rfl ?_
  refine pq_callV (ν := m_Re_signAt) (d' := 0) (av := [_]) (c := 3) (by decide +kernel) lm_Re_49 ok_Re_signAt (show _ = some 1 by decide +kernel) (ks_re hA) rfl (by decide) (by omega) (Nat.le_of_ble_eq_true rfl) (ct_Re_signAt hA (by exact hrb) (by exact hln) hn7 (by exact hb) (by exact hb2) (i := a) (by omega)) ?_
  rintro _ _ ⟨rfl, rfl⟩
  refine pq_istore_n (k4 := 1) (Nat.le_of_ble_eq_true rfl) rfl (by decide +kernel) ?_
  refine pw_aload_n (k4 := 0) rfl (by decide +kernel) ?_
  refine pw_aload_n (k4 := 0) rfl (by decide +kernel) ?_
  refine pq_getI (c := 3) (k := 5) (ks_re hA) (by decide) (by decide) lf_Re_43 (by decide +kernel) ?_
  refine pn_val (nI (a)) rfl ?_
  refine pw_iconst (n := 1) (v := 1) (by decide) (by decide +kernel) ?_
  refine pn_iadd a 1 rfl rfl (by decide +kernel) ?_
  refine pq_callV (ν := m_Re_signAt) (d' := 0) (av := [_]) (c := 3) (by decide +kernel) lm_Re_49 ok_Re_signAt (show _ = some 1 by decide +kernel) (ks_re hA) rfl (by decide) (by omega) (Nat.le_of_ble_eq_true rfl) (ct_Re_signAt hA (by exact hrb) (by exact hln) hn7 (by exact hb) (by exact hb2) (i := (a + 1)) (by omega)) ?_
  rintro _ _ ⟨rfl, rfl⟩
  refine pq_istore_n (k4 := 2) (Nat.le_of_ble_eq_true rfl) rfl (by decide +kernel) ?_
  refine pw_iload_n (k4 := 2) rfl (by decide +kernel) ?_
  refine pw_bipush (n := 61) (v := 61) (by decide) (by decide +kernel) ?_
  refine pw_icmp_ne (off := 15) (tgt := 38) (by decide +kernel) (by decide +kernel) (fun z23 => ?_) (fun z23 => ?_)
  · rw [m61] at z23
    refine pw_iload_n (k4 := 2) rfl (by decide +kernel) ?_
    refine pw_bipush (n := 62) (v := 62) (by decide) (by decide +kernel) ?_
    refine pw_icmp_ne (off := 13) (tgt := 54) (by decide +kernel) (by decide +kernel) (fun z41 => ?_) (fun z41 => ?_)
    · rw [m62] at z41
      refine pw_iconst (n := 0) (v := 0) (by decide) (by decide +kernel) ?_
      refine pq_istore_n (k4 := 3) (Nat.le_of_ble_eq_true rfl) rfl (by decide +kernel) ?_
      exact h56 0 (Or.inr ⟨rfl, by unfold jnP; omega⟩)
    · rw [m62] at z41
      refine pw_iload_n (k4 := 1) rfl (by decide +kernel) ?_
      refine pw_bipush (n := 60) (v := 60) (by decide) (by decide +kernel) ?_
      refine pw_icmp_ne (off := 7) (tgt := 54) (by decide +kernel) (by decide +kernel) (fun z47 => ?_) (fun z47 => ?_)
      · rw [k60] at z47
        refine pw_iconst (n := 0) (v := 0) (by decide) (by decide +kernel) ?_
        refine pq_istore_n (k4 := 3) (Nat.le_of_ble_eq_true rfl) rfl (by decide +kernel) ?_
        exact h56 0 (Or.inr ⟨rfl, by unfold jnP; omega⟩)
      · rw [k60] at z47
        refine pw_iconst (n := 1) (v := 1) (by decide) (by decide +kernel) ?_
        refine pw_goto (off := 4) (tgt := 55) (by decide +kernel) (by decide +kernel) ?_
        refine pq_istore_n (k4 := 3) (Nat.le_of_ble_eq_true rfl) rfl (by decide +kernel) ?_
        exact h56 1 (Or.inl ⟨rfl, by unfold jnP; omega⟩)
  · rw [m61] at z23
    refine pw_iload_n (k4 := 1) rfl (by decide +kernel) ?_
    refine pw_bipush (n := 60) (v := 60) (by decide) (by decide +kernel) ?_
    refine pw_icmp_eq (off := 21) (tgt := 50) (by decide +kernel) (by decide +kernel) (fun z29 => ?_) (fun z29 => ?_)
    · rw [k60] at z29
      refine pw_iconst (n := 1) (v := 1) (by decide) (by decide +kernel) ?_
      refine pw_goto (off := 4) (tgt := 55) (by decide +kernel) (by decide +kernel) ?_
      refine pq_istore_n (k4 := 3) (Nat.le_of_ble_eq_true rfl) rfl (by decide +kernel) ?_
      exact h56 1 (Or.inl ⟨rfl, by unfold jnP; omega⟩)
    · rw [k60] at z29
      refine pw_iload_n (k4 := 1) rfl (by decide +kernel) ?_
      refine pw_bipush (n := 62) (v := 62) (by decide) (by decide +kernel) ?_
      refine pw_icmp_eq (off := 15) (tgt := 50) (by decide +kernel) (by decide +kernel) (fun z35 => ?_) (fun z35 => ?_)
      · rw [k62] at z35
        refine pw_iconst (n := 1) (v := 1) (by decide) (by decide +kernel) ?_
        refine pw_goto (off := 4) (tgt := 55) (by decide +kernel) (by decide +kernel) ?_
        refine pq_istore_n (k4 := 3) (Nat.le_of_ble_eq_true rfl) rfl (by decide +kernel) ?_
        exact h56 1 (Or.inl ⟨rfl, by unfold jnP; omega⟩)
      · rw [k62] at z35
        refine pw_iload_n (k4 := 2) rfl (by decide +kernel) ?_
        refine pw_bipush (n := 62) (v := 62) (by decide) (by decide +kernel) ?_
        refine pw_icmp_ne (off := 13) (tgt := 54) (by decide +kernel) (by decide +kernel) (fun z41 => ?_) (fun z41 => ?_)
        · rw [m62] at z41
          refine pw_iconst (n := 0) (v := 0) (by decide) (by decide +kernel) ?_
          refine pq_istore_n (k4 := 3) (Nat.le_of_ble_eq_true rfl) rfl (by decide +kernel) ?_
          exact h56 0 (Or.inr ⟨rfl, by unfold jnP; omega⟩)
        · rw [m62] at z41
          refine pw_iload_n (k4 := 1) rfl (by decide +kernel) ?_
          refine pw_bipush (n := 60) (v := 60) (by decide) (by decide +kernel) ?_
          refine pw_icmp_ne (off := 7) (tgt := 54) (by decide +kernel) (by decide +kernel) (fun z47 => ?_) (fun z47 => ?_)
          · rw [k60] at z47
            refine pw_iconst (n := 0) (v := 0) (by decide) (by decide +kernel) ?_
            refine pq_istore_n (k4 := 3) (Nat.le_of_ble_eq_true rfl) rfl (by decide +kernel) ?_
            exact h56 0 (Or.inr ⟨rfl, by unfold jnP; omega⟩)
          · rw [k60] at z47
            refine pw_iconst (n := 1) (v := 1) (by decide) (by decide +kernel) ?_
            refine pw_goto (off := 4) (tgt := 55) (by decide +kernel) (by decide +kernel) ?_
            refine pq_istore_n (k4 := 3) (Nat.le_of_ble_eq_true rfl) rfl (by decide +kernel) ?_
            exact h56 1 (Or.inl ⟨rfl, by unfold jnP; omega⟩)

