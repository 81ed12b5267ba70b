def kSg (b : Nat → Nat) (n a : Nat) : Nat := if b a = 59 then 27 else if b a = 40 then 28 else if b a = 41 then 29 else if b a = 60 then (if sgN b n a = 61 then 31 else if sgN b n a = 62 then 33 else 30) else if b a = 61 then 32 else if b a = 62 then (if sgN b n a = 61 then 34 else 35) else if b a = 43 then 36 else if b a = 45 then 37 else if b a = 42 then 38 else if b a = 47 then 39 else 41
abbrev jnP (b : Nat → Nat) (n a : Nat) : Prop := (b a = 60 ∧ (sgN b n a = 61 ∨ sgN b n a = 62)) ∨ (b a = 62 ∧ sgN b n a = 61)
theorem sgE_j (b : Nat → Nat) (n a : Nat) : sgE b n a = if jnP b n a then a + 2 else a + 1 := by
  unfold sgE
  by_cases z : jnP b n a
  · rw [if_pos z, if_pos]
    unfold jnP at z
    unfold sgC sgQ sgU
    omega
  · rw [if_neg z, if_neg]
    unfold jnP at z
    unfold sgC sgQ sgU
    omega
theorem sgA_2 {b : Nat → Nat} {n a c : Nat} (hb2 : ∀ k, k < n → b k < 256) (hc : c < 128) (h0 : c ≠ 0) : sgA b n (a + 1) = nI c ↔ sgN b n a = c := by
  unfold sgA sgN
  by_cases z : a + 1 < n
  · rw [if_pos z, if_pos z]
    exact sg_eq hc (hb2 _ z)
  · rw [if_neg z, if_neg z]
    exact ⟨fun q => absurd ((nI_eq (by decide) (by omega)).mp q) (Ne.symm h0), fun q => absurd q (Ne.symm h0)⟩
theorem sw_no {c : Nat} (h1 : 40 ≤ c) (h2 : c ≤ 62) (z : (nI c).toInt < 40 ∨ 62 < (nI c).toInt) : False := by
  rw [nI_toInt (by omega)] at z
  omega
set_option maxHeartbeats 8000000 in
theorem ct_Re_readSign {sh : List pSh} {I : Nat → Nat → Int32} {L : Nat → Nat → Int64} {P : Nat → Nat → Option Nat} (hA : kA sh P) (hrb : P 58 3 = some 2) {n : Nat} (hln : I 58 4 = nI n) (hn7 : n ≤ 700) {b : Nat → Nat} (hb : ∀ k, k < n → I 2 k = sgB (b k)) (hb2 : ∀ k, k < n → b k < 256) {a : Nat} (han : a < n) (kd pl : Int32) : pCn m_Re_readSign 1 [.ref 58, .int (sgA b n a), .int (sgA b n (a + 1))] sh (reQ I kd 0 pl (nI a), L, P) (rV (reQ I (nI (kSg b n a)) 0 pl (nI (sgE b n a)), L, P)) := by
  refine pCn_of (by decide +kernel) (Nat.le_of_ble_eq_true rfl) ?_
  have sg_iff : ∀ c, c < 128 → (sgA b n a = nI c ↔ b a = c) := fun c hc => by
    rw [show sgA b n a = sgB (b a) from if_pos han]
    exact sg_eq hc (hb2 a han)
  have k60 : sgA b n a = 60 ↔ b a = 60 := sg_iff 60 (by decide)
  have k62 : sgA b n a = 62 ↔ b a = 62 := sg_iff 62 (by decide)
  have m61 : sgA b n (a + 1) = 61 ↔ sgN b n a = 61 := sgA_2 (c := 61) hb2 (by decide) (by decide)
  have m62 : sgA b n (a + 1) = 62 ↔ sgN b n a = 62 := sgA_2 (c := 62) hb2 (by decide) (by decide)
  have h54 : ∀ jn : Nat, (jn = 1 ∧ jnP b n a) ∨ (jn = 0 ∧ ¬ jnP b n a) → pWn m_Re_readSign 1 sh (rV (reQ I (nI (kSg b n a)) 0 pl (nI (sgE b n a)), L, P)) 54 [some (.ref 58), some (.int (sgA b n a)), some (.int (sgA b n (a + 1))), some (.int (nI jn))] [] (reQ I kd 0 pl (nI (sgE b n a)), L, P) := by
    intro jn hJ
    refine pw_iload_n (k4 := 1) rfl (by decide +kernel) ?_
    have hsw55 : decode m_Re_readSign.2.1 55 = .ok (.tableswitch 224 40 62 #[114, 123, 206, 188, 224, 197, 224, 215, 224, 224, 224, 224, 224, 224, 224, 224, 224, 224, 224, 105, 132, 161, 170], 105) := by decide +kernel
    rcases swIn (sgA b n a) 40 62 (by decide) (by decide) with z55 | ⟨j55, z55, y55, e55⟩
    · refine pw_tableOut (tgt := 279) hsw55 z55 (by decide +kernel) ?_
      have hno : ∀ c, 40 ≤ c → c ≤ 62 → ¬ b a = c := fun c c1 c2 q => by
        rw [(sg_iff c (by omega)).mpr q] at z55
        exact sw_no c1 c2 z55
      refine pw_aload_n (k4 := 0) rfl (by decide +kernel) ?_
      refine pw_bipush (n := 41) (v := 41) (by decide) (by decide +kernel) ?_
      refine pq_putI (c := 3) (k := 0) (ks_re hA) (by decide) (by decide) lf_Re_55 (Or.inl rfl) (by decide +kernel) ?_
      rw [reQ_0]
      exact pq_vret rfl (by decide +kernel) ⟨rfl, congrArg (fun z => (reQ I z 0 pl (nI (sgE b n a)), L, P)) (show (41 : Int32) = nI (kSg b n a) from by simp [kSg, hno] <;> rfl)⟩
    · rcases (show j55 = 40 ∨ j55 = 41 ∨ j55 = 42 ∨ j55 = 43 ∨ j55 = 44 ∨ j55 = 45 ∨ j55 = 46 ∨ j55 = 47 ∨ j55 = 48 ∨ j55 = 49 ∨ j55 = 50 ∨ j55 = 51 ∨ j55 = 52 ∨ j55 = 53 ∨ j55 = 54 ∨ j55 = 55 ∨ j55 = 56 ∨ j55 = 57 ∨ j55 = 58 ∨ j55 = 59 ∨ j55 = 60 ∨ j55 = 61 ∨ j55 = 62 by omega) with rfl | rfl | rfl | rfl | rfl | rfl | rfl | rfl | rfl | rfl | rfl | rfl | rfl | rfl | rfl | rfl | rfl | rfl | rfl | rfl | rfl | rfl | rfl
      · refine pw_tableIn (off := 114) (tgt := 169) hsw55 (by rw [e55]; decide) (by rw [e55]; decide) (by rw [e55]; decide) (by decide +kernel) ?_
        have hba := (sg_iff 40 (by decide)).mp e55
        refine pw_aload_n (k4 := 0) rfl (by decide +kernel) ?_
        refine pw_bipush (n := 28) (v := 28) (by decide) (by decide +kernel) ?_
        refine pq_putI (c := 3) (k := 0) (ks_re hA) (by decide) (by decide) lf_Re_55 (Or.inl rfl) (by decide +kernel) ?_
        rw [reQ_0]
        refine pw_goto (off := 110) (tgt := 285) (by decide +kernel) (by decide +kernel) ?_
        exact pq_vret rfl (by decide +kernel) ⟨rfl, congrArg (fun z => (reQ I z 0 pl (nI (sgE b n a)), L, P)) (show (28 : Int32) = nI (kSg b n a) from by simp [kSg, hba] <;> rfl)⟩
      · refine pw_tableIn (off := 123) (tgt := 178) hsw55 (by rw [e55]; decide) (by rw [e55]; decide) (by rw [e55]; decide) (by decide +kernel) ?_
        have hba := (sg_iff 41 (by decide)).mp e55
        refine pw_aload_n (k4 := 0) rfl (by decide +kernel) ?_
        refine pw_bipush (n := 29) (v := 29) (by decide) (by decide +kernel) ?_
        refine pq_putI (c := 3) (k := 0) (ks_re hA) (by decide) (by decide) lf_Re_55 (Or.inl rfl) (by decide +kernel) ?_
        rw [reQ_0]
        refine pw_goto (off := 101) (tgt := 285) (by decide +kernel) (by decide +kernel) ?_
        exact pq_vret rfl (by decide +kernel) ⟨rfl, congrArg (fun z => (reQ I z 0 pl (nI (sgE b n a)), L, P)) (show (29 : Int32) = nI (kSg b n a) from by simp [kSg, hba] <;> rfl)⟩
      · refine pw_tableIn (off := 206) (tgt := 261) hsw55 (by rw [e55]; decide) (by rw [e55]; decide) (by rw [e55]; decide) (by decide +kernel) ?_
        have hba := (sg_iff 42 (by decide)).mp e55
        refine pw_aload_n (k4 := 0) rfl (by decide +kernel) ?_
        refine pw_bipush (n := 38) (v := 38) (by decide) (by decide +kernel) ?_
        refine pq_putI (c := 3) (k := 0) (ks_re hA) (by decide) (by decide) lf_Re_55 (Or.inl rfl) (by decide +kernel) ?_
        rw [reQ_0]
        refine pw_goto (off := 18) (tgt := 285) (by decide +kernel) (by decide +kernel) ?_
        exact pq_vret rfl (by decide +kernel) ⟨rfl, congrArg (fun z => (reQ I z 0 pl (nI (sgE b n a)), L, P)) (show (38 : Int32) = nI (kSg b n a) from by simp [kSg, hba] <;> rfl)⟩
      · refine pw_tableIn (off := 188) (tgt := 243) hsw55 (by rw [e55]; decide) (by rw [e55]; decide) (by rw [e55]; decide) (by decide +kernel) ?_
        have hba := (sg_iff 43 (by decide)).mp e55
        refine pw_aload_n (k4 := 0) rfl (by decide +kernel) ?_
        refine pw_bipush (n := 36) (v := 36) (by decide) (by decide +kernel) ?_
        refine pq_putI (c := 3) (k := 0) (ks_re hA) (by decide) (by decide) lf_Re_55 (Or.inl rfl) (by decide +kernel) ?_
        rw [reQ_0]
        refine pw_goto (off := 36) (tgt := 285) (by decide +kernel) (by decide +kernel) ?_
        exact pq_vret rfl (by decide +kernel) ⟨rfl, congrArg (fun z => (reQ I z 0 pl (nI (sgE b n a)), L, P)) (show (36 : Int32) = nI (kSg b n a) from by simp [kSg, hba] <;> rfl)⟩
      · refine pw_tableIn (off := 224) (tgt := 279) hsw55 (by rw [e55]; decide) (by rw [e55]; decide) (by rw [e55]; decide) (by decide +kernel) ?_
        have hba := (sg_iff 44 (by decide)).mp e55
        refine pw_aload_n (k4 := 0) rfl (by decide +kernel) ?_
        refine pw_bipush (n := 41) (v := 41) (by decide) (by decide +kernel) ?_
        refine pq_putI (c := 3) (k := 0) (ks_re hA) (by decide) (by decide) lf_Re_55 (Or.inl rfl) (by decide +kernel) ?_
        rw [reQ_0]
        exact pq_vret rfl (by decide +kernel) ⟨rfl, congrArg (fun z => (reQ I z 0 pl (nI (sgE b n a)), L, P)) (show (41 : Int32) = nI (kSg b n a) from by simp [kSg, hba] <;> rfl)⟩
      · refine pw_tableIn (off := 197) (tgt := 252) hsw55 (by rw [e55]; decide) (by rw [e55]; decide) (by rw [e55]; decide) (by decide +kernel) ?_
        have hba := (sg_iff 45 (by decide)).mp e55
        refine pw_aload_n (k4 := 0) rfl (by decide +kernel) ?_
        refine pw_bipush (n := 37) (v := 37) (by decide) (by decide +kernel) ?_
        refine pq_putI (c := 3) (k := 0) (ks_re hA) (by decide) (by decide) lf_Re_55 (Or.inl rfl) (by decide +kernel) ?_
        rw [reQ_0]
        refine pw_goto (off := 27) (tgt := 285) (by decide +kernel) (by decide +kernel) ?_
        exact pq_vret rfl (by decide +kernel) ⟨rfl, congrArg (fun z => (reQ I z 0 pl (nI (sgE b n a)), L, P)) (show (37 : Int32) = nI (kSg b n a) from by simp [kSg, hba] <;> rfl)⟩
      · refine pw_tableIn (off := 224) (tgt := 279) hsw55 (by rw [e55]; decide) (by rw [e55]; decide) (by rw [e55]; decide) (by decide +kernel) ?_
        have hba := (sg_iff 46 (by decide)).mp e55
        refine pw_aload_n (k4 := 0) rfl (by decide +kernel) ?_
        refine pw_bipush (n := 41) (v := 41) (by decide) (by decide +kernel) ?_
        refine pq_putI (c := 3) (k := 0) (ks_re hA) (by decide) (by decide) lf_Re_55 (Or.inl rfl) (by decide +kernel) ?_
        rw [reQ_0]
        exact pq_vret rfl (by decide +kernel) ⟨rfl, congrArg (fun z => (reQ I z 0 pl (nI (sgE b n a)), L, P)) (show (41 : Int32) = nI (kSg b n a) from by simp [kSg, hba] <;> rfl)⟩
      · refine pw_tableIn (off := 215) (tgt := 270) hsw55 (by rw [e55]; decide) (by rw [e55]; decide) (by rw [e55]; decide) (by decide +kernel) ?_
        have hba := (sg_iff 47 (by decide)).mp e55
        refine pw_aload_n (k4 := 0) rfl (by decide +kernel) ?_
        refine pw_bipush (n := 39) (v := 39) (by decide) (by decide +kernel) ?_
        refine pq_putI (c := 3) (k := 0) (ks_re hA) (by decide) (by decide) lf_Re_55 (Or.inl rfl) (by decide +kernel) ?_
        rw [reQ_0]
        refine pw_goto (off := 9) (tgt := 285) (by decide +kernel) (by decide +kernel) ?_
        exact pq_vret rfl (by decide +kernel) ⟨rfl, congrArg (fun z => (reQ I z 0 pl (nI (sgE b n a)), L, P)) (show (39 : Int32) = nI (kSg b n a) from by simp [kSg, hba] <;> rfl)⟩
      · refine pw_tableIn (off := 224) (tgt := 279) hsw55 (by rw [e55]; decide) (by rw [e55]; decide) (by rw [e55]; decide) (by decide +kernel) ?_
        have hba := (sg_iff 48 (by decide)).mp e55
        refine pw_aload_n (k4 := 0) rfl (by decide +kernel) ?_
        refine pw_bipush (n := 41) (v := 41) (by decide) (by decide +kernel) ?_
        refine pq_putI (c := 3) (k := 0) (ks_re hA) (by decide) (by decide) lf_Re_55 (Or.inl rfl) (by decide +kernel) ?_
        rw [reQ_0]
        exact pq_vret rfl (by decide +kernel) ⟨rfl, congrArg (fun z => (reQ I z 0 pl (nI (sgE b n a)), L, P)) (show (41 : Int32) = nI (kSg b n a) from by simp [kSg, hba] <;> rfl)⟩
      · refine pw_tableIn (off := 224) (tgt := 279) hsw55 (by rw [e55]; decide) (by rw [e55]; decide) (by rw [e55]; decide) (by decide +kernel) ?_
        have hba := (sg_iff 49 (by decide)).mp e55
        refine pw_aload_n (k4 := 0) rfl (by decide +kernel) ?_
        refine pw_bipush (n := 41) (v := 41) (by decide) (by decide +kernel) ?_
        refine pq_putI (c := 3) (k := 0) (ks_re hA) (by decide) (by decide) lf_Re_55 (Or.inl rfl) (by decide +kernel) ?_
        rw [reQ_0]
        exact pq_vret rfl (by decide +kernel) ⟨rfl, congrArg (fun z => (reQ I z 0 pl (nI (sgE b n a)), L, P)) (show (41 : Int32) = nI (kSg b n a) from by simp [kSg, hba] <;> rfl)⟩
      · refine pw_tableIn (off := 224) (tgt := 279) hsw55 (by rw [e55]; decide) (by rw [e55]; decide) (by rw [e55]; decide) (by decide +kernel) ?_
        have hba := (sg_iff 50 (by decide)).mp e55
        refine pw_aload_n (k4 := 0) rfl (by decide +kernel) ?_
        refine pw_bipush (n := 41) (v := 41) (by decide) (by decide +kernel) ?_
        refine pq_putI (c := 3) (k := 0) (ks_re hA) (by decide) (by decide) lf_Re_55 (Or.inl rfl) (by decide +kernel) ?_
        rw [reQ_0]
        exact pq_vret rfl (by decide +kernel) ⟨rfl, congrArg (fun z => (reQ I z 0 pl (nI (sgE b n a)), L, P)) (show (41 : Int32) = nI (kSg b n a) from by simp [kSg, hba] <;> rfl)⟩
      · refine pw_tableIn (off := 224) (tgt := 279) hsw55 (by rw [e55]; decide) (by rw [e55]; decide) (by rw [e55]; decide) (by decide +kernel) ?_
        have hba := (sg_iff 51 (by decide)).mp e55
        refine pw_aload_n (k4 := 0) rfl (by decide +kernel) ?_
        refine pw_bipush (n := 41) (v := 41) (by decide) (by decide +kernel) ?_
        refine pq_putI (c := 3) (k := 0) (ks_re hA) (by decide) (by decide) lf_Re_55 (Or.inl rfl) (by decide +kernel) ?_
        rw [reQ_0]
        exact pq_vret rfl (by decide +kernel) ⟨rfl, congrArg (fun z => (reQ I z 0 pl (nI (sgE b n a)), L, P)) (show (41 : Int32) = nI (kSg b n a) from by simp [kSg, hba] <;> rfl)⟩
      · refine pw_tableIn (off := 224) (tgt := 279) hsw55 (by rw [e55]; decide) (by rw [e55]; decide) (by rw [e55]; decide) (by decide +kernel) ?_
        have hba := (sg_iff 52 (by decide)).mp e55
        refine pw_aload_n (k4 := 0) rfl (by decide +kernel) ?_
        refine pw_bipush (n := 41) (v := 41) (by decide) (by decide +kernel) ?_
        refine pq_putI (c := 3) (k := 0) (ks_re hA) (by decide) (by decide) lf_Re_55 (Or.inl rfl) (by decide +kernel) ?_
        rw [reQ_0]
        exact pq_vret rfl (by decide +kernel) ⟨rfl, congrArg (fun z => (reQ I z 0 pl (nI (sgE b n a)), L, P)) (show (41 : Int32) = nI (kSg b n a) from by simp [kSg, hba] <;> rfl)⟩
      · refine pw_tableIn (off := 224) (tgt := 279) hsw55 (by rw [e55]; decide) (by rw [e55]; decide) (by rw [e55]; decide) (by decide +kernel) ?_
        have hba := (sg_iff 53 (by decide)).mp e55
        refine pw_aload_n (k4 := 0) rfl (by decide +kernel) ?_
        refine pw_bipush (n := 41) (v := 41) (by decide) (by decide +kernel) ?_
        refine pq_putI (c := 3) (k := 0) (ks_re hA) (by decide) (by decide) lf_Re_55 (Or.inl rfl) (by decide +kernel) ?_
        rw [reQ_0]
        exact pq_vret rfl (by decide +kernel) ⟨rfl, congrArg (fun z => (reQ I z 0 pl (nI (sgE b n a)), L, P)) (show (41 : Int32) = nI (kSg b n a) from by simp [kSg, hba] <;> rfl)⟩
      · refine pw_tableIn (off := 224) (tgt := 279) hsw55 (by rw [e55]; decide) (by rw [e55]; decide) (by rw [e55]; decide) (by decide +kernel) ?_
        have hba := (sg_iff 54 (by decide)).mp e55
        refine pw_aload_n (k4 := 0) rfl (by decide +kernel) ?_
        refine pw_bipush (n := 41) (v := 41) (by decide) (by decide +kernel) ?_
        refine pq_putI (c := 3) (k := 0) (ks_re hA) (by decide) (by decide) lf_Re_55 (Or.inl rfl) (by decide +kernel) ?_
        rw [reQ_0]
        exact pq_vret rfl (by decide +kernel) ⟨rfl, congrArg (fun z => (reQ I z 0 pl (nI (sgE b n a)), L, P)) (show (41 : Int32) = nI (kSg b n a) from by simp [kSg, hba] <;> rfl)⟩
      · refine pw_tableIn (off := 224) (tgt := 279) hsw55 (by rw [e55]; decide) (by rw [e55]; decide) (by rw [e55]; decide) (by decide +kernel) ?_
        have hba := (sg_iff 55 (by decide)).mp e55
        refine pw_aload_n (k4 := 0) rfl (by decide +kernel) ?_
        refine pw_bipush (n := 41) (v := 41) (by decide) (by decide +kernel) ?_
        refine pq_putI (c := 3) (k := 0) (ks_re hA) (by decide) (by decide) lf_Re_55 (Or.inl rfl) (by decide +kernel) ?_
        rw [reQ_0]
        exact pq_vret rfl (by decide +kernel) ⟨rfl, congrArg (fun z => (reQ I z 0 pl (nI (sgE b n a)), L, P)) (show (41 : Int32) = nI (kSg b n a) from by simp [kSg, hba] <;> rfl)⟩
      · refine pw_tableIn (off := 224) (tgt := 279) hsw55 (by rw [e55]; decide) (by rw [e55]; decide) (by rw [e55]; decide) (by decide +kernel) ?_
        have hba := (sg_iff 56 (by decide)).mp e55
        refine pw_aload_n (k4 := 0) rfl (by decide +kernel) ?_
        refine pw_bipush (n := 41) (v := 41) (by decide) (by decide +kernel) ?_
        refine pq_putI (c := 3) (k := 0) (ks_re hA) (by decide) (by decide) lf_Re_55 (Or.inl rfl) (by decide +kernel) ?_
        rw [reQ_0]
        exact pq_vret rfl (by decide +kernel) ⟨rfl, congrArg (fun z => (reQ I z 0 pl (nI (sgE b n a)), L, P)) (show (41 : Int32) = nI (kSg b n a) from by simp [kSg, hba] <;> rfl)⟩
      · refine pw_tableIn (off := 224) (tgt := 279) hsw55 (by rw [e55]; decide) (by rw [e55]; decide) (by rw [e55]; decide) (by decide +kernel) ?_
        have hba := (sg_iff 57 (by decide)).mp e55
        refine pw_aload_n (k4 := 0) rfl (by decide +kernel) ?_
        refine pw_bipush (n := 41) (v := 41) (by decide) (by decide +kernel) ?_
        refine pq_putI (c := 3) (k := 0) (ks_re hA) (by decide) (by decide) lf_Re_55 (Or.inl rfl) (by decide +kernel) ?_
        rw [reQ_0]
        exact pq_vret rfl (by decide +kernel) ⟨rfl, congrArg (fun z => (reQ I z 0 pl (nI (sgE b n a)), L, P)) (show (41 : Int32) = nI (kSg b n a) from by simp [kSg, hba] <;> rfl)⟩
      · refine pw_tableIn (off := 224) (tgt := 279) hsw55 (by rw [e55]; decide) (by rw [e55]; decide) (by rw [e55]; decide) (by decide +kernel) ?_
        have hba := (sg_iff 58 (by decide)).mp e55
        refine pw_aload_n (k4 := 0) rfl (by decide +kernel) ?_
        refine pw_bipush (n := 41) (v := 41) (by decide) (by decide +kernel) ?_
        refine pq_putI (c := 3) (k := 0) (ks_re hA) (by decide) (by decide) lf_Re_55 (Or.inl rfl) (by decide +kernel) ?_
        rw [reQ_0]
        exact pq_vret rfl (by decide +kernel) ⟨rfl, congrArg (fun z => (reQ I z 0 pl (nI (sgE b n a)), L, P)) (show (41 : Int32) = nI (kSg b n a) from by simp [kSg, hba] <;> rfl)⟩
      · refine pw_tableIn (off := 105) (tgt := 160) hsw55 (by rw [e55]; decide) (by rw [e55]; decide) (by rw [e55]; decide) (by decide +kernel) ?_
        have hba := (sg_iff 59 (by decide)).mp e55
        refine pw_aload_n (k4 := 0) rfl (by decide +kernel) ?_
        refine pw_bipush (n := 27) (v := 27) (by decide) (by decide +kernel) ?_
        refine pq_putI (c := 3) (k := 0) (ks_re hA) (by decide) (by decide) lf_Re_55 (Or.inl rfl) (by decide +kernel) ?_
        rw [reQ_0]
        refine pw_goto (off := 119) (tgt := 285) (by decide +kernel) (by decide +kernel) ?_
        exact pq_vret rfl (by decide +kernel) ⟨rfl, congrArg (fun z => (reQ I z 0 pl (nI (sgE b n a)), L, P)) (show (27 : Int32) = nI (kSg b n a) from by simp [kSg, hba] <;> rfl)⟩
      · refine pw_tableIn (off := 132) (tgt := 187) hsw55 (by rw [e55]; decide) (by rw [e55]; decide) (by rw [e55]; decide) (by decide +kernel) ?_
        have hba := (sg_iff 60 (by decide)).mp e55
        refine pw_aload_n (k4 := 0) rfl (by decide +kernel) ?_
        refine pw_iload_n (k4 := 3) rfl (by decide +kernel) ?_
        refine pn_if_ne (off := 8) (tgt := 197) jn rfl (by omega) (by decide +kernel) (by decide +kernel) (fun z189 => ?_) (fun z189 => ?_)
        · have hq : sgN b n a = 61 ∨ sgN b n a = 62 := by unfold jnP at hJ; omega
          refine pw_iload_n (k4 := 2) rfl (by decide +kernel) ?_
          refine pw_bipush (n := 61) (v := 61) (by decide) (by decide +kernel) ?_
          refine pw_icmp_ne (off := 8) (tgt := 208) (by decide +kernel) (by decide +kernel) (fun z200 => ?_) (fun z200 => ?_)
          · rw [m61] at z200
            have hq2 : sgN b n a = 62 := by omega
            have hq : ¬ sgN b n a = 61 := z200
            refine pw_bipush (n := 33) (v := 33) (by decide) (by decide +kernel) ?_
            refine pq_putI (c := 3) (k := 0) (ks_re hA) (by decide) (by decide) lf_Re_55 (Or.inl rfl) (by decide +kernel) ?_
            rw [reQ_0]
            refine pw_goto (off := 72) (tgt := 285) (by decide +kernel) (by decide +kernel) ?_
            exact pq_vret rfl (by decide +kernel) ⟨rfl, congrArg (fun z => (reQ I z 0 pl (nI (sgE b n a)), L, P)) (show (33 : Int32) = nI (kSg b n a) from by simp [kSg, hba, hq, hq2] <;> rfl)⟩
          · rw [m61] at z200
            have hq : sgN b n a = 61 := z200
            refine pw_bipush (n := 31) (v := 31) (by decide) (by decide +kernel) ?_
            refine pw_goto (off := 5) (tgt := 210) (by decide +kernel) (by decide +kernel) ?_
            refine pq_putI (c := 3) (k := 0) (ks_re hA) (by decide) (by decide) lf_Re_55 (Or.inl rfl) (by decide +kernel) ?_
            rw [reQ_0]
            refine pw_goto (off := 72) (tgt := 285) (by decide +kernel) (by decide +kernel) ?_
            exact pq_vret rfl (by decide +kernel) ⟨rfl, congrArg (fun z => (reQ I z 0 pl (nI (sgE b n a)), L, P)) (show (31 : Int32) = nI (kSg b n a) from by simp [kSg, hba, hq] <;> rfl)⟩
        · have hq1 : ¬ sgN b n a = 61 := by unfold jnP at hJ; omega
          have hq2 : ¬ sgN b n a = 62 := by unfold jnP at hJ; omega
          refine pw_bipush (n := 30) (v := 30) (by decide) (by decide +kernel) ?_
          refine pw_goto (off := 16) (tgt := 210) (by decide +kernel) (by decide +kernel) ?_
          refine pq_putI (c := 3) (k := 0) (ks_re hA) (by decide) (by decide) lf_Re_55 (Or.inl rfl) (by decide +kernel) ?_
          rw [reQ_0]
          refine pw_goto (off := 72) (tgt := 285) (by decide +kernel) (by decide +kernel) ?_
          exact pq_vret rfl (by decide +kernel) ⟨rfl, congrArg (fun z => (reQ I z 0 pl (nI (sgE b n a)), L, P)) (show (30 : Int32) = nI (kSg b n a) from by simp [kSg, hba, hq1, hq2] <;> rfl)⟩
      · refine pw_tableIn (off := 161) (tgt := 216) hsw55 (by rw [e55]; decide) (by rw [e55]; decide) (by rw [e55]; decide) (by decide +kernel) ?_
        have hba := (sg_iff 61 (by decide)).mp e55
        refine pw_aload_n (k4 := 0) rfl (by decide +kernel) ?_
        refine pw_bipush (n := 32) (v := 32) (by decide) (by decide +kernel) ?_
        refine pq_putI (c := 3) (k := 0) (ks_re hA) (by decide) (by decide) lf_Re_55 (Or.inl rfl) (by decide +kernel) ?_
        rw [reQ_0]
        refine pw_goto (off := 63) (tgt := 285) (by decide +kernel) (by decide +kernel) ?_
        exact pq_vret rfl (by decide +kernel) ⟨rfl, congrArg (fun z => (reQ I z 0 pl (nI (sgE b n a)), L, P)) (show (32 : Int32) = nI (kSg b n a) from by simp [kSg, hba] <;> rfl)⟩
      · refine pw_tableIn (off := 170) (tgt := 225) hsw55 (by rw [e55]; decide) (by rw [e55]; decide) (by rw [e55]; decide) (by decide +kernel) ?_
        have hba := (sg_iff 62 (by decide)).mp e55
        refine pw_aload_n (k4 := 0) rfl (by decide +kernel) ?_
        refine pw_iload_n (k4 := 3) rfl (by decide +kernel) ?_
        refine pn_if_eq (off := 8) (tgt := 235) jn rfl (by omega) (by decide +kernel) (by decide +kernel) (fun z227 => ?_) (fun z227 => ?_)
        · have hq : ¬ sgN b n a = 61 := by unfold jnP at hJ; omega
          refine pw_bipush (n := 35) (v := 35) (by decide) (by decide +kernel) ?_
          refine pq_putI (c := 3) (k := 0) (ks_re hA) (by decide) (by decide) lf_Re_55 (Or.inl rfl) (by decide +kernel) ?_
          rw [reQ_0]
          refine pw_goto (off := 45) (tgt := 285) (by decide +kernel) (by decide +kernel) ?_
          exact pq_vret rfl (by decide +kernel) ⟨rfl, congrArg (fun z => (reQ I z 0 pl (nI (sgE b n a)), L, P)) (show (35 : Int32) = nI (kSg b n a) from by simp [kSg, hba, hq] <;> rfl)⟩
        · have hq : sgN b n a = 61 := by unfold jnP at hJ; omega
          refine pw_bipush (n := 34) (v := 34) (by decide) (by decide +kernel) ?_
          refine pw_goto (off := 5) (tgt := 237) (by decide +kernel) (by decide +kernel) ?_
          refine pq_putI (c := 3) (k := 0) (ks_re hA) (by decide) (by decide) lf_Re_55 (Or.inl rfl) (by decide +kernel) ?_
          rw [reQ_0]
          refine pw_goto (off := 45) (tgt := 285) (by decide +kernel) (by decide +kernel) ?_
          exact pq_vret rfl (by decide +kernel) ⟨rfl, congrArg (fun z => (reQ I z 0 pl (nI (sgE b n a)), L, P)) (show (34 : Int32) = nI (kSg b n a) from by simp [kSg, hba, hq] <;> rfl)⟩
  have h36 : ∀ jn : Nat, (jn = 1 ∧ jnP b n a) ∨ (jn = 0 ∧ ¬ jnP b n a) → pWn m_Re_readSign 1 sh (rV (reQ I (nI (kSg b n a)) 0 pl (nI (sgE b n a)), L, P)) 36 [some (.ref 58), some (.int (sgA b n a)), some (.int (sgA b n (a + 1))), some (.int (nI jn))] [] (reQ I kd 0 pl (nI a), L, P) := by
    intro jn hJ
    refine pw_aload_n (k4 := 0) rfl (by decide +kernel) ?_
    refine pw_dup rfl (by decide +kernel) ?_
    refine pq_getI (c := 3) (k := 5) (ks_re hA) (by decide) (by decide) lf_Re_43 (by decide +kernel) ?_
    refine pn_val (nI (a)) rfl ?_
    refine pw_iload_n (k4 := 3) rfl (by decide +kernel) ?_
    refine pn_if_eq (off := 7) (tgt := 49) jn rfl (by omega) (by decide +kernel) (by decide +kernel) (fun z42 => ?_) (fun z42 => ?_)
    · have hE : sgE b n a = a + 1 := by rw [sgE_j, if_neg (by omega)]
      refine pw_iconst (n := 1) (v := 1) (by decide) (by decide +kernel) ?_
      refine pn_iadd a 1 rfl rfl (by decide +kernel) ?_
      refine pq_putI (c := 3) (k := 5) (ks_re hA) (by decide) (by decide) lf_Re_43 (Or.inl rfl) (by decide +kernel) ?_
      rw [reQ_5]
      refine pn_memI (reQ I kd 0 pl (nI (sgE b n a))) (by rw [hE]) ?_
      exact h54 jn hJ
    · have hE : sgE b n a = a + 2 := by rw [sgE_j, if_pos (by omega)]
      refine pw_iconst (n := 2) (v := 2) (by decide) (by decide +kernel) ?_
      refine pw_goto (off := 4) (tgt := 50) (by decide +kernel) (by decide +kernel) ?_
      refine pn_iadd a 2 rfl rfl (by decide +kernel) ?_
      refine pq_putI (c := 3) (k := 5) (ks_re hA) (by decide) (by decide) lf_Re_43 (Or.inl rfl) (by decide +kernel) ?_
      rw [reQ_5]
      refine pn_memI (reQ I kd 0 pl (nI (sgE b n a))) (by rw [hE]) ?_
      exact h54 jn hJ
  refine pw_iload_n (k4 := 2) rfl (by decide +kernel) ?_
  refine pw_bipush (n := 61) (v := 61) (by decide) (by decide +kernel) ?_
  refine pw_icmp_ne (off := 15) (tgt := 18) (by decide +kernel) (by decide +kernel) (fun z3 => ?_) (fun z3 => ?_)
  · rw [m61] at z3
    refine pw_iload_n (k4 := 2) rfl (by decide +kernel) ?_
    refine pw_bipush (n := 62) (v := 62) (by decide) (by decide +kernel) ?_
    refine pw_icmp_ne (off := 13) (tgt := 34) (by decide +kernel) (by decide +kernel) (fun z21 => ?_) (fun z21 => ?_)
    · rw [m62] at z21
      refine pw_iconst (n := 0) (v := 0) (by decide) (by decide +kernel) ?_
      refine pq_istore_n (k4 := 3) (Nat.le_of_ble_eq_true rfl) rfl (by decide +kernel) ?_
      exact h36 0 (Or.inr ⟨rfl, by unfold jnP; omega⟩)
    · rw [m62] at z21
      refine pw_iload_n (k4 := 1) rfl (by decide +kernel) ?_
      refine pw_bipush (n := 60) (v := 60) (by decide) (by decide +kernel) ?_
      refine pw_icmp_ne (off := 7) (tgt := 34) (by decide +kernel) (by decide +kernel) (fun z27 => ?_) (fun z27 => ?_)
      · rw [k60] at z27
        refine pw_iconst (n := 0) (v := 0) (by decide) (by decide +kernel) ?_
        refine pq_istore_n (k4 := 3) (Nat.le_of_ble_eq_true rfl) rfl (by decide +kernel) ?_
        exact h36 0 (Or.inr ⟨rfl, by unfold jnP; omega⟩)
      · rw [k60] at z27
        refine pw_iconst (n := 1) (v := 1) (by decide) (by decide +kernel) ?_
        refine pw_goto (off := 4) (tgt := 35) (by decide +kernel) (by decide +kernel) ?_
        refine pq_istore_n (k4 := 3) (Nat.le_of_ble_eq_true rfl) rfl (by decide +kernel) ?_
        exact h36 1 (Or.inl ⟨rfl, by unfold jnP; omega⟩)
  · rw [m61] at z3
    refine pw_iload_n (k4 := 1) rfl (by decide +kernel) ?_
    refine pw_bipush (n := 60) (v := 60) (by decide) (by decide +kernel) ?_
    refine pw_icmp_eq (off := 21) (tgt := 30) (by decide +kernel) (by decide +kernel) (fun z9 => ?_) (fun z9 => ?_)
    · rw [k60] at z9
      refine pw_iconst (n := 1) (v := 1) (by decide) (by decide +kernel) ?_
      refine pw_goto (off := 4) (tgt := 35) (by decide +kernel) (by decide +kernel) ?_
      refine pq_istore_n (k4 := 3) (Nat.le_of_ble_eq_true rfl) rfl (by decide +kernel) ?_
      exact h36 1 (Or.inl ⟨rfl, by unfold jnP; omega⟩)
    · rw [k60] at z9
      refine pw_iload_n (k4 := 1) rfl (by decide +kernel) ?_
      refine pw_bipush (n := 62) (v := 62) (by decide) (by decide +kernel) ?_
      refine pw_icmp_eq (off := 15) (tgt := 30) (by decide +kernel) (by decide +kernel) (fun z15 => ?_) (fun z15 => ?_)
      · rw [k62] at z15
        refine pw_iconst (n := 1) (v := 1) (by decide) (by decide +kernel) ?_
        refine pw_goto (off := 4) (tgt := 35) (by decide +kernel) (by decide +kernel) ?_
        refine pq_istore_n (k4 := 3) (Nat.le_of_ble_eq_true rfl) rfl (by decide +kernel) ?_
        exact h36 1 (Or.inl ⟨rfl, by unfold jnP; omega⟩)
      · rw [k62] at z15
        refine pw_iload_n (k4 := 2) rfl (by decide +kernel) ?_
        refine pw_bipush (n := 62) (v := 62) (by decide) (by decide +kernel) ?_
        refine pw_icmp_ne (off := 13) (tgt := 34) (by decide +kernel) (by decide +kernel) (fun z21 => ?_) (fun z21 => ?_)
        · rw [m62] at z21
          refine pw_iconst (n := 0) (v := 0) (by decide) (by decide +kernel) ?_
          refine pq_istore_n (k4 := 3) (Nat.le_of_ble_eq_true rfl) rfl (by decide +kernel) ?_
          exact h36 0 (Or.inr ⟨rfl, by unfold jnP; omega⟩)
        · rw [m62] at z21
          refine pw_iload_n (k4 := 1) rfl (by decide +kernel) ?_
          refine pw_bipush (n := 60) (v := 60) (by decide) (by decide +kernel) ?_
          refine pw_icmp_ne (off := 7) (tgt := 34) (by decide +kernel) (by decide +kernel) (fun z27 => ?_) (fun z27 => ?_)
          · rw [k60] at z27
            refine pw_iconst (n := 0) (v := 0) (by decide) (by decide +kernel) ?_
            refine pq_istore_n (k4 := 3) (Nat.le_of_ble_eq_true rfl) rfl (by decide +kernel) ?_
            exact h36 0 (Or.inr ⟨rfl, by unfold jnP; omega⟩)
          · rw [k60] at z27
            refine pw_iconst (n := 1) (v := 1) (by decide) (by decide +kernel) ?_
            refine pw_goto (off := 4) (tgt := 35) (by decide +kernel) (by decide +kernel) ?_
            refine pq_istore_n (k4 := 3) (Nat.le_of_ble_eq_true rfl) rfl (by decide +kernel) ?_
            exact h36 1 (Or.inl ⟨rfl, by unfold jnP; omega⟩)

