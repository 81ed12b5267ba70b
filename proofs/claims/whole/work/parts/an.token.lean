/-! ===== the class: the reader, tokens ===== -/
def kTk (b : Nat → Nat) (n a : Nat) : Nat := if a = n then 40 else if smP b n a then kWd b a (tkW b n a) else if dgP b n a then 26 else kSg b n a
def vTk (b : Nat → Nat) (n a : Nat) : Nat := if a = n then 0 else if smP b n a then vWd b a (tkW b n a) else if dgP b n a then numC b (tkD b n a - a) a 0 else 0
def xTk (I : Nat → Nat → Int32) (b : Nat → Nat) (n p : Nat) : Nat → Nat → Int32 := reQ I (nI (kTk b n (tkA b n p))) (nI (vTk b n (tkA b n p))) (nI (tkA b n p)) (nI (tkE b n (tkA b n p)))
set_option maxHeartbeats 8000000 in
theorem ct_Re_advance {sh : List pSh} {I : Nat → Nat → Int32} {L : Nat → Nat → Int64} {P : Nat → Nat → Option Nat} (hA : kA sh P) (hrb : P 58 3 = some 2) {n : Nat} (hln : I 58 4 = nI n) (hn7 : n ≤ 700) {b : Nat → Nat} (hb : ∀ k, k < n → I 2 k = sgB (b k)) (hb2 : ∀ k, k < n → b k < 256) (hw60 : ∀ w, w < 25 → I 60 w = nI (rfW (wmN w))) {p : Nat} (hpn : p ≤ n) (hat : I 58 5 = nI p) : pCn m_Re_advance 2 [.ref 58] sh (I, L, P) (rV (xTk I b n p, L, P)) := by
  refine pCn_of (by decide +kernel) (Nat.le_of_ble_eq_true rfl) ?_
  obtain ⟨a, ha⟩ : ∃ a, tkA b n p = a := ⟨_, rfl⟩
  have hale := runTo_le (fun k => decide (blP b n k)) (n - p) p
  have han : a ≤ n := by rw [← ha]; show runTo _ _ _ ≤ n; omega
  have hY : xTk I b n p = reQ I (nI (kTk b n a)) (nI (vTk b n a)) (nI a) (nI (tkE b n a)) := by
    unfold xTk
    rw [ha]
  have h52 : ∀ kd v pl, pWn m_Re_advance 2 sh (rV (xTk I b n p, L, P)) 52 [some (.ref 58)] [] (reQ I kd v pl (nI a), L, P) := by
    intro kd v pl
    refine pw_aload_n (k4 := 0) rfl (by decide +kernel) ?_
    refine pw_aload_n (k4 := 0) rfl (by decide +kernel) ?_
    refine pq_getI (c := 3) (k := 5) (ks_re hA) (by decide) (by decide) lf_Re_43 (by decide +kernel) ?_
    refine pn_val (nI (a)) rfl ?_
    refine pq_putI (c := 3) (k := 2) (ks_re hA) (by decide) (by decide) lf_Re_49 (Or.inl rfl) (by decide +kernel) ?_
    rw [reQ_2]
    refine pw_aload_n (k4 := 0) rfl (by decide +kernel) ?_
    refine pw_iconst (n := 0) (v := 0) (by decide) (by decide +kernel) ?_
    refine pq_putI (c := 3) (k := 1) (ks_re hA) (by decide) (by decide) lf_Re_52 (Or.inl rfl) (by decide +kernel) ?_
    rw [reQ_1]
    refine pw_aload_n (k4 := 0) rfl (by decide +kernel) ?_
    refine pq_getI (c := 3) (k := 5) (ks_re hA) (by decide) (by decide) lf_Re_43 (by decide +kernel) ?_
    refine pn_val (nI (a)) rfl ?_
    refine pw_aload_n (k4 := 0) rfl (by decide +kernel) ?_
    refine pq_getI (c := 3) (k := 4) (ks_re hA) (by decide) (by decide) lf_Re_40 (by decide +kernel) ?_
    refine pn_val (nI (n)) (by exact hln) ?_
    refine pn_icmp_lt (off := 12) (tgt := 85) a n rfl rfl (by omega) (by omega) (by decide +kernel) (by decide +kernel) (fun z73 => ?_) (fun z73 => ?_)
    · have hnn : ¬ a = n := by omega
      have hs : sgA b n a = sgB (b a) := if_pos (by omega)
      have hx := sg_sm (b a) (hb2 a (by omega))
      have hy := sg_dg (b a) (hb2 a (by omega))
      rw [← hs] at hx hy
      refine pw_aload_n (k4 := 0) rfl (by decide +kernel) ?_
      refine pq_getP (c := 3) (k := 3) (ks_re hA) (by decide) (by decide) hrb lf_Re_9 (by decide +kernel) ?_
      refine pw_aload_n (k4 := 0) rfl (by decide +kernel) ?_
      refine pq_getI (c := 3) (k := 5) (ks_re hA) (by decide) (by decide) lf_Re_43 (by decide +kernel) ?_
      refine pn_val (nI (a)) rfl ?_
      refine pq_bald a rfl (by omega) (by decide) (ks_x_tape hA) (by decide +kernel) ?_
      refine pn_val (sgA b n a) (by exact (hb a (by omega)).trans hs.symm) ?_
      refine pw_bipush (n := 97) (v := 97) (by decide) (by decide +kernel) ?_
      refine pw_icmp_lt (off := 24) (tgt := 120) (by decide +kernel) (by decide +kernel) (fun z96 => ?_) (fun z96 => ?_)
      · have hsm : ¬ smP b n a := fun q => (hx.mpr q.2).1 z96
        refine pw_aload_n (k4 := 0) rfl (by decide +kernel) ?_
        refine pq_getP (c := 3) (k := 3) (ks_re hA) (by decide) (by decide) hrb lf_Re_9 (by decide +kernel) ?_
        refine pw_aload_n (k4 := 0) rfl (by decide +kernel) ?_
        refine pq_getI (c := 3) (k := 5) (ks_re hA) (by decide) (by decide) lf_Re_43 (by decide +kernel) ?_
        refine pn_val (nI (a)) rfl ?_
        refine pq_bald a rfl (by omega) (by decide) (ks_x_tape hA) (by decide +kernel) ?_
        refine pn_val (sgA b n a) (by exact (hb a (by omega)).trans hs.symm) ?_
        refine pw_bipush (n := 48) (v := 48) (by decide) (by decide +kernel) ?_
        refine pw_icmp_lt (off := 24) (tgt := 155) (by decide +kernel) (by decide +kernel) (fun z131 => ?_) (fun z131 => ?_)
        · have hdg : ¬ dgP b n a := fun q => (hy.mpr q.2).1 z131
          refine pw_aload_n (k4 := 0) rfl (by decide +kernel) ?_
          refine pw_aload_n (k4 := 0) rfl (by decide +kernel) ?_
          refine pq_getP (c := 3) (k := 3) (ks_re hA) (by decide) (by decide) hrb lf_Re_9 (by decide +kernel) ?_
          refine pw_aload_n (k4 := 0) rfl (by decide +kernel) ?_
          refine pq_getI (c := 3) (k := 5) (ks_re hA) (by decide) (by decide) lf_Re_43 (by decide +kernel) ?_
          refine pn_val (nI (a)) rfl ?_
          refine pq_bald a rfl (by omega) (by decide) (ks_x_tape hA) (by decide +kernel) ?_
          refine pn_val (sgA b n a) (by exact (hb a (by omega)).trans hs.symm) ?_
          refine pw_aload_n (k4 := 0) rfl (by decide +kernel) ?_
          refine pq_getI (c := 3) (k := 5) (ks_re hA) (by decide) (by decide) lf_Re_43 (by decide +kernel) ?_
          refine pn_val (nI (a)) rfl ?_
          refine pw_iconst (n := 1) (v := 1) (by decide) (by decide +kernel) ?_
          refine pn_iadd a 1 rfl rfl (by decide +kernel) ?_
          refine pw_aload_n (k4 := 0) rfl (by decide +kernel) ?_
          refine pq_getI (c := 3) (k := 4) (ks_re hA) (by decide) (by decide) lf_Re_40 (by decide +kernel) ?_
          refine pn_val (nI (n)) (by exact hln) ?_
          refine pn_icmp_ge (off := 17) (tgt := 192) (a + 1) n rfl rfl (by omega) (by omega) (by decide +kernel) (by decide +kernel) (fun z175 => ?_) (fun z175 => ?_)
          · refine pw_iconst (n := 0) (v := 0) (by decide) (by decide +kernel) ?_
            refine pn_val (sgA b n (a + 1)) (if_neg (by omega)).symm ?_
            refine pq_callV (ν := m_Re_readSign) (d' := 1) (av := [_, _]) (c := 3) (by decide +kernel) lm_Re_64 ok_Re_readSign (show _ = some 2 by decide +kernel) (ks_re hA) rfl (by decide) (by omega) (Nat.le_of_ble_eq_true rfl) (ct_Re_readSign hA (by exact hrb) (by exact hln) hn7 (by exact hb) (by exact hb2) (by omega) _ _) ?_
            rintro _ _ ⟨rfl, rfl⟩
            exact pq_vret rfl (by decide +kernel) ⟨rfl, by rw [hY, kTk, vTk, tkE, if_neg hnn, if_neg hsm, if_neg hdg, if_neg hnn, if_neg hsm, if_neg hdg, if_neg hnn, if_neg hsm, if_neg hdg]; rfl⟩
          · refine pw_aload_n (k4 := 0) rfl (by decide +kernel) ?_
            refine pq_getP (c := 3) (k := 3) (ks_re hA) (by decide) (by decide) hrb lf_Re_9 (by decide +kernel) ?_
            refine pw_aload_n (k4 := 0) rfl (by decide +kernel) ?_
            refine pq_getI (c := 3) (k := 5) (ks_re hA) (by decide) (by decide) lf_Re_43 (by decide +kernel) ?_
            refine pn_val (nI (a)) rfl ?_
            refine pw_iconst (n := 1) (v := 1) (by decide) (by decide +kernel) ?_
            refine pn_iadd a 1 rfl rfl (by decide +kernel) ?_
            refine pq_bald (a + 1) rfl (by omega) (by decide) (ks_x_tape hA) (by decide +kernel) ?_
            refine pn_val (sgA b n (a + 1)) (by exact (hb (a + 1) (by omega)).trans (if_pos (by omega)).symm) ?_
            refine pw_goto (off := 4) (tgt := 193) (by decide +kernel) (by decide +kernel) ?_
            refine pq_callV (ν := m_Re_readSign) (d' := 1) (av := [_, _]) (c := 3) (by decide +kernel) lm_Re_64 ok_Re_readSign (show _ = some 2 by decide +kernel) (ks_re hA) rfl (by decide) (by omega) (Nat.le_of_ble_eq_true rfl) (ct_Re_readSign hA (by exact hrb) (by exact hln) hn7 (by exact hb) (by exact hb2) (by omega) _ _) ?_
            rintro _ _ ⟨rfl, rfl⟩
            exact pq_vret rfl (by decide +kernel) ⟨rfl, by rw [hY, kTk, vTk, tkE, if_neg hnn, if_neg hsm, if_neg hdg, if_neg hnn, if_neg hsm, if_neg hdg, if_neg hnn, if_neg hsm, if_neg hdg]; rfl⟩
        · refine pw_aload_n (k4 := 0) rfl (by decide +kernel) ?_
          refine pq_getP (c := 3) (k := 3) (ks_re hA) (by decide) (by decide) hrb lf_Re_9 (by decide +kernel) ?_
          refine pw_aload_n (k4 := 0) rfl (by decide +kernel) ?_
          refine pq_getI (c := 3) (k := 5) (ks_re hA) (by decide) (by decide) lf_Re_43 (by decide +kernel) ?_
          refine pn_val (nI (a)) rfl ?_
          refine pq_bald a rfl (by omega) (by decide) (ks_x_tape hA) (by decide +kernel) ?_
          refine pn_val (sgA b n a) (by exact (hb a (by omega)).trans hs.symm) ?_
          refine pw_bipush (n := 57) (v := 57) (by decide) (by decide +kernel) ?_
          refine pw_icmp_gt (off := 10) (tgt := 155) (by decide +kernel) (by decide +kernel) (fun z145 => ?_) (fun z145 => ?_)
          · have hdg : ¬ dgP b n a := fun q => (hy.mpr q.2).2 z145
            refine pw_aload_n (k4 := 0) rfl (by decide +kernel) ?_
            refine pw_aload_n (k4 := 0) rfl (by decide +kernel) ?_
            refine pq_getP (c := 3) (k := 3) (ks_re hA) (by decide) (by decide) hrb lf_Re_9 (by decide +kernel) ?_
            refine pw_aload_n (k4 := 0) rfl (by decide +kernel) ?_
            refine pq_getI (c := 3) (k := 5) (ks_re hA) (by decide) (by decide) lf_Re_43 (by decide +kernel) ?_
            refine pn_val (nI (a)) rfl ?_
            refine pq_bald a rfl (by omega) (by decide) (ks_x_tape hA) (by decide +kernel) ?_
            refine pn_val (sgA b n a) (by exact (hb a (by omega)).trans hs.symm) ?_
            refine pw_aload_n (k4 := 0) rfl (by decide +kernel) ?_
            refine pq_getI (c := 3) (k := 5) (ks_re hA) (by decide) (by decide) lf_Re_43 (by decide +kernel) ?_
            refine pn_val (nI (a)) rfl ?_
            refine pw_iconst (n := 1) (v := 1) (by decide) (by decide +kernel) ?_
            refine pn_iadd a 1 rfl rfl (by decide +kernel) ?_
            refine pw_aload_n (k4 := 0) rfl (by decide +kernel) ?_
            refine pq_getI (c := 3) (k := 4) (ks_re hA) (by decide) (by decide) lf_Re_40 (by decide +kernel) ?_
            refine pn_val (nI (n)) (by exact hln) ?_
            refine pn_icmp_ge (off := 17) (tgt := 192) (a + 1) n rfl rfl (by omega) (by omega) (by decide +kernel) (by decide +kernel) (fun z175 => ?_) (fun z175 => ?_)
            · refine pw_iconst (n := 0) (v := 0) (by decide) (by decide +kernel) ?_
              refine pn_val (sgA b n (a + 1)) (if_neg (by omega)).symm ?_
              refine pq_callV (ν := m_Re_readSign) (d' := 1) (av := [_, _]) (c := 3) (by decide +kernel) lm_Re_64 ok_Re_readSign (show _ = some 2 by decide +kernel) (ks_re hA) rfl (by decide) (by omega) (Nat.le_of_ble_eq_true rfl) (ct_Re_readSign hA (by exact hrb) (by exact hln) hn7 (by exact hb) (by exact hb2) (by omega) _ _) ?_
              rintro _ _ ⟨rfl, rfl⟩
              exact pq_vret rfl (by decide +kernel) ⟨rfl, by rw [hY, kTk, vTk, tkE, if_neg hnn, if_neg hsm, if_neg hdg, if_neg hnn, if_neg hsm, if_neg hdg, if_neg hnn, if_neg hsm, if_neg hdg]; rfl⟩
            · refine pw_aload_n (k4 := 0) rfl (by decide +kernel) ?_
              refine pq_getP (c := 3) (k := 3) (ks_re hA) (by decide) (by decide) hrb lf_Re_9 (by decide +kernel) ?_
              refine pw_aload_n (k4 := 0) rfl (by decide +kernel) ?_
              refine pq_getI (c := 3) (k := 5) (ks_re hA) (by decide) (by decide) lf_Re_43 (by decide +kernel) ?_
              refine pn_val (nI (a)) rfl ?_
              refine pw_iconst (n := 1) (v := 1) (by decide) (by decide +kernel) ?_
              refine pn_iadd a 1 rfl rfl (by decide +kernel) ?_
              refine pq_bald (a + 1) rfl (by omega) (by decide) (ks_x_tape hA) (by decide +kernel) ?_
              refine pn_val (sgA b n (a + 1)) (by exact (hb (a + 1) (by omega)).trans (if_pos (by omega)).symm) ?_
              refine pw_goto (off := 4) (tgt := 193) (by decide +kernel) (by decide +kernel) ?_
              refine pq_callV (ν := m_Re_readSign) (d' := 1) (av := [_, _]) (c := 3) (by decide +kernel) lm_Re_64 ok_Re_readSign (show _ = some 2 by decide +kernel) (ks_re hA) rfl (by decide) (by omega) (Nat.le_of_ble_eq_true rfl) (ct_Re_readSign hA (by exact hrb) (by exact hln) hn7 (by exact hb) (by exact hb2) (by omega) _ _) ?_
              rintro _ _ ⟨rfl, rfl⟩
              exact pq_vret rfl (by decide +kernel) ⟨rfl, by rw [hY, kTk, vTk, tkE, if_neg hnn, if_neg hsm, if_neg hdg, if_neg hnn, if_neg hsm, if_neg hdg, if_neg hnn, if_neg hsm, if_neg hdg]; rfl⟩
          · have hdg : dgP b n a := ⟨by omega, hy.mp ⟨z131, z145⟩⟩
            refine pw_aload_n (k4 := 0) rfl (by decide +kernel) ?_
            refine pq_callV (ν := m_Re_readNumber) (d' := 1) (av := []) (c := 3) (by decide +kernel) lm_Re_61 ok_Re_readNumber (show _ = some 0 by decide +kernel) (ks_re hA) rfl (by decide) (by omega) (Nat.le_of_ble_eq_true rfl) (ct_Re_readNumber hA (by exact hrb) (by exact hln) hn7 (by exact hb) (by exact hb2) (by omega) _ _) ?_
            rintro _ _ ⟨rfl, rfl⟩
            refine pw_goto (off := 44) (tgt := 196) (by decide +kernel) (by decide +kernel) ?_
            exact pq_vret rfl (by decide +kernel) ⟨rfl, by rw [hY, kTk, vTk, tkE, if_neg hnn, if_neg hsm, if_pos hdg, if_neg hnn, if_neg hsm, if_pos hdg, if_neg hnn, if_neg hsm, if_pos hdg]; rfl⟩
      · refine pw_aload_n (k4 := 0) rfl (by decide +kernel) ?_
        refine pq_getP (c := 3) (k := 3) (ks_re hA) (by decide) (by decide) hrb lf_Re_9 (by decide +kernel) ?_
        refine pw_aload_n (k4 := 0) rfl (by decide +kernel) ?_
        refine pq_getI (c := 3) (k := 5) (ks_re hA) (by decide) (by decide) lf_Re_43 (by decide +kernel) ?_
        refine pn_val (nI (a)) rfl ?_
        refine pq_bald a rfl (by omega) (by decide) (ks_x_tape hA) (by decide +kernel) ?_
        refine pn_val (sgA b n a) (by exact (hb a (by omega)).trans hs.symm) ?_
        refine pw_bipush (n := 122) (v := 122) (by decide) (by decide +kernel) ?_
        refine pw_icmp_gt (off := 10) (tgt := 120) (by decide +kernel) (by decide +kernel) (fun z110 => ?_) (fun z110 => ?_)
        · have hsm : ¬ smP b n a := fun q => (hx.mpr q.2).2 z110
          refine pw_aload_n (k4 := 0) rfl (by decide +kernel) ?_
          refine pq_getP (c := 3) (k := 3) (ks_re hA) (by decide) (by decide) hrb lf_Re_9 (by decide +kernel) ?_
          refine pw_aload_n (k4 := 0) rfl (by decide +kernel) ?_
          refine pq_getI (c := 3) (k := 5) (ks_re hA) (by decide) (by decide) lf_Re_43 (by decide +kernel) ?_
          refine pn_val (nI (a)) rfl ?_
          refine pq_bald a rfl (by omega) (by decide) (ks_x_tape hA) (by decide +kernel) ?_
          refine pn_val (sgA b n a) (by exact (hb a (by omega)).trans hs.symm) ?_
          refine pw_bipush (n := 48) (v := 48) (by decide) (by decide +kernel) ?_
          refine pw_icmp_lt (off := 24) (tgt := 155) (by decide +kernel) (by decide +kernel) (fun z131 => ?_) (fun z131 => ?_)
          · have hdg : ¬ dgP b n a := fun q => (hy.mpr q.2).1 z131
            refine pw_aload_n (k4 := 0) rfl (by decide +kernel) ?_
            refine pw_aload_n (k4 := 0) rfl (by decide +kernel) ?_
            refine pq_getP (c := 3) (k := 3) (ks_re hA) (by decide) (by decide) hrb lf_Re_9 (by decide +kernel) ?_
            refine pw_aload_n (k4 := 0) rfl (by decide +kernel) ?_
            refine pq_getI (c := 3) (k := 5) (ks_re hA) (by decide) (by decide) lf_Re_43 (by decide +kernel) ?_
            refine pn_val (nI (a)) rfl ?_
            refine pq_bald a rfl (by omega) (by decide) (ks_x_tape hA) (by decide +kernel) ?_
            refine pn_val (sgA b n a) (by exact (hb a (by omega)).trans hs.symm) ?_
            refine pw_aload_n (k4 := 0) rfl (by decide +kernel) ?_
            refine pq_getI (c := 3) (k := 5) (ks_re hA) (by decide) (by decide) lf_Re_43 (by decide +kernel) ?_
            refine pn_val (nI (a)) rfl ?_
            refine pw_iconst (n := 1) (v := 1) (by decide) (by decide +kernel) ?_
            refine pn_iadd a 1 rfl rfl (by decide +kernel) ?_
            refine pw_aload_n (k4 := 0) rfl (by decide +kernel) ?_
            refine pq_getI (c := 3) (k := 4) (ks_re hA) (by decide) (by decide) lf_Re_40 (by decide +kernel) ?_
            refine pn_val (nI (n)) (by exact hln) ?_
            refine pn_icmp_ge (off := 17) (tgt := 192) (a + 1) n rfl rfl (by omega) (by omega) (by decide +kernel) (by decide +kernel) (fun z175 => ?_) (fun z175 => ?_)
            · refine pw_iconst (n := 0) (v := 0) (by decide) (by decide +kernel) ?_
              refine pn_val (sgA b n (a + 1)) (if_neg (by omega)).symm ?_
              refine pq_callV (ν := m_Re_readSign) (d' := 1) (av := [_, _]) (c := 3) (by decide +kernel) lm_Re_64 ok_Re_readSign (show _ = some 2 by decide +kernel) (ks_re hA) rfl (by decide) (by omega) (Nat.le_of_ble_eq_true rfl) (ct_Re_readSign hA (by exact hrb) (by exact hln) hn7 (by exact hb) (by exact hb2) (by omega) _ _) ?_
              rintro _ _ ⟨rfl, rfl⟩
              exact pq_vret rfl (by decide +kernel) ⟨rfl, by rw [hY, kTk, vTk, tkE, if_neg hnn, if_neg hsm, if_neg hdg, if_neg hnn, if_neg hsm, if_neg hdg, if_neg hnn, if_neg hsm, if_neg hdg]; rfl⟩
            · refine pw_aload_n (k4 := 0) rfl (by decide +kernel) ?_
              refine pq_getP (c := 3) (k := 3) (ks_re hA) (by decide) (by decide) hrb lf_Re_9 (by decide +kernel) ?_
              refine pw_aload_n (k4 := 0) rfl (by decide +kernel) ?_
              refine pq_getI (c := 3) (k := 5) (ks_re hA) (by decide) (by decide) lf_Re_43 (by decide +kernel) ?_
              refine pn_val (nI (a)) rfl ?_
              refine pw_iconst (n := 1) (v := 1) (by decide) (by decide +kernel) ?_
              refine pn_iadd a 1 rfl rfl (by decide +kernel) ?_
              refine pq_bald (a + 1) rfl (by omega) (by decide) (ks_x_tape hA) (by decide +kernel) ?_
              refine pn_val (sgA b n (a + 1)) (by exact (hb (a + 1) (by omega)).trans (if_pos (by omega)).symm) ?_
              refine pw_goto (off := 4) (tgt := 193) (by decide +kernel) (by decide +kernel) ?_
              refine pq_callV (ν := m_Re_readSign) (d' := 1) (av := [_, _]) (c := 3) (by decide +kernel) lm_Re_64 ok_Re_readSign (show _ = some 2 by decide +kernel) (ks_re hA) rfl (by decide) (by omega) (Nat.le_of_ble_eq_true rfl) (ct_Re_readSign hA (by exact hrb) (by exact hln) hn7 (by exact hb) (by exact hb2) (by omega) _ _) ?_
              rintro _ _ ⟨rfl, rfl⟩
              exact pq_vret rfl (by decide +kernel) ⟨rfl, by rw [hY, kTk, vTk, tkE, if_neg hnn, if_neg hsm, if_neg hdg, if_neg hnn, if_neg hsm, if_neg hdg, if_neg hnn, if_neg hsm, if_neg hdg]; rfl⟩
          · refine pw_aload_n (k4 := 0) rfl (by decide +kernel) ?_
            refine pq_getP (c := 3) (k := 3) (ks_re hA) (by decide) (by decide) hrb lf_Re_9 (by decide +kernel) ?_
            refine pw_aload_n (k4 := 0) rfl (by decide +kernel) ?_
            refine pq_getI (c := 3) (k := 5) (ks_re hA) (by decide) (by decide) lf_Re_43 (by decide +kernel) ?_
            refine pn_val (nI (a)) rfl ?_
            refine pq_bald a rfl (by omega) (by decide) (ks_x_tape hA) (by decide +kernel) ?_
            refine pn_val (sgA b n a) (by exact (hb a (by omega)).trans hs.symm) ?_
            refine pw_bipush (n := 57) (v := 57) (by decide) (by decide +kernel) ?_
            refine pw_icmp_gt (off := 10) (tgt := 155) (by decide +kernel) (by decide +kernel) (fun z145 => ?_) (fun z145 => ?_)
            · have hdg : ¬ dgP b n a := fun q => (hy.mpr q.2).2 z145
              refine pw_aload_n (k4 := 0) rfl (by decide +kernel) ?_
              refine pw_aload_n (k4 := 0) rfl (by decide +kernel) ?_
              refine pq_getP (c := 3) (k := 3) (ks_re hA) (by decide) (by decide) hrb lf_Re_9 (by decide +kernel) ?_
              refine pw_aload_n (k4 := 0) rfl (by decide +kernel) ?_
              refine pq_getI (c := 3) (k := 5) (ks_re hA) (by decide) (by decide) lf_Re_43 (by decide +kernel) ?_
              refine pn_val (nI (a)) rfl ?_
              refine pq_bald a rfl (by omega) (by decide) (ks_x_tape hA) (by decide +kernel) ?_
              refine pn_val (sgA b n a) (by exact (hb a (by omega)).trans hs.symm) ?_
              refine pw_aload_n (k4 := 0) rfl (by decide +kernel) ?_
              refine pq_getI (c := 3) (k := 5) (ks_re hA) (by decide) (by decide) lf_Re_43 (by decide +kernel) ?_
              refine pn_val (nI (a)) rfl ?_
              refine pw_iconst (n := 1) (v := 1) (by decide) (by decide +kernel) ?_
              refine pn_iadd a 1 rfl rfl (by decide +kernel) ?_
              refine pw_aload_n (k4 := 0) rfl (by decide +kernel) ?_
              refine pq_getI (c := 3) (k := 4) (ks_re hA) (by decide) (by decide) lf_Re_40 (by decide +kernel) ?_
              refine pn_val (nI (n)) (by exact hln) ?_
              refine pn_icmp_ge (off := 17) (tgt := 192) (a + 1) n rfl rfl (by omega) (by omega) (by decide +kernel) (by decide +kernel) (fun z175 => ?_) (fun z175 => ?_)
              · refine pw_iconst (n := 0) (v := 0) (by decide) (by decide +kernel) ?_
                refine pn_val (sgA b n (a + 1)) (if_neg (by omega)).symm ?_
                refine pq_callV (ν := m_Re_readSign) (d' := 1) (av := [_, _]) (c := 3) (by decide +kernel) lm_Re_64 ok_Re_readSign (show _ = some 2 by decide +kernel) (ks_re hA) rfl (by decide) (by omega) (Nat.le_of_ble_eq_true rfl) (ct_Re_readSign hA (by exact hrb) (by exact hln) hn7 (by exact hb) (by exact hb2) (by omega) _ _) ?_
                rintro _ _ ⟨rfl, rfl⟩
                exact pq_vret rfl (by decide +kernel) ⟨rfl, by rw [hY, kTk, vTk, tkE, if_neg hnn, if_neg hsm, if_neg hdg, if_neg hnn, if_neg hsm, if_neg hdg, if_neg hnn, if_neg hsm, if_neg hdg]; rfl⟩
              · refine pw_aload_n (k4 := 0) rfl (by decide +kernel) ?_
                refine pq_getP (c := 3) (k := 3) (ks_re hA) (by decide) (by decide) hrb lf_Re_9 (by decide +kernel) ?_
                refine pw_aload_n (k4 := 0) rfl (by decide +kernel) ?_
                refine pq_getI (c := 3) (k := 5) (ks_re hA) (by decide) (by decide) lf_Re_43 (by decide +kernel) ?_
                refine pn_val (nI (a)) rfl ?_
                refine pw_iconst (n := 1) (v := 1) (by decide) (by decide +kernel) ?_
                refine pn_iadd a 1 rfl rfl (by decide +kernel) ?_
                refine pq_bald (a + 1) rfl (by omega) (by decide) (ks_x_tape hA) (by decide +kernel) ?_
                refine pn_val (sgA b n (a + 1)) (by exact (hb (a + 1) (by omega)).trans (if_pos (by omega)).symm) ?_
                refine pw_goto (off := 4) (tgt := 193) (by decide +kernel) (by decide +kernel) ?_
                refine pq_callV (ν := m_Re_readSign) (d' := 1) (av := [_, _]) (c := 3) (by decide +kernel) lm_Re_64 ok_Re_readSign (show _ = some 2 by decide +kernel) (ks_re hA) rfl (by decide) (by omega) (Nat.le_of_ble_eq_true rfl) (ct_Re_readSign hA (by exact hrb) (by exact hln) hn7 (by exact hb) (by exact hb2) (by omega) _ _) ?_
                rintro _ _ ⟨rfl, rfl⟩
                exact pq_vret rfl (by decide +kernel) ⟨rfl, by rw [hY, kTk, vTk, tkE, if_neg hnn, if_neg hsm, if_neg hdg, if_neg hnn, if_neg hsm, if_neg hdg, if_neg hnn, if_neg hsm, if_neg hdg]; rfl⟩
            · have hdg : dgP b n a := ⟨by omega, hy.mp ⟨z131, z145⟩⟩
              refine pw_aload_n (k4 := 0) rfl (by decide +kernel) ?_
              refine pq_callV (ν := m_Re_readNumber) (d' := 1) (av := []) (c := 3) (by decide +kernel) lm_Re_61 ok_Re_readNumber (show _ = some 0 by decide +kernel) (ks_re hA) rfl (by decide) (by omega) (Nat.le_of_ble_eq_true rfl) (ct_Re_readNumber hA (by exact hrb) (by exact hln) hn7 (by exact hb) (by exact hb2) (by omega) _ _) ?_
              rintro _ _ ⟨rfl, rfl⟩
              refine pw_goto (off := 44) (tgt := 196) (by decide +kernel) (by decide +kernel) ?_
              exact pq_vret rfl (by decide +kernel) ⟨rfl, by rw [hY, kTk, vTk, tkE, if_neg hnn, if_neg hsm, if_pos hdg, if_neg hnn, if_neg hsm, if_pos hdg, if_neg hnn, if_neg hsm, if_pos hdg]; rfl⟩
        · have hsm : smP b n a := ⟨by omega, hx.mp ⟨z96, z110⟩⟩
          refine pw_aload_n (k4 := 0) rfl (by decide +kernel) ?_
          refine pq_callV (ν := m_Re_readWord) (d' := 1) (av := []) (c := 3) (by decide +kernel) lm_Re_58 ok_Re_readWord (show _ = some 0 by decide +kernel) (ks_re hA) rfl (by decide) (by omega) (Nat.le_of_ble_eq_true rfl) (ct_Re_readWord hA (by exact hrb) (by exact hln) hn7 (by exact hb) (by exact hb2) (by exact hw60) (by omega) _ _) ?_
          rintro _ _ ⟨rfl, rfl⟩
          refine pw_goto (off := 79) (tgt := 196) (by decide +kernel) (by decide +kernel) ?_
          exact pq_vret rfl (by decide +kernel) ⟨rfl, by rw [hY, kTk, vTk, tkE, if_neg hnn, if_pos hsm, if_neg hnn, if_pos hsm, if_neg hnn, if_pos hsm]⟩
    · have hn : a = n := by omega
      refine pw_aload_n (k4 := 0) rfl (by decide +kernel) ?_
      refine pw_bipush (n := 40) (v := 40) (by decide) (by decide +kernel) ?_
      refine pq_putI (c := 3) (k := 0) (ks_re hA) (by decide) (by decide) lf_Re_55 (Or.inl rfl) (by decide +kernel) ?_
      rw [reQ_0]
      refine pw_goto (off := 114) (tgt := 196) (by decide +kernel) (by decide +kernel) ?_
      exact pq_vret rfl (by decide +kernel) ⟨rfl, by rw [hY, kTk, vTk, tkE, if_pos hn, if_pos hn, if_pos hn]; rfl⟩
  have hL : ∀ kd v pl, ∀ c k, k + c = n → runTo (fun k => decide (blP b n k)) c k = a → pWn m_Re_advance 2 sh (rV (xTk I b n p, L, P)) 0 [some (.ref 58)] [] (reQ I kd v pl (nI k), L, P) := by
    intro kd v pl
    refine pDown _ ?_
    intro c ih k hkc hr
    refine pw_aload_n (k4 := 0) rfl (by decide +kernel) ?_
    refine pq_getI (c := 3) (k := 5) (ks_re hA) (by decide) (by decide) lf_Re_43 (by decide +kernel) ?_
    refine pn_val (nI (k)) rfl ?_
    refine pw_aload_n (k4 := 0) rfl (by decide +kernel) ?_
    refine pq_getI (c := 3) (k := 4) (ks_re hA) (by decide) (by decide) lf_Re_40 (by decide +kernel) ?_
    refine pn_val (nI (n)) (by exact hln) ?_
    refine pn_icmp_ge (off := 44) (tgt := 52) k n rfl rfl (by omega) (by omega) (by decide +kernel) (by decide +kernel) (fun z8 => ?_) (fun z8 => ?_)
    · have hke : k = a := (runTo_n (fun q => absurd (of_decide_eq_true q).1 (by omega)) c).symm.trans hr
      rw [hke]
      exact h52 kd v pl
    · have hs : sgA b n k = sgB (b k) := if_pos (by omega)
      have k10 : sgA b n k = 10 ↔ b k = 10 := by
        rw [show sgA b n k = sgB (b k) from if_pos (by omega)]
        exact sg_eq (c := 10) (by decide) (hb2 k (by omega))
      have k32 : sgA b n k = 32 ↔ b k = 32 := by
        rw [show sgA b n k = sgB (b k) from if_pos (by omega)]
        exact sg_eq (c := 32) (by decide) (hb2 k (by omega))
      refine pw_aload_n (k4 := 0) rfl (by decide +kernel) ?_
      refine pq_getP (c := 3) (k := 3) (ks_re hA) (by decide) (by decide) hrb lf_Re_9 (by decide +kernel) ?_
      refine pw_aload_n (k4 := 0) rfl (by decide +kernel) ?_
      refine pq_getI (c := 3) (k := 5) (ks_re hA) (by decide) (by decide) lf_Re_43 (by decide +kernel) ?_
      refine pn_val (nI (k)) rfl ?_
      refine pq_bald k rfl (by omega) (by decide) (ks_x_tape hA) (by decide +kernel) ?_
      refine pn_val (sgA b n k) (by exact (hb k (by omega)).trans hs.symm) ?_
      refine pw_bipush (n := 10) (v := 10) (by decide) (by decide +kernel) ?_
      refine pw_icmp_eq (off := 17) (tgt := 39) (by decide +kernel) (by decide +kernel) (fun z22 => ?_) (fun z22 => ?_)
      · rw [k10] at z22
        refine pw_aload_n (k4 := 0) rfl (by decide +kernel) ?_
        refine pw_dup rfl (by decide +kernel) ?_
        refine pq_getI (c := 3) (k := 5) (ks_re hA) (by decide) (by decide) lf_Re_43 (by decide +kernel) ?_
        refine pn_val (nI (k)) rfl ?_
        refine pw_iconst (n := 1) (v := 1) (by decide) (by decide +kernel) ?_
        refine pn_iadd k 1 rfl rfl (by decide +kernel) ?_
        refine pq_putI (c := 3) (k := 5) (ks_re hA) (by decide) (by decide) lf_Re_43 (Or.inl rfl) (by decide +kernel) ?_
        rw [reQ_5]
        refine pw_goto (off := -49) (tgt := 0) (by decide +kernel) (by decide +kernel) ?_
        obtain ⟨c, rfl⟩ : ∃ j, c = j + 1 := ⟨c - 1, by omega⟩
        exact ih c rfl (k + 1) (by omega) ((if_pos (decide_eq_true ⟨by omega, Or.inl z22⟩)).symm.trans hr)
      · rw [k10] at z22
        refine pw_aload_n (k4 := 0) rfl (by decide +kernel) ?_
        refine pq_getP (c := 3) (k := 3) (ks_re hA) (by decide) (by decide) hrb lf_Re_9 (by decide +kernel) ?_
        refine pw_aload_n (k4 := 0) rfl (by decide +kernel) ?_
        refine pq_getI (c := 3) (k := 5) (ks_re hA) (by decide) (by decide) lf_Re_43 (by decide +kernel) ?_
        refine pn_val (nI (k)) rfl ?_
        refine pq_bald k rfl (by omega) (by decide) (ks_x_tape hA) (by decide +kernel) ?_
        refine pn_val (sgA b n k) (by exact (hb k (by omega)).trans hs.symm) ?_
        refine pw_bipush (n := 32) (v := 32) (by decide) (by decide +kernel) ?_
        refine pw_icmp_ne (off := 16) (tgt := 52) (by decide +kernel) (by decide +kernel) (fun z36 => ?_) (fun z36 => ?_)
        · rw [k32] at z36
          have hke : k = a := (runTo_n (fun q => (of_decide_eq_true q).2.elim z22 z36) c).symm.trans hr
          rw [hke]
          exact h52 kd v pl
        · rw [k32] at z36
          refine pw_aload_n (k4 := 0) rfl (by decide +kernel) ?_
          refine pw_dup rfl (by decide +kernel) ?_
          refine pq_getI (c := 3) (k := 5) (ks_re hA) (by decide) (by decide) lf_Re_43 (by decide +kernel) ?_
          refine pn_val (nI (k)) rfl ?_
          refine pw_iconst (n := 1) (v := 1) (by decide) (by decide +kernel) ?_
          refine pn_iadd k 1 rfl rfl (by decide +kernel) ?_
          refine pq_putI (c := 3) (k := 5) (ks_re hA) (by decide) (by decide) lf_Re_43 (Or.inl rfl) (by decide +kernel) ?_
          rw [reQ_5]
          refine pw_goto (off := -49) (tgt := 0) (by decide +kernel) (by decide +kernel) ?_
          obtain ⟨c, rfl⟩ : ∃ j, c = j + 1 := ⟨c - 1, by omega⟩
          exact ih c rfl (k + 1) (by omega) ((if_pos (decide_eq_true ⟨by omega, Or.inr z36⟩)).symm.trans hr)
  have w := hL (I 58 0) (I 58 1) (I 58 2) (n - p) p (by omega) ha
  rw [← hat, reQ_s] at w
  exact w

