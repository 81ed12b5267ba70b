/-! ===== the class: tracks, rings, undo, images, pairs, walks ===== -/
theorem ct_Ls_track {sh : List pSh} {I : Nat → Nat → Int32} {L : Nat → Nat → Int64} {P : Nat → Nat → Option Nat} (hA : kA sh P) {sz : Nat} (hsz : I 123 0 = nI sz) (hz24 : sz ≤ 24) (a b : Int32) : pCn m_Ls_track 1 [.ref 1, .int a, .int b] sh (I, L, P) (rIf (0 ≤ a ∧ a ≤ 1 ∧ 1 ≤ b ∧ b ≤ 20) (rAdd I L P sz a b) (rI (-1) (I, L, P))) := by
  refine pCn_of (by decide +kernel) (Nat.le_of_ble_eq_true rfl) ?_
  refine pw_iload_n (k4 := 1) rfl (by decide +kernel) ?_
  refine pw_if_lt (off := 19) (tgt := 20) (by decide +kernel) (by decide +kernel) (fun z1 => ?_) (fun z1 => ?_)
  · refine pw_iconst (n := -1) (v := -1) (by decide) (by decide +kernel) ?_
    exact pq_iret rfl (by decide +kernel) ⟨fun h => absurd z1 (Int32.not_lt.mpr h.1), fun _ => ⟨rfl, rfl⟩⟩
  · refine pw_iload_n (k4 := 1) rfl (by decide +kernel) ?_
    refine pw_iconst (n := 1) (v := 1) (by decide) (by decide +kernel) ?_
    refine pw_icmp_gt (off := 14) (tgt := 20) (by decide +kernel) (by decide +kernel) (fun z6 => ?_) (fun z6 => ?_)
    · refine pw_iconst (n := -1) (v := -1) (by decide) (by decide +kernel) ?_
      exact pq_iret rfl (by decide +kernel) ⟨fun h => absurd z6 (Int32.not_lt.mpr h.2.1), fun _ => ⟨rfl, rfl⟩⟩
    · refine pw_iload_n (k4 := 2) rfl (by decide +kernel) ?_
      refine pw_iconst (n := 1) (v := 1) (by decide) (by decide +kernel) ?_
      refine pw_icmp_lt (off := 9) (tgt := 20) (by decide +kernel) (by decide +kernel) (fun z11 => ?_) (fun z11 => ?_)
      · refine pw_iconst (n := -1) (v := -1) (by decide) (by decide +kernel) ?_
        exact pq_iret rfl (by decide +kernel) ⟨fun h => absurd z11 (Int32.not_lt.mpr h.2.2.1), fun _ => ⟨rfl, rfl⟩⟩
      · refine pw_iload_n (k4 := 2) rfl (by decide +kernel) ?_
        refine pw_bipush (n := 20) (v := 20) (by decide) (by decide +kernel) ?_
        refine pw_icmp_le (off := 5) (tgt := 22) (by decide +kernel) (by decide +kernel) (fun z17 => ?_) (fun z17 => ?_)
        · refine pw_aload_n (k4 := 0) rfl (by decide +kernel) ?_
          refine pq_getP (c := 10) (k := 12) (ks_x hA) (by decide) (by decide) (kp_x_tracks hA) lf_Ls_63 (by decide +kernel) ?_
          refine pw_iload_n (k4 := 1) rfl (by decide +kernel) ?_
          refine pw_iload_n (k4 := 2) rfl (by decide +kernel) ?_
          refine pq_callV (ν := m_Tr_add) (d' := 0) (av := [_, _]) (c := 8) (by decide +kernel) lm_Ls_312 ok_Tr_add (show _ = some 2 by decide +kernel) (ks_tr hA) rfl (by decide) (by omega) (Nat.le_of_ble_eq_true rfl) (ct_Tr_add hA hsz hz24 _ _) ?_
          intro r M hr
          obtain ⟨v, rfl⟩ : ∃ v, r = some (.int v) := by unfold rAdd at hr; split at hr <;> exact ⟨_, hr.1⟩
          obtain ⟨I', L', P'⟩ := M
          exact pq_iret rfl (by decide +kernel) ⟨fun _ => hr, fun h => absurd ⟨Int32.not_lt.mp z1, Int32.not_lt.mp z6, Int32.not_lt.mp z11, z17⟩ h⟩
        · refine pw_iconst (n := -1) (v := -1) (by decide) (by decide +kernel) ?_
          exact pq_iret rfl (by decide +kernel) ⟨fun h => absurd h.2.2.2 z17, fun _ => ⟨rfl, rfl⟩⟩

theorem ct_Ls_strike {sh : List pSh} {I : Nat → Nat → Int32} {L : Nat → Nat → Int64} {P : Nat → Nat → Option Nat} (hA : kA sh P) {sz : Nat} (hsz : I 123 0 = nI sz) (hz24 : sz ≤ 24) (a : Int32) : pCn m_Ls_strike 1 [.ref 1, .int a] sh (I, L, P) (rIf (0 ≤ a ∧ a < I 123 0) (rAdd I L P sz 2 a) (rI (-1) (I, L, P))) := by
  refine pCn_of (by decide +kernel) (Nat.le_of_ble_eq_true rfl) ?_
  refine pw_iload_n (k4 := 1) rfl (by decide +kernel) ?_
  refine pw_if_lt (off := 14) (tgt := 15) (by decide +kernel) (by decide +kernel) (fun z1 => ?_) (fun z1 => ?_)
  · refine pw_iconst (n := -1) (v := -1) (by decide) (by decide +kernel) ?_
    exact pq_iret rfl (by decide +kernel) ⟨fun h => absurd z1 (Int32.not_lt.mpr h.1), fun _ => ⟨rfl, rfl⟩⟩
  · refine pw_iload_n (k4 := 1) rfl (by decide +kernel) ?_
    refine pw_aload_n (k4 := 0) rfl (by decide +kernel) ?_
    refine pq_getP (c := 10) (k := 12) (ks_x hA) (by decide) (by decide) (kp_x_tracks hA) lf_Ls_63 (by decide +kernel) ?_
    refine pq_getI (c := 8) (k := 0) (ks_tr hA) (by decide) (by decide) lf_Ls_315 (by decide +kernel) ?_
    refine pw_icmp_lt (off := 5) (tgt := 17) (by decide +kernel) (by decide +kernel) (fun z12 => ?_) (fun z12 => ?_)
    · refine pw_aload_n (k4 := 0) rfl (by decide +kernel) ?_
      refine pq_getP (c := 10) (k := 12) (ks_x hA) (by decide) (by decide) (kp_x_tracks hA) lf_Ls_63 (by decide +kernel) ?_
      refine pw_iconst (n := 2) (v := 2) (by decide) (by decide +kernel) ?_
      refine pw_iload_n (k4 := 1) rfl (by decide +kernel) ?_
      refine pq_callV (ν := m_Tr_add) (d' := 0) (av := [_, _]) (c := 8) (by decide +kernel) lm_Ls_312 ok_Tr_add (show _ = some 2 by decide +kernel) (ks_tr hA) rfl (by decide) (by omega) (Nat.le_of_ble_eq_true rfl) (ct_Tr_add hA hsz hz24 _ _) ?_
      intro r M hr
      obtain ⟨v, rfl⟩ : ∃ v, r = some (.int v) := by unfold rAdd at hr; split at hr <;> exact ⟨_, hr.1⟩
      obtain ⟨I', L', P'⟩ := M
      exact pq_iret rfl (by decide +kernel) ⟨fun _ => hr, fun h => absurd ⟨Int32.not_lt.mp z1, z12⟩ h⟩
    · refine pw_iconst (n := -1) (v := -1) (by decide) (by decide +kernel) ?_
      exact pq_iret rfl (by decide +kernel) ⟨fun h => absurd h.2 z12, fun _ => ⟨rfl, rfl⟩⟩

theorem ct_Ls_known {sh : List pSh} {I : Nat → Nat → Int32} {L : Nat → Nat → Int64} {P : Nat → Nat → Option Nat} (hA : kA sh P) (a : Int32) : pCn m_Ls_known 0 [.ref 1, .int a] sh (I, L, P) (rIf (-1 ≤ a ∧ a ≤ I 123 0) (rI 1 (sI I 123 1 a, L, P)) (rI 0 (I, L, P))) := by
  refine pCn_of (by decide +kernel) (Nat.le_of_ble_eq_true rfl) ?_
  refine pw_iload_n (k4 := 1) rfl (by decide +kernel) ?_
  refine pw_iconst (n := -1) (v := -1) (by decide) (by decide +kernel) ?_
  refine pw_icmp_lt (off := 14) (tgt := 16) (by decide +kernel) (by decide +kernel) (fun z2 => ?_) (fun z2 => ?_)
  · refine pw_iconst (n := 0) (v := 0) (by decide) (by decide +kernel) ?_
    exact pq_zret rfl (by decide) (by decide +kernel) ⟨fun h => absurd z2 (Int32.not_lt.mpr h.1), fun _ => ⟨rfl, rfl⟩⟩
  · refine pw_iload_n (k4 := 1) rfl (by decide +kernel) ?_
    refine pw_aload_n (k4 := 0) rfl (by decide +kernel) ?_
    refine pq_getP (c := 10) (k := 12) (ks_x hA) (by decide) (by decide) (kp_x_tracks hA) lf_Ls_63 (by decide +kernel) ?_
    refine pq_getI (c := 8) (k := 0) (ks_tr hA) (by decide) (by decide) lf_Ls_315 (by decide +kernel) ?_
    refine pw_icmp_le (off := 5) (tgt := 18) (by decide +kernel) (by decide +kernel) (fun z13 => ?_) (fun z13 => ?_)
    · refine pw_aload_n (k4 := 0) rfl (by decide +kernel) ?_
      refine pq_getP (c := 10) (k := 12) (ks_x hA) (by decide) (by decide) (kp_x_tracks hA) lf_Ls_63 (by decide +kernel) ?_
      refine pw_iload_n (k4 := 1) rfl (by decide +kernel) ?_
      refine pq_putI (c := 8) (k := 1) (ks_tr hA) (by decide) (by decide) lf_Ls_317 (Or.inl rfl) (by decide +kernel) ?_
      refine pw_iconst (n := 1) (v := 1) (by decide) (by decide +kernel) ?_
      exact pq_zret rfl (by decide) (by decide +kernel) ⟨fun _ => ⟨rfl, rfl⟩, fun h => absurd ⟨Int32.not_lt.mp z2, z13⟩ h⟩
    · refine pw_iconst (n := 0) (v := 0) (by decide) (by decide +kernel) ?_
      exact pq_zret rfl (by decide) (by decide +kernel) ⟨fun h => absurd h.2 z13, fun _ => ⟨rfl, rfl⟩⟩

theorem ct_Ls_who {sh : List pSh} {I : Nat → Nat → Int32} {L : Nat → Nat → Int64} {P : Nat → Nat → Option Nat} (hA : kA sh P) {w t : Nat} (hw : w = 62 ∨ w = 68 ∨ w = 74) (ht : t = 3 ∨ t = 30) (hwt : P w 0 = some t) (hxt : P 1 2 = some t) (hxw : P 1 7 = some w) {np ns nd : Nat} (hn : tOK I t np ns nd) {kn : Nat} (hkn : iMin (I 123 0) (xKn I) = nI kn) (hk24 : kn ≤ 24) : pCn m_Ls_who 3 [.ref 1] sh (I, L, P) (rI (xWho I t w np) (I, L, P)) := by
  refine pCn_of (by decide +kernel) (Nat.le_of_ble_eq_true rfl) ?_
  refine pw_aload_n (k4 := 0) rfl (by decide +kernel) ?_
  refine pq_getP (c := 10) (k := 12) (ks_x hA) (by decide) (by decide) (kp_x_tracks hA) lf_Ls_63 (by decide +kernel) ?_
  refine pw_aload_n (k4 := 0) rfl (by decide +kernel) ?_
  refine pq_getP (c := 10) (k := 7) (ks_x hA) (by decide) (by decide) hxw lf_Ls_43 (by decide +kernel) ?_
  refine pq_callV (ν := m_Tr_suspects) (d' := 2) (av := [_]) (c := 8) (by decide +kernel) lm_Ls_320 ok_Tr_suspects (show _ = some 1 by decide +kernel) (ks_tr hA) rfl (by decide) (by omega) (Nat.le_of_ble_eq_true rfl) (ct_Tr_suspects hA hw ht hwt hn hkn hk24) ?_
  rintro _ _ ⟨rfl, rfl⟩
  exact pq_iret rfl (by decide +kernel) ⟨rfl, rfl⟩

def xTellsQ (I : Nat → Nat → Int32) (t w np : Nat) (q : Int32) : Int32 :=
  if ¬ (0 ≤ q ∧ q ≤ 2) then -1 else if (xTell I t w np).1 = -2 then -2
  else if q = 2 then xBc (xFit I t w (xWho I t w np) ((xTell I t w np).1 / 21) ((xTell I t w np).1 - (xTell I t w np).1 / 21 * 21) np)
  else if q = 0 then (xTell I t w np).1 / 21 else (xTell I t w np).1 - (xTell I t w np).1 / 21 * 21

theorem ct_Ls_tells {sh : List pSh} {I : Nat → Nat → Int32} {L : Nat → Nat → Int64} {P : Nat → Nat → Option Nat} (hA : kA sh P) {w t : Nat} (hw : w = 62 ∨ w = 68 ∨ w = 74) (ht : t = 3 ∨ t = 30) (hwt : P w 0 = some t) (hxt : P 1 2 = some t) (hxw : P 1 7 = some w) {np ns nd : Nat} (hn : tOK I t np ns nd) {kn : Nat} (hkn : iMin (I 123 0) (xKn I) = nI kn) (hk24 : kn ≤ 24) (q : Int32) : pCn m_Ls_tells 4 [.ref 1, .int q] sh (I, L, P) (rI (xTellsQ I t w np q) (I, L, P)) := by
  refine pCn_of (by decide +kernel) (Nat.le_of_ble_eq_true rfl) ?_
  refine pw_iload_n (k4 := 1) rfl (by decide +kernel) ?_
  refine pw_if_lt (off := 8) (tgt := 9) (by decide +kernel) (by decide +kernel) (fun z1 => ?_) (fun z1 => ?_)
  · refine pw_iconst (n := -1) (v := -1) (by decide) (by decide +kernel) ?_
    exact pq_iret rfl (by decide +kernel) ⟨congrArg (fun z => some (Value.int z)) (by unfold xTellsQ; rw [if_pos (fun h => absurd z1 (Int32.not_lt.mpr h.1))]), rfl⟩
  · refine pw_iload_n (k4 := 1) rfl (by decide +kernel) ?_
    refine pw_iconst (n := 2) (v := 2) (by decide) (by decide +kernel) ?_
    refine pw_icmp_le (off := 5) (tgt := 11) (by decide +kernel) (by decide +kernel) (fun z6 => ?_) (fun z6 => ?_)
    · refine pw_aload_n (k4 := 0) rfl (by decide +kernel) ?_
      refine pq_getP (c := 10) (k := 12) (ks_x hA) (by decide) (by decide) (kp_x_tracks hA) lf_Ls_63 (by decide +kernel) ?_
      refine pw_aload_n (k4 := 0) rfl (by decide +kernel) ?_
      refine pq_getP (c := 10) (k := 7) (ks_x hA) (by decide) (by decide) hxw lf_Ls_43 (by decide +kernel) ?_
      refine pq_callV (ν := m_Tr_mostTelling) (d' := 3) (av := [_]) (c := 8) (by decide +kernel) lm_Ls_324 ok_Tr_mostTelling (show _ = some 1 by decide +kernel) (ks_tr hA) rfl (by decide) (by omega) (Nat.le_of_ble_eq_true rfl) (ct_Tr_mostTelling hA hw ht hwt hn hkn hk24) ?_
      rintro _ _ ⟨rfl, rfl⟩
      refine pq_istore_n (k4 := 2) (Nat.le_of_ble_eq_true rfl) rfl (by decide +kernel) ?_
      refine pw_iload_n (k4 := 2) rfl (by decide +kernel) ?_
      refine pw_bipush (n := -2) (v := -2) (by decide) (by decide +kernel) ?_
      refine pw_icmp_ne (off := 6) (tgt := 32) (by decide +kernel) (by decide +kernel) (fun z26 => ?_) (fun z26 => ?_)
      · refine pw_iload_n (k4 := 2) rfl (by decide +kernel) ?_
        refine pw_bipush (n := 21) (v := 21) (by decide) (by decide +kernel) ?_
        refine pw_idiv (by decide) (by decide +kernel) ?_
        refine pq_istore_n (k4 := 3) (Nat.le_of_ble_eq_true rfl) rfl (by decide +kernel) ?_
        refine pw_iload_n (k4 := 2) rfl (by decide +kernel) ?_
        refine pw_bipush (n := 21) (v := 21) (by decide) (by decide +kernel) ?_
        refine pw_irem (by decide) (by decide +kernel) ?_
        refine pq_istore (i := 4) (Nat.le_of_ble_eq_true rfl) rfl (by decide +kernel) ?_
        refine pw_iload_n (k4 := 1) rfl (by decide +kernel) ?_
        refine pw_iconst (n := 2) (v := 2) (by decide) (by decide +kernel) ?_
        refine pw_icmp_ne (off := 28) (tgt := 73) (by decide +kernel) (by decide +kernel) (fun z45 => ?_) (fun z45 => ?_)
        · refine pw_iload_n (k4 := 1) rfl (by decide +kernel) ?_
          refine pw_if_ne (off := 7) (tgt := 81) (by decide +kernel) (by decide +kernel) (fun z74 => ?_) (fun z74 => ?_)
          · refine pw_iload (i := 4) rfl (by decide +kernel) ?_
            exact pq_iret rfl (by decide +kernel) ⟨congrArg (fun z => some (Value.int z)) (by unfold xTellsQ; rw [if_neg (fun h => h ⟨Int32.not_lt.mp z1, z6⟩), if_neg z26, if_neg z45, if_neg z74]), rfl⟩
          · refine pw_iload_n (k4 := 3) rfl (by decide +kernel) ?_
            refine pw_goto (off := 5) (tgt := 83) (by decide +kernel) (by decide +kernel) ?_
            exact pq_iret rfl (by decide +kernel) ⟨congrArg (fun z => some (Value.int z)) (by unfold xTellsQ; rw [if_neg (fun h => h ⟨Int32.not_lt.mp z1, z6⟩), if_neg z26, if_neg z45, if_pos z74]), rfl⟩
        · refine pw_aload_n (k4 := 0) rfl (by decide +kernel) ?_
          refine pq_getP (c := 10) (k := 7) (ks_x hA) (by decide) (by decide) hxw lf_Ls_43 (by decide +kernel) ?_
          refine pw_aload_n (k4 := 0) rfl (by decide +kernel) ?_
          refine pq_getP (c := 10) (k := 12) (ks_x hA) (by decide) (by decide) (kp_x_tracks hA) lf_Ls_63 (by decide +kernel) ?_
          refine pw_aload_n (k4 := 0) rfl (by decide +kernel) ?_
          refine pq_getP (c := 10) (k := 7) (ks_x hA) (by decide) (by decide) hxw lf_Ls_43 (by decide +kernel) ?_
          refine pq_callV (ν := m_Tr_suspects) (d' := 2) (av := [_]) (c := 8) (by decide +kernel) lm_Ls_320 ok_Tr_suspects (show _ = some 1 by decide +kernel) (ks_tr hA) rfl (by decide) (by omega) (Nat.le_of_ble_eq_true rfl) (ct_Tr_suspects hA hw ht hwt hn hkn hk24) ?_
          rintro _ _ ⟨rfl, rfl⟩
          refine pw_iload_n (k4 := 3) rfl (by decide +kernel) ?_
          refine pw_iload (i := 4) rfl (by decide +kernel) ?_
          refine pq_callS (ν := m_Tr_fitting) (d' := 1) (av := [_, _, _, _]) (by decide +kernel) lm_Ls_327 ok_Tr_fitting (show _ = some 4 by decide +kernel) (by omega) (Nat.le_of_ble_eq_true rfl) (ct_Tr_fitting hA hw ht hwt hn _ _ _) ?_
          rintro _ _ ⟨rfl, rfl⟩
          refine pq_callS (ν := m_In_bitCount) (d' := 0) (av := [_]) (by decide +kernel) lm_Ls_174 ok_In_bitCount (show _ = some 1 by decide +kernel) (by omega) (Nat.le_of_ble_eq_true rfl) (ct_In_bitCount _) ?_
          rintro _ _ ⟨rfl, rfl⟩
          exact pq_iret rfl (by decide +kernel) ⟨congrArg (fun z => some (Value.int z)) (by unfold xTellsQ; rw [if_neg (fun h => h ⟨Int32.not_lt.mp z1, z6⟩), if_neg z26, if_pos z45]), rfl⟩
      · refine pw_bipush (n := -2) (v := -2) (by decide) (by decide +kernel) ?_
        exact pq_iret rfl (by decide +kernel) ⟨congrArg (fun z => some (Value.int z)) (by unfold xTellsQ; rw [if_neg (fun h => h ⟨Int32.not_lt.mp z1, z6⟩), if_pos z26]), rfl⟩
    · refine pw_iconst (n := -1) (v := -1) (by decide) (by decide +kernel) ?_
      exact pq_iret rfl (by decide +kernel) ⟨congrArg (fun z => some (Value.int z)) (by unfold xTellsQ; rw [if_pos (fun h => absurd h.2 z6)]), rfl⟩

theorem ct_Ls_ring {sh : List pSh} {I : Nat → Nat → Int32} {L : Nat → Nat → Int64} {P : Nat → Nat → Option Nat} (hA : kA sh P) {t : Nat} (ht : t = 3 ∨ t = 30) (hxt : P 1 2 = some t) : pCn m_Ls_ring 8 [.ref 1] sh (I, L, P) (rR (xRl (I (t + 16)) (I (t + 17)) 5 (I (t + 18))) I L P t) := by
  refine pCn_of (by decide +kernel) (Nat.le_of_ble_eq_true rfl) ?_
  refine pw_aload_n (k4 := 0) rfl (by decide +kernel) ?_
  refine pq_getP (c := 10) (k := 2) (ks_x hA) (by decide) (by decide) hxt lf_Ls_18 (by decide +kernel) ?_
  refine pq_getP (c := 7) (k := 17) (ks_t hA ht) (by decide) (by decide) (kp_t_swaps hA ht) lf_Ls_331 (by decide +kernel) ?_
  refine pq_callV (ν := m_Sw_findRing) (d' := 7) (av := []) (c := 6) (by decide +kernel) lm_Ls_335 ok_Sw_findRing (show _ = some 0 by decide +kernel) (ks_t_swaps hA ht) rfl (by decide) (by omega) (Nat.le_of_ble_eq_true rfl) (ct_Sw_findRing hA ht) ?_
  rintro _ _ ⟨rfl, rfl⟩
  exact pq_iret rfl (by decide +kernel) ⟨rfl, rfl⟩

def rGood (q : Int32 × (Nat → Int32)) (I : Nat → Nat → Int32) (L : Nat → Nat → Int64) (P : Nat → Nat → Option Nat) (t : Nat) (k : Int32) : Option Value → pM → Prop := fun r M => r = some (.int (if k < q.1 ∧ k < 6 then q.2 (ixn k) else -2)) ∧ M = (aU I (t + 18) q.2, L, P)

theorem ct_Ls_good {sh : List pSh} {I : Nat → Nat → Int32} {L : Nat → Nat → Int64} {P : Nat → Nat → Option Nat} (hA : kA sh P) {t : Nat} (ht : t = 3 ∨ t = 30) (hxt : P 1 2 = some t) (k : Int32) : pCn m_Ls_good 8 [.ref 1, .int k] sh (I, L, P) (rIf (0 ≤ k) (rGood (xRl (I (t + 16)) (I (t + 17)) 5 (I (t + 18))) I L P t k) (rI (-1) (I, L, P))) := by
  refine pCn_of (by decide +kernel) (Nat.le_of_ble_eq_true rfl) ?_
  refine pw_iload_n (k4 := 1) rfl (by decide +kernel) ?_
  refine pw_if_ge (off := 5) (tgt := 6) (by decide +kernel) (by decide +kernel) (fun z1 => ?_) (fun z1 => ?_)
  · refine pw_aload_n (k4 := 0) rfl (by decide +kernel) ?_
    refine pq_getP (c := 10) (k := 2) (ks_x hA) (by decide) (by decide) hxt lf_Ls_18 (by decide +kernel) ?_
    refine pq_getP (c := 7) (k := 17) (ks_t hA ht) (by decide) (by decide) (kp_t_swaps hA ht) lf_Ls_331 (by decide +kernel) ?_
    refine pq_callV (ν := m_Sw_findRing) (d' := 7) (av := []) (c := 6) (by decide +kernel) lm_Ls_335 ok_Sw_findRing (show _ = some 0 by decide +kernel) (ks_t_swaps hA ht) rfl (by decide) (by omega) (Nat.le_of_ble_eq_true rfl) (ct_Sw_findRing hA ht) ?_
    rintro _ _ ⟨rfl, rfl⟩
    refine pq_istore_n (k4 := 2) (Nat.le_of_ble_eq_true rfl) rfl (by decide +kernel) ?_
    refine pw_iload_n (k4 := 1) rfl (by decide +kernel) ?_
    refine pw_iload_n (k4 := 2) rfl (by decide +kernel) ?_
    refine pw_icmp_ge (off := 24) (tgt := 43) (by decide +kernel) (by decide +kernel) (fun z19 => ?_) (fun z19 => ?_)
    · refine pw_bipush (n := -2) (v := -2) (by decide) (by decide +kernel) ?_
      exact pq_iret rfl (by decide +kernel) ⟨fun _ => ⟨congrArg (fun z => some (Value.int z)) (if_neg (fun h => Int32.not_lt.mpr z19 h.1)).symm, rfl⟩, fun h => absurd z1 h⟩
    · refine pw_iload_n (k4 := 1) rfl (by decide +kernel) ?_
      refine pw_bipush (n := 6) (v := 6) (by decide) (by decide +kernel) ?_
      refine pw_icmp_ge (off := 18) (tgt := 43) (by decide +kernel) (by decide +kernel) (fun z25 => ?_) (fun z25 => ?_)
      · refine pw_bipush (n := -2) (v := -2) (by decide) (by decide +kernel) ?_
        exact pq_iret rfl (by decide +kernel) ⟨fun _ => ⟨congrArg (fun z => some (Value.int z)) (if_neg (fun h => Int32.not_lt.mpr z25 h.2)).symm, rfl⟩, fun h => absurd z1 h⟩
      · obtain ⟨j, hj, rfl⟩ := nI_of (Int32.not_lt.mpr z1)
        have hj6 : j < 6 := (nI_ltI hj (by decide)).mp (Int32.not_le.mp z25)
        refine pw_aload_n (k4 := 0) rfl (by decide +kernel) ?_
        refine pq_getP (c := 10) (k := 2) (ks_x hA) (by decide) (by decide) hxt lf_Ls_18 (by decide +kernel) ?_
        refine pq_getP (c := 7) (k := 17) (ks_t hA ht) (by decide) (by decide) (kp_t_swaps hA ht) lf_Ls_331 (by decide +kernel) ?_
        refine pq_getP (c := 6) (k := 3) (ks_t_swaps hA ht) (by decide) (by decide) (kp_t_swaps_path hA ht) lf_Ls_340 (by decide +kernel) ?_
        refine pw_iload_n (k4 := 1) rfl (by decide +kernel) ?_
        refine pq_iald j rfl (by omega) (by decide) (ks_t_swaps_path hA ht) (by decide +kernel) ?_
        refine pw_goto (off := 5) (tgt := 45) (by decide +kernel) (by decide +kernel) ?_
        exact pq_iret rfl (by decide +kernel) ⟨fun _ => ⟨congrArg (fun z => some (Value.int z)) (by rw [if_pos ⟨Int32.not_le.mp z19, Int32.not_le.mp z25⟩, aU_eq, ixn_nI (by omega)]), rfl⟩, fun h => absurd z1 h⟩
  · refine pw_iconst (n := -1) (v := -1) (by decide) (by decide +kernel) ?_
    exact pq_iret rfl (by decide +kernel) ⟨fun h => absurd h z1, fun _ => ⟨rfl, rfl⟩⟩

def rUndo (I : Nat → Nat → Int32) (L : Nat → Nat → Int64) (P : Nat → Nat → Option Nat) (w n' sz : Nat) : Option Value → pM → Prop := fun r M => if sz = 0 then r = some (.int (-1)) ∧ M = (I, L, P) else r = some (.int (nI (sz - 1))) ∧ M = (xRec I w n' sz, L, P)

theorem ct_Ls_undo {sh : List pSh} {I : Nat → Nat → Int32} {L : Nat → Nat → Int64} {P : Nat → Nat → Option Nat} (hA : kA sh P) {w t : Nat} (hw : w = 62 ∨ w = 68 ∨ w = 74) (ht : t = 3 ∨ t = 30) (hwt : P w 0 = some t) (hxt : P 1 2 = some t) (hxw : P 1 7 = some w) {nx sz : Nat} (hnx : I 80 1 = nI nx) (hnl : nx < 20) (hsz : I 80 0 = nI sz) (hsl : sz ≤ 20) {n' : Nat} (hm : (nx + 19) % 20 = n') (hml : n' < 20) : pCn m_Ls_undo 2 [.ref 1] sh (I, L, P) (rUndo I L P w n' sz) := by
  refine pCn_of (by decide +kernel) (Nat.le_of_ble_eq_true rfl) ?_
  refine pw_aload_n (k4 := 0) rfl (by decide +kernel) ?_
  refine pq_getP (c := 10) (k := 11) (ks_x hA) (by decide) (by decide) (kp_x_history hA) lf_Ls_56 (by decide +kernel) ?_
  refine pw_aload_n (k4 := 0) rfl (by decide +kernel) ?_
  refine pq_getP (c := 10) (k := 7) (ks_x hA) (by decide) (by decide) hxw lf_Ls_43 (by decide +kernel) ?_
  refine pq_callV (ν := m_Hi_recall) (d' := 1) (av := [_]) (c := 1) (by decide +kernel) lm_Ls_383 ok_Hi_recall (show _ = some 1 by decide +kernel) (ks_hi hA) rfl (by decide) (by omega) (Nat.le_of_ble_eq_true rfl) (ct_Hi_recall hA hw hnx hnl hsz hsl hm hml) ?_
  intro r M hr
  unfold rRec at hr
  by_cases hz : sz = 0
  · rw [if_pos hz] at hr
    obtain ⟨rfl, rfl⟩ := hr
    refine pw_if_eq (off := 13) (tgt := 24) (by decide +kernel) (by decide +kernel) (fun z11 => ?_) (fun z11 => ?_)
    · refine pw_iconst (n := -1) (v := -1) (by decide) (by decide +kernel) ?_
      exact pq_iret rfl (by decide +kernel) (by unfold rUndo; rw [if_pos hz]; exact ⟨rfl, rfl⟩)
    · exact absurd z11 (by decide)
  · rw [if_neg hz] at hr
    obtain ⟨rfl, rfl⟩ := hr
    refine pw_if_eq (off := 13) (tgt := 24) (by decide +kernel) (by decide +kernel) (fun z11 => ?_) (fun z11 => ?_)
    · exact absurd z11 (by decide)
    · refine pw_aload_n (k4 := 0) rfl (by decide +kernel) ?_
      refine pq_getP (c := 10) (k := 11) (ks_x hA) (by decide) (by decide) (kp_x_history hA) lf_Ls_56 (by decide +kernel) ?_
      refine pq_getI (c := 1) (k := 0) (ks_hi hA) (by decide) (by decide) lf_Ls_387 (by decide +kernel) ?_
      refine pn_val (nI (sz - 1)) (by unfold xRec; rw [aU_ne (by omega), aU_ne (by omega)]; exact sI_rs) ?_
      refine pw_goto (off := 4) (tgt := 25) (by decide +kernel) (by decide +kernel) ?_
      exact pq_iret rfl (by decide +kernel) (by unfold rUndo; rw [if_neg hz]; exact ⟨rfl, rfl⟩)

/-- what the pairs' rows may change -/
def o126 (I' I : Nat → Nat → Int32) : Prop := ∀ a, a < 126 ∨ 129 < a → I' a = I a
def rPr (I : Nat → Nat → Int32) (P : Nat → Nat → Option Nat) (v : Int32) : Option Value → pM → Prop := fun r M => r = some (.int v) ∧ ∃ I' L', M = (I', L', P) ∧ o126 I' I
def rPt (I : Nat → Nat → Int32) (P : Nat → Nat → Option Nat) (ns : Nat) (F : (Nat → Int32) → Nat → Int32) (s : Int32) : Option Value → pM → Prop := fun r M => ∃ f I' L', r = some (.int (F f (ixn s))) ∧ M = (I', L', P) ∧ o126 I' I ∧ ∀ s, s < ns → f s = -2

theorem ct_Ls_pairs {sh : List pSh} {I : Nat → Nat → Int32} {L : Nat → Nat → Int64} {P : Nat → Nat → Option Nat} (hA : kA sh P) {w t : Nat} (hw : w = 62 ∨ w = 68 ∨ w = 74) (ht : t = 3 ∨ t = 30) (hwt : P w 0 = some t) (hxt : P 1 2 = some t) (hxw : P 1 7 = some w) {np ns nd : Nat} (hn : tOK I t np ns nd) (hl : lOK I t) {db lc rc small large : Nat} (hlc : (lsL I w ns).length = lc) (hrc : (lsR I w ns).length = rc) (hdb : dgt rc = db) (hsl : (lc ≤ rc ∧ small = lc ∧ large = rc) ∨ (¬ lc ≤ rc ∧ small = rc ∧ large = lc)) : pCn m_Ls_pairs 6 [.ref 1] sh (I, L, P) (rPr I P (nI (bst (WM I t w ns db lc rc) small large (2 ^ small - 1) / 2 ^ (db * lc)))) := by
  refine pCn_of (by decide +kernel) (Nat.le_of_ble_eq_true rfl) ?_
  refine pw_aload_n (k4 := 0) rfl (by decide +kernel) ?_
  refine pq_getP (c := 10) (k := 13) (ks_x hA) (by decide) (by decide) (kp_x_couples hA) lf_Ls_70 (by decide +kernel) ?_
  refine pw_aload_n (k4 := 0) rfl (by decide +kernel) ?_
  refine pq_getP (c := 10) (k := 7) (ks_x hA) (by decide) (by decide) hxw lf_Ls_43 (by decide +kernel) ?_
  refine pq_callV (ν := m_Cp_match) (d' := 5) (av := [_]) (c := 0) (by decide +kernel) lm_Ls_258 ok_Cp_match (show _ = some 1 by decide +kernel) (ks_cp hA) rfl (by decide) (by omega) (Nat.le_of_ble_eq_true rfl) (ct_Cp_match hA hw ht hwt hn hl hlc hrc hdb hsl) ?_
  rintro _ _ ⟨rfl, J, f, L', rfl, hJ, hf⟩
  refine pw_aload_n (k4 := 0) rfl (by decide +kernel) ?_
  refine pq_getP (c := 10) (k := 13) (ks_x hA) (by decide) (by decide) (kp_x_couples hA) lf_Ls_70 (by decide +kernel) ?_
  refine pq_getI (c := 0) (k := 0) (ks_cp hA) (by decide) (by decide) lf_Ls_261 (by decide +kernel) ?_
  refine pn_val (nI (bst (WM I t w ns db lc rc) small large (2 ^ small - 1) / 2 ^ (db * lc))) (by rw [aU_ne (by decide)]; exact sI_rs) ?_
  exact pq_iret rfl (by decide +kernel) ⟨rfl, _, _, rfl, fun a ha => by rw [aU_ne (by omega), sI_ne (by omega)]; exact hJ a ha⟩

theorem ct_Ls_partner {sh : List pSh} {I : Nat → Nat → Int32} {L : Nat → Nat → Int64} {P : Nat → Nat → Option Nat} (hA : kA sh P) {w t : Nat} (hw : w = 62 ∨ w = 68 ∨ w = 74) (ht : t = 3 ∨ t = 30) (hwt : P w 0 = some t) (hxt : P 1 2 = some t) (hxw : P 1 7 = some w) {np ns nd : Nat} (hn : tOK I t np ns nd) (hl : lOK I t) {db lc rc small large : Nat} (hlc : (lsL I w ns).length = lc) (hrc : (lsR I w ns).length = rc) (hdb : dgt rc = db) (hsl : (lc ≤ rc ∧ small = lc ∧ large = rc) ∨ (¬ lc ≤ rc ∧ small = rc ∧ large = lc)) (s : Int32) : pCn m_Ls_partner 6 [.ref 1, .int s] sh (I, L, P) (rIf (xThere I t w s) (rPt I P ns (tlF (lsL I w ns) (lsR I w ns) db lc rc (bst (WM I t w ns db lc rc) small large (2 ^ small - 1)) lc) s) (rI (-1) (I, L, P))) := by
  refine pCn_of (by decide +kernel) (Nat.le_of_ble_eq_true rfl) ?_
  have h16 := hn.2.2.2.1
  have h5 := hn.2.1
  have h8 := hn.2.2.2.2.2
  refine pw_aload_n (k4 := 0) rfl (by decide +kernel) ?_
  refine pq_getP (c := 10) (k := 7) (ks_x hA) (by decide) (by decide) hxw lf_Ls_43 (by decide +kernel) ?_
  refine pw_iload_n (k4 := 1) rfl (by decide +kernel) ?_
  refine pq_callV (ν := m_Wo_isThere) (d' := 1) (av := [_]) (c := 9) (by decide +kernel) lm_Ls_211 ok_Wo_isThere (show _ = some 1 by decide +kernel) (ks_w hA hw) rfl (by decide) (by omega) (Nat.le_of_ble_eq_true rfl) (ct_Wo_isThere hA hw ht hwt hn _) ?_
  rintro _ _ ⟨rfl, rfl⟩
  refine pn_ifB_ne (off := 5) (tgt := 13) (by decide +kernel) (by decide +kernel) (fun z8 => ?_) (fun z8 => ?_)
  · obtain ⟨j, hj, rfl⟩ := nIn hn.2.2.1 (by omega) z8.1
    refine pw_aload_n (k4 := 0) rfl (by decide +kernel) ?_
    refine pq_getP (c := 10) (k := 13) (ks_x hA) (by decide) (by decide) (kp_x_couples hA) lf_Ls_70 (by decide +kernel) ?_
    refine pw_aload_n (k4 := 0) rfl (by decide +kernel) ?_
    refine pq_getP (c := 10) (k := 7) (ks_x hA) (by decide) (by decide) hxw lf_Ls_43 (by decide +kernel) ?_
    refine pq_callV (ν := m_Cp_match) (d' := 5) (av := [_]) (c := 0) (by decide +kernel) lm_Ls_258 ok_Cp_match (show _ = some 1 by decide +kernel) (ks_cp hA) rfl (by decide) (by omega) (Nat.le_of_ble_eq_true rfl) (ct_Cp_match hA hw ht hwt hn hl hlc hrc hdb hsl) ?_
    rintro _ _ ⟨rfl, J, f, L', rfl, hJ, hf⟩
    refine pw_aload_n (k4 := 0) rfl (by decide +kernel) ?_
    refine pq_getP (c := 10) (k := 13) (ks_x hA) (by decide) (by decide) (kp_x_couples hA) lf_Ls_70 (by decide +kernel) ?_
    refine pq_getP (c := 0) (k := 1) (ks_cp hA) (by decide) (by decide) (kp_cp_partnerOf hA) lf_Ls_264 (by decide +kernel) ?_
    refine pw_iload_n (k4 := 1) rfl (by decide +kernel) ?_
    refine pq_iald j rfl (by omega) (by decide) (ks_cp_partnerOf hA) (by decide +kernel) ?_
    exact pq_iret rfl (by decide +kernel) ⟨fun _ => ⟨f, _, L', congrArg (fun z => some (Value.int z)) (by rw [aU_eq, ixn_nI (by omega)]), rfl, fun a ha => by rw [aU_ne (by omega), sI_ne (by omega)]; exact hJ a ha, hf⟩, fun h => absurd z8 h⟩
  · refine pw_iconst (n := -1) (v := -1) (by decide) (by decide +kernel) ?_
    exact pq_iret rfl (by decide +kernel) ⟨fun h => absurd h z8, fun _ => ⟨rfl, rfl⟩⟩

def rWk (I : Nat → Nat → Int32) (P : Nat → Nat → Option Nat) (g : Nat → Int32) (q : Int32) : Option Value → pM → Prop := fun r M => r = some (.int (if q = 0 then g 0 else g 1)) ∧ ∃ L', M = (aU I 132 g, L', P)

theorem ct_Ls_walk {sh : List pSh} {I : Nat → Nat → Int32} {L : Nat → Nat → Int64} {P : Nat → Nat → Option Nat} (hA : kA sh P) {w t : Nat} (hw : w = 62 ∨ w = 68 ∨ w = 74) (ht : t = 3 ∨ t = 30) (hwt : P w 0 = some t) (hxt : P 1 2 = some t) (hxw : P 1 7 = some w) (hsw : P 132 2 = some w) {np ns nd : Nat} (hn : tOK I t np ns nd) (hl : lOK I t) (p n q : Int32) : pCn m_Ls_walk 15 [.ref 1, .int p, .int n, .int q] sh (I, L, P) (rIf (xHasP I t p ∧ 1 ≤ n ∧ n ≤ 8 ∧ 0 ≤ q ∧ q ≤ 1) (rWk I P (xPlan I t w (ixn p) (ixn n)) q) (rI (-1) (I, L, P))) := by
  refine pCn_of (by decide +kernel) (Nat.le_of_ble_eq_true rfl) ?_
  have h16 := hn.2.2.2.1
  have h5 := hn.2.1
  have h8 := hn.2.2.2.2.2
  refine pw_aload_n (k4 := 0) rfl (by decide +kernel) ?_
  refine pq_getP (c := 10) (k := 2) (ks_x hA) (by decide) (by decide) hxt lf_Ls_18 (by decide +kernel) ?_
  refine pw_iload_n (k4 := 1) rfl (by decide +kernel) ?_
  refine pq_callV (ν := m_Ta_hasPerson) (d' := 0) (av := [_]) (c := 7) (by decide +kernel) lm_Ls_162 ok_Ta_hasPerson (show _ = some 1 by decide +kernel) (ks_t hA ht) rfl (by decide) (by omega) (Nat.le_of_ble_eq_true rfl) (ct_Ta_hasPerson hA ht _) ?_
  rintro _ _ ⟨rfl, rfl⟩
  refine pn_ifB_eq (off := 23) (tgt := 31) (by decide +kernel) (by decide +kernel) (fun z8 => ?_) (fun z8 => ?_)
  · refine pw_iconst (n := -1) (v := -1) (by decide) (by decide +kernel) ?_
    exact pq_iret rfl (by decide +kernel) ⟨fun h => absurd h.1 z8, fun _ => ⟨rfl, rfl⟩⟩
  · refine pw_iload_n (k4 := 2) rfl (by decide +kernel) ?_
    refine pw_iconst (n := 1) (v := 1) (by decide) (by decide +kernel) ?_
    refine pw_icmp_lt (off := 18) (tgt := 31) (by decide +kernel) (by decide +kernel) (fun z13 => ?_) (fun z13 => ?_)
    · refine pw_iconst (n := -1) (v := -1) (by decide) (by decide +kernel) ?_
      exact pq_iret rfl (by decide +kernel) ⟨fun h => absurd z13 (Int32.not_lt.mpr h.2.1), fun _ => ⟨rfl, rfl⟩⟩
    · refine pw_iload_n (k4 := 2) rfl (by decide +kernel) ?_
      refine pw_bipush (n := 8) (v := 8) (by decide) (by decide +kernel) ?_
      refine pw_icmp_gt (off := 12) (tgt := 31) (by decide +kernel) (by decide +kernel) (fun z19 => ?_) (fun z19 => ?_)
      · refine pw_iconst (n := -1) (v := -1) (by decide) (by decide +kernel) ?_
        exact pq_iret rfl (by decide +kernel) ⟨fun h => absurd z19 (Int32.not_lt.mpr h.2.2.1), fun _ => ⟨rfl, rfl⟩⟩
      · refine pw_iload_n (k4 := 3) rfl (by decide +kernel) ?_
        refine pw_if_lt (off := 8) (tgt := 31) (by decide +kernel) (by decide +kernel) (fun z23 => ?_) (fun z23 => ?_)
        · refine pw_iconst (n := -1) (v := -1) (by decide) (by decide +kernel) ?_
          exact pq_iret rfl (by decide +kernel) ⟨fun h => absurd z23 (Int32.not_lt.mpr h.2.2.2.1), fun _ => ⟨rfl, rfl⟩⟩
        · refine pw_iload_n (k4 := 3) rfl (by decide +kernel) ?_
          refine pw_iconst (n := 1) (v := 1) (by decide) (by decide +kernel) ?_
          refine pw_icmp_le (off := 5) (tgt := 33) (by decide +kernel) (by decide +kernel) (fun z28 => ?_) (fun z28 => ?_)
          · obtain ⟨p, hp, rfl⟩ := nIn hn.1 (by omega) z8
            obtain ⟨n, hn1, rfl⟩ := nI_of (Int32.not_lt.mpr (Int32.le_trans (show (0 : Int32) ≤ 1 by decide) (Int32.not_lt.mp z13)))
            have hn8 : n ≤ 8 := (nI_leI hn1 (by decide)).mp (Int32.not_lt.mp z19)
            refine pw_aload_n (k4 := 0) rfl (by decide +kernel) ?_
            refine pq_getP (c := 10) (k := 14) (ks_x hA) (by decide) (by decide) (kp_x_stroll hA) lf_Ls_79 (by decide +kernel) ?_
            refine pw_iload_n (k4 := 1) rfl (by decide +kernel) ?_
            refine pw_iload_n (k4 := 2) rfl (by decide +kernel) ?_
            refine pq_callV (ν := m_St_plan) (d' := (n + 6)) (av := [_, _]) (c := 5) (by decide +kernel) lm_Ls_267 ok_St_plan (show _ = some 2 by decide +kernel) (ks_st hA) rfl (by decide) (by omega) (Nat.le_of_ble_eq_true rfl) (ct_St_plan hA hw ht hwt hsw hn hl hp hn8) ?_
            rintro _ _ ⟨rfl, L', rfl⟩
            refine pw_iload_n (k4 := 3) rfl (by decide +kernel) ?_
            refine pw_if_ne (off := 13) (tgt := 56) (by decide +kernel) (by decide +kernel) (fun z43 => ?_) (fun z43 => ?_)
            · refine pw_aload_n (k4 := 0) rfl (by decide +kernel) ?_
              refine pq_getP (c := 10) (k := 14) (ks_x hA) (by decide) (by decide) (kp_x_stroll hA) lf_Ls_79 (by decide +kernel) ?_
              refine pq_getI (c := 5) (k := 1) (ks_st hA) (by decide) (by decide) lf_Ls_273 (by decide +kernel) ?_
              exact pq_iret rfl (by decide +kernel) ⟨fun _ => ⟨congrArg (fun z => some (Value.int z)) (by rw [if_neg z43, aU_eq, ixn_nI (by omega), ixn_nI (by omega)]), L', by rw [ixn_nI (by omega), ixn_nI (by omega)]⟩, fun h => absurd ⟨z8, Int32.not_lt.mp z13, Int32.not_lt.mp z19, Int32.not_lt.mp z23, z28⟩ h⟩
            · refine pw_aload_n (k4 := 0) rfl (by decide +kernel) ?_
              refine pq_getP (c := 10) (k := 14) (ks_x hA) (by decide) (by decide) (kp_x_stroll hA) lf_Ls_79 (by decide +kernel) ?_
              refine pq_getI (c := 5) (k := 0) (ks_st hA) (by decide) (by decide) lf_Ls_270 (by decide +kernel) ?_
              refine pw_goto (off := 10) (tgt := 63) (by decide +kernel) (by decide +kernel) ?_
              exact pq_iret rfl (by decide +kernel) ⟨fun _ => ⟨congrArg (fun z => some (Value.int z)) (by rw [if_pos z43, aU_eq, ixn_nI (by omega), ixn_nI (by omega)]), L', by rw [ixn_nI (by omega), ixn_nI (by omega)]⟩, fun h => absurd ⟨z8, Int32.not_lt.mp z13, Int32.not_lt.mp z19, Int32.not_lt.mp z23, z28⟩ h⟩
          · refine pw_iconst (n := -1) (v := -1) (by decide) (by decide +kernel) ?_
            exact pq_iret rfl (by decide +kernel) ⟨fun h => absurd h.2.2.2.2 z28, fun _ => ⟨rfl, rfl⟩⟩
