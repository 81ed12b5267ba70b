/-! ===== pairs: weights, the best matching, its telling: the class ===== -/
/-- a pair's weight: its sum on top, then the digit of the left shoe i whose partner is the right one j -/
def WN (db lc p i j : Nat) : Nat := p * 2 ^ (db * lc) + (2 ^ db - 1 - j) * 2 ^ (db * (lc - 1 - i))
theorem nbit {m i : Nat} (hm : m < 2 ^ 31) (hi : i < 31) : (nI m >>> (nI i &&& 31)) &&& 1 = nI (m / 2 ^ i % 2) := by
  rw [pk_shrN hm _ i (s_l i (by omega)), pk_andN (Nat.lt_of_le_of_lt (Nat.div_le_self _ _) (by omega)) 1 (by decide)]
theorem nbit_1 {m i : Nat} (hm : m < 2 ^ 31) (hi : i < 31) : (nI m >>> (nI i &&& 31)) &&& 1 = 1 ↔ m.testBit i = true := by
  rw [nbit hm hi, Nat.testBit_eq_decide_div_mod_eq, show (1 : Int32) = nI 1 from rfl, nI_eq (by omega) (by omega)]
  exact ⟨fun h => decide_eq_true h, fun h => of_decide_eq_true h⟩
/-- the best of a set m of the small side, its i first ones looked at -/
def bw (bf rf : Nat → Nat) (m : Nat) : Nat → Nat
  | 0 => bf m
  | i + 1 => if m.testBit i then max (bw bf rf m i) (bf (m ^^^ 2 ^ i) + rf i) else bw bf rf m i
/-- the best of a set m behind j of the large side -/
def bst (W : Nat → Nat → Nat) (small : Nat) : Nat → Nat → Nat
  | 0, _ => 0
  | j + 1, m => bw (bst W small j) (fun i => W i j) m small
theorem bw_lt {bf rf : Nat → Nat} {m A R : Nat} (hb : ∀ x, bf x ≤ A) (hr : ∀ i, rf i ≤ R) : ∀ i, bw bf rf m i ≤ A + R
  | 0 => by have := hb m; unfold bw; omega
  | i + 1 => by
    have ih := bw_lt (m := m) hb hr i
    have h1 := hb (m ^^^ 2 ^ i)
    have h2 := hr i
    unfold bw
    split
    · omega
    · exact ih
theorem bst_lt {W : Nat → Nat → Nat} {small R : Nat} (hr : ∀ i j, W i j ≤ R) : ∀ j m, bst W small j m ≤ j * R
  | 0, m => by unfold bst; omega
  | j + 1, m => by
    unfold bst
    rw [Nat.succ_mul]
    exact bw_lt (fun x => bst_lt hr j x) (fun i => hr i j) small
theorem lMax_N {a b : Nat} (ha : a < 2 ^ 63) (hb : b < 2 ^ 63) : lMax (lN a) (lN b) = lN (max a b) := by
  unfold lMax
  by_cases h : b < a
  · rw [if_pos ((pk_lLT hb ha).mpr h), Nat.max_eq_left (by omega)]
  · rw [if_neg (fun q => h ((pk_lLT hb ha).mp q)), Nat.max_eq_right (by omega)]
theorem xor_bit_lt0 : ∀ m : Fin 256, ∀ i : Fin 8, m.val.testBit i.val = true → m.val ^^^ 2 ^ i.val < m.val := by decide +kernel
theorem xor_bit_lt {m i : Nat} (hm : m < 256) (hi : i < 8) (h : m.testBit i = true) : m ^^^ 2 ^ i < m := xor_bit_lt0 ⟨m, hm⟩ ⟨i, hi⟩ h
theorem bw_y {bf rf : Nat → Nat} {m i : Nat} (h : m.testBit i = true) : bw bf rf m (i + 1) = max (bw bf rf m i) (bf (m ^^^ 2 ^ i) + rf i) := if_pos h
theorem bw_n {bf rf : Nat → Nat} {m i : Nat} (h : ¬ m.testBit i = true) : bw bf rf m (i + 1) = bw bf rf m i := if_neg h

theorem ct_Cp_weight {sh : List pSh} {I : Nat → Nat → Int32} {L : Nat → Nat → Int64} {P : Nat → Nat → Option Nat} (hA : kA sh P) {w t : Nat} (hw : w = 62 ∨ w = 68 ∨ w = 74) (ht : t = 3 ∨ t = 30) (hwt : P w 0 = some t) {np ns nd : Nat} (hn : tOK I t np ns nd) (hl : lOK I t) {J : Nat → Nat → Int32} (hJ : gOK I J w ns) {db lc rc : Nat} (hlc : (lsL I w ns).length = lc) (hrc : (lsR I w ns).length = rc) (hdb : dgt rc = db) (h8 : J 126 8 = nI db) {i j li rj : Nat} (hi : (lsL I w ns)[i]? = some li) (hj : (lsR I w ns)[j]? = some rj) : pCn m_Cp_weight 4 [.ref 126, .ref w, .int (nI i), .int (nI j)] sh (J, L, P) (rJy (lN (WN db lc (pN I t w li rj) i j)) J L P t) := by
  refine pCn_of (by decide +kernel) (Nat.le_of_ble_eq_true rfl) ?_
  have h16 := hn.2.2.2.1
  have hls := ls_sum I w ns
  have hli := ls_at hi
  have hrj := ls_at hj
  have hil : i < lc := by rw [← hlc]; exact (List.getElem?_eq_some_iff.mp hi).1
  have hjl : j < rc := by rw [← hrc]; exact (List.getElem?_eq_some_iff.mp hj).1
  have hd := dgt_in rc (by omega)
  have hm := dgt_mul (r := rc) (l := lc) (by omega)
  rw [hdb] at hd hm
  have hm2 : db * (lc - 1 - i) ≤ db * lc := Nat.mul_le_mul_left _ (by omega)
  have hp := (pN_eq I t w li rj).2
  have h32 : 2 ^ db ≤ 2 ^ 5 := Nat.pow_le_pow_right (by decide) hd.2.1
  refine pw_iconst (n := 1) (v := 1) (by decide) (by decide +kernel) ?_
  refine pw_aload_n (k4 := 0) rfl (by decide +kernel) ?_
  refine pq_getI (c := 0) (k := 8) (ks_cp hA) (by decide) (by decide) lf_Cp_75 (by decide +kernel) ?_
  refine pn_val (nI (db)) h8 ?_
  refine pw_ishl (by decide +kernel) ?_
  refine pn_val (nI (2 ^ db)) (nI_pow (by omega)) ?_
  refine pw_iconst (n := 1) (v := 1) (by decide) (by decide +kernel) ?_
  refine pn_isub (2 ^ db) 1 rfl rfl (by omega) (by decide +kernel) ?_
  refine pw_iload_n (k4 := 3) rfl (by decide +kernel) ?_
  refine pn_isub ((2 ^ db) - 1) j rfl rfl (by omega) (by decide +kernel) ?_
  refine pw_i2l (by decide +kernel) ?_
  refine pn_valJ (lN (2 ^ db - 1 - j)) (nI_l (by omega)) ?_
  refine pq_lstore (i := 4) (Nat.le_of_ble_eq_true rfl) rfl (by decide +kernel) ?_
  refine pw_aload_n (k4 := 1) rfl (by decide +kernel) ?_
  refine pw_aload_n (k4 := 0) rfl (by decide +kernel) ?_
  refine pq_getP (c := 0) (k := 2) (ks_cp hA) (by decide) (by decide) (kp_cp_lefts hA) lf_Cp_15 (by decide +kernel) ?_
  refine pw_iload_n (k4 := 2) rfl (by decide +kernel) ?_
  refine pq_iald i rfl (by omega) (by decide) (ks_cp_lefts hA) (by decide +kernel) ?_
  refine pn_val (nI (li)) (hJ.2.2.1 i li hi) ?_
  refine pw_aload_n (k4 := 0) rfl (by decide +kernel) ?_
  refine pq_getP (c := 0) (k := 3) (ks_cp hA) (by decide) (by decide) (kp_cp_rights hA) lf_Cp_18 (by decide +kernel) ?_
  refine pw_iload_n (k4 := 3) rfl (by decide +kernel) ?_
  refine pq_iald j rfl (by omega) (by decide) (ks_cp_rights hA) (by decide +kernel) ?_
  refine pn_val (nI (rj)) (hJ.2.2.2.1 j rj hj) ?_
  refine pq_callV (ν := m_Wo_pairOf) (d' := 3) (av := [_, _]) (c := 9) (by decide +kernel) lm_Cp_78 ok_Wo_pairOf (show _ = some 2 by decide +kernel) (ks_w hA hw) rfl (by decide) (by omega) (Nat.le_of_ble_eq_true rfl) (ct_Wo_pairOfF hA hw ht hwt (tOK_cg (hJ.1 t (by omega)) hn) (lOK_cg (hJ.1 (t + 22) (by omega)) (hJ.1 (t + 23) (by omega)) hl) li rj hli.1 hrj.1) ?_
  rintro _ _ ⟨rfl, L', rfl, hfr⟩
  refine pn_val (nI (pN I t w li rj)) ((xPair_cg (fun a ha => hJ.1 a (by omega)) li rj).trans (pN_eq I t w li rj).1) ?_
  refine pw_i2l (by decide +kernel) ?_
  refine pn_valJ (lN (pN I t w li rj)) (nI_l (by omega)) ?_
  refine pq_lstore (i := 6) (Nat.le_of_ble_eq_true rfl) rfl (by decide +kernel) ?_
  refine pw_lload (i := 6) rfl (by decide +kernel) ?_
  refine pw_aload_n (k4 := 0) rfl (by decide +kernel) ?_
  refine pq_getI (c := 0) (k := 8) (ks_cp hA) (by decide) (by decide) lf_Cp_75 (by decide +kernel) ?_
  refine pn_val (nI (db)) h8 ?_
  refine pw_aload_n (k4 := 0) rfl (by decide +kernel) ?_
  refine pq_getI (c := 0) (k := 6) (ks_cp hA) (by decide) (by decide) lf_Cp_32 (by decide +kernel) ?_
  refine pn_val (nI (lc)) (by rw [← hlc]; exact hJ.2.2.2.2.1) ?_
  refine pn_imul db lc rfl rfl (by decide +kernel) ?_
  refine pw_lshl (by decide +kernel) ?_
  refine pn_valJ (lN (pN I t w li rj * 2 ^ (db * lc))) (wb_shl _ (by omega)) ?_
  refine pw_lload (i := 4) rfl (by decide +kernel) ?_
  refine pw_aload_n (k4 := 0) rfl (by decide +kernel) ?_
  refine pq_getI (c := 0) (k := 8) (ks_cp hA) (by decide) (by decide) lf_Cp_75 (by decide +kernel) ?_
  refine pn_val (nI (db)) h8 ?_
  refine pw_aload_n (k4 := 0) rfl (by decide +kernel) ?_
  refine pq_getI (c := 0) (k := 6) (ks_cp hA) (by decide) (by decide) lf_Cp_32 (by decide +kernel) ?_
  refine pn_val (nI (lc)) (by rw [← hlc]; exact hJ.2.2.2.2.1) ?_
  refine pw_iconst (n := 1) (v := 1) (by decide) (by decide +kernel) ?_
  refine pn_isub lc 1 rfl rfl (by omega) (by decide +kernel) ?_
  refine pw_iload_n (k4 := 2) rfl (by decide +kernel) ?_
  refine pn_isub (lc - 1) i rfl rfl (by omega) (by decide +kernel) ?_
  refine pn_imul db ((lc - 1) - i) rfl rfl (by decide +kernel) ?_
  refine pw_lshl (by decide +kernel) ?_
  refine pn_valJ (lN ((2 ^ db - 1 - j) * 2 ^ (db * (lc - 1 - i)))) (wb_shl _ (by omega)) ?_
  refine pw_ladd (by decide +kernel) ?_
  refine pn_valJ (lN (WN db lc (pN I t w li rj) i j)) (lN_add _ _) ?_
  exact pq_lret rfl (by decide +kernel) ⟨rfl, _, rfl, hfr⟩

theorem ct_Cp_bestWith {sh : List pSh} {I : Nat → Nat → Int32} {L : Nat → Nat → Int64} {P : Nat → Nat → Option Nat} (hA : kA sh P) {m small : Nat} (hm : m < 256) (hsm : small ≤ 8) {bf rf : Nat → Nat} {A1 R1 : Nat} (hA1 : ∀ x, bf x ≤ A1) (hR1 : ∀ i, rf i ≤ R1) (hAR : A1 + R1 < 2 ^ 62) (hbf : ∀ x, x ≤ m → L 130 x = lN (bf x)) (hrf : ∀ i, i < small → L 131 i = lN (rf i)) : pCn m_Cp_bestWith 1 [.ref 126, .int (nI m), .int (nI small)] sh (I, L, P) (rL (lN (bw bf rf m small)) (I, L, P)) := by
  refine pCn_of (by decide +kernel) (Nat.le_of_ble_eq_true rfl) ?_
  have hbl : ∀ k, bw bf rf m k ≤ A1 + R1 := fun k => bw_lt hA1 hR1 k
  have hL := pUpTo small (fun k => pWn m_Cp_bestWith 1 sh (rL (lN (bw bf rf m small)) (I, L, P)) 10 [some (.ref 126), some (.int (nI m)), some (.int (nI small)), some (.long (lN (bw bf rf m k))), none, some (.int (nI k))] [] (I, L, P)) (by
    intro k hk ih
    refine pw_iload (i := 5) rfl (by decide +kernel) ?_
    refine pw_iload_n (k4 := 2) rfl (by decide +kernel) ?_
    refine pn_icmp_ge (off := 43) (tgt := 56) k small rfl rfl (by omega) (by omega) (by decide +kernel) (by decide +kernel) (fun z13 => ?_) (fun z13 => ?_)
    · obtain rfl : k = small := by omega
      refine pw_lload_n (k4 := 3) rfl (by decide +kernel) ?_
      exact pq_lret rfl (by decide +kernel) ⟨rfl, rfl⟩
    · refine pw_iload_n (k4 := 1) rfl (by decide +kernel) ?_
      refine pw_iload (i := 5) rfl (by decide +kernel) ?_
      refine pw_ishr (by decide +kernel) ?_
      refine pw_iconst (n := 1) (v := 1) (by decide) (by decide +kernel) ?_
      refine pw_iand (by decide +kernel) ?_
      refine pw_iconst (n := 1) (v := 1) (by decide) (by decide +kernel) ?_
      refine pw_icmp_ne (off := 27) (tgt := 50) (by decide +kernel) (by decide +kernel) (fun z23 => ?_) (fun z23 => ?_)
      · refine pn_iinc (i := 5) (n := 1) 1 k rfl rfl (by decide) rfl (by decide +kernel) ?_
        refine pw_goto (off := -43) (tgt := 10) (by decide +kernel) (by decide +kernel) ?_
        have q := ih (by omega)
        rw [bw_n (fun e => z23 ((nbit_1 (by omega) (by omega)).mpr e))] at q
        exact q
      · have hbit := (nbit_1 (m := m) (i := k) (by omega) (by omega)).mp z23
        have hx := xor_bit_lt hm (by omega) hbit
        refine pw_lload_n (k4 := 3) rfl (by decide +kernel) ?_
        refine pw_aload_n (k4 := 0) rfl (by decide +kernel) ?_
        refine pq_getP (c := 0) (k := 4) (ks_cp hA) (by decide) (by decide) (kp_cp_best hA) lf_Cp_21 (by decide +kernel) ?_
        refine pw_iload_n (k4 := 1) rfl (by decide +kernel) ?_
        refine pw_iconst (n := 1) (v := 1) (by decide) (by decide +kernel) ?_
        refine pw_iload (i := 5) rfl (by decide +kernel) ?_
        refine pw_ishl (by decide +kernel) ?_
        refine pw_ixor (by decide +kernel) ?_
        refine pn_val (nI (m ^^^ 2 ^ k)) (by rw [nI_pow (by omega), fb_xorI]) ?_
        refine pq_lald (m ^^^ 2 ^ k) rfl (by omega) (by decide) (ks_cp_best hA) (by decide +kernel) ?_
        refine pn_valJ (lN (bf (m ^^^ 2 ^ k))) (hbf _ (Nat.le_of_lt hx)) ?_
        refine pw_aload_n (k4 := 0) rfl (by decide +kernel) ?_
        refine pq_getP (c := 0) (k := 5) (ks_cp hA) (by decide) (by decide) (kp_cp_row hA) lf_Cp_25 (by decide +kernel) ?_
        refine pw_iload (i := 5) rfl (by decide +kernel) ?_
        refine pq_lald k rfl (by omega) (by decide) (ks_cp_row hA) (by decide +kernel) ?_
        refine pn_valJ (lN (rf k)) (hrf k (by omega)) ?_
        refine pw_ladd (by decide +kernel) ?_
        refine pn_valJ (lN (bf (m ^^^ 2 ^ k) + rf k)) (lN_add _ _) ?_
        refine pw_mmaxJ (by decide +kernel) lm_Cp_81 (by omega) (Nat.le_of_ble_eq_true rfl) (Nat.le_refl _) (Nat.le_refl _) ?_
        refine pn_valJ (lN (max (bw bf rf m k) (bf (m ^^^ 2 ^ k) + rf k))) (lMax_N (by have := hbl k; omega) (by have := hA1 (m ^^^ 2 ^ k); have := hR1 k; omega)) ?_
        refine pq_lstore_n (k4 := 3) (Nat.le_of_ble_eq_true rfl) rfl (by decide +kernel) ?_
        refine pn_iinc (i := 5) (n := 1) 1 k rfl rfl (by decide) rfl (by decide +kernel) ?_
        refine pw_goto (off := -43) (tgt := 10) (by decide +kernel) (by decide +kernel) ?_
        have q := ih (by omega)
        rw [bw_y hbit] at q
        exact q
)
  refine pw_aload_n (k4 := 0) rfl (by decide +kernel) ?_
  refine pq_getP (c := 0) (k := 4) (ks_cp hA) (by decide) (by decide) (kp_cp_best hA) lf_Cp_21 (by decide +kernel) ?_
  refine pw_iload_n (k4 := 1) rfl (by decide +kernel) ?_
  refine pq_lald m rfl (by omega) (by decide) (ks_cp_best hA) (by decide +kernel) ?_
  refine pn_valJ (lN (bf m)) (hbf m (Nat.le_refl _)) ?_
  refine pq_lstore_n (k4 := 3) (Nat.le_of_ble_eq_true rfl) rfl (by decide +kernel) ?_
  refine pw_iconst (n := 0) (v := 0) (by decide) (by decide +kernel) ?_
  refine pq_istore (i := 5) (Nat.le_of_ble_eq_true rfl) rfl (by decide +kernel) ?_
  exact hL 0 (Nat.zero_le _)

/-- the partners that a weight tells: the i first left shoes -/
def tlF (Ls Rs : List Nat) (db lc rc v : Nat) : Nat → (Nat → Int32) → Nat → Int32
  | 0, f => f
  | i + 1, f => if 2 ^ db - 1 - v / 2 ^ (db * (lc - 1 - i)) % 2 ^ db < rc then
      upd (upd (tlF Ls Rs db lc rc v i f) (Ls.getD i 0) (nI (Rs.getD (2 ^ db - 1 - v / 2 ^ (db * (lc - 1 - i)) % 2 ^ db) 0))) (Rs.getD (2 ^ db - 1 - v / 2 ^ (db * (lc - 1 - i)) % 2 ^ db) 0) (nI (Ls.getD i 0))
    else tlF Ls Rs db lc rc v i f
theorem tlF_y {Ls Rs : List Nat} {db lc rc v i q li rj : Nat} {f : Nat → Int32} (hq : q = v / 2 ^ (db * (lc - 1 - i)) % 2 ^ db) (h : 2 ^ db - 1 - q < rc) (hi : Ls.getD i 0 = li) (hj : Rs.getD (2 ^ db - 1 - q) 0 = rj) : tlF Ls Rs db lc rc v (i + 1) f = upd (upd (tlF Ls Rs db lc rc v i f) li (nI rj)) rj (nI li) := by
  subst hq hi hj
  exact if_pos h
theorem tlF_n {Ls Rs : List Nat} {db lc rc v i q : Nat} {f : Nat → Int32} (hq : q = v / 2 ^ (db * (lc - 1 - i)) % 2 ^ db) (h : ¬ 2 ^ db - 1 - q < rc) : tlF Ls Rs db lc rc v (i + 1) f = tlF Ls Rs db lc rc v i f := by
  subst hq
  exact if_neg h
def rTe (J : Nat → Nat → Int32) (L : Nat → Nat → Int64) (P : Nat → Nat → Option Nat) (v db lc : Nat) (f : Nat → Int32) : Option Value → pM → Prop := fun r M => r = none ∧ M = (aU (sI J 126 0 (nI (v / 2 ^ (db * lc)))) 127 f, L, P)
theorem gt_get {l : List Nat} {i x : Nat} (h : l[i]? = some x) : l.getD i 0 = x := by
  rw [List.getD_eq_getElem?_getD, h]; rfl
theorem lshrN {v k : Nat} (hv : v < 2 ^ 62) (hk : k < 64) : lN v >>> ((nI k).toInt64 &&& 63) = lN (v / 2 ^ k) := pf_shr (by rw [wb_c k hk, wb_tb, wb_sm k hk, BitVec.toNat_ofNat]; exact Nat.mod_eq_of_lt (by omega)) hv

theorem ct_Cp_tell {sh : List pSh} {I : Nat → Nat → Int32} {L : Nat → Nat → Int64} {P : Nat → Nat → Option Nat} (hA : kA sh P) {w t : Nat} (hw : w = 62 ∨ w = 68 ∨ w = 74) (ht : t = 3 ∨ t = 30) (hwt : P w 0 = some t) {np ns nd : Nat} (hn : tOK I t np ns nd) {J : Nat → Nat → Int32} (hJ : gOK I J w ns) {db lc rc : Nat} (hlc : (lsL I w ns).length = lc) (hrc : (lsR I w ns).length = rc) (hdb : dgt rc = db) (h8 : J 126 8 = nI db) {v : Nat} (hv : v < 2 ^ 62) (hv2 : v / 2 ^ (db * lc) < 2 ^ 31) : pCn m_Cp_tell 0 [.ref 126, .long (lN v)] sh (J, L, P) (rTe J L P v db lc (tlF (lsL I w ns) (lsR I w ns) db lc rc v lc (J 127))) := by
  refine pCn_of (by decide +kernel) (Nat.le_of_ble_eq_true rfl) ?_
  have h16 := hn.2.2.2.1
  have hls := ls_sum I w ns
  have hd := dgt_in rc (by omega)
  have hm := dgt_mul (r := rc) (l := lc) (by omega)
  rw [hdb] at hd hm
  have h32 : 2 ^ db ≤ 2 ^ 5 := Nat.pow_le_pow_right (by decide) hd.2.1
  have hL := pUpTo lc (fun k => pWn m_Cp_tell 0 sh (rTe J L P v db lc (tlF (lsL I w ns) (lsR I w ns) db lc rc v lc (J 127))) 28 [some (.ref 126), some (.long (lN v)), none, some (.int (nI (2 ^ db - 1))), some (.int (nI k)), none] [] (aU (sI J 126 0 (nI (v / 2 ^ (db * lc)))) 127 (tlF (lsL I w ns) (lsR I w ns) db lc rc v k (J 127)), L, P)) (by
    intro k hk ih
    refine pw_iload (i := 4) rfl (by decide +kernel) ?_
    refine pw_aload_n (k4 := 0) rfl (by decide +kernel) ?_
    refine pq_getI (c := 0) (k := 6) (ks_cp hA) (by decide) (by decide) lf_Cp_32 (by decide +kernel) ?_
    refine pn_val (nI (lc)) (by rw [aU_ne (by decide), sI_rd (by decide)]; rw [← hlc]; exact hJ.2.2.2.2.1) ?_
    refine pn_icmp_ge (off := 85) (tgt := 119) k lc rfl rfl (by omega) (by omega) (by decide +kernel) (by decide +kernel) (fun z34 => ?_) (fun z34 => ?_)
    · obtain rfl : k = lc := by omega
      exact pq_vret rfl (by decide +kernel) ⟨rfl, rfl⟩
    · have hm2 : db * (lc - 1 - k) ≤ db * lc := Nat.mul_le_mul_left _ (by omega)
      obtain ⟨li, hi⟩ := ls_get (l := lsL I w ns) (i := k) (by omega)
      have hli := ls_at hi
      obtain ⟨q, hq⟩ : ∃ q, q = v / 2 ^ (db * (lc - 1 - k)) % 2 ^ db := ⟨_, rfl⟩
      have hqm : q < 2 ^ db := by rw [hq]; exact Nat.mod_lt _ (by omega)
      refine pw_iload_n (k4 := 3) rfl (by decide +kernel) ?_
      refine pw_lload_n (k4 := 1) rfl (by decide +kernel) ?_
      refine pw_aload_n (k4 := 0) rfl (by decide +kernel) ?_
      refine pq_getI (c := 0) (k := 8) (ks_cp hA) (by decide) (by decide) lf_Cp_75 (by decide +kernel) ?_
      refine pn_val (nI (db)) (by rw [aU_ne (by decide), sI_rd (by decide)]; exact h8) ?_
      refine pw_aload_n (k4 := 0) rfl (by decide +kernel) ?_
      refine pq_getI (c := 0) (k := 6) (ks_cp hA) (by decide) (by decide) lf_Cp_32 (by decide +kernel) ?_
      refine pn_val (nI (lc)) (by rw [aU_ne (by decide), sI_rd (by decide)]; rw [← hlc]; exact hJ.2.2.2.2.1) ?_
      refine pw_iconst (n := 1) (v := 1) (by decide) (by decide +kernel) ?_
      refine pn_isub lc 1 rfl rfl (by omega) (by decide +kernel) ?_
      refine pw_iload (i := 4) rfl (by decide +kernel) ?_
      refine pn_isub (lc - 1) k rfl rfl (by omega) (by decide +kernel) ?_
      refine pn_imul db ((lc - 1) - k) rfl rfl (by decide +kernel) ?_
      refine pw_lshr (by decide +kernel) ?_
      refine pn_valJ (lN (v / 2 ^ (db * (lc - 1 - k)))) (lshrN hv (by omega)) ?_
      refine pw_iload_n (k4 := 3) rfl (by decide +kernel) ?_
      refine pw_i2l (by decide +kernel) ?_
      refine pn_valJ (lN (2 ^ db - 1)) (nI_l (by omega)) ?_
      refine pw_land (by decide +kernel) ?_
      refine pn_valJ (lN q) (by rw [hq]; exact wb_mask (Nat.lt_of_le_of_lt (Nat.div_le_self _ _) (by omega)) (by omega)) ?_
      refine pw_l2i (by decide +kernel) ?_
      refine pn_val (nI (q)) (lN_i _) ?_
      refine pn_isub (2 ^ db - 1) q rfl rfl (by omega) (by decide +kernel) ?_
      refine pq_istore (i := 5) (Nat.le_of_ble_eq_true rfl) rfl (by decide +kernel) ?_
      refine pw_iload (i := 5) rfl (by decide +kernel) ?_
      refine pn_if_lt (off := 50) (tgt := 113) ((2 ^ db - 1) - q) rfl (by omega) (by decide +kernel) (by decide +kernel) (fun z63 => ?_) (fun z63 => ?_)
      · omega
      · refine pw_iload (i := 5) rfl (by decide +kernel) ?_
        refine pw_aload_n (k4 := 0) rfl (by decide +kernel) ?_
        refine pq_getI (c := 0) (k := 7) (ks_cp hA) (by decide) (by decide) lf_Cp_36 (by decide +kernel) ?_
        refine pn_val (nI (rc)) (by rw [aU_ne (by decide), sI_rd (by decide)]; rw [← hrc]; exact hJ.2.2.2.2.2) ?_
        refine pn_icmp_ge (off := 41) (tgt := 113) ((2 ^ db - 1) - q) rc rfl rfl (by omega) (by omega) (by decide +kernel) (by decide +kernel) (fun z72 => ?_) (fun z72 => ?_)
        · refine pn_iinc (i := 4) (n := 1) 1 k rfl rfl (by decide) rfl (by decide +kernel) ?_
          refine pw_goto (off := -88) (tgt := 28) (by decide +kernel) (by decide +kernel) ?_
          have q2 := ih (by omega)
          rw [tlF_n hq (by omega)] at q2
          exact pw_forget [5] q2
        · obtain ⟨rj, hj⟩ := ls_get (l := lsR I w ns) (i := 2 ^ db - 1 - q) (by omega)
          have hrj := ls_at hj
          refine pw_aload_n (k4 := 0) rfl (by decide +kernel) ?_
          refine pq_getP (c := 0) (k := 1) (ks_cp hA) (by decide) (by decide) (kp_cp_partnerOf hA) lf_Cp_9 (by decide +kernel) ?_
          refine pw_aload_n (k4 := 0) rfl (by decide +kernel) ?_
          refine pq_getP (c := 0) (k := 2) (ks_cp hA) (by decide) (by decide) (kp_cp_lefts hA) lf_Cp_15 (by decide +kernel) ?_
          refine pw_iload (i := 4) rfl (by decide +kernel) ?_
          refine pq_iald k rfl (by omega) (by decide) (ks_cp_lefts hA) (by decide +kernel) ?_
          refine pn_val (nI (li)) (by rw [aU_ne (by decide), sI_ne (by decide)]; exact hJ.2.2.1 k li hi) ?_
          refine pw_aload_n (k4 := 0) rfl (by decide +kernel) ?_
          refine pq_getP (c := 0) (k := 3) (ks_cp hA) (by decide) (by decide) (kp_cp_rights hA) lf_Cp_18 (by decide +kernel) ?_
          refine pw_iload (i := 5) rfl (by decide +kernel) ?_
          refine pq_iald ((2 ^ db - 1) - q) rfl (by omega) (by decide) (ks_cp_rights hA) (by decide +kernel) ?_
          refine pn_val (nI (rj)) (by rw [aU_ne (by decide), sI_ne (by decide)]; exact hJ.2.2.2.1 _ rj hj) ?_
          refine pq_iast li rfl (by omega) (by decide) (ks_cp_partnerOf hA) (by decide +kernel) ?_
          refine pw_aload_n (k4 := 0) rfl (by decide +kernel) ?_
          refine pq_getP (c := 0) (k := 1) (ks_cp hA) (by decide) (by decide) (kp_cp_partnerOf hA) lf_Cp_9 (by decide +kernel) ?_
          refine pw_aload_n (k4 := 0) rfl (by decide +kernel) ?_
          refine pq_getP (c := 0) (k := 3) (ks_cp hA) (by decide) (by decide) (kp_cp_rights hA) lf_Cp_18 (by decide +kernel) ?_
          refine pw_iload (i := 5) rfl (by decide +kernel) ?_
          refine pq_iald ((2 ^ db - 1) - q) rfl (by omega) (by decide) (ks_cp_rights hA) (by decide +kernel) ?_
          refine pn_val (nI (rj)) (by rw [sI_ne (by decide), aU_ne (by decide), sI_ne (by decide)]; exact hJ.2.2.2.1 _ rj hj) ?_
          refine pw_aload_n (k4 := 0) rfl (by decide +kernel) ?_
          refine pq_getP (c := 0) (k := 2) (ks_cp hA) (by decide) (by decide) (kp_cp_lefts hA) lf_Cp_15 (by decide +kernel) ?_
          refine pw_iload (i := 4) rfl (by decide +kernel) ?_
          refine pq_iald k rfl (by omega) (by decide) (ks_cp_lefts hA) (by decide +kernel) ?_
          refine pn_val (nI (li)) (by rw [sI_ne (by decide), aU_ne (by decide), sI_ne (by decide)]; exact hJ.2.2.1 k li hi) ?_
          refine pq_iast rj rfl (by omega) (by decide) (ks_cp_partnerOf hA) (by decide +kernel) ?_
          refine pn_iinc (i := 4) (n := 1) 1 k rfl rfl (by decide) rfl (by decide +kernel) ?_
          refine pw_goto (off := -88) (tgt := 28) (by decide +kernel) (by decide +kernel) ?_
          have q2 := ih (by omega)
          rw [tlF_y hq (by omega) (gt_get hi) (gt_get hj)] at q2
          rw [sI_aU2, sI_aU2]
          exact pw_forget [5] q2
)
  refine pw_aload_n (k4 := 0) rfl (by decide +kernel) ?_
  refine pw_lload_n (k4 := 1) rfl (by decide +kernel) ?_
  refine pw_aload_n (k4 := 0) rfl (by decide +kernel) ?_
  refine pq_getI (c := 0) (k := 8) (ks_cp hA) (by decide) (by decide) lf_Cp_75 (by decide +kernel) ?_
  refine pn_val (nI (db)) h8 ?_
  refine pw_aload_n (k4 := 0) rfl (by decide +kernel) ?_
  refine pq_getI (c := 0) (k := 6) (ks_cp hA) (by decide) (by decide) lf_Cp_32 (by decide +kernel) ?_
  refine pn_val (nI (lc)) (by rw [← hlc]; exact hJ.2.2.2.2.1) ?_
  refine pn_imul db lc rfl rfl (by decide +kernel) ?_
  refine pw_lshr (by decide +kernel) ?_
  refine pn_valJ (lN (v / 2 ^ (db * lc))) (lshrN hv (by omega)) ?_
  refine pw_l2i (by decide +kernel) ?_
  refine pn_val (nI (v / 2 ^ (db * lc))) (lN_i _) ?_
  refine pq_putI (c := 0) (k := 0) (ks_cp hA) (by decide) (by decide) lf_Cp_85 (Or.inl rfl) (by decide +kernel) ?_
  refine pw_iconst (n := 1) (v := 1) (by decide) (by decide +kernel) ?_
  refine pw_aload_n (k4 := 0) rfl (by decide +kernel) ?_
  refine pq_getI (c := 0) (k := 8) (ks_cp hA) (by decide) (by decide) lf_Cp_75 (by decide +kernel) ?_
  refine pn_val (nI (db)) (by rw [sI_rd (by decide)]; exact h8) ?_
  refine pw_ishl (by decide +kernel) ?_
  refine pn_val (nI (2 ^ db)) (nI_pow (by omega)) ?_
  refine pw_iconst (n := 1) (v := 1) (by decide) (by decide +kernel) ?_
  refine pn_isub (2 ^ db) 1 rfl rfl (by omega) (by decide +kernel) ?_
  refine pq_istore_n (k4 := 3) (Nat.le_of_ble_eq_true rfl) rfl (by decide +kernel) ?_
  refine pw_iconst (n := 0) (v := 0) (by decide) (by decide +kernel) ?_
  refine pq_istore (i := 4) (Nat.le_of_ble_eq_true rfl) rfl (by decide +kernel) ?_
  have q := hL 0 (Nat.zero_le _)
  rw [show tlF (lsL I w ns) (lsR I w ns) db lc rc v 0 (J 127) = J 127 from rfl, show aU (sI J 126 0 (nI (v / 2 ^ (db * lc)))) 127 (J 127) = sI J 126 0 (nI (v / 2 ^ (db * lc))) from by rw [show J 127 = sI J 126 0 (nI (v / 2 ^ (db * lc))) 127 from (sI_ne (by decide)).symm, aU_self]] at q
  exact q

def rMa (I : Nat → Nat → Int32) (P : Nat → Nat → Option Nat) (w ns db lc rc v : Nat) : Option Value → pM → Prop := fun r M => r = none ∧ ∃ J f L', M = (aU (sI J 126 0 (nI (v / 2 ^ (db * lc)))) 127 (tlF (lsL I w ns) (lsR I w ns) db lc rc v lc f), L', P) ∧ (∀ a, a < 126 ∨ 129 < a → J a = I a) ∧ ∀ s, s < ns → f s = -2
/-- the weight of the i-th of the small side with the j-th of the large one -/
def WM (I : Nat → Nat → Int32) (t w ns db lc rc i j : Nat) : Nat :=
  if lc ≤ rc then (if i < lc ∧ j < rc then WN db lc (pN I t w ((lsL I w ns).getD i 0) ((lsR I w ns).getD j 0)) i j else 0)
  else if j < lc ∧ i < rc then WN db lc (pN I t w ((lsL I w ns).getD j 0) ((lsR I w ns).getD i 0)) j i else 0
theorem WN_le {db lc p i j : Nat} (hm : db * lc ≤ 40) (hp : p ≤ 999) (hi : i < lc) : WN db lc p i j ≤ 1000 * 2 ^ (db * lc) := by
  unfold WN
  have h1 : (2 ^ db - 1 - j) * 2 ^ (db * (lc - 1 - i)) ≤ 2 ^ (db * lc) := by
    have e : 2 ^ (db * lc) = 2 ^ (db * (i + 1)) * 2 ^ (db * (lc - 1 - i)) := by rw [← Nat.pow_add, ← Nat.mul_add]; congr 2; omega
    rw [e]
    refine Nat.mul_le_mul_right _ (Nat.le_trans (Nat.le_trans (Nat.sub_le _ _) (Nat.sub_le _ _)) (Nat.pow_le_pow_right (by decide) ?_))
    rw [Nat.mul_add]; omega
  have h2 : p * 2 ^ (db * lc) ≤ 999 * 2 ^ (db * lc) := Nat.mul_le_mul_right _ hp
  omega
theorem WM_le {I : Nat → Nat → Int32} {t w ns db lc rc : Nat} (hm : db * lc ≤ 40) (i j : Nat) : WM I t w ns db lc rc i j ≤ 1000 * 2 ^ (db * lc) := by
  unfold WM
  split
  · split
    · exact WN_le hm (pN_eq I t w _ _).2 (by omega)
    · omega
  · split
    · exact WN_le hm (pN_eq I t w _ _).2 (by omega)
    · omega
theorem WM_b {I : Nat → Nat → Int32} {t w ns db lc rc small : Nat} (hm : db * lc ≤ 40) (j m : Nat) (hj : j ≤ 16) : bst (WM I t w ns db lc rc) small j m ≤ 16 * (1000 * 2 ^ (db * lc)) ∧ 17 * (1000 * 2 ^ (db * lc)) < 2 ^ 62 := by
  have h1 := bst_lt (small := small) (fun i j => WM_le (I := I) (t := t) (w := w) (ns := ns) (rc := rc) hm i j) j m
  have h2 : 2 ^ (db * lc) ≤ 2 ^ 40 := Nat.pow_le_pow_right (by decide) hm
  refine ⟨Nat.le_trans h1 (Nat.mul_le_mul_right _ hj), by omega⟩

theorem bw_0 (bf rf : Nat → Nat) : ∀ i, bw bf rf 0 i = bf 0
  | 0 => rfl
  | i + 1 => by rw [bw_n (by rw [Nat.zero_testBit]; decide)]; exact bw_0 bf rf i
theorem bst_0 (W : Nat → Nat → Nat) (small j : Nat) : bst W small j 0 = bst W small (j + 1) 0 := (bw_0 _ _ _).symm
theorem iMin8 {x : Nat} (h : x ≤ 8) : iMin 8 (nI x) = nI x := by
  unfold iMin
  by_cases e : x < 8
  · rw [if_pos ((cLt rfl (show (8 : Int32) = nI 8 from rfl) (by omega) (by decide)).mpr e)]
  · obtain rfl : x = 8 := by omega
    exact if_neg (by decide)

set_option maxHeartbeats 1000000 in
theorem ct_Cp_match {sh : List pSh} {I : Nat → Nat → Int32} {L : Nat → Nat → Int64} {P : Nat → Nat → Option Nat} (hA : kA sh P) {w t : Nat} (hw : w = 62 ∨ w = 68 ∨ w = 74) (ht : t = 3 ∨ t = 30) (hwt : P w 0 = some t) {np ns nd : Nat} (hn : tOK I t np ns nd) (hl : lOK I t) {db lc rc : Nat} (hlc : (lsL I w ns).length = lc) (hrc : (lsR I w ns).length = rc) (hdb : dgt rc = db) {small large : Nat} (hsl : (lc ≤ rc ∧ small = lc ∧ large = rc) ∨ (¬ lc ≤ rc ∧ small = rc ∧ large = lc)) : pCn m_Cp_match 5 [.ref 126, .ref w] sh (I, L, P) (rMa I P w ns db lc rc (bst (WM I t w ns db lc rc) small large (2 ^ small - 1))) := by
  refine pCn_of (by decide +kernel) (Nat.le_of_ble_eq_true rfl) ?_
  have h16 := hn.2.2.2.1
  have hls := ls_sum I w ns
  have hd := dgt_in rc (by omega)
  have hm := dgt_mul (r := rc) (l := lc) (by omega)
  rw [hdb] at hd hm
  have h32 : 2 ^ db ≤ 2 ^ 5 := Nat.pow_le_pow_right (by decide) hd.2.1
  have hs8 : small ≤ 8 := by omega
  have hs256 : 2 ^ small ≤ 2 ^ 8 := Nat.pow_le_pow_right (by decide) hs8
  have hs1 : 1 ≤ 2 ^ small := Nat.one_le_two_pow
  have hWb := WM_b (I := I) (t := t) (w := w) (ns := ns) (rc := rc) (small := small) hm large (2 ^ small - 1) (by omega)
  have hV1 : bst (WM I t w ns db lc rc) small large (2 ^ small - 1) < 2 ^ 62 := by omega
  have hV2 : bst (WM I t w ns db lc rc) small large (2 ^ small - 1) / 2 ^ (db * lc) < 2 ^ 31 := by
    have := Nat.div_le_of_le_mul (show bst (WM I t w ns db lc rc) small large (2 ^ small - 1) ≤ 2 ^ (db * lc) * 16000 by rw [Nat.mul_comm]; omega)
    omega
  have hall : ∀ J : Nat → Nat → Int32, gOK I J w ns → J 126 8 = nI db → pWn m_Cp_match 5 sh (rMa I P w ns db lc rc (bst (WM I t w ns db lc rc) small large (2 ^ small - 1))) 70 [some (.ref 126), some (.ref w), some (.int (B (lc ≤ rc))), some (.int (nI small)), some (.int (nI large)), some (.int (nI (2 ^ small - 1))), some (.int (nI 0)), none] [] (J, L, P) := by
    intro J hJ h8
    have h2 := pUpTo large (fun j => ∀ L : Nat → Nat → Int64, (∀ x, x ≤ 2 ^ small - 1 → L 130 x = lN (bst (WM I t w ns db lc rc) small j x)) → pWn m_Cp_match 5 sh (rMa I P w ns db lc rc (bst (WM I t w ns db lc rc) small large (2 ^ small - 1))) 94 [some (.ref 126), some (.ref w), some (.int (B (lc ≤ rc))), some (.int (nI small)), some (.int (nI large)), some (.int (nI (2 ^ small - 1))), some (.int (nI j)), none] [] (J, L, P)) (by
      intro j hj ihO L hB
      have h4 := pDown (fun k => j < large → k ≤ 2 ^ small - 1 → ∀ L : Nat → Nat → Int64, (∀ x, x ≤ 2 ^ small - 1 → L 130 x = lN (if k < x then bst (WM I t w ns db lc rc) small (j + 1) x else bst (WM I t w ns db lc rc) small j x)) → (∀ i, i < small → L 131 i = lN (WM I t w ns db lc rc i j)) → pWn m_Cp_match 5 sh (rMa I P w ns db lc rc (bst (WM I t w ns db lc rc) small large (2 ^ small - 1))) 152 [some (.ref 126), some (.ref w), some (.int (B (lc ≤ rc))), some (.int (nI small)), some (.int (nI large)), some (.int (nI (2 ^ small - 1))), some (.int (nI j)), some (.int (nI k))] [] (J, L, P)) (by
        intro k ih hjl hk L hB hRow
        refine pw_iload (i := 7) rfl (by decide +kernel) ?_
        refine pn_if_le (off := 23) (tgt := 177) k rfl (by omega) (by decide +kernel) (by decide +kernel) (fun z154 => ?_) (fun z154 => ?_)
        · refine pn_iinc (i := 6) (n := 1) 1 j rfl rfl (by decide) rfl (by decide +kernel) ?_
          refine pw_goto (off := -86) (tgt := 94) (by decide +kernel) (by decide +kernel) ?_
          obtain rfl : k = 0 := by omega
          exact pw_forget [7] (ihO (by omega) _ (fun x hx => by
              rw [hB x hx]
              by_cases e : 0 < x
              · rw [if_pos e]
              · obtain rfl : x = 0 := by omega
                rw [if_neg e]
                exact congrArg lN (bst_0 _ _ j)))
        · obtain ⟨k, rfl⟩ : ∃ k2, k = k2 + 1 := ⟨k - 1, by omega⟩
          refine pw_aload_n (k4 := 0) rfl (by decide +kernel) ?_
          refine pq_getP (c := 0) (k := 4) (ks_cp hA) (by decide) (by decide) (kp_cp_best hA) lf_Cp_21 (by decide +kernel) ?_
          refine pw_iload (i := 7) rfl (by decide +kernel) ?_
          refine pw_aload_n (k4 := 0) rfl (by decide +kernel) ?_
          refine pw_iload (i := 7) rfl (by decide +kernel) ?_
          refine pw_iload_n (k4 := 3) rfl (by decide +kernel) ?_
          refine pq_callV (ν := m_Cp_bestWith) (d' := 1) (av := [_, _]) (c := 0) (by decide +kernel) lm_Cp_49 ok_Cp_bestWith (show _ = some 2 by decide +kernel) (ks_cp hA) rfl (by decide) (by omega) (Nat.le_of_ble_eq_true rfl) (ct_Cp_bestWith hA (m := k + 1) (small := small) (by omega) (by omega) (fun x => (WM_b hm j x (by omega)).1) (fun i => WM_le hm i j) (by have := (WM_b (I := I) (t := t) (w := w) (ns := ns) (rc := rc) (small := small) hm j 0 (by omega)).2; omega) (fun x hx => by rw [hB x (by omega), if_neg (by omega)]) hRow) ?_
          rintro _ _ ⟨rfl, rfl⟩
          refine pq_last (k + 1) rfl (by omega) (by decide) (ks_cp_best hA) (by decide +kernel) ?_
          refine pn_idec (i := 7) (n := -1) 1 (k + 1) rfl rfl (by decide) (by omega) rfl (by decide +kernel) ?_
          refine pw_goto (off := -22) (tgt := 152) (by decide +kernel) (by decide +kernel) ?_
          refine ih k rfl hjl (by omega) _ (fun x hx => ?_) (fun i hi => by rw [sL_ne (by decide)]; exact hRow i hi)
          by_cases e : x = k + 1
          · rw [e, sL_eq, if_pos (by omega)]
            exact pk_uLs
          · rw [sL_eq]
            refine (pk_uLn e).trans ((hB x hx).trans ?_)
            by_cases e2 : k + 1 < x
            · rw [if_pos e2, if_pos (by omega)]
            · rw [if_neg e2, if_neg (by omega)]
)
      have h3 := pUpTo small (fun k => j < large → ∀ L : Nat → Nat → Int64, (∀ x, x ≤ 2 ^ small - 1 → L 130 x = lN (bst (WM I t w ns db lc rc) small j x)) → (∀ i, i < k → L 131 i = lN (WM I t w ns db lc rc i j)) → pWn m_Cp_match 5 sh (rMa I P w ns db lc rc (bst (WM I t w ns db lc rc) small large (2 ^ small - 1))) 104 [some (.ref 126), some (.ref w), some (.int (B (lc ≤ rc))), some (.int (nI small)), some (.int (nI large)), some (.int (nI (2 ^ small - 1))), some (.int (nI j)), some (.int (nI k))] [] (J, L, P)) (by
        intro k hk ih hjl L hB hRow
        refine pw_iload (i := 7) rfl (by decide +kernel) ?_
        refine pw_iload_n (k4 := 3) rfl (by decide +kernel) ?_
        refine pn_icmp_ge (off := 41) (tgt := 148) k small rfl rfl (by omega) (by omega) (by decide +kernel) (by decide +kernel) (fun z107 => ?_) (fun z107 => ?_)
        · refine pw_iload (i := 5) rfl (by decide +kernel) ?_
          refine pq_istore (i := 7) (Nat.le_of_ble_eq_true rfl) rfl (by decide +kernel) ?_
          obtain rfl : k = small := by omega
          exact h4 (2 ^ k - 1) hjl (Nat.le_refl _) _ (fun x hx => by rw [if_neg (by omega)]; exact hB x hx) hRow
        · refine pw_aload_n (k4 := 0) rfl (by decide +kernel) ?_
          refine pq_getP (c := 0) (k := 5) (ks_cp hA) (by decide) (by decide) (kp_cp_row hA) lf_Cp_25 (by decide +kernel) ?_
          refine pw_iload (i := 7) rfl (by decide +kernel) ?_
          refine pw_iload_n (k4 := 2) rfl (by decide +kernel) ?_
          refine pn_ifB_eq (off := 15) (tgt := 132) (by decide +kernel) (by decide +kernel) (fun z117 => ?_) (fun z117 => ?_)
          · obtain ⟨li, hi⟩ := ls_get (l := lsL I w ns) (i := j) (by omega)
            obtain ⟨rj, hj⟩ := ls_get (l := lsR I w ns) (i := k) (by omega)
            refine pw_aload_n (k4 := 0) rfl (by decide +kernel) ?_
            refine pw_aload_n (k4 := 1) rfl (by decide +kernel) ?_
            refine pw_iload (i := 6) rfl (by decide +kernel) ?_
            refine pw_iload (i := 7) rfl (by decide +kernel) ?_
            refine pq_callV (ν := m_Cp_weight) (d' := 4) (av := [_, _, _]) (c := 0) (by decide +kernel) lm_Cp_45 ok_Cp_weight (show _ = some 3 by decide +kernel) (ks_cp hA) rfl (by decide) (by omega) (Nat.le_of_ble_eq_true rfl) (ct_Cp_weight hA hw ht hwt hn hl hJ hlc hrc hdb h8 hi hj) ?_
            rintro _ _ ⟨rfl, L', rfl, hfr⟩
            refine pq_last k rfl (by omega) (by decide) (ks_cp_row hA) (by decide +kernel) ?_
            refine pn_iinc (i := 7) (n := 1) 1 k rfl rfl (by decide) rfl (by decide +kernel) ?_
            refine pw_goto (off := -41) (tgt := 104) (by decide +kernel) (by decide +kernel) ?_
            refine ih (by omega) hjl _ (fun x hx => by rw [sL_ne (by decide), hfr 130 (by omega) (by omega)]; exact hB x hx) (fun i hi2 => ?_)
            by_cases e : i = k
            · rw [e, sL_eq]
              refine pk_uLs.trans (congrArg lN ?_)
              unfold WM
              rw [if_neg z117, if_pos (by omega), gt_get hi, gt_get hj]
            · rw [sL_eq]
              refine (pk_uLn e).trans ?_
              rw [hfr 131 (by omega) (by omega)]
              exact hRow i (by omega)
          · obtain ⟨li, hi⟩ := ls_get (l := lsL I w ns) (i := k) (by omega)
            obtain ⟨rj, hj⟩ := ls_get (l := lsR I w ns) (i := j) (by omega)
            refine pw_aload_n (k4 := 0) rfl (by decide +kernel) ?_
            refine pw_aload_n (k4 := 1) rfl (by decide +kernel) ?_
            refine pw_iload (i := 7) rfl (by decide +kernel) ?_
            refine pw_iload (i := 6) rfl (by decide +kernel) ?_
            refine pq_callV (ν := m_Cp_weight) (d' := 4) (av := [_, _, _]) (c := 0) (by decide +kernel) lm_Cp_45 ok_Cp_weight (show _ = some 3 by decide +kernel) (ks_cp hA) rfl (by decide) (by omega) (Nat.le_of_ble_eq_true rfl) (ct_Cp_weight hA hw ht hwt hn hl hJ hlc hrc hdb h8 hi hj) ?_
            rintro _ _ ⟨rfl, L', rfl, hfr⟩
            refine pw_goto (off := 12) (tgt := 141) (by decide +kernel) (by decide +kernel) ?_
            refine pq_last k rfl (by omega) (by decide) (ks_cp_row hA) (by decide +kernel) ?_
            refine pn_iinc (i := 7) (n := 1) 1 k rfl rfl (by decide) rfl (by decide +kernel) ?_
            refine pw_goto (off := -41) (tgt := 104) (by decide +kernel) (by decide +kernel) ?_
            refine ih (by omega) hjl _ (fun x hx => by rw [sL_ne (by decide), hfr 130 (by omega) (by omega)]; exact hB x hx) (fun i hi2 => ?_)
            by_cases e : i = k
            · rw [e, sL_eq]
              refine pk_uLs.trans (congrArg lN ?_)
              unfold WM
              rw [if_pos z117, if_pos (by omega), gt_get hi, gt_get hj]
            · rw [sL_eq]
              refine (pk_uLn e).trans ?_
              rw [hfr 131 (by omega) (by omega)]
              exact hRow i (by omega)
)
      refine pw_iload (i := 6) rfl (by decide +kernel) ?_
      refine pw_iload (i := 4) rfl (by decide +kernel) ?_
      refine pn_icmp_ge (off := 85) (tgt := 183) j large rfl rfl (by omega) (by omega) (by decide +kernel) (by decide +kernel) (fun z98 => ?_) (fun z98 => ?_)
      · obtain rfl : j = large := by omega
        refine pw_aload_n (k4 := 0) rfl (by decide +kernel) ?_
        refine pw_aload_n (k4 := 0) rfl (by decide +kernel) ?_
        refine pq_getP (c := 0) (k := 4) (ks_cp hA) (by decide) (by decide) (kp_cp_best hA) lf_Cp_21 (by decide +kernel) ?_
        refine pw_iload (i := 5) rfl (by decide +kernel) ?_
        refine pq_lald (2 ^ small - 1) rfl (by omega) (by decide) (ks_cp_best hA) (by decide +kernel) ?_
        refine pn_valJ (lN (bst (WM I t w ns db lc rc) small j (2 ^ small - 1))) (hB _ (Nat.le_refl _)) ?_
        refine pq_callV (ν := m_Cp_tell) (d' := 0) (av := [_]) (c := 0) (by decide +kernel) lm_Cp_53 ok_Cp_tell (show _ = some 1 by decide +kernel) (ks_cp hA) rfl (by decide) (by omega) (Nat.le_of_ble_eq_true rfl) (ct_Cp_tell hA hw ht hwt hn hJ hlc hrc hdb h8 hV1 hV2) ?_
        rintro _ _ ⟨rfl, rfl⟩
        exact pq_vret rfl (by decide +kernel) ⟨rfl, J, J 127, L, rfl, hJ.1, hJ.2.1⟩
      · refine pw_iconst (n := 0) (v := 0) (by decide) (by decide +kernel) ?_
        refine pq_istore (i := 7) (Nat.le_of_ble_eq_true rfl) rfl (by decide +kernel) ?_
        exact h3 0 (Nat.zero_le _) (by omega) _ hB (fun i hi => absurd hi (Nat.not_lt_zero _))
)
    have h1 := pUpTo (2 ^ small) (fun k => ∀ L : Nat → Nat → Int64, (∀ x, x < k → L 130 x = 0) → pWn m_Cp_match 5 sh (rMa I P w ns db lc rc (bst (WM I t w ns db lc rc) small large (2 ^ small - 1))) 70 [some (.ref 126), some (.ref w), some (.int (B (lc ≤ rc))), some (.int (nI small)), some (.int (nI large)), some (.int (nI (2 ^ small - 1))), some (.int (nI k)), none] [] (J, L, P)) (by
      intro k hk ih L hB
      refine pw_iload (i := 6) rfl (by decide +kernel) ?_
      refine pw_iload (i := 5) rfl (by decide +kernel) ?_
      refine pn_icmp_gt (off := 17) (tgt := 91) k (2 ^ small - 1) rfl rfl (by omega) (by omega) (by decide +kernel) (by decide +kernel) (fun z74 => ?_) (fun z74 => ?_)
      · refine pw_iconst (n := 0) (v := 0) (by decide) (by decide +kernel) ?_
        refine pq_istore (i := 6) (Nat.le_of_ble_eq_true rfl) rfl (by decide +kernel) ?_
        exact pw_forget [7] (h2 0 (Nat.zero_le _) _ (fun x hx => hB x (by omega)))
      · refine pw_aload_n (k4 := 0) rfl (by decide +kernel) ?_
        refine pq_getP (c := 0) (k := 4) (ks_cp hA) (by decide) (by decide) (kp_cp_best hA) lf_Cp_21 (by decide +kernel) ?_
        refine pw_iload (i := 6) rfl (by decide +kernel) ?_
        refine pw_lconst (n := 0) (v := 0) (by decide) (by decide +kernel) ?_
        refine pq_last k rfl (by omega) (by decide) (ks_cp_best hA) (by decide +kernel) ?_
        refine pn_iinc (i := 6) (n := 1) 1 k rfl rfl (by decide) rfl (by decide +kernel) ?_
        refine pw_goto (off := -18) (tgt := 70) (by decide +kernel) (by decide +kernel) ?_
        refine ih (by omega) _ (fun x hx => ?_)
        rw [sL_eq]
        by_cases e : x = k
        · rw [e]; exact pk_uLs
        · exact (pk_uLn e).trans (hB x (by omega))
)
    exact h1 0 (Nat.zero_le _) L (fun x hx => absurd hx (Nat.not_lt_zero _))
  refine pw_aload_n (k4 := 0) rfl (by decide +kernel) ?_
  refine pw_aload_n (k4 := 1) rfl (by decide +kernel) ?_
  refine pq_callV (ν := m_Cp_gather) (d' := 2) (av := [_]) (c := 0) (by decide +kernel) lm_Cp_28 ok_Cp_gather (show _ = some 1 by decide +kernel) (ks_cp hA) rfl (by decide) (by omega) (Nat.le_of_ble_eq_true rfl) (ct_Cp_gather hA hw ht hwt hn) ?_
  rintro _ _ ⟨rfl, J, rfl, hJ, h8⟩
  rw [hrc, hdb] at h8
  refine pw_aload_n (k4 := 0) rfl (by decide +kernel) ?_
  refine pq_getI (c := 0) (k := 6) (ks_cp hA) (by decide) (by decide) lf_Cp_32 (by decide +kernel) ?_
  refine pn_val (nI (lc)) (by rw [← hlc]; exact hJ.2.2.2.2.1) ?_
  refine pw_aload_n (k4 := 0) rfl (by decide +kernel) ?_
  refine pq_getI (c := 0) (k := 7) (ks_cp hA) (by decide) (by decide) lf_Cp_36 (by decide +kernel) ?_
  refine pn_val (nI (rc)) (by rw [← hrc]; exact hJ.2.2.2.2.2) ?_
  refine pn_icmp_gt (off := 7) (tgt := 20) lc rc rfl rfl (by omega) (by omega) (by decide +kernel) (by decide +kernel) (fun z13 => ?_) (fun z13 => ?_)
  · refine pw_iconst (n := 0) (v := 0) (by decide) (by decide +kernel) ?_
    refine pn_val (B (lc ≤ rc)) (B_f (show ¬ lc ≤ rc by omega)).symm ?_
    refine pq_istore_n (k4 := 2) (Nat.le_of_ble_eq_true rfl) rfl (by decide +kernel) ?_
    refine pw_bipush (n := 8) (v := 8) (by decide) (by decide +kernel) ?_
    refine pw_iload_n (k4 := 2) rfl (by decide +kernel) ?_
    refine pn_ifB_eq (off := 10) (tgt := 35) (by decide +kernel) (by decide +kernel) (fun z25 => ?_) (fun z25 => ?_)
    · refine pw_aload_n (k4 := 0) rfl (by decide +kernel) ?_
      refine pq_getI (c := 0) (k := 7) (ks_cp hA) (by decide) (by decide) lf_Cp_36 (by decide +kernel) ?_
      refine pn_val (nI (rc)) (by rw [← hrc]; exact hJ.2.2.2.2.2) ?_
      refine pw_mmin (by decide +kernel) lm_Cp_39 (by omega) (Nat.le_of_ble_eq_true rfl) (Nat.le_refl _) (Nat.le_refl _) ?_
      refine pn_val (nI (small)) (by rw [show small = rc by omega]; exact iMin8 (by omega)) ?_
      refine pq_istore_n (k4 := 3) (Nat.le_of_ble_eq_true rfl) rfl (by decide +kernel) ?_
      refine pw_iload_n (k4 := 2) rfl (by decide +kernel) ?_
      refine pn_ifB_eq (off := 10) (tgt := 54) (by decide +kernel) (by decide +kernel) (fun z44 => ?_) (fun z44 => ?_)
      · refine pw_aload_n (k4 := 0) rfl (by decide +kernel) ?_
        refine pq_getI (c := 0) (k := 6) (ks_cp hA) (by decide) (by decide) lf_Cp_32 (by decide +kernel) ?_
        refine pn_val (nI (lc)) (by rw [← hlc]; exact hJ.2.2.2.2.1) ?_
        refine pn_val (nI (large)) (by rw [show large = lc by omega]) ?_
        refine pq_istore (i := 4) (Nat.le_of_ble_eq_true rfl) rfl (by decide +kernel) ?_
        refine pw_iconst (n := 1) (v := 1) (by decide) (by decide +kernel) ?_
        refine pw_iload_n (k4 := 3) rfl (by decide +kernel) ?_
        refine pw_ishl (by decide +kernel) ?_
        refine pn_val (nI (2 ^ small)) (nI_pow (by omega)) ?_
        refine pw_iconst (n := 1) (v := 1) (by decide) (by decide +kernel) ?_
        refine pn_isub (2 ^ small) 1 rfl rfl (by omega) (by decide +kernel) ?_
        refine pq_istore (i := 5) (Nat.le_of_ble_eq_true rfl) rfl (by decide +kernel) ?_
        refine pw_iconst (n := 0) (v := 0) (by decide) (by decide +kernel) ?_
        refine pq_istore (i := 6) (Nat.le_of_ble_eq_true rfl) rfl (by decide +kernel) ?_
        exact hall J hJ h8
      · omega
    · omega
  · refine pw_iconst (n := 1) (v := 1) (by decide) (by decide +kernel) ?_
    refine pn_val (B (lc ≤ rc)) (B_t (show lc ≤ rc by omega)).symm ?_
    refine pw_goto (off := 4) (tgt := 21) (by decide +kernel) (by decide +kernel) ?_
    refine pq_istore_n (k4 := 2) (Nat.le_of_ble_eq_true rfl) rfl (by decide +kernel) ?_
    refine pw_bipush (n := 8) (v := 8) (by decide) (by decide +kernel) ?_
    refine pw_iload_n (k4 := 2) rfl (by decide +kernel) ?_
    refine pn_ifB_eq (off := 10) (tgt := 35) (by decide +kernel) (by decide +kernel) (fun z25 => ?_) (fun z25 => ?_)
    · omega
    · refine pw_aload_n (k4 := 0) rfl (by decide +kernel) ?_
      refine pq_getI (c := 0) (k := 6) (ks_cp hA) (by decide) (by decide) lf_Cp_32 (by decide +kernel) ?_
      refine pn_val (nI (lc)) (by rw [← hlc]; exact hJ.2.2.2.2.1) ?_
      refine pw_goto (off := 7) (tgt := 39) (by decide +kernel) (by decide +kernel) ?_
      refine pw_mmin (by decide +kernel) lm_Cp_39 (by omega) (Nat.le_of_ble_eq_true rfl) (Nat.le_refl _) (Nat.le_refl _) ?_
      refine pn_val (nI (small)) (by rw [show small = lc by omega]; exact iMin8 (by omega)) ?_
      refine pq_istore_n (k4 := 3) (Nat.le_of_ble_eq_true rfl) rfl (by decide +kernel) ?_
      refine pw_iload_n (k4 := 2) rfl (by decide +kernel) ?_
      refine pn_ifB_eq (off := 10) (tgt := 54) (by decide +kernel) (by decide +kernel) (fun z44 => ?_) (fun z44 => ?_)
      · omega
      · refine pw_aload_n (k4 := 0) rfl (by decide +kernel) ?_
        refine pq_getI (c := 0) (k := 7) (ks_cp hA) (by decide) (by decide) lf_Cp_36 (by decide +kernel) ?_
        refine pn_val (nI (rc)) (by rw [← hrc]; exact hJ.2.2.2.2.2) ?_
        refine pn_val (nI (large)) (by rw [show large = rc by omega]) ?_
        refine pw_goto (off := 7) (tgt := 58) (by decide +kernel) (by decide +kernel) ?_
        refine pq_istore (i := 4) (Nat.le_of_ble_eq_true rfl) rfl (by decide +kernel) ?_
        refine pw_iconst (n := 1) (v := 1) (by decide) (by decide +kernel) ?_
        refine pw_iload_n (k4 := 3) rfl (by decide +kernel) ?_
        refine pw_ishl (by decide +kernel) ?_
        refine pn_val (nI (2 ^ small)) (nI_pow (by omega)) ?_
        refine pw_iconst (n := 1) (v := 1) (by decide) (by decide +kernel) ?_
        refine pn_isub (2 ^ small) 1 rfl rfl (by omega) (by decide +kernel) ?_
        refine pq_istore (i := 5) (Nat.le_of_ble_eq_true rfl) rfl (by decide +kernel) ?_
        refine pw_iconst (n := 0) (v := 0) (by decide) (by decide +kernel) ?_
        refine pq_istore (i := 6) (Nat.le_of_ble_eq_true rfl) rfl (by decide +kernel) ?_
        exact hall J hJ h8
