/-! ===== Math, and the world: moves ===== -/
theorem lgt (x y : Int64) : 0 < lg_cmp x y ↔ y < x := by
  unfold lg_cmp
  by_cases h : x > y
  · simp [h]
  · by_cases e : x = y
    · simp [e]
    · simp only [h, e, if_false]
      exact ⟨fun q => absurd q (by decide), fun q => q.elim⟩
theorem lge (x y : Int64) : lg_cmp x y = 0 ↔ x = y := by
  unfold lg_cmp
  by_cases h : x > y
  · simp only [h, if_true]
    exact ⟨fun q => absurd q (by decide), fun q => absurd (q ▸ h) (Int64.lt_irrefl)⟩
  · by_cases e : x = y
    · simp [e]
    · simp only [h, e, if_false]
      exact ⟨fun q => absurd q (by decide), fun q => q.elim⟩
theorem llt (x y : Int64) : lg_cmp x y < 0 ↔ x < y := by
  unfold lg_cmp
  by_cases h : x > y
  · simp only [h, if_true]
    exact ⟨fun q => absurd q (by decide), fun q => absurd (Int64.lt_trans q h) (Int64.lt_irrefl)⟩
  · by_cases e : x = y
    · subst e
      simp only [h, if_false, if_true]
      exact ⟨fun q => absurd q (by decide), fun q => q.elim⟩
    · simp only [h, e, if_false]
      refine ⟨fun _ => ?_, fun _ => by decide⟩
      rcases Int64.lt_or_eq_of_le (Int64.not_lt.mp h) with q | q
      · exact q
      · exact absurd q e
def iMin (a b : Int32) : Int32 := if b < a then b else a
def iMax (a b : Int32) : Int32 := if a < b then b else a
def lMin (a b : Int64) : Int64 := if b < a then b else a
def lMax (a b : Int64) : Int64 := if b < a then a else b
def iAbs (a : Int32) : Int32 := if 0 ≤ a then a else 0 - a
section
variable {μ : pMeth} {d NC NS : Nat} {Q : Option Value → pH → Prop} {pc idx : Nat} {ls : List (Option Value)} {st : List Value} {h : pH}
theorem pw_mmax {x y : Int32} (hd : decode μ.2.1 pc = .ok (.invokestatic idx, 3)) (hlk : Cond.methodLink μ.1.cls idx m_Ma_max.1 ∈ lw_g) (hdd : 1 ≤ d) (hst : (st.map fun v => v.category).sum ≤ 8) (hc : h.1.length ≤ NC) (hs : pSz h.1 ≤ NS) (k : pWP μ d NC NS Q (pc + 3) ls (.int (iMax x y) :: st) h) : pWP μ d NC NS Q pc ls (.int y :: .int x :: st) h := by
  intro p l e s m args below meth cc D dA b base H locs arr mc ms cells slots nc ns C R S B L e1 e2 e3 e4
  have hts := C.2.2.2.2.2.1
  have hk : m_Ma_max.2.2.1 ≤ 45 := by decide
  refine va_mmax C.1 C.2.1 (C.2.2.2.1.trans L.1.1.symm) C.2.2.2.2.1 (hts _ hlk) (hts _ ok_Ma_max.1) (hts _ ok_Ma_max.2.1) (hts _ ok_Ma_max.2.2.1) hdd ?_ (by show cells ≤ mc; omega) (by show slots ≤ ms; omega) hd (k p l e s m args below meth cc D dA b base H locs arr mc ms cells slots nc ns C R S B L e1 e2 e3 e4)
  show ((st.map (pUp (pAd b base))).map fun v => v.category).sum + _ ≤ 64 * d
  rw [pUp_cats]
  omega
theorem pw_mmin {x y : Int32} (hd : decode μ.2.1 pc = .ok (.invokestatic idx, 3)) (hlk : Cond.methodLink μ.1.cls idx m_Ma_min.1 ∈ lw_g) (hdd : 1 ≤ d) (hst : (st.map fun v => v.category).sum ≤ 8) (hc : h.1.length ≤ NC) (hs : pSz h.1 ≤ NS) (k : pWP μ d NC NS Q (pc + 3) ls (.int (iMin x y) :: st) h) : pWP μ d NC NS Q pc ls (.int y :: .int x :: st) h := by
  intro p l e s m args below meth cc D dA b base H locs arr mc ms cells slots nc ns C R S B L e1 e2 e3 e4
  have hts := C.2.2.2.2.2.1
  have hk : m_Ma_min.2.2.1 ≤ 45 := by decide
  refine va_mmin C.1 C.2.1 (C.2.2.2.1.trans L.1.1.symm) C.2.2.2.2.1 (hts _ hlk) (hts _ ok_Ma_min.1) (hts _ ok_Ma_min.2.1) (hts _ ok_Ma_min.2.2.1) hdd ?_ (by show cells ≤ mc; omega) (by show slots ≤ ms; omega) hd (k p l e s m args below meth cc D dA b base H locs arr mc ms cells slots nc ns C R S B L e1 e2 e3 e4)
  show ((st.map (pUp (pAd b base))).map fun v => v.category).sum + _ ≤ 64 * d
  rw [pUp_cats]
  omega
theorem pw_mabs {x : Int32} (hd : decode μ.2.1 pc = .ok (.invokestatic idx, 3)) (hlk : Cond.methodLink μ.1.cls idx m_Ma_abs.1 ∈ lw_g) (hdd : 1 ≤ d) (hst : (st.map fun v => v.category).sum ≤ 8) (hc : h.1.length ≤ NC) (hs : pSz h.1 ≤ NS) (k : pWP μ d NC NS Q (pc + 3) ls (.int (iAbs x) :: st) h) : pWP μ d NC NS Q pc ls (.int x :: st) h := by
  intro p l e s m args below meth cc D dA b base H locs arr mc ms cells slots nc ns C R S B L e1 e2 e3 e4
  have hts := C.2.2.2.2.2.1
  have hk : m_Ma_abs.2.2.1 ≤ 45 := by decide
  refine va_mabs C.1 C.2.1 (C.2.2.2.1.trans L.1.1.symm) C.2.2.2.2.1 (hts _ hlk) (hts _ ok_Ma_abs.1) (hts _ ok_Ma_abs.2.1) (hts _ ok_Ma_abs.2.2.1) hdd ?_ (by show cells ≤ mc; omega) (by show slots ≤ ms; omega) hd (k p l e s m args below meth cc D dA b base H locs arr mc ms cells slots nc ns C R S B L e1 e2 e3 e4)
  show ((st.map (pUp (pAd b base))).map fun v => v.category).sum + _ ≤ 64 * d
  rw [pUp_cats]
  omega
theorem pw_mmaxJ {x y : Int64} (hd : decode μ.2.1 pc = .ok (.invokestatic idx, 3)) (hlk : Cond.methodLink μ.1.cls idx m_Ma_maxJ.1 ∈ lw_g) (hdd : 1 ≤ d) (hst : (st.map fun v => v.category).sum ≤ 8) (hc : h.1.length ≤ NC) (hs : pSz h.1 ≤ NS) (k : pWP μ d NC NS Q (pc + 3) ls (.long (lMax x y) :: st) h) : pWP μ d NC NS Q pc ls (.long y :: .long x :: st) h := by
  intro p l e s m args below meth cc D dA b base H locs arr mc ms cells slots nc ns C R S B L e1 e2 e3 e4
  have hts := C.2.2.2.2.2.1
  have hk : m_Ma_maxJ.2.2.1 ≤ 45 := by decide
  refine va_mmax_long C.1 C.2.1 (C.2.2.2.1.trans L.1.1.symm) C.2.2.2.2.1 (hts _ hlk) (hts _ ok_Ma_maxJ.1) (hts _ ok_Ma_maxJ.2.1) (hts _ ok_Ma_maxJ.2.2.1) hdd ?_ (by show cells ≤ mc; omega) (by show slots ≤ ms; omega) hd (k p l e s m args below meth cc D dA b base H locs arr mc ms cells slots nc ns C R S B L e1 e2 e3 e4)
  show ((st.map (pUp (pAd b base))).map fun v => v.category).sum + _ ≤ 64 * d
  rw [pUp_cats]
  omega
theorem pw_mminJ {x y : Int64} (hd : decode μ.2.1 pc = .ok (.invokestatic idx, 3)) (hlk : Cond.methodLink μ.1.cls idx m_Ma_minJ.1 ∈ lw_g) (hdd : 1 ≤ d) (hst : (st.map fun v => v.category).sum ≤ 8) (hc : h.1.length ≤ NC) (hs : pSz h.1 ≤ NS) (k : pWP μ d NC NS Q (pc + 3) ls (.long (lMin x y) :: st) h) : pWP μ d NC NS Q pc ls (.long y :: .long x :: st) h := by
  intro p l e s m args below meth cc D dA b base H locs arr mc ms cells slots nc ns C R S B L e1 e2 e3 e4
  have hts := C.2.2.2.2.2.1
  have hk : m_Ma_minJ.2.2.1 ≤ 45 := by decide
  refine va_mmin_long C.1 C.2.1 (C.2.2.2.1.trans L.1.1.symm) C.2.2.2.2.1 (hts _ hlk) (hts _ ok_Ma_minJ.1) (hts _ ok_Ma_minJ.2.1) (hts _ ok_Ma_minJ.2.2.1) hdd ?_ (by show cells ≤ mc; omega) (by show slots ≤ ms; omega) hd (k p l e s m args below meth cc D dA b base H locs arr mc ms cells slots nc ns C R S B L e1 e2 e3 e4)
  show ((st.map (pUp (pAd b base))).map fun v => v.category).sum + _ ≤ 64 * d
  rw [pUp_cats]
  omega
end

def xBc1 (x : Int32) : Int32 := x - ((x.toUInt32 >>> ((1 : Int32).toUInt32 &&& Int32.toUInt32 31)).toInt32 &&& 1431655765)
def xBc2 (x : Int32) : Int32 := (x &&& 858993459) + ((x.toUInt32 >>> ((2 : Int32).toUInt32 &&& Int32.toUInt32 31)).toInt32 &&& 858993459)
def xBc4 (x : Int32) : Int32 := (x + (x.toUInt32 >>> ((4 : Int32).toUInt32 &&& Int32.toUInt32 31)).toInt32) &&& 252645135
def xBc8 (x : Int32) : Int32 := x + (x.toUInt32 >>> ((8 : Int32).toUInt32 &&& Int32.toUInt32 31)).toInt32
def xBc16 (x : Int32) : Int32 := (x + (x.toUInt32 >>> ((16 : Int32).toUInt32 &&& Int32.toUInt32 31)).toInt32)
/-- Integer.bitCount -/
def xBc (x : Int32) : Int32 := xBc16 (xBc8 (xBc4 (xBc2 (xBc1 x)))) &&& 63

theorem ct_In_bitCount {sh : List pSh} {I : Nat → Nat → Int32} {L : Nat → Nat → Int64} {P : Nat → Nat → Option Nat} (x : Int32) : pCn m_In_bitCount 0 [.int x] sh (I, L, P) (rI (xBc x) (I, L, P)) := by
  refine pCn_of (by decide +kernel) (Nat.le_of_ble_eq_true rfl) ?_
  refine pw_iload_n (k4 := 0) rfl (by decide +kernel) ?_
  refine pw_iload_n (k4 := 0) rfl (by decide +kernel) ?_
  refine pw_iconst (n := 1) (v := 1) (by decide) (by decide +kernel) ?_
  refine pw_iushr (by decide +kernel) ?_
  refine pw_ldc_w lc_In_265 (by decide +kernel) ?_
  refine pw_iand (by decide +kernel) ?_
  refine pw_isub (by decide +kernel) ?_
  refine pw_istore_n (k4 := 0) (Nat.le_of_ble_eq_true rfl) (by decide +kernel) ?_
  refine pw_iload_n (k4 := 0) rfl (by decide +kernel) ?_
  refine pw_ldc_w lc_In_266 (by decide +kernel) ?_
  refine pw_iand (by decide +kernel) ?_
  refine pw_iload_n (k4 := 0) rfl (by decide +kernel) ?_
  refine pw_iconst (n := 2) (v := 2) (by decide) (by decide +kernel) ?_
  refine pw_iushr (by decide +kernel) ?_
  refine pw_ldc_w lc_In_266 (by decide +kernel) ?_
  refine pw_iand (by decide +kernel) ?_
  refine pw_iadd (by decide +kernel) ?_
  refine pw_istore_n (k4 := 0) (Nat.le_of_ble_eq_true rfl) (by decide +kernel) ?_
  refine pw_iload_n (k4 := 0) rfl (by decide +kernel) ?_
  refine pw_iload_n (k4 := 0) rfl (by decide +kernel) ?_
  refine pw_iconst (n := 4) (v := 4) (by decide) (by decide +kernel) ?_
  refine pw_iushr (by decide +kernel) ?_
  refine pw_iadd (by decide +kernel) ?_
  refine pw_ldc_w lc_In_267 (by decide +kernel) ?_
  refine pw_iand (by decide +kernel) ?_
  refine pw_istore_n (k4 := 0) (Nat.le_of_ble_eq_true rfl) (by decide +kernel) ?_
  refine pw_iload_n (k4 := 0) rfl (by decide +kernel) ?_
  refine pw_iload_n (k4 := 0) rfl (by decide +kernel) ?_
  refine pw_bipush (n := 8) (v := 8) (by decide) (by decide +kernel) ?_
  refine pw_iushr (by decide +kernel) ?_
  refine pw_iadd (by decide +kernel) ?_
  refine pw_istore_n (k4 := 0) (Nat.le_of_ble_eq_true rfl) (by decide +kernel) ?_
  refine pw_iload_n (k4 := 0) rfl (by decide +kernel) ?_
  refine pw_iload_n (k4 := 0) rfl (by decide +kernel) ?_
  refine pw_bipush (n := 16) (v := 16) (by decide) (by decide +kernel) ?_
  refine pw_iushr (by decide +kernel) ?_
  refine pw_iadd (by decide +kernel) ?_
  refine pw_istore_n (k4 := 0) (Nat.le_of_ble_eq_true rfl) (by decide +kernel) ?_
  refine pw_iload_n (k4 := 0) rfl (by decide +kernel) ?_
  refine pw_bipush (n := 63) (v := 63) (by decide) (by decide +kernel) ?_
  refine pw_iand (by decide +kernel) ?_
  exact pq_iret rfl (by decide +kernel) ⟨rfl, rfl⟩

def xWithin (v : Int64) (m : Int32) : Int32 := (lMax 0 (lMin m.toInt64 v)).toInt32

theorem ct_Wo_within {sh : List pSh} {I : Nat → Nat → Int32} {L : Nat → Nat → Int64} {P : Nat → Nat → Option Nat} (v : Int64) (k : Int32) : pCn m_Wo_within 1 [.long v, .int k] sh (I, L, P) (rI (xWithin v k) (I, L, P)) := by
  refine pCn_of (by decide +kernel) (Nat.le_of_ble_eq_true rfl) ?_
  refine pw_lconst (n := 0) (v := 0) (by decide) (by decide +kernel) ?_
  refine pw_iload_n (k4 := 2) rfl (by decide +kernel) ?_
  refine pw_i2l (by decide +kernel) ?_
  refine pw_lload_n (k4 := 0) rfl (by decide +kernel) ?_
  refine pw_mminJ (by decide +kernel) lm_Wo_120 (by omega) (Nat.le_of_ble_eq_true rfl) (Nat.le_refl _) (Nat.le_refl _) ?_
  refine pw_mmaxJ (by decide +kernel) lm_Wo_124 (by omega) (Nat.le_of_ble_eq_true rfl) (Nat.le_refl _) (Nat.le_refl _) ?_
  refine pw_l2i (by decide +kernel) ?_
  exact pq_iret rfl (by decide +kernel) ⟨rfl, rfl⟩

theorem ct_Ta_personNamed {sh : List pSh} {I : Nat → Nat → Int32} {L : Nat → Nat → Int64} {P : Nat → Nat → Option Nat} (hA : kA sh P) {t : Nat} (ht : t = 3 ∨ t = 30) {np ns nd : Nat} (hn : tOK I t np ns nd) (x : Int32) : pCn m_Ta_personNamed 0 [.ref t, .int x] sh (I, L, P) (rI (fFind (I (t + 1)) x np 0) (I, L, P)) := by
  refine pCn_of (by decide +kernel) (Nat.le_of_ble_eq_true rfl) ?_
  have h5 := hn.2.1
  have hloop := pUpTo np (fun k => fFind (I (t + 1)) x (np - k) k = fFind (I (t + 1)) x np 0 → pWn m_Ta_personNamed 0 sh (rI (fFind (I (t + 1)) x np 0) (I, L, P)) 2 [some (.ref t), some (.int x), some (.int (nI k))] [] (I, L, P)) (by
    intro k hk ih hg
    refine pw_iload_n (k4 := 2) rfl (by decide +kernel) ?_
    refine pw_aload_n (k4 := 0) rfl (by decide +kernel) ?_
    refine pq_getI (c := 7) (k := 0) (ks_t hA ht) (by decide) (by decide) lf_Ta_68 (by decide +kernel) ?_
    refine pw_icmp_ge (off := 21) (tgt := 28) (by decide +kernel) (by decide +kernel) (fun z7 => ?_) (fun z7 => ?_)
    · rw [cLe hn.1 rfl (by omega) (by omega)] at z7
      refine pw_iconst (n := -1) (v := -1) (by decide) (by decide +kernel) ?_
      exact pq_iret rfl (by decide +kernel) ⟨congrArg (fun z => some (Value.int z)) (by rw [← hg, show np - k = 0 by omega]; rfl), rfl⟩
    · rw [cLe hn.1 rfl (by omega) (by omega)] at z7
      refine pw_aload_n (k4 := 0) rfl (by decide +kernel) ?_
      refine pq_getP (c := 7) (k := 1) (ks_t hA ht) (by decide) (by decide) (kp_t_name hA ht) lf_Ta_9 (by decide +kernel) ?_
      refine pw_iload_n (k4 := 2) rfl (by decide +kernel) ?_
      refine pq_iald k rfl (by omega) (by decide) (ks_t_name hA ht) (by decide +kernel) ?_
      refine pw_iload_n (k4 := 1) rfl (by decide +kernel) ?_
      refine pw_icmp_ne (off := 5) (tgt := 22) (by decide +kernel) (by decide +kernel) (fun z17 => ?_) (fun z17 => ?_)
      · refine pw_iincK (i := 2) (n := 1) (1) rfl (by decide) (by decide +kernel) ?_
        refine pw_goto (off := -23) (tgt := 2) (by decide +kernel) (by decide +kernel) ?_
        have q := ih (by omega) (by rw [← hg, show np - k = (np - (k + 1)) + 1 by omega]; exact (if_neg z17).symm)
        rw [nI_succ] at q
        exact q
      · refine pw_iload_n (k4 := 2) rfl (by decide +kernel) ?_
        exact pq_iret rfl (by decide +kernel) ⟨congrArg (fun z => some (Value.int z)) (by rw [← hg, show np - k = (np - (k + 1)) + 1 by omega]; exact (if_pos z17).symm), rfl⟩
)
  refine pw_iconst (n := 0) (v := 0) (by decide) (by decide +kernel) ?_
  refine pw_istore_n (k4 := 2) (Nat.le_of_ble_eq_true rfl) (by decide +kernel) ?_
  exact hloop 0 (Nat.zero_le _) rfl

def shBits (f : Nat → Int32) (who : Int32) : Nat → Int32
  | 0 => 0
  | k + 1 => if f k = who then shBits f who k ||| (1 <<< (nI k &&& 31)) else shBits f who k
def cntI (f : Nat → Int32) (x : Int32) : Nat → Int32
  | 0 => 0
  | k + 1 => if f k = x then cntI f x k + 1 else cntI f x k

theorem ct_Wo_shoesOf {sh : List pSh} {I : Nat → Nat → Int32} {L : Nat → Nat → Int64} {P : Nat → Nat → Option Nat} (hA : kA sh P) {w t : Nat} (hw : w = 62 ∨ w = 68 ∨ w = 74) (ht : t = 3 ∨ t = 30) (hwt : P w 0 = some t) {np ns nd : Nat} (hn : tOK I t np ns nd) (x : Int32) : pCn m_Wo_shoesOf 0 [.ref w, .int x] sh (I, L, P) (rI (shBits (I (w + 3)) x ns) (I, L, P)) := by
  refine pCn_of (by decide +kernel) (Nat.le_of_ble_eq_true rfl) ?_
  have h16 := hn.2.2.2.1
  have h8 := hn.2.2.2.2.2
  have hloop := pUpTo ns (fun k => pWn m_Wo_shoesOf 0 sh (rI (shBits (I (w + 3)) x ns) (I, L, P)) 4 [some (.ref w), some (.int x), some (.int (shBits (I (w + 3)) x k)), some (.int (nI k))] [] (I, L, P)) (by
    intro k hk ih
    refine pw_iload_n (k4 := 3) rfl (by decide +kernel) ?_
    refine pw_aload_n (k4 := 0) rfl (by decide +kernel) ?_
    refine pq_getP (c := 9) (k := 0) (ks_w hA hw) (by decide) (by decide) hwt lf_Wo_29 (by decide +kernel) ?_
    refine pq_getI (c := 7) (k := 6) (ks_t hA ht) (by decide) (by decide) lf_Wo_76 (by decide +kernel) ?_
    refine pw_icmp_ge (off := 25) (tgt := 37) (by decide +kernel) (by decide +kernel) (fun z12 => ?_) (fun z12 => ?_)
    · rw [cLe hn.2.2.1 rfl (by omega) (by omega)] at z12
      refine pw_iload_n (k4 := 2) rfl (by decide +kernel) ?_
      exact pq_iret rfl (by decide +kernel) ⟨by rw [show k = ns by omega], rfl⟩
    · rw [cLe hn.2.2.1 rfl (by omega) (by omega)] at z12
      refine pw_aload_n (k4 := 0) rfl (by decide +kernel) ?_
      refine pq_getP (c := 9) (k := 6) (ks_w hA hw) (by decide) (by decide) (kp_w_owner hA hw) lf_Wo_20 (by decide +kernel) ?_
      refine pw_iload_n (k4 := 3) rfl (by decide +kernel) ?_
      refine pq_iald k rfl (by omega) (by decide) (ks_w_owner hA hw) (by decide +kernel) ?_
      refine pw_iload_n (k4 := 1) rfl (by decide +kernel) ?_
      refine pw_icmp_ne (off := 9) (tgt := 31) (by decide +kernel) (by decide +kernel) (fun z22 => ?_) (fun z22 => ?_)
      · refine pw_iincK (i := 3) (n := 1) (1) rfl (by decide) (by decide +kernel) ?_
        refine pw_goto (off := -30) (tgt := 4) (by decide +kernel) (by decide +kernel) ?_
        have q := ih (by omega)
        rw [nI_succ, show shBits (I (w + 3)) x (k + 1) = _ from if_neg z22] at q
        exact q
      · refine pw_iload_n (k4 := 2) rfl (by decide +kernel) ?_
        refine pw_iconst (n := 1) (v := 1) (by decide) (by decide +kernel) ?_
        refine pw_iload_n (k4 := 3) rfl (by decide +kernel) ?_
        refine pw_ishl (by decide +kernel) ?_
        refine pw_ior (by decide +kernel) ?_
        refine pw_istore_n (k4 := 2) (Nat.le_of_ble_eq_true rfl) (by decide +kernel) ?_
        refine pw_iincK (i := 3) (n := 1) (1) rfl (by decide) (by decide +kernel) ?_
        refine pw_goto (off := -30) (tgt := 4) (by decide +kernel) (by decide +kernel) ?_
        have q := ih (by omega)
        rw [nI_succ, show shBits (I (w + 3)) x (k + 1) = _ from if_pos z22] at q
        exact q
)
  refine pw_iconst (n := 0) (v := 0) (by decide) (by decide +kernel) ?_
  refine pw_istore_n (k4 := 2) (Nat.le_of_ble_eq_true rfl) (by decide +kernel) ?_
  refine pw_iconst (n := 0) (v := 0) (by decide) (by decide +kernel) ?_
  refine pw_istore_n (k4 := 3) (Nat.le_of_ble_eq_true rfl) (by decide +kernel) ?_
  exact hloop 0 (Nat.zero_le _)

theorem ct_Wo_debtsThatAre {sh : List pSh} {I : Nat → Nat → Int32} {L : Nat → Nat → Int64} {P : Nat → Nat → Option Nat} (hA : kA sh P) {w t : Nat} (hw : w = 62 ∨ w = 68 ∨ w = 74) (ht : t = 3 ∨ t = 30) (hwt : P w 0 = some t) {np ns nd : Nat} (hn : tOK I t np ns nd) (x : Int32) : pCn m_Wo_debtsThatAre 0 [.ref w, .int x] sh (I, L, P) (rI (cntI (I (w + 5)) x nd) (I, L, P)) := by
  refine pCn_of (by decide +kernel) (Nat.le_of_ble_eq_true rfl) ?_
  have h16 := hn.2.2.2.1
  have h8 := hn.2.2.2.2.2
  have hloop := pUpTo nd (fun k => pWn m_Wo_debtsThatAre 0 sh (rI (cntI (I (w + 5)) x nd) (I, L, P)) 4 [some (.ref w), some (.int x), some (.int (cntI (I (w + 5)) x k)), some (.int (nI k))] [] (I, L, P)) (by
    intro k hk ih
    refine pw_iload_n (k4 := 3) rfl (by decide +kernel) ?_
    refine pw_aload_n (k4 := 0) rfl (by decide +kernel) ?_
    refine pq_getP (c := 9) (k := 0) (ks_w hA hw) (by decide) (by decide) hwt lf_Wo_29 (by decide +kernel) ?_
    refine pq_getI (c := 7) (k := 12) (ks_t hA ht) (by decide) (by decide) lf_Wo_79 (by decide +kernel) ?_
    refine pw_icmp_ge (off := 22) (tgt := 34) (by decide +kernel) (by decide +kernel) (fun z12 => ?_) (fun z12 => ?_)
    · rw [cLe hn.2.2.2.2.1 rfl (by omega) (by omega)] at z12
      refine pw_iload_n (k4 := 2) rfl (by decide +kernel) ?_
      exact pq_iret rfl (by decide +kernel) ⟨by rw [show k = nd by omega], rfl⟩
    · rw [cLe hn.2.2.2.2.1 rfl (by omega) (by omega)] at z12
      refine pw_aload_n (k4 := 0) rfl (by decide +kernel) ?_
      refine pq_getP (c := 9) (k := 8) (ks_w hA hw) (by decide) (by decide) (kp_w_settled hA hw) lf_Wo_26 (by decide +kernel) ?_
      refine pw_iload_n (k4 := 3) rfl (by decide +kernel) ?_
      refine pq_iald k rfl (by omega) (by decide) (ks_w_settled hA hw) (by decide +kernel) ?_
      refine pw_iload_n (k4 := 1) rfl (by decide +kernel) ?_
      refine pw_icmp_ne (off := 6) (tgt := 28) (by decide +kernel) (by decide +kernel) (fun z22 => ?_) (fun z22 => ?_)
      · refine pw_iincK (i := 3) (n := 1) (1) rfl (by decide) (by decide +kernel) ?_
        refine pw_goto (off := -27) (tgt := 4) (by decide +kernel) (by decide +kernel) ?_
        have q := ih (by omega)
        rw [nI_succ, show cntI (I (w + 5)) x (k + 1) = _ from if_neg z22] at q
        exact q
      · refine pw_iincK (i := 2) (n := 1) (1) rfl (by decide) (by decide +kernel) ?_
        refine pw_iincK (i := 3) (n := 1) (1) rfl (by decide) (by decide +kernel) ?_
        refine pw_goto (off := -27) (tgt := 4) (by decide +kernel) (by decide +kernel) ?_
        have q := ih (by omega)
        rw [nI_succ, show cntI (I (w + 5)) x (k + 1) = _ from if_pos z22] at q
        exact q
)
  refine pw_iconst (n := 0) (v := 0) (by decide) (by decide +kernel) ?_
  refine pw_istore_n (k4 := 2) (Nat.le_of_ble_eq_true rfl) (by decide +kernel) ?_
  refine pw_iconst (n := 0) (v := 0) (by decide) (by decide +kernel) ?_
  refine pw_istore_n (k4 := 3) (Nat.le_of_ble_eq_true rfl) (by decide +kernel) ?_
  exact hloop 0 (Nat.zero_le _)

def xMove (I : Nat → Nat → Int32) (t w j : Nat) (to : Int32) : Nat → Nat → Int32 := sI (aU I (w + 4) (xOff (I (w + 4)) (I (w + 3) j) (I t 0) (nI j))) (w + 3) j to
theorem xMove_ne {I : Nat → Nat → Int32} {t w j a : Nat} {to : Int32} (h1 : a ≠ w + 3) (h2 : a ≠ w + 4) : xMove I t w j to a = I a := by
  unfold xMove
  rw [sI_ne h1, aU_ne h2]
theorem xMove_tOK {I : Nat → Nat → Int32} {t w j np ns nd : Nat} {to : Int32} (hw : w = 62 ∨ w = 68 ∨ w = 74) (ht : t = 3 ∨ t = 30) (hn : tOK I t np ns nd) : tOK (xMove I t w j to) t np ns nd := by
  unfold tOK
  rw [xMove_ne (by omega) (by omega)]
  exact hn

theorem ct_Wo_move {sh : List pSh} {I : Nat → Nat → Int32} {L : Nat → Nat → Int64} {P : Nat → Nat → Option Nat} (hA : kA sh P) {w t : Nat} (hw : w = 62 ∨ w = 68 ∨ w = 74) (ht : t = 3 ∨ t = 30) (hwt : P w 0 = some t) {np ns nd : Nat} (hn : tOK I t np ns nd) (j : Nat) (hj : j < ns) (to : Int32) : pCn m_Wo_move 2 [.ref w, .int (nI j), .int to] sh (I, L, P) (rV (xMove I t w j to, L, P)) := by
  refine pCn_of (by decide +kernel) (Nat.le_of_ble_eq_true rfl) ?_
  refine pw_aload_n (k4 := 0) rfl (by decide +kernel) ?_
  refine pq_getP (c := 9) (k := 0) (ks_w hA hw) (by decide) (by decide) hwt lf_Wo_29 (by decide +kernel) ?_
  refine pw_iload_n (k4 := 1) rfl (by decide +kernel) ?_
  refine pq_callV (ν := m_Ta_hasShoe) (d' := 0) (av := [_]) (c := 7) (by decide +kernel) lm_Wo_58 ok_Ta_hasShoe (show _ = some 1 by decide +kernel) (ks_t hA ht) rfl (by decide) (by omega) (Nat.le_of_ble_eq_true rfl) (ct_Ta_hasShoe hA ht _) ?_
  rintro _ _ ⟨rfl, rfl⟩
  refine pw_if_eq (off := 15) (tgt := 23) (by decide +kernel) (by decide +kernel) (fun z8 => ?_) (fun z8 => ?_)
  · exact absurd (nVal hn.2.2.1 (by have := hn.2.2.2.1; omega) hj) (B_0.mp z8)
  · have h16 := hn.2.2.2.1
    refine pw_aload_n (k4 := 0) rfl (by decide +kernel) ?_
    refine pw_iload_n (k4 := 1) rfl (by decide +kernel) ?_
    refine pq_callV (ν := m_Wo_takeOff) (d' := 1) (av := [_]) (c := 9) (by decide +kernel) lm_Wo_68 ok_Wo_takeOff (show _ = some 1 by decide +kernel) (ks_w hA hw) rfl (by decide) (by omega) (Nat.le_of_ble_eq_true rfl) (ct_Wo_takeOff hA hw ht hwt hn j hj) ?_
    rintro _ _ ⟨rfl, rfl⟩
    refine pw_aload_n (k4 := 0) rfl (by decide +kernel) ?_
    refine pq_getP (c := 9) (k := 6) (ks_w hA hw) (by decide) (by decide) (kp_w_owner hA hw) lf_Wo_20 (by decide +kernel) ?_
    refine pw_iload_n (k4 := 1) rfl (by decide +kernel) ?_
    refine pw_iload_n (k4 := 2) rfl (by decide +kernel) ?_
    refine pq_iast j rfl (by omega) (by decide) (ks_w_owner hA hw) (by decide +kernel) ?_
    exact pq_vret rfl (by decide +kernel) ⟨rfl, rfl⟩

theorem ct_Wo_bury {sh : List pSh} {I : Nat → Nat → Int32} {L : Nat → Nat → Int64} {P : Nat → Nat → Option Nat} (hA : kA sh P) {w t : Nat} (hw : w = 62 ∨ w = 68 ∨ w = 74) (ht : t = 3 ∨ t = 30) (hwt : P w 0 = some t) {np ns nd : Nat} (hn : tOK I t np ns nd) (j : Nat) (hj : j < ns) : pCn m_Wo_bury 3 [.ref w, .int (nI j)] sh (I, L, P) (rV (xMove I t w j (-2), L, P)) := by
  refine pCn_of (by decide +kernel) (Nat.le_of_ble_eq_true rfl) ?_
  refine pw_aload_n (k4 := 0) rfl (by decide +kernel) ?_
  refine pw_iload_n (k4 := 1) rfl (by decide +kernel) ?_
  refine pw_bipush (n := -2) (v := -2) (by decide) (by decide +kernel) ?_
  refine pq_callV (ν := m_Wo_move) (d' := 2) (av := [_, _]) (c := 9) (by decide +kernel) lm_Wo_72 ok_Wo_move (show _ = some 2 by decide +kernel) (ks_w hA hw) rfl (by decide) (by omega) (Nat.le_of_ble_eq_true rfl) (ct_Wo_move hA hw ht hwt hn j hj _) ?_
  rintro _ _ ⟨rfl, rfl⟩
  exact pq_vret rfl (by decide +kernel) ⟨rfl, rfl⟩
