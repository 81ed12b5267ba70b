/-! ===== class and reference: one call of each ===== -/
/-- what never changes but by a text -/
def sv (I : Nat → Nat → Int32) : Prop := (∀ w, w < 25 → I 60 w = nI (rfW (wmN w))) ∧ wdM I ∧ lOK I 3 ∧ lOK I 30
def svA (a : Nat) : Prop := a = 60 ∨ a = 136 ∨ a = 25 ∨ a = 26 ∨ a = 52 ∨ a = 53
theorem sv_cg {I J : Nat → Nat → Int32} (h : sv I) (e : ∀ a, svA a → J a = I a) : sv J := by
  obtain ⟨h1, h2, h3, h4⟩ := h
  refine ⟨fun w hw => ?_, fun j hj => ?_, lOK_cg (e 25 (by unfold svA; omega)) (e 26 (by unfold svA; omega)) h3, lOK_cg (e 52 (by unfold svA; omega)) (e 53 (by unfold svA; omega)) h4⟩
  · rw [e 60 (by unfold svA; omega)]; exact h1 w hw
  · rw [e 136 (by unfold svA; omega)]; exact h2 j hj
/-- class and reference in one memory, between two calls of the law -/
def iq (t t1 np ns nd nx sz : Nat) (sh : List pSh) (I : Nat → Nat → Int32) (P : Nat → Nat → Option Nat) : Prop :=
  gR I I t np ns nd nx sz ∧ kA sh P ∧ sv I ∧ P 1 2 = some t ∧ (P 1 3 = some t1 ∧ (t1 = 3 ∨ t1 = 30) ∧ ¬ t1 = t) ∧ P 62 0 = some t ∧ (¬ I 1 10 = 0 → P 68 0 = some t)
def iv (sh : List pSh) (M : pM) : Prop := ∃ t t1 np ns nd nx sz, iq t t1 np ns nd nx sz sh M.1 M.2.2
/-- a call of the class, and then the same call of the reference: they answer alike -/
abbrev tw0 {α : Type} (κ : α → Value) (νx νm : pMeth) (d1 d2 : Nat) (av : List Value) (sh : List pSh) (M : pM) : Prop :=
  pCn νx d1 (.ref 1 :: av) sh M (fun r M1 => ∃ v : α, r = some (κ v) ∧ pCn νm d2 (.ref 134 :: av) sh M1 (fun r2 M2 => r2 = some (κ v) ∧ iv sh M2))
abbrev two (νx νm : pMeth) (d1 d2 : Nat) (av : List Value) (sh : List pSh) (M : pM) : Prop :=
  pCn νx d1 (.ref 1 :: av) sh M (fun r M1 => ∃ v : Int32, r = some (.int v) ∧ pCn νm d2 (.ref 134 :: av) sh M1 (fun r2 M2 => r2 = some (.int v) ∧ iv sh M2))
theorem rep_rf (I : Nat → Nat → Int32) : rep I I := fun _ _ _ => rfl
theorem rep_a {I J : Nat → Nat → Int32} (h : rep I J) {a : Nat} (ha : scrA.contains a = false) (h4 : a ≠ 134) : I a = J a := funext fun k => h a k (scr_no ha h4 k)
theorem mI_o {Y : Nat → Nat → Int32} {b np ns : Nat} (h : mI Y b np ns) : oOK Y b np ns := fun k hk hn => by
  rcases (h.1 k hk).1 with e | e | e
  · rw [e] at hn; exact absurd (by decide) hn
  · rw [e] at hn; exact absurd (by decide) hn
  · exact e
section
variable {I I1 I2 J X1 : Nat → Nat → Int32} {L L1 : Nat → Nat → Int64} {P P1 : Nat → Nat → Option Nat} {sh : List pSh} {t t1 np ns nd nx sz nx' sz' d1 d2 : Nat} {νx νm : pMeth} {av : List Value}
theorem gR_d (h : gR I J t np ns nd nx sz) : dOK I t nd := fun k hk => by
  obtain ⟨-, -, q, q1, q2, q3⟩ := h.1.1.2.2.2 k hk
  exact ⟨q, by rw [(h.1.1.1.2.2.2.2.1 k hk).2.2.1]; exact q3, q2, by omega⟩
theorem iq.l (h : iq t t1 np ns nd nx sz sh I P) : lOK I t := by
  rcases h.1.2.2.2.2.2.2.2 with rfl | rfl
  · exact h.2.2.1.2.2.1
  · exact h.2.2.1.2.2.2
theorem iq.g (h : iq t t1 np ns nd nx sz sh I P) (hf : ∀ a, 134 ≤ a → I1 a = I a) : gR I I1 t np ns nd nx sz :=
  gR_cg h.1 (fun _ _ _ _ => rfl) ⟨fun a ha _ => hf a (by omega), fun k _ => by rw [hf 134 (by omega)]⟩
/-- behind both calls -/
theorem iq_mk (h : iq t t1 np ns nd nx sz sh I P) (hg : gR X1 J t np ns nd nx' sz') (hx : ∀ a, a < 134 → (a < 74 ∨ 79 < a) → scrA.contains a = false → J a = X1 a) (hr : rep I2 J) (hs : ∀ a, svA a → J a = I a) (hA : kA sh P1) (h12 : P1 1 2 = some t) (h13 : P1 1 3 = some t1) (h62 : P1 62 0 = some t) (h68 : ¬ J 1 10 = 0 → P1 68 0 = some t) : iq t t1 np ns nd nx' sz' sh I2 P1 := by
  refine ⟨gR_cg hg (fun a a1 a2 a3 => by rw [rep_a hr a3 (by omega)]; exact hx a a1 a2 a3) hr.yQ, hA, sv_cg h.2.2.1 (fun a ha => ?_), h12, ⟨h13, h.2.2.2.2.1.2⟩, h62, fun w => h68 ?_⟩
  · rw [rep_a hr ((sc_iff a).mpr (by unfold svA at ha; omega)) (by unfold svA at ha; omega)]
    exact hs a ha
  · rw [rep_a hr (a := 1) (by decide) (by decide)] at w
    exact w
theorem iq_keep (h : iq t t1 np ns nd nx sz sh I P) (hg : gR X1 J t np ns nd nx' sz') (hx : ∀ a, a < 134 → (a < 74 ∨ 79 < a) → scrA.contains a = false → J a = X1 a) (hr : rep I2 J) (hs : ∀ a, svA a → J a = I a) (h10 : J 1 10 = I 1 10) : iq t t1 np ns nd nx' sz' sh I2 P :=
  iq_mk h hg hx hr hs h.2.1 h.2.2.2.1 h.2.2.2.2.1.1 h.2.2.2.2.2.1 (by rw [h10]; exact h.2.2.2.2.2.2)
theorem iq_rep (h : iq t t1 np ns nd nx sz sh I P) (hf : ∀ a, scrA.contains a = false ∨ 134 ≤ a → I1 a = I a) (hr : rep I2 I1) : iq t t1 np ns nd nx sz sh I2 P :=
  iq_keep h (h.g (fun a ha => hf a (Or.inr ha))) (fun a _ _ a3 => hf a (Or.inl a3)) hr (fun a ha => hf a (Or.inl ((sc_iff a).mpr (by unfold svA at ha; omega)))) (by rw [hf 1 (Or.inl (by decide))])
theorem iq.v (h : iq t t1 np ns nd nx sz sh I P) : iv sh (I, L, P) := ⟨t, t1, np, ns, nd, nx, sz, h⟩
theorem pI_p {c : Prop} [Decidable c] {A B : Option Value → pM → Prop} {M : pM} (hc : c) (h : pCn νx d1 av sh M (rIf c A B)) : pCn νx d1 av sh M A := pCn_im h (fun _ _ w => w.1 hc)
theorem pI_n {c : Prop} [Decidable c] {A B : Option Value → pM → Prop} {M : pM} (hc : ¬ c) (h : pCn νx d1 av sh M (rIf c A B)) : pCn νx d1 av sh M B := pCn_im h (fun _ _ w => w.2 hc)
/-- the class asks: it leaves all but scratch -/
def fA (v : Value) (I : Nat → Nat → Int32) (P : Nat → Nat → Option Nat) : Option Value → pM → Prop := fun r M => r = some v ∧ ∃ I1 L1, M = (I1, L1, P) ∧ ∀ a, scrA.contains a = false ∨ 134 ≤ a → I1 a = I a
theorem cI {v : Int32} (h : pCn νx d1 av sh (I, L, P) (rI v (I, L, P))) : pCn νx d1 av sh (I, L, P) (fA (.int v) I P) := pCn_im h (fun _ _ w => ⟨w.1, I, L, w.2, fun _ _ => rfl⟩)
theorem cIx {v : Int32} (h : pCn νx d1 av sh (I, L, P) (rIx v I P)) : pCn νx d1 av sh (I, L, P) (fA (.int v) I P) := pCn_im h (fun _ _ w => ⟨w.1, I, w.2.choose, w.2.choose_spec, fun _ _ => rfl⟩)
theorem cJx {v : Int64} (h : pCn νx d1 av sh (I, L, P) (rJx v I P)) : pCn νx d1 av sh (I, L, P) (fA (.long v) I P) := pCn_im h (fun _ _ w => ⟨w.1, I, w.2.choose, w.2.choose_spec, fun _ _ => rfl⟩)
theorem scr_lt {a : Nat} (h : scrA.contains a = false ∨ 134 ≤ a) : a ≠ 21 ∧ a ≠ 48 ∧ a ≠ 61 ∧ ¬ (126 ≤ a ∧ a ≤ 129) ∧ a ≠ 132 ∧ a ≠ 133 := by
  rcases h with h | h
  · have := (sc_iff a).mp h
    omega
  · omega
theorem cF {v : Int32} (h : pCn νx d1 av sh (I, L, P) (rF v I P)) : pCn νx d1 av sh (I, L, P) (fA (.int v) I P) := pCn_im h (fun _ _ w => by
  obtain ⟨e, f, L', e2⟩ := w
  exact ⟨e, _, L', e2, fun a ha => aU_ne (scr_lt ha).2.2.1⟩)
theorem two_A {α : Type} {κ : α → Value} {v : α} {Qm : (Nat → Nat → Int32) → Option Value → pM → Prop} (h : iq t t1 np ns nd nx sz sh I P) (hx : pCn νx d1 (.ref 1 :: av) sh (I, L, P) (fA (κ v) I P)) (hm : ∀ I1 L1, (∀ a, 134 ≤ a → I1 a = I a) → gR I I1 t np ns nd nx sz → pCn νm d2 (.ref 134 :: av) sh (I1, L1, P) (Qm I1)) (hq : ∀ I1 r M, gR I I1 t np ns nd nx sz → Qm I1 r M → r = some (κ v) ∧ ∃ I2 L2, M = (I2, L2, P) ∧ rep I2 I1) : tw0 κ νx νm d1 d2 av sh (I, L, P) := by
  refine pCn_im hx ?_
  rintro r M ⟨rfl, I1, L1, rfl, hf⟩
  have hg := h.g (I1 := I1) (fun a ha => hf a (Or.inr ha))
  refine ⟨v, rfl, pCn_im (hm I1 L1 (fun a ha => hf a (Or.inr ha)) hg) ?_⟩
  intro r2 M2 w
  obtain ⟨e, I2, L2, rfl, hr⟩ := hq I1 r2 M2 hg w
  exact ⟨e, (iq_rep h hf hr).v⟩
theorem tw_A {v : Int32} (h : iq t t1 np ns nd nx sz sh I P) (hx : pCn νx d1 (.ref 1 :: av) sh (I, L, P) (fA (.int v) I P)) (hm : ∀ I1 L1, (∀ a, 134 ≤ a → I1 a = I a) → gR I I1 t np ns nd nx sz → pCn νm d2 (.ref 134 :: av) sh (I1, L1, P) (rA v I1 P)) : two νx νm d1 d2 av sh (I, L, P) :=
  two_A (κ := Value.int) h hx hm (fun I1 r M _ w => ⟨w.1, w.2⟩)
end
