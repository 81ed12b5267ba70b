/-! ===== the law's walk: its locals, the script ===== -/
def m_Lw : pMeth := (⟨"LeftShoesLaw", "law", "([I)Z"⟩, code, 7, ret)
section
variable {μ : pMeth} {p : Program} {l : Launch} {e : Env} {Rm : Room} {s : State} {m : MethodId} {args : Array Value} {below : List Frame} {meth : Method} {cc : Code} {D : va_G} {dA : Nat → ClassId} {b base : Nat} {Z : State → Prop} {cells slots pc : Nat} {ls ls' : List (Option Value)} {st : List Value} {h : pH} {sh : List pSh} {M : pM} {xs : Nat → Int32} {n : Nat}
theorem lj_fgt (hl : ls'.length = ls.length) (hs : ∀ (i : Nat) (v : Value), ls'[i]? = some (some v) → ls[i]? = some (some v)) (k : lJ μ p l e Rm s m args below meth cc D dA b base Z cells slots pc ls' st h) : lJ μ p l e Rm s m args below meth cc D dA b base Z cells slots pc ls st h := by
  intro H locs arr R S L
  refine k H locs arr R S ⟨⟨L.1.1, L.1.2.1, fun q hq => L.1.2.2 q ?_⟩, hl.trans L.2⟩
  obtain ⟨i, w⟩ := q
  obtain ⟨v, hv, rfl⟩ := pLv_mem.mp hq
  exact pLv_mem.mpr ⟨v, hs i v hv, rfl⟩
theorem lj_scr (hs : sh[0]? = some (.inr (5, n))) (hX : va_X b n xs s s.heap) (hbz : b < s.heap.size) (k : (∀ j, j < n → M.1 0 j = xs j) → lJ μ p l e Rm s m args below meth cc D dA b base Z cells slots pc ls st (sh, M)) : lJ μ p l e Rm s m args below meth cc D dA b base Z cells slots pc ls st (sh, M) := by
  intro H locs arr R S L
  refine k (fun j hj => ?_) H locs arr R S L
  obtain ⟨-, -, -, hb, n', hn', scr, g1, g2, g3, g4, g5⟩ := R
  obtain ⟨scr', q1, q2, q3, q4, q5⟩ := hX
  have hn'' : sh[0]? = some (.inr (5, n')) := hn'
  rw [hs] at hn''
  have en : n = n' := by injection hn'' with w; injection w with w; injection w
  have e1 : H[b]? = s.heap[b]? := S.2.1 b hbz (by omega)
  rw [e1, q1] at g1
  cases g1
  have w1 := g5 j (by omega)
  rw [q5 j hj] at w1
  injection w1 with w1
  injection w1 with w1
  exact w1.symm
theorem lj_arg (C : lC μ p s m args meth cc) (hs : sh[0]? = some (.inr (5, n))) (hX : va_X b n xs s s.heap) (hbz : b < s.heap.size) {i : Nat} (h0 : ls[0]? = some (some (.ref 0))) (h4 : ls[4]? = some (some (.int (nI i)))) (k : Nat) {z : Int} (hz : Int32.ofInt z = nI k) (hk : i + k < n) (hn : n ≤ 3072) {pc6 : Nat} (hp : pc + 1 + 2 + 1 + 1 + 1 = pc6) (d0 : decode μ.2.1 pc = .ok (.aload_n 0, 1)) (d1 : decode μ.2.1 (pc + 1) = .ok (.iload 4, 2)) (d2 : decode μ.2.1 (pc + 1 + 2) = .ok (.iconst z, 1)) (d3 : decode μ.2.1 (pc + 1 + 2 + 1) = .ok (.iadd, 1)) (d4 : decode μ.2.1 (pc + 1 + 2 + 1 + 1) = .ok (.iaload, 1)) (kk : lJ μ p l e Rm s m args below meth cc D dA b base Z cells slots pc6 ls (.int (xs (i + k)) :: st) (sh, M)) : lJ μ p l e Rm s m args below meth cc D dA b base Z cells slots pc ls st (sh, M) := by
  subst hp
  refine lj_aload_n C (k4 := 0) h0 d0 ?_
  refine lj_iload C h4 d1 ?_
  refine lj_iconst C hz d2 ?_
  refine lj_iadd C d3 ?_
  obtain ⟨q1, q2⟩ := pIdx (i := nI i + nI k) (j := i + k) (n := n) (nI_add i k) hk (by omega)
  refine lj_scr hs hX hbz (fun hM => ?_)
  refine lj_sald C (n := n) hs q1 d4 ?_
  rw [q2]
  show lJ μ p l e Rm s m args below meth cc D dA b base Z cells slots _ ls (.int (M.1 0 (i + k)) :: st) (sh, M)
  rw [hM _ hk]
  exact kk
end
