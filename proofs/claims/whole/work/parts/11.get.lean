/-! ===== fields by their kinds ===== -/
section
variable {μ : pMeth} {d NC NS : Nat} {Q : Option Value → pH → Prop} {pc : Nat} {ls : List (Option Value)} {st : List Value} {h : pH} {a c k i : Nat}
theorem pw_getI (hs : h.1[a]? = some (.inl c)) (hk : k < pNf c) (hk0 : pFk c k = 0 ∨ pFk c k = 1) (hf : Cond.fieldLink μ.1.cls i (pF c k).1 (pF c k).2.1 (pF c k).2.2.1 ∈ lw_g) (hd : decode μ.2.1 pc = .ok (.getfield i, 3)) (kk : pWP μ d NC NS Q (pc + 3) ls (.int (h.2.1 a k) :: st) h) : pWP μ d NC NS Q pc ls (.ref a :: st) h := by
  refine pw_getfield hs hk hf hd ?_
  rcases hk0 with e | e <;> rw [e] <;> exact kk
theorem pw_getL (hs : h.1[a]? = some (.inl c)) (hk : k < pNf c) (hk0 : pFk c k = 2) (hf : Cond.fieldLink μ.1.cls i (pF c k).1 (pF c k).2.1 (pF c k).2.2.1 ∈ lw_g) (hd : decode μ.2.1 pc = .ok (.getfield i, 3)) (kk : pWP μ d NC NS Q (pc + 3) ls (.long (h.2.2.1 a k) :: st) h) : pWP μ d NC NS Q pc ls (.ref a :: st) h := by
  refine pw_getfield hs hk hf hd ?_
  rw [hk0]
  exact kk
theorem pw_getP {q : Nat} (hs : h.1[a]? = some (.inl c)) (hk : k < pNf c) (hk0 : pFk c k = 3) (hp : h.2.2.2 a k = some q) (hf : Cond.fieldLink μ.1.cls i (pF c k).1 (pF c k).2.1 (pF c k).2.2.1 ∈ lw_g) (hd : decode μ.2.1 pc = .ok (.getfield i, 3)) (kk : pWP μ d NC NS Q (pc + 3) ls (.ref q :: st) h) : pWP μ d NC NS Q pc ls (.ref a :: st) h := by
  refine pw_getfield hs hk hf hd ?_
  rw [hk0]
  show pWP μ d NC NS Q (pc + 3) ls (va_rf (h.2.2.2 a k) :: st) h
  rw [hp]
  exact kk
end
/-! ===== counting ===== -/
theorem pw_iincK {μ : pMeth} {d NC NS : Nat} {Q : Option Value → pH → Prop} {pc : Nat} {ls : List (Option Value)} {st : List Value} {h : pH} {i : Nat} {n : Int} {x : Int32} (w : Int32) (hl : ls[i]? = some (some (.int x))) (hw : Int32.ofInt n = w) (hd : decode μ.2.1 pc = .ok (.iinc i n, 3)) (k : pWP μ d NC NS Q (pc + 3) (pSt ls i (.int (x + w))) st h) : pWP μ d NC NS Q pc ls st h :=
  pw_iinc (v := x + w) hl (by rw [hw]) hd k
/-- a loop that counts up to n -/
theorem pUpTo (n : Nat) (P : Nat → Prop) (h : ∀ k, k ≤ n → (k < n → P (k + 1)) → P k) : ∀ k, k ≤ n → P k := by
  have key : ∀ j k, k + j = n → P k := by
    intro j
    induction j with
    | zero => intro k hk; exact h k (by omega) (fun q => by omega)
    | succ j ih => intro k hk; exact h k (by omega) (fun _ => ih (k + 1) (by omega))
  intro k hk
  exact key (n - k) k (by omega)
/-- a loop that counts down to 0 -/
theorem pDown (P : Nat → Prop) (h : ∀ k, (∀ j, k = j + 1 → P j) → P k) : ∀ k, P k := by
  intro k
  induction k with
  | zero => exact h 0 (fun j q => by omega)
  | succ k ih => exact h (k + 1) (fun j q => by cases q; exact ih)
/-- a loop with a measure -/
theorem pMeas {σ : Type} (P : σ → Prop) (μ : σ → Nat) (h : ∀ s, (∀ s', μ s' < μ s → P s') → P s) : ∀ s, P s := by
  have key : ∀ n s, μ s ≤ n → P s := by
    intro n
    induction n with
    | zero => intro s hs; exact h s (fun s' q => by omega)
    | succ n ih => intro s hs; exact h s (fun s' q => ih s' (by omega))
  exact fun s => key (μ s) s (Nat.le_refl _)
