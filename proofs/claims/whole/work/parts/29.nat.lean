/-! ===== rows with naturals ===== -/
section
variable {μ : pMeth} {d NC NS : Nat} {Q : Option Value → pH → Prop} {pc : Nat} {ls : List (Option Value)} {st : List Value} {h : pH} {x y : Int32}
theorem pn_val (z : Int32) (hx : x = z) (k : pWP μ d NC NS Q pc ls (.int z :: st) h) : pWP μ d NC NS Q pc ls (.int x :: st) h := by rw [hx]; exact k
theorem pn_valJ {x : Int64} (z : Int64) (hx : x = z) (k : pWP μ d NC NS Q pc ls (.long z :: st) h) : pWP μ d NC NS Q pc ls (.long x :: st) h := by rw [hx]; exact k
theorem pn_mem {h : pH} (h2 : pH) (hx : h = h2) (k : pWP μ d NC NS Q pc ls st h2) : pWP μ d NC NS Q pc ls st h := by rw [hx]; exact k
theorem pn_memI {sh : List pSh} {I : Nat → Nat → Int32} {L : Nat → Nat → Int64} {P : Nat → Nat → Option Nat} (J : Nat → Nat → Int32) (hx : I = J) (k : pWP μ d NC NS Q pc ls st (sh, (J, L, P))) : pWP μ d NC NS Q pc ls st (sh, (I, L, P)) := by rw [hx]; exact k
theorem pn_iadd (a b : Nat) (hx : x = nI a) (hy : y = nI b) (hd : decode μ.2.1 pc = .ok (.iadd, 1)) (k : pWP μ d NC NS Q (pc + 1) ls (.int (nI (a + b)) :: st) h) : pWP μ d NC NS Q pc ls (.int y :: .int x :: st) h := by
  refine pw_iadd hd ?_
  rw [hx, hy, nI_add a b]
  exact k
theorem pn_imul (a b : Nat) (hx : x = nI a) (hy : y = nI b) (hd : decode μ.2.1 pc = .ok (.imul, 1)) (k : pWP μ d NC NS Q (pc + 1) ls (.int (nI (a * b)) :: st) h) : pWP μ d NC NS Q pc ls (.int y :: .int x :: st) h := by
  refine pw_imul hd ?_
  rw [hx, hy, pk_mul a b]
  exact k
theorem pn_isub (a b : Nat) (hx : x = nI a) (hy : y = nI b) (hb : b ≤ a) (hd : decode μ.2.1 pc = .ok (.isub, 1)) (k : pWP μ d NC NS Q (pc + 1) ls (.int (nI (a - b)) :: st) h) : pWP μ d NC NS Q pc ls (.int y :: .int x :: st) h := by
  refine pw_isub hd ?_
  rw [hx, hy, pk_sub hb]
  exact k
theorem pn_idiv (a b : Nat) (hx : x = nI a) (hy : y = nI b) (ha : a < 2 ^ 31) (h0 : 0 < b) (hb : b < 2 ^ 31) (hd : decode μ.2.1 pc = .ok (.idiv, 1)) (k : pWP μ d NC NS Q (pc + 1) ls (.int (nI (a / b)) :: st) h) : pWP μ d NC NS Q pc ls (.int y :: .int x :: st) h := by
  refine pw_idiv (by rw [hy]; exact fun e => by have := (nI_eq hb (show 0 < 2 ^ 31 by decide)).mp e; omega) hd ?_
  rw [hx, hy, pk_div ha h0 hb]
  exact k
theorem pn_irem (a b : Nat) (hx : x = nI a) (hy : y = nI b) (ha : a < 2 ^ 31) (h0 : 0 < b) (hb : b < 2 ^ 31) (hd : decode μ.2.1 pc = .ok (.irem, 1)) (k : pWP μ d NC NS Q (pc + 1) ls (.int (nI (a % b)) :: st) h) : pWP μ d NC NS Q pc ls (.int y :: .int x :: st) h := by
  refine pw_irem (by rw [hy]; exact fun e => by have := (nI_eq hb (show 0 < 2 ^ 31 by decide)).mp e; omega) hd ?_
  rw [hx, hy, pk_rem ha h0 hb]
  exact k
theorem pn_iinc {i : Nat} {n : Int} (c a : Nat) (hl : ls[i]? = some (some (.int x))) (hx : x = nI a) (hv : Int32.ofInt n = nI c) (hs : pNl ls i = true) (hd : decode μ.2.1 pc = .ok (.iinc i n, 3)) (k : pWP μ d NC NS Q (pc + 3) (ls.set i (some (.int (nI (a + c))))) st h) : pWP μ d NC NS Q pc ls st h := by
  refine pq_iinc (nI c) hl hv hs hd ?_
  rw [hx, nI_add]
  exact k
theorem pn_idec {i : Nat} {n : Int} (c a : Nat) (hl : ls[i]? = some (some (.int x))) (hx : x = nI a) (hv : Int32.ofInt n = - nI c) (hc : c ≤ a) (hs : pNl ls i = true) (hd : decode μ.2.1 pc = .ok (.iinc i n, 3)) (k : pWP μ d NC NS Q (pc + 3) (ls.set i (some (.int (nI (a - c))))) st h) : pWP μ d NC NS Q pc ls st h := by
  refine pq_iinc (- nI c) hl hv hs hd ?_
  rw [hx, ← Int32.sub_eq_add_neg, pk_sub hc]
  exact k
theorem pn_icmp_eq {off : Int} {tgt : Nat} (a b : Nat) (hx : x = nI a) (hy : y = nI b) (ha : a < 2 ^ 31) (hb : b < 2 ^ 31) (ht : (pc : Int) + off = (tgt : Int)) (hd : decode μ.2.1 pc = .ok (.if_icmp .eq off, 3)) (kt : a = b → pWP μ d NC NS Q tgt ls st h) (kf : ¬ (a = b) → pWP μ d NC NS Q (pc + 3) ls st h) : pWP μ d NC NS Q pc ls (.int y :: .int x :: st) h := by
  refine pw_icmp_eq ht hd (fun z => kt ?_) (fun z => kf ?_)
  · rw [hx, hy] at z; first | exact (nI_eq ha hb).mp z | exact fun q => z ((nI_eq ha hb).mpr q)
  · rw [hx, hy] at z; first | exact fun q => z ((nI_eq ha hb).mpr q) | exact fun q => q ((nI_eq ha hb).mp z)
theorem pn_if_eq {off : Int} {tgt : Nat} (a : Nat) (hx : x = nI a) (ha : a < 2 ^ 31) (ht : (pc : Int) + off = (tgt : Int)) (hd : decode μ.2.1 pc = .ok (.ifCond .eq off, 3)) (kt : a = 0 → pWP μ d NC NS Q tgt ls st h) (kf : ¬ (a = 0) → pWP μ d NC NS Q (pc + 3) ls st h) : pWP μ d NC NS Q pc ls (.int x :: st) h := by
  have hb : 0 < 2 ^ 31 := by decide
  refine pw_if_eq ht hd (fun z => kt ?_) (fun z => kf ?_)
  · rw [hx, n0] at z; first | exact (nI_eq ha hb).mp z | exact fun q => z ((nI_eq ha hb).mpr q)
  · rw [hx, n0] at z; first | exact fun q => z ((nI_eq ha hb).mpr q) | exact fun q => q ((nI_eq ha hb).mp z)
theorem pn_icmp_ne {off : Int} {tgt : Nat} (a b : Nat) (hx : x = nI a) (hy : y = nI b) (ha : a < 2 ^ 31) (hb : b < 2 ^ 31) (ht : (pc : Int) + off = (tgt : Int)) (hd : decode μ.2.1 pc = .ok (.if_icmp .ne off, 3)) (kt : ¬ a = b → pWP μ d NC NS Q tgt ls st h) (kf : ¬ (¬ a = b) → pWP μ d NC NS Q (pc + 3) ls st h) : pWP μ d NC NS Q pc ls (.int y :: .int x :: st) h := by
  refine pw_icmp_ne ht hd (fun z => kt ?_) (fun z => kf ?_)
  · rw [hx, hy] at z; first | exact (nI_eq ha hb).mp z | exact fun q => z ((nI_eq ha hb).mpr q)
  · rw [hx, hy] at z; first | exact fun q => z ((nI_eq ha hb).mpr q) | exact fun q => q ((nI_eq ha hb).mp z)
theorem pn_if_ne {off : Int} {tgt : Nat} (a : Nat) (hx : x = nI a) (ha : a < 2 ^ 31) (ht : (pc : Int) + off = (tgt : Int)) (hd : decode μ.2.1 pc = .ok (.ifCond .ne off, 3)) (kt : ¬ a = 0 → pWP μ d NC NS Q tgt ls st h) (kf : ¬ (¬ a = 0) → pWP μ d NC NS Q (pc + 3) ls st h) : pWP μ d NC NS Q pc ls (.int x :: st) h := by
  have hb : 0 < 2 ^ 31 := by decide
  refine pw_if_ne ht hd (fun z => kt ?_) (fun z => kf ?_)
  · rw [hx, n0] at z; first | exact (nI_eq ha hb).mp z | exact fun q => z ((nI_eq ha hb).mpr q)
  · rw [hx, n0] at z; first | exact fun q => z ((nI_eq ha hb).mpr q) | exact fun q => q ((nI_eq ha hb).mp z)
theorem pn_icmp_lt {off : Int} {tgt : Nat} (a b : Nat) (hx : x = nI a) (hy : y = nI b) (ha : a < 2 ^ 31) (hb : b < 2 ^ 31) (ht : (pc : Int) + off = (tgt : Int)) (hd : decode μ.2.1 pc = .ok (.if_icmp .lt off, 3)) (kt : a < b → pWP μ d NC NS Q tgt ls st h) (kf : ¬ (a < b) → pWP μ d NC NS Q (pc + 3) ls st h) : pWP μ d NC NS Q pc ls (.int y :: .int x :: st) h := by
  refine pw_icmp_lt ht hd (fun z => kt ?_) (fun z => kf ?_)
  · rw [hx, hy] at z; first | exact (nI_ltI ha hb).mp z | exact fun q => z ((nI_ltI ha hb).mpr q)
  · rw [hx, hy] at z; first | exact fun q => z ((nI_ltI ha hb).mpr q) | exact fun q => q ((nI_ltI ha hb).mp z)
theorem pn_if_lt {off : Int} {tgt : Nat} (a : Nat) (hx : x = nI a) (ha : a < 2 ^ 31) (ht : (pc : Int) + off = (tgt : Int)) (hd : decode μ.2.1 pc = .ok (.ifCond .lt off, 3)) (kt : a < 0 → pWP μ d NC NS Q tgt ls st h) (kf : ¬ (a < 0) → pWP μ d NC NS Q (pc + 3) ls st h) : pWP μ d NC NS Q pc ls (.int x :: st) h := by
  have hb : 0 < 2 ^ 31 := by decide
  refine pw_if_lt ht hd (fun z => kt ?_) (fun z => kf ?_)
  · rw [hx, n0] at z; first | exact (nI_ltI ha hb).mp z | exact fun q => z ((nI_ltI ha hb).mpr q)
  · rw [hx, n0] at z; first | exact fun q => z ((nI_ltI ha hb).mpr q) | exact fun q => q ((nI_ltI ha hb).mp z)
theorem pn_icmp_ge {off : Int} {tgt : Nat} (a b : Nat) (hx : x = nI a) (hy : y = nI b) (ha : a < 2 ^ 31) (hb : b < 2 ^ 31) (ht : (pc : Int) + off = (tgt : Int)) (hd : decode μ.2.1 pc = .ok (.if_icmp .ge off, 3)) (kt : b ≤ a → pWP μ d NC NS Q tgt ls st h) (kf : ¬ (b ≤ a) → pWP μ d NC NS Q (pc + 3) ls st h) : pWP μ d NC NS Q pc ls (.int y :: .int x :: st) h := by
  refine pw_icmp_ge ht hd (fun z => kt ?_) (fun z => kf ?_)
  · rw [hx, hy] at z; first | exact (nI_leI hb ha).mp z | exact fun q => z ((nI_leI hb ha).mpr q)
  · rw [hx, hy] at z; first | exact fun q => z ((nI_leI hb ha).mpr q) | exact fun q => q ((nI_leI hb ha).mp z)
theorem pn_if_ge {off : Int} {tgt : Nat} (a : Nat) (hx : x = nI a) (ha : a < 2 ^ 31) (ht : (pc : Int) + off = (tgt : Int)) (hd : decode μ.2.1 pc = .ok (.ifCond .ge off, 3)) (kt : 0 ≤ a → pWP μ d NC NS Q tgt ls st h) (kf : ¬ (0 ≤ a) → pWP μ d NC NS Q (pc + 3) ls st h) : pWP μ d NC NS Q pc ls (.int x :: st) h := by
  have hb : 0 < 2 ^ 31 := by decide
  refine pw_if_ge ht hd (fun z => kt ?_) (fun z => kf ?_)
  · rw [hx, n0] at z; first | exact (nI_leI hb ha).mp z | exact fun q => z ((nI_leI hb ha).mpr q)
  · rw [hx, n0] at z; first | exact fun q => z ((nI_leI hb ha).mpr q) | exact fun q => q ((nI_leI hb ha).mp z)
theorem pn_icmp_gt {off : Int} {tgt : Nat} (a b : Nat) (hx : x = nI a) (hy : y = nI b) (ha : a < 2 ^ 31) (hb : b < 2 ^ 31) (ht : (pc : Int) + off = (tgt : Int)) (hd : decode μ.2.1 pc = .ok (.if_icmp .gt off, 3)) (kt : b < a → pWP μ d NC NS Q tgt ls st h) (kf : ¬ (b < a) → pWP μ d NC NS Q (pc + 3) ls st h) : pWP μ d NC NS Q pc ls (.int y :: .int x :: st) h := by
  refine pw_icmp_gt ht hd (fun z => kt ?_) (fun z => kf ?_)
  · rw [hx, hy] at z; first | exact (nI_ltI hb ha).mp z | exact fun q => z ((nI_ltI hb ha).mpr q)
  · rw [hx, hy] at z; first | exact fun q => z ((nI_ltI hb ha).mpr q) | exact fun q => q ((nI_ltI hb ha).mp z)
theorem pn_if_gt {off : Int} {tgt : Nat} (a : Nat) (hx : x = nI a) (ha : a < 2 ^ 31) (ht : (pc : Int) + off = (tgt : Int)) (hd : decode μ.2.1 pc = .ok (.ifCond .gt off, 3)) (kt : 0 < a → pWP μ d NC NS Q tgt ls st h) (kf : ¬ (0 < a) → pWP μ d NC NS Q (pc + 3) ls st h) : pWP μ d NC NS Q pc ls (.int x :: st) h := by
  have hb : 0 < 2 ^ 31 := by decide
  refine pw_if_gt ht hd (fun z => kt ?_) (fun z => kf ?_)
  · rw [hx, n0] at z; first | exact (nI_ltI hb ha).mp z | exact fun q => z ((nI_ltI hb ha).mpr q)
  · rw [hx, n0] at z; first | exact fun q => z ((nI_ltI hb ha).mpr q) | exact fun q => q ((nI_ltI hb ha).mp z)
theorem pn_icmp_le {off : Int} {tgt : Nat} (a b : Nat) (hx : x = nI a) (hy : y = nI b) (ha : a < 2 ^ 31) (hb : b < 2 ^ 31) (ht : (pc : Int) + off = (tgt : Int)) (hd : decode μ.2.1 pc = .ok (.if_icmp .le off, 3)) (kt : a ≤ b → pWP μ d NC NS Q tgt ls st h) (kf : ¬ (a ≤ b) → pWP μ d NC NS Q (pc + 3) ls st h) : pWP μ d NC NS Q pc ls (.int y :: .int x :: st) h := by
  refine pw_icmp_le ht hd (fun z => kt ?_) (fun z => kf ?_)
  · rw [hx, hy] at z; first | exact (nI_leI ha hb).mp z | exact fun q => z ((nI_leI ha hb).mpr q)
  · rw [hx, hy] at z; first | exact fun q => z ((nI_leI ha hb).mpr q) | exact fun q => q ((nI_leI ha hb).mp z)
theorem pn_if_le {off : Int} {tgt : Nat} (a : Nat) (hx : x = nI a) (ha : a < 2 ^ 31) (ht : (pc : Int) + off = (tgt : Int)) (hd : decode μ.2.1 pc = .ok (.ifCond .le off, 3)) (kt : a ≤ 0 → pWP μ d NC NS Q tgt ls st h) (kf : ¬ (a ≤ 0) → pWP μ d NC NS Q (pc + 3) ls st h) : pWP μ d NC NS Q pc ls (.int x :: st) h := by
  have hb : 0 < 2 ^ 31 := by decide
  refine pw_if_le ht hd (fun z => kt ?_) (fun z => kf ?_)
  · rw [hx, n0] at z; first | exact (nI_leI ha hb).mp z | exact fun q => z ((nI_leI ha hb).mpr q)
  · rw [hx, n0] at z; first | exact fun q => z ((nI_leI ha hb).mpr q) | exact fun q => q ((nI_leI ha hb).mp z)
theorem pn_ifB_eq {c : Prop} [Decidable c] {off : Int} {tgt : Nat} (ht : (pc : Int) + off = (tgt : Int)) (hd : decode μ.2.1 pc = .ok (.ifCond .eq off, 3)) (kt : ¬ c → pWP μ d NC NS Q tgt ls st h) (kf : c → pWP μ d NC NS Q (pc + 3) ls st h) : pWP μ d NC NS Q pc ls (.int (B c) :: st) h := pw_if_eq ht hd (fun z => kt (B_0.mp z)) (fun z => kf (B_ne.mp z))
theorem pn_ifB_ne {c : Prop} [Decidable c] {off : Int} {tgt : Nat} (ht : (pc : Int) + off = (tgt : Int)) (hd : decode μ.2.1 pc = .ok (.ifCond .ne off, 3)) (kt : c → pWP μ d NC NS Q tgt ls st h) (kf : ¬ c → pWP μ d NC NS Q (pc + 3) ls st h) : pWP μ d NC NS Q pc ls (.int (B c) :: st) h := pw_if_ne ht hd (fun z => kt (B_ne.mp z)) (fun z => kf (B_0.mp z))
end
