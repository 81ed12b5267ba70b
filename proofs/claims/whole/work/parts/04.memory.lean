theorem pk_gd0 : (u_ws RX0 TX0 9).all goodWord = true := by decide +kernel
theorem pk_gd1 : (u_ws RX1 TX1 4).all goodWord = true := by decide +kernel
theorem pk_gd2 : (u_ws RX2 TX2 9).all goodWord = true := by decide +kernel
theorem pk_gd3 : (u_ws RX3 TX3 7).all goodWord = true := by decide +kernel
theorem pk_gd4 : (u_ws RX4 TX4 6).all goodWord = true := by decide +kernel
theorem pk_gd5 : (u_ws RX5 TX5 9).all goodWord = true := by decide +kernel
theorem pk_gd6 : (u_ws RX6 TX6 4).all goodWord = true := by decide +kernel
theorem pk_gd7 : (u_ws RX7 TX7 19).all goodWord = true := by decide +kernel
theorem pk_gd8 : (u_ws RX8 TX8 4).all goodWord = true := by decide +kernel
theorem pk_gd9 : (u_ws RX9 TX9 10).all goodWord = true := by decide +kernel
theorem pk_gd10 : (u_ws RX10 TX10 16).all goodWord = true := by decide +kernel
theorem pk_gd11 : (u_ws RX11 TX11 93).all goodWord = true := by decide +kernel
/-! ===== the classes' tables as the pure machine reads them ===== -/
def pF (c k : Nat) : String × String × String × Bool := (vwCl.getD c (RX0, TX0, 0)).2.1 k
def pRn (c : Nat) : String := (vwCl.getD c (RX0, TX0, 0)).1
def pKdT : Nat → FieldType → Bool
  | 0, .int => true
  | 1, .boolean => true
  | 2, .long => true
  | 3, .object _ => true
  | 3, .array _ => true
  | _, _ => false
theorem pKd_ok : ∀ c, c < 12 → ∀ k, k < pNf c → pKdT (pFk c k) (pTyF c k) = true := by decide +kernel
theorem pFin_ok : ∀ c, c < 12 → ∀ k, k < pNf c → (pF c k).2.2.2 = pFin c k := by decide +kernel
theorem pTy_ok : ∀ c, c < 12 → ∀ k, k < pNf c → parseFieldDescriptor (pF c k).2.2.1 = some (pTyF c k) := by decide +kernel
theorem pNm_ok : ∀ c, c < 12 → ∀ a, a < pNf c → ∀ b, b < pNf c → a ≠ b → (pF c a).2.1 ≠ (pF c b).2.1 := by
  intro c hc
  match c, hc with
  | 0, _ => exact nmX0
  | 1, _ => exact nmX1
  | 2, _ => exact nmX2
  | 3, _ => exact nmX3
  | 4, _ => exact nmX4
  | 5, _ => exact nmX5
  | 6, _ => exact nmX6
  | 7, _ => exact nmX7
  | 8, _ => exact nmX8
  | 9, _ => exact nmX9
  | 10, _ => exact nmX10
  | 11, _ => exact nmX11
  | n + 12, h => exact absurd h (by omega)
theorem pIn_ok : ∀ c, c < 12 → ∀ w ∈ u_ws (pRn c) (pF c) (pNf c), w ∈ lw_g := by
  intro c hc
  match c, hc with
  | 0, _ => exact fun w h => pG (pk_in0 w h) (List.all_eq_true.mp pk_gd0 w h)
  | 1, _ => exact fun w h => pG (pk_in1 w h) (List.all_eq_true.mp pk_gd1 w h)
  | 2, _ => exact fun w h => pG (pk_in2 w h) (List.all_eq_true.mp pk_gd2 w h)
  | 3, _ => exact fun w h => pG (pk_in3 w h) (List.all_eq_true.mp pk_gd3 w h)
  | 4, _ => exact fun w h => pG (pk_in4 w h) (List.all_eq_true.mp pk_gd4 w h)
  | 5, _ => exact fun w h => pG (pk_in5 w h) (List.all_eq_true.mp pk_gd5 w h)
  | 6, _ => exact fun w h => pG (pk_in6 w h) (List.all_eq_true.mp pk_gd6 w h)
  | 7, _ => exact fun w h => pG (pk_in7 w h) (List.all_eq_true.mp pk_gd7 w h)
  | 8, _ => exact fun w h => pG (pk_in8 w h) (List.all_eq_true.mp pk_gd8 w h)
  | 9, _ => exact fun w h => pG (pk_in9 w h) (List.all_eq_true.mp pk_gd9 w h)
  | 10, _ => exact fun w h => pG (pk_in10 w h) (List.all_eq_true.mp pk_gd10 w h)
  | 11, _ => exact fun w h => pG (pk_in11 w h) (List.all_eq_true.mp pk_gd11 w h)
  | n + 12, h => exact absurd h (by omega)
theorem pCl_ok : ∀ c, c < 12 → vwCl[c]? = some (pRn c, pF c, pNf c) := by
  intro c hc
  match c, hc with
  | 0, _ => rfl
  | 1, _ => rfl
  | 2, _ => rfl
  | 3, _ => rfl
  | 4, _ => rfl
  | 5, _ => rfl
  | 6, _ => rfl
  | 7, _ => rfl
  | 8, _ => rfl
  | 9, _ => rfl
  | 10, _ => rfl
  | 11, _ => rfl
  | n + 12, h => exact absurd h (by omega)
theorem pNf_lt {c k : Nat} (h : k < pNf c) : c < 12 := by
  rcases Nat.lt_or_ge c 12 with q | q
  · exact q
  · have : pNf c = 0 := by
      unfold pNf
      rw [List.getD_eq_getElem?_getD, List.getElem?_eq_none (by show 12 ≤ c; exact q)]
      rfl
    omega
