/-! one bit of a set -/
def bv (N j : Nat) : Nat := N / 2 ^ j % 2
theorem sm31 : ∀ n, n < 32 → ((nI n &&& 31).toBitVec.smod 32).toNat = n := by decide
theorem bit_at {N j : Nat} (hN : N < 2147483648) (hj : j < 31) : (nI N >>> (nI j &&& 31)) &&& 1 = nI (bv N j) := by
  rw [pk_shrN hN (nI j &&& 31) j (sm31 j (by omega))]
  have h1 : N / 2 ^ j < 2 ^ 32 := Nat.lt_of_le_of_lt (Nat.div_le_self _ _) (by omega)
  rw [pk_andN h1 (m := 1) 1 (by decide)]
  rfl
theorem bv_01 (N j : Nat) : bv N j = 0 ∨ bv N j = 1 := by unfold bv; omega
theorem has_v {N j : Nat} (hN : N < 2147483648) (hj : j < 31) : D_X8_has (nI N) (nI j) = nI (bv N j) := by
  unfold D_X8_has
  rw [bit_at hN hj]
  rcases bv_01 N j with h | h
  · rw [h, if_neg (by decide)]; rfl
  · rw [h, if_pos (by decide)]; rfl
theorem shl10 {T : Nat} (h : T < 1024) : nI T <<< ((10 : Int32) &&& 31) = nI (T * 1024) := pk_shlN _ 10 (by decide) (by omega)
theorem or_add {S T : Nat} (hS : S < 1024) : S ||| T * 1024 = T * 1024 + S := by
  rw [Nat.or_comm, Nat.mul_comm]
  exact (Nat.two_pow_add_eq_or_of_lt (i := 10) hS T).symm
theorem bv_lo {S T x : Nat} (hx : x < 8) : bv (T * 1024 + S) x = bv S x := by
  unfold bv
  have h : x = 0 ∨ x = 1 ∨ x = 2 ∨ x = 3 ∨ x = 4 ∨ x = 5 ∨ x = 6 ∨ x = 7 := by omega
  rcases h with rfl | rfl | rfl | rfl | rfl | rfl | rfl | rfl <;> omega
theorem bv_hi {S T x : Nat} (hS : S < 1024) (hx : x < 6) : bv (T * 1024 + S) (10 + x) = bv T x := by
  unfold bv
  have h : x = 0 ∨ x = 1 ∨ x = 2 ∨ x = 3 ∨ x = 4 ∨ x = 5 := by omega
  rcases h with rfl | rfl | rfl | rfl | rfl | rfl <;> omega
/-- does a ground hold: its slip's bit, or its thing's -/
def hold (S T x : Nat) : Nat := if x < 10 then bv S x else bv T (x - 10)
theorem hold_01 (S T x : Nat) : hold S T x = 0 ∨ hold S T x = 1 := by
  unfold hold
  split
  · exact bv_01 _ _
  · exact bv_01 _ _
theorem hold_x {S T x : Nat} (hS : S < 256) (hT : T < 64) (hx : x < 8 ∨ (10 ≤ x ∧ x < 16)) : ((nI S ||| (nI T <<< ((10 : Int32) &&& 31))) >>> (nI x &&& 31)) &&& 1 = nI (hold S T x) := by
  rw [shl10 (by omega), fa_or, or_add (by omega), bit_at (by omega) (by omega)]
  congr 1
  unfold hold
  rcases hx with hx | ⟨h1, h2⟩
  · rw [if_pos (by omega), bv_lo hx]
  · rw [if_neg (by omega)]
    obtain ⟨y, rfl⟩ : ∃ y, x = 10 + y := ⟨x - 10, by omega⟩
    rw [bv_hi (by omega) (by omega)]
    congr 1
    omega
theorem le10 {v : Nat} (hv : v < 1000) : ((10 : Int32) ≤ nI v) ↔ 10 ≤ v := nI_leI (a := 10) (by omega) (by omega)
theorem hold_m {S T x t j : Nat} {gd : Nat → Int32} (hS : S < 256) (hT : T < 64) (ht : t < 6) (hj : j < 3) (hg : gd (3 * t + j) = nI x) (hx : x < 8 ∨ (10 ≤ x ∧ x < 16)) : D_X8_holds gd (nI t) (nI j) (nI S) (nI T) = nI (hold S T x) := by
  unfold D_X8_holds
  have e : ((3 : Int32) * nI t + nI j).toNatClampNeg = 3 * t + j := by
    rw [show (3 : Int32) = nI 3 from rfl, pk_mul, nI_add]
    exact nI_clamp (by omega)
  rw [e, hg]
  unfold hold
  rcases hx with hx | ⟨h1, h2⟩
  · rw [if_neg (fun z => absurd ((le10 (by omega)).mp z) (by omega)), has_v (by omega) (by omega), if_pos (by omega)]
  · rw [if_pos ((le10 (by omega)).mpr h1), if_neg (by omega)]
    have e2 : nI x - 10 = nI (x - 10) := pk_sub (a := x) (b := 10) (by omega)
    rw [e2, has_v (by omega) (by omega)]
