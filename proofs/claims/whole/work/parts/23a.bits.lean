/-! sets of slips as bits -/
def bset (p : Nat → Bool) : Nat → Nat
  | 0 => 0
  | n + 1 => bset p n ||| (if p n then 2 ^ n else 0)
theorem bset_bit (p : Nat → Bool) : ∀ n i, (bset p n).testBit i = (decide (i < n) && p i)
  | 0, i => by simp [bset]
  | n + 1, i => by
    rw [bset, Nat.testBit_or, bset_bit p n i]
    by_cases h : i = n
    · subst h
      cases hp : p i <;> simp [hp]
    · have h1 : decide (i < n + 1) = decide (i < n) := decide_eq_decide.mpr (by omega)
      rw [h1]
      cases hp : p n <;> simp [hp, Nat.testBit_two_pow, Ne.symm h]
theorem bset_lt (p : Nat → Bool) : ∀ n, bset p n < 2 ^ n
  | 0 => by simp [bset]
  | n + 1 => by
    rw [bset]
    apply Nat.or_lt_two_pow
    · have := bset_lt p n
      rw [Nat.pow_succ]
      omega
    · split
      · rw [Nat.pow_succ]
        have : 0 < 2 ^ n := Nat.two_pow_pos n
        omega
      · exact Nat.two_pow_pos _
theorem bset_256 (p : Nat → Bool) : bset p 8 < 256 := bset_lt p 8
theorem bset_cong {p q : Nat → Bool} : ∀ {n : Nat}, (∀ i, i < n → p i = q i) → bset p n = bset q n
  | 0, _ => rfl
  | n + 1, h => by rw [bset, bset, bset_cong (fun i hi => h i (by omega)), h n (by omega)]
theorem bset_or (p q : Nat → Bool) (n : Nat) : bset p n ||| bset q n = bset (fun i => p i || q i) n := by
  apply Nat.eq_of_testBit_eq
  intro i
  rw [Nat.testBit_or, bset_bit, bset_bit, bset_bit]
  cases decide (i < n) <;> simp
theorem bit_1n : ∀ n, n < 8 → (1 : Int32) <<< (nI n &&& 31) = nI (2 ^ n) := by decide
theorem many_256 : ∀ x, x < 256 → D_X8_many (nI x) = nI (fb_ct (fun i => x.testBit i) 8) := by decide +kernel
theorem bc_256 : ∀ x, x < 256 → D_J6_bitCount_0f7a4 (nI x) = nI (fb_ct (fun i => x.testBit i) 8) := by decide +kernel
theorem many_bset (p : Nat → Bool) : D_X8_many (nI (bset p 8)) = nI (fb_ct p 8) := by
  rw [many_256 _ (bset_256 p)]
  congr 1
  apply fb_ct_cong
  intro i hi
  rw [bset_bit]
  simp [hi]
theorem bc_bset (p : Nat → Bool) : D_J6_bitCount_0f7a4 (nI (bset p 8)) = nI (fb_ct p 8) := by
  rw [bc_256 _ (bset_256 p)]
  congr 1
  apply fb_ct_cong
  intro i hi
  rw [bset_bit]
  simp [hi]
