theorem vin_inR {x : Int32} {n : Nat} (h : vp_in x (n + 1)) : inR x n := by
  rw [vp_in_iff] at h
  unfold inR
  omega
theorem in32 (x : Int32) {n : Nat} (hn : n < 2147483648) : D_X8_in x.toInt64 0 (lN n) = if 0 ≤ x.toInt ∧ x.toInt ≤ n then 1 else 0 := by
  rw [in_iff, Int32.toInt_toInt64, lN_toInt hn]
  rfl
theorem write_key (tx : Nat → Int32) (ts a : Int32) (h : inR ts 48) : D_X7_write tx ts a = ((D_X8_write tx ts a).1, (D_X8_write tx ts a).2.2.1, (D_X8_write tx ts a).2.2.2) ∧ inR (D_X8_write tx ts a).2.2.2 48 := by
  unfold D_X7_write D_X8_write D_X5_append
  have e : D_X8_in a.toInt64 0 255 = if 0 ≤ a.toInt ∧ a.toInt ≤ (255 : Nat) then 1 else 0 := in32 a (n := 255) (by decide)
  rw [e]
  have h255 : (255 : Int32).toInt = 255 := by decide
  have h48 : (48 : Int32).toInt = 48 := by decide
  by_cases c1 : a < 0
  · have c1' := c1
    rw [Int32.lt_iff_toInt_lt, z32] at c1'
    rw [if_pos c1, if_neg (show ¬ (0 ≤ a.toInt ∧ a.toInt ≤ (255 : Nat)) by omega), if_pos rfl]
    exact ⟨rfl, h⟩
  · have c1' := c1
    rw [Int32.lt_iff_toInt_lt, z32] at c1'
    rw [if_neg c1]
    by_cases c2 : a ≤ 255
    · have c2' := c2
      rw [Int32.le_iff_toInt_le, h255] at c2'
      rw [if_pos c2, if_pos (show 0 ≤ a.toInt ∧ a.toInt ≤ (255 : Nat) by omega), if_neg (show ¬ (1 : Int32) = 0 by decide)]
      by_cases c3 : ts = 48
      · rw [if_pos c3, if_neg (show ¬ ts < 48 by rw [c3]; decide)]
        exact ⟨rfl, h⟩
      · have c4 : ts < 48 := by
          rw [Int32.lt_iff_toInt_lt, h48]
          rw [← Int32.toInt_inj, h48] at c3
          unfold inR at h
          omega
        have h5 := inR_1 (vin_inR (vin_ltc2 (n := 48) h h48 c4)) (by decide)
        rw [if_neg c3, if_pos c4]
        exact ⟨rfl, h5⟩
    · have c2' := c2
      rw [Int32.le_iff_toInt_le, h255] at c2'
      rw [if_neg c2, if_neg (show ¬ (0 ≤ a.toInt ∧ a.toInt ≤ (255 : Nat)) by omega), if_pos rfl]
      exact ⟨rfl, h⟩
