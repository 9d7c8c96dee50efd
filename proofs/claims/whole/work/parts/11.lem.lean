/-! indices in their rows; answers that are 0 or 1 -/
theorem z32 : (0 : Int32).toInt = 0 := by decide
theorem bd_if {x B : Int32} (h : ¬ (if x < 0 then (0 : Int32) else (if B ≤ x then (0 : Int32) else (1 : Int32))) = 0) : 0 ≤ x.toInt ∧ x.toInt < B.toInt := by
  split at h
  · exact absurd rfl h
  · rename_i h1
    split at h
    · exact absurd rfl h
    · rename_i h2
      rw [Int32.lt_iff_toInt_lt, z32] at h1
      rw [Int32.le_iff_toInt_le] at h2
      omega
theorem vin_isSlip {x : Int32} (h : ¬ D_X7_isSlip x = 0) : vp_in x 8 := vp_in_iff.mpr (bd_if (B := 8) h)
theorem vin_isSpike {x : Int32} (h : ¬ D_X7_isSpike x = 0) : vp_in x 3 := vp_in_iff.mpr (bd_if (B := 3) h)
theorem vin_isSlot {x : Int32} (h : ¬ D_X7_isSlot x = 0) : vp_in x 2 := vp_in_iff.mpr (bd_if (B := 2) h)
theorem vin_X6_has {count x : Int32} {n : Nat} (hc : inR count n) (h : ¬ D_X6_has count x = 0) : vp_in x n := by
  have h1 := bd_if (B := count) h
  rw [vp_in_iff]
  unfold inR at hc
  omega
theorem vin_ltc {x B : Int32} {m n : Nat} (h : inR x m) (hB : B.toInt = n) (c : ¬ B ≤ x) : vp_in x n := by
  rw [vp_in_iff]
  rw [Int32.le_iff_toInt_le] at c
  unfold inR at h
  omega
theorem vin_ltc2 {x B : Int32} {m n : Nat} (h : inR x m) (hB : B.toInt = n) (c : x < B) : vp_in x n := by
  rw [vp_in_iff]
  rw [Int32.lt_iff_toInt_lt] at c
  unfold inR at h
  omega
theorem vin_bd {x B : Int32} {n : Nat} (h : inR B n) (c1 : ¬ x < 0) (c2 : ¬ B ≤ x) : vp_in x n := by
  rw [vp_in_iff]
  rw [Int32.lt_iff_toInt_lt, z32] at c1
  rw [Int32.le_iff_toInt_le] at c2
  unfold inR at h
  omega
theorem vin_cl {x : Int32} {n i : Nat} (h : inR x n) (hi : i < x.toNatClampNeg) : vp_in (nI i) n := by
  have h1 := cl_toInt (B := x) (by omega)
  have h2 := cl_31 x
  rw [vp_in_iff, nI_toInt (by omega)]
  unfold inR at h
  omega
theorem vin_36 : ∀ k, k < 6 → ∀ j, j < 3 → vp_in (nI k * 3 + nI j) 18 := by unfold vp_in; decide
theorem vin_36' : ∀ k, k < 6 → ∀ j, j < 3 → vp_in (3 * nI k + nI j) 18 := by unfold vp_in; decide
theorem vin_36z : ∀ k, k < 6 → vp_in (nI k * 3) 18 := by unfold vp_in; decide
theorem vin_3c0 {x : Int32} (h : inR x 6) (c : ¬ (6 : Int32) ≤ x) : vp_in (x * 3) 18 := by
  obtain ⟨k, hk, rfl⟩ := vp_in_of (vin_ltc (n := 6) h (by decide) c) (by decide)
  exact vin_36z k hk
theorem vin_3c {x : Int32} (h : inR x 6) (c : ¬ (6 : Int32) ≤ x) (j : Int32) (h0 : 0 ≤ j.toInt) (h3 : j.toInt < 3) : vp_in (x * 3 + j) 18 := by
  obtain ⟨k, hk, rfl⟩ := vp_in_of (vin_ltc (n := 6) h (by decide) c) (by decide)
  obtain ⟨i, hi, rfl⟩ := vp_in_of (vp_in_iff.mpr ⟨h0, h3⟩) (n := 3) (by decide)
  exact vin_36 k hk i hi
theorem vin_g {count x y : Int32} (h : inR count 6) (c1 : ¬ D_X6_has count x = 0) (c2 : ¬ y < 0) (c3 : ¬ (3 : Int32) ≤ y) : vp_in (x * 3 + y) 18 := by
  obtain ⟨k, hk, rfl⟩ := vp_in_of (vin_X6_has h c1) (by decide)
  obtain ⟨i, hi, rfl⟩ := vp_in_of (n := 3) (x := y) (by
    rw [vp_in_iff]
    rw [Int32.lt_iff_toInt_lt, z32] at c2
    rw [Int32.le_iff_toInt_le, show (3 : Int32).toInt = 3 by decide] at c3
    omega) (by decide)
  exact vin_36 k hk i hi
theorem vin_pm (i : Nat) (h : i < 13) : vp_in (nI (1 + i) - 1) 14 := by
  revert i
  unfold vp_in
  decide
theorem vin_cm1 {x : Int32} (h : inR x 14) (c : ¬ x = 0) : vp_in (x - 1) 14 := by
  obtain ⟨k, hk, rfl⟩ := vp_in_of (n := 15) (x := x) (by rw [vp_in_iff]; unfold inR at h; omega) (by decide)
  cases k with
  | zero => exact absurd nI_0 c
  | succ k =>
    rw [nI_pred]
    exact vp_in_nI (by omega) (by decide)
theorem vin_rf (b : Nat → Int64) : vp_in (D_X0_removeFirst b).2 14 := by
  show vp_in ((14 : Int32) - 1) 14
  unfold vp_in
  decide
theorem bz_X7_isSpike (x : Int32) : D_X7_isSpike x = 0 ∨ D_X7_isSpike x = 1 := by
  unfold D_X7_isSpike
  repeat' split
  all_goals first | exact Or.inl rfl | exact Or.inr rfl
theorem bz_X2_readsStart (x : Int32) : (D_X2_readsStart x).1 = 0 ∨ (D_X2_readsStart x).1 = 1 := by
  unfold D_X2_readsStart
  repeat' split
  all_goals first | exact Or.inl rfl | exact Or.inr rfl
theorem bz_X2_readsPart (a : Nat → Int32) (b c : Int32) : (D_X2_readsPart a b c).1 = 0 ∨ (D_X2_readsPart a b c).1 = 1 := by
  unfold D_X2_readsPart
  repeat' split
  all_goals first | exact Or.inl rfl | exact Or.inr rfl
theorem bz_X2_readsSpike (x : Int32) : (D_X2_readsSpike x).1 = 0 ∨ (D_X2_readsSpike x).1 = 1 := by
  unfold D_X2_readsSpike
  exact bz_X7_isSpike _
theorem bz_X2_readsSlip (a : Nat → Int32) (b c : Int32) : (D_X2_readsSlip a b c).1 = 0 ∨ (D_X2_readsSlip a b c).1 = 1 := by
  unfold D_X2_readsSlip
  repeat' split
  all_goals first | exact Or.inl rfl | exact Or.inr rfl
theorem bz_X2_readsKind (x : Int32) : (D_X2_readsKind x).1 = 0 ∨ (D_X2_readsKind x).1 = 1 := by
  unfold D_X2_readsKind
  repeat' split
  all_goals first | exact Or.inl rfl | exact Or.inr rfl
theorem bz_X2_readsGround (a b : Nat → Int32) (c d e f g x : Int32) : (D_X2_readsGround a b c d e f g x).1 = 0 ∨ (D_X2_readsGround a b c d e f g x).1 = 1 := by
  unfold D_X2_readsGround D_X2_readsGround_j82
  repeat' split
  all_goals first | exact Or.inl rfl | exact Or.inr rfl
theorem append_inR {a b : Nat → Int32} {c p q r t : Int32} (h : inR c 6) : inR (D_X6_append a b c p q r t).2.2 6 := by
  unfold D_X6_append
  split
  · exact h
  · rename_i h1
    show inR (c + 1) 6
    obtain ⟨k, hk, rfl⟩ := vp_in_of (vin_ltc (n := 6) h (by decide) h1) (by decide)
    rw [nI_1]
    unfold inR
    rw [nI_toInt (by omega)]
    omega
theorem ground_inR {a b : Nat → Int32} {c d e f g x : Int32} (h : inR c 6) : inR (D_X2_readsGround a b c d e f g x).2.2.2.1 6 := by
  unfold D_X2_readsGround D_X2_readsGround_j82
  repeat' split
  all_goals first | exact h | exact append_inR h
theorem reads_inR {s a b : Nat → Int32} {c d e f g i x : Int32} (h : inR c 6) : inR (D_X2_reads s a b c d e f g i x).2.2.2.2.1 6 := by
  unfold D_X2_reads
  repeat' split
  all_goals first | exact h | exact ground_inR h
theorem bc_nI (x : Int32) : ∃ j, j < 64 ∧ D_J6_bitCount_0f7a4 x = nI j := by
  unfold D_J6_bitCount_0f7a4 D_J6_bitCount_0f7a4_c9 D_J6_bitCount_0f7a4_c23 D_J6_bitCount_0f7a4_c33 D_J6_bitCount_0f7a4_c40 D_J6_bitCount_0f7a4_c47
  exact pk_andE _ (m := 63) 6 (by decide)
theorem bc_le (x : Int32) : (D_J6_bitCount_0f7a4 x).toNatClampNeg ≤ 1000 := by
  obtain ⟨j, hj, he⟩ := bc_nI x
  rw [he, nI_clamp (by omega)]
  omega
theorem bc_sub (x y : Int32) : (D_J6_bitCount_0f7a4 x - D_J6_bitCount_0f7a4 y).toNatClampNeg ≤ 1000 := by
  obtain ⟨j, hj, he⟩ := bc_nI x
  obtain ⟨k, hk, hf⟩ := bc_nI y
  rw [he, hf]
  have h1 := pk_sub_toInt (a := j) (b := k) (by omega) (by omega)
  have h2 : (nI j - nI k).toNatClampNeg = (nI j - nI k).toInt.toNat := rfl
  omega
