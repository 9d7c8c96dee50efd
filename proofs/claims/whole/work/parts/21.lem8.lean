/-! the model's indices -/
theorem lN_ti8 (n : Nat) (h : n < 2147483648) : (nI n).toInt64.toInt = (n : Int) := by
  rw [Int32.toInt_toInt64, nI_toInt h]
theorem in_iff (a b c : Int64) : D_X8_in a b c = if b.toInt ≤ a.toInt ∧ a.toInt ≤ c.toInt then 1 else 0 := by
  unfold D_X8_in
  simp only [lg_cmp_lt, lg_cmp_gt, Int64.lt_iff_toInt_lt]
  by_cases h1 : a.toInt < b.toInt
  · rw [if_pos h1, if_neg (by omega)]
  · rw [if_neg h1]
    by_cases h2 : c.toInt < a.toInt
    · rw [if_pos h2, if_neg (by omega)]
    · rw [if_neg h2, if_pos (by omega)]
theorem in_spec {a b c : Int64} (h : ¬ D_X8_in a b c = 0) : b.toInt ≤ a.toInt ∧ a.toInt ≤ c.toInt := by
  rw [in_iff] at h
  by_cases h1 : b.toInt ≤ a.toInt ∧ a.toInt ≤ c.toInt
  · exact h1
  · rw [if_neg h1] at h
    exact absurd rfl h
theorem in_spec0 {a b c : Int64} (h : D_X8_in a b c = 0) : a.toInt < b.toInt ∨ c.toInt < a.toInt := by
  rw [in_iff] at h
  by_cases h1 : b.toInt ≤ a.toInt ∧ a.toInt ≤ c.toInt
  · rw [if_pos h1] at h
    exact absurd h (by decide)
  · omega
theorem vin_noSlip {x : Int32} (h : D_X8_noSlip x = 0) : vp_in x 8 := by
  unfold D_X8_noSlip at h
  split at h
  · exact absurd h (by decide)
  · rename_i h1
    have h2 := in_spec h1
    rw [Int32.toInt_toInt64] at h2
    rw [vp_in_iff]
    have h3 : (0 : Int64).toInt = 0 := by decide
    have h4 : (7 : Int64).toInt = 7 := by decide
    omega
theorem vin_noSpike {x : Int32} (h : D_X8_noSpike x = 0) : vp_in x 3 := by
  unfold D_X8_noSpike at h
  split at h
  · exact absurd h (by decide)
  · rename_i h1
    have h2 := in_spec h1
    rw [Int32.toInt_toInt64] at h2
    rw [vp_in_iff]
    have h3 : (0 : Int64).toInt = 0 := by decide
    have h4 : (2 : Int64).toInt = 2 := by decide
    omega
theorem vin_X8_noThing {c x : Int32} {n : Nat} (hc : inR c n) (h : D_X8_noThing c x = 0) : vp_in x n := by
  unfold D_X8_noThing at h
  split at h
  · exact absurd h (by decide)
  · rename_i h1
    have h2 := in_spec h1
    rw [Int32.toInt_toInt64, Int32.toInt_toInt64] at h2
    rw [vp_in_iff]
    have h3 : (0 : Int64).toInt = 0 := by decide
    have h5 := c.toInt_lt
    have h6 := c.le_toInt
    unfold inR at hc
    have h4 : (c - 1).toInt = c.toInt - 1 := by
      rw [Int32.toInt_sub, show (1 : Int32).toInt = 1 by decide]
      apply Int.bmod_eq_of_le <;> omega
    omega
theorem vin_in2 {x : Int32} (h : ¬ D_X8_in x.toInt64 0 1 = 0) : vp_in x 2 := by
  have h2 := in_spec h
  rw [Int32.toInt_toInt64] at h2
  rw [vp_in_iff]
  have h3 : (0 : Int64).toInt = 0 := by decide
  have h4 : (1 : Int64).toInt = 1 := by decide
  omega
theorem vin_ne {x B : Int32} {n : Nat} (h : inR x n) (hB : B.toInt = n) (c : ¬ x = B) : vp_in x n := by
  rw [vp_in_iff]
  rw [← Int32.toInt_inj] at c
  unfold inR at h
  omega
theorem vin_8 {x : Int32} (h : vp_in x 8) : vp_in (8 + x) 17 := by
  obtain ⟨k, hk, rfl⟩ := vp_in_of h (by decide)
  revert k
  unfold vp_in
  decide
theorem vin_8i (i : Nat) (h : i < 8) : vp_in (8 + nI i) 17 := vin_8 (vp_in_nI h (by decide))
theorem vin_nx {t p : Int32} (ht : inR t 48) (hp : inR p 60) (c : ¬ t ≤ p) : vp_in p 48 := by
  rw [vp_in_iff]
  rw [Int32.le_iff_toInt_le] at c
  unfold inR at ht hp
  omega
theorem vin_r3 {x : Int32} (h : inR x 5) (i : Nat) (hi : i < 3) : vp_in (3 * x + nI i) 18 := by
  obtain ⟨k, hk, rfl⟩ := vp_in_of (inR_in h (k := 6) (by decide)) (by decide)
  exact vin_36' k hk i hi
theorem vin_r36 {x : Int32} (h : vp_in x 6) (i : Nat) (hi : i < 3) : vp_in (3 * x + nI i) 18 := by
  obtain ⟨k, hk, rfl⟩ := vp_in_of h (by decide)
  exact vin_36' k hk i hi
theorem vin_h {x y : Int32} (h : vp_in x 6) (h2 : vp_in y 3) : vp_in (3 * x + y) 18 := by
  obtain ⟨k, hk, rfl⟩ := vp_in_of h (by decide)
  obtain ⟨i, hi, rfl⟩ := vp_in_of h2 (by decide)
  exact vin_36' k hk i hi
theorem vin_t1 {x y : Int32} (h : vp_in x 6) (c : y = 1) : vp_in (3 * x + y - 1) 18 := by
  subst c
  obtain ⟨k, hk, rfl⟩ := vp_in_of h (by decide)
  revert k
  unfold vp_in
  decide
theorem vin_t2 {x y : Int32} (h : vp_in x 6) (c : y = 2) : vp_in (3 * x + y - 1) 18 := by
  subst c
  obtain ⟨k, hk, rfl⟩ := vp_in_of h (by decide)
  revert k
  unfold vp_in
  decide
theorem vin_t3 {x y : Int32} (h : vp_in x 6) (c : y = 3) : vp_in (3 * x + y - 1) 18 := by
  subst c
  obtain ⟨k, hk, rfl⟩ := vp_in_of h (by decide)
  revert k
  unfold vp_in
  decide
theorem vin_17 {x : Int32} (h : inR x 13) (i : Nat) (hi : i < 17) : vp_in (17 * x + nI i) 238 := by
  obtain ⟨k, hk, rfl⟩ := vp_in_of (inR_in h (k := 14) (by decide)) (by decide)
  have h17 : (17 : Int32) = nI 17 := by decide
  rw [h17, pk_mul, nI_add]
  exact vp_in_nI (by omega) (by decide)
theorem vin_k17 {x : Int32} (h : vp_in x 2) (i : Nat) (hi : i < 17) : vp_in (17 * x + nI i) 34 := by
  obtain ⟨k, hk, rfl⟩ := vp_in_of h (by decide)
  have h17 : (17 : Int32) = nI 17 := by decide
  rw [h17, pk_mul, nI_add]
  exact vp_in_nI (by omega) (by decide)
theorem vin_b17 (i : Nat) (hi : i < 221) : vp_in (nI i + 17) 238 := by
  have h17 : (17 : Int32) = nI 17 := by decide
  rw [h17, nI_add]
  exact vp_in_nI (by omega) (by decide)
theorem vin_g2 (i : Nat) (hi : i < 9) : vp_in (2 * nI i) 18 := by
  revert i
  unfold vp_in
  decide
theorem vin_g21 (i : Nat) (hi : i < 9) : vp_in (2 * nI i + 1) 18 := by
  revert i
  unfold vp_in
  decide
theorem vin_ga (i j : Nat) (hi : i < 3) (hj : j < 9) : vp_in (2 * (3 * nI i + (nI j - nI j / 3 * 3))) 18 := by
  have h : ∀ i, i < 3 → ∀ j, j < 9 → vp_in (2 * (3 * nI i + (nI j - nI j / 3 * 3))) 18 := by
    unfold vp_in
    decide
  exact h i hi j hj
theorem vin_gb (j i : Nat) (hj : j < 9) (hi : i < 3) : vp_in (2 * (nI j - (nI j - nI j / 3 * 3) + nI i) + 1) 18 := by
  have h : ∀ i, i < 3 → ∀ j, j < 9 → vp_in (2 * (nI j - (nI j - nI j / 3 * 3) + nI i) + 1) 18 := by
    unfold vp_in
    decide
  exact h i hi j hj
theorem inR_ne {x B : Int32} {n : Nat} (h : inR x (n + 1)) (hB : B.toInt = ((n + 1 : Nat) : Int)) (c : ¬ x = B) : inR x n := by
  rw [← Int32.toInt_inj] at c
  unfold inR at h ⊢
  omega
theorem inR_m1 {x : Int32} (h : inR x 14) (c : ¬ x = 0) : inR (x - 1) 13 := by
  have h1 := vin_cm1 h c
  rw [vp_in_iff] at h1
  unfold inR
  omega
theorem inR_mono {x : Int32} {a b : Nat} (h : inR x a) (hab : a ≤ b) : inR x b := by
  unfold inR at h ⊢
  omega
theorem inR_1 {x : Int32} {n : Nat} (h : inR x n) (hn : n < 1000) : inR (x + 1) (n + 1) := by
  obtain ⟨k, hk, rfl⟩ := vp_in_of (inR_in h (k := n + 1) (by omega)) (by omega)
  rw [nI_1]
  unfold inR
  rw [nI_toInt (by omega)]
  omega
theorem inR_lt6 {x : Int32} (h : inR x 6) (c : x < 6) : inR x 5 := by
  rw [Int32.lt_iff_toInt_lt, show (6 : Int32).toInt = 6 by decide] at c
  unfold inR at h ⊢
  omega
theorem inR_le6 {x : Int32} (h : inR x 6) (c : ¬ (6 : Int32) ≤ x) : inR x 5 := by
  rw [Int32.le_iff_toInt_le, show (6 : Int32).toInt = 6 by decide] at c
  unfold inR at h ⊢
  omega
theorem inR_tx {t p : Int32} (ht : inR t 48) (hp : inR p 48) (c : ¬ t ≤ p) : inR p 47 := by
  rw [Int32.le_iff_toInt_le] at c
  unfold inR at ht hp ⊢
  omega
theorem tmod_lt (a b : Int) (hb : b ≠ 0) : (a.tmod b).natAbs < b.natAbs := by
  rw [Int.natAbs_tmod]
  exact Nat.mod_lt _ (by omega)
theorem rem_eq (p q : Int32) (h : ¬ q = 0) : (p - p / q * q).toInt = p.toInt.tmod q.toInt := by
  sorry
theorem rem_lt {p q : Int32} (h : ¬ q = 0) : (p - p / q * q).toInt.natAbs < q.toInt.natAbs := by
  rw [rem_eq p q h]
  exact tmod_lt _ _ (fun z => h (Int32.toInt_inj.mp (z.trans z32.symm)))
theorem rt_init (t : Int32) : (t.toInt - (1 : Int32).toInt).toNat < t.toInt.toNat + 1 := by
  have : (1 : Int32).toInt = 1 := by decide
  omega
theorem rt_step {t p p' : Int32} {n : Nat} {X : Prop} (hm : (t.toInt - p.toInt).toNat < n + 1) (c : ¬ t ≤ p) (h : p.toInt < p'.toInt ∧ X) : (t.toInt - p'.toInt).toNat < n := by
  rw [Int32.le_iff_toInt_le] at c
  omega
theorem bz_X8_has (a b : Int32) : D_X8_has a b = 0 ∨ D_X8_has a b = 1 := by
  unfold D_X8_has
  split
  · exact Or.inr rfl
  · exact Or.inl rfl
theorem bz_X8_turns (a : Nat → Int32) (b c d : Int32) : (D_X8_turns a b c d).1 = 0 ∨ (D_X8_turns a b c d).1 = 1 := by
  unfold D_X8_turns D_X8_turns_j21 D_X8_turns_j22
  repeat' split
  all_goals first | exact Or.inl rfl | exact Or.inr rfl
theorem bz_X8_takesTop (a : Nat → Int32) (b : Int32) : (D_X8_takesTop a b).1 = 0 ∨ (D_X8_takesTop a b).1 = 1 := by
  unfold D_X8_takesTop D_X8_takesTop_j20 D_X8_takesTop_j36
  repeat' split
  all_goals first | exact Or.inl rfl | exact Or.inr rfl
theorem bz_X8_readSlip (a : Nat → Int32) (b c d : Int32) (e f : Nat → Int32) : (D_X8_readSlip a b c d e f).1 = 0 ∨ (D_X8_readSlip a b c d e f).1 = 1 := by
  unfold D_X8_readSlip D_X8_readSlip_c34
  repeat' split
  all_goals first | exact Or.inl rfl | exact Or.inr rfl
theorem bz_X8_readThing (a : Nat → Int32) (b c d : Int32) (e f : Nat → Int32) : (D_X8_readThing a b c d e f).1 = 0 ∨ (D_X8_readThing a b c d e f).1 = 1 := by
  sorry
theorem rp_step {text : Nat → Int32} {ts place slips : Int32} {on pg : Nat → Int32} {th : Int32} {kd gd : Nat → Int32} (ht : inR ts 48) (hp : inR place 48) (hr : inR th 6) (c : ¬ ts ≤ place) (c2 : ¬ (D_X8_readPart text ts place slips on pg th kd gd).1 = 0) :
    place.toInt < (D_X8_readPart text ts place slips on pg th kd gd).2.1.toInt ∧ inR (D_X8_readPart text ts place slips on pg th kd gd).2.1 48 ∧ inR (D_X8_readPart text ts place slips on pg th kd gd).2.2.2.2.2.1 6 := by
  sorry
theorem rt_inR {text : Nat → Int32} {ts : Int32} {on pg kd gd : Nat → Int32} (ht : inR ts 48) : inR (D_X8_readTown text ts on pg kd gd).2.2.2.2.2.1 6 := by
  sorry
theorem slipOn_ok (q : Nat → Int32) (k h : Int32) : D_X8_slipOn q k h = -9 ∨ vp_in (D_X8_slipOn q k h) 8 := by
  have hl : ∀ n, n ≤ 8 → D_X8_slipOn_l6 k h q (-9) n = -9 ∨ vp_in (D_X8_slipOn_l6 k h q (-9) n) 8 := by
    intro n
    induction n with
    | zero => exact fun _ => Or.inl rfl
    | succ n ih =>
      intro hn
      rw [D_X8_slipOn_l6]
      unfold D_X8_slipOn_b6
      split
      · split
        · exact Or.inr (vp_in_nI (by omega) (by decide))
        · exact ih (by omega)
      · exact ih (by omega)
  exact hl 8 (Nat.le_refl 8)
theorem topOf_ok (q : Nat → Int32) (k : Int32) : D_X8_topOf q k = -9 ∨ vp_in (D_X8_topOf q k) 8 := slipOn_ok _ _ _
theorem vin_topOf {q : Nat → Int32} {k : Int32} (c : ¬ D_X8_topOf q k = -9) : vp_in (D_X8_topOf q k) 8 := (topOf_ok q k).resolve_left c
theorem lp_ne {x : Int32} {i : Nat} (h : ¬ D_X8_in x.toInt64 1 4 = 0) (hi : i < x.toNatClampNeg) : ¬ D_X8_longPower 1000 (x - 1 - nI i) = 0 := by
  have h2 := in_spec h
  rw [Int32.toInt_toInt64] at h2
  have h3 : (1 : Int64).toInt = 1 := by decide
  have h4 : (4 : Int64).toInt = 4 := by decide
  obtain ⟨k, hk, rfl⟩ := vp_in_of (n := 5) (x := x) (by rw [vp_in_iff]; omega) (by decide)
  rw [nI_clamp (by omega)] at hi
  have hz : ∀ k, k < 5 → ∀ i, i < k → ¬ D_X8_longPower 1000 (nI k - 1 - nI i) = 0 := by decide +kernel
  exact hz k hk i hi
theorem div_ne {a b : Int32} (h : ¬ b = 0) : ¬ D_X8_divisor a b = 0 := by
  sorry
theorem bit_01 (x : Int32) : (x &&& 1 = 0) ∨ (x &&& 1 = 1) := by
  obtain ⟨j, hj, he⟩ := pk_andE x (m := 1) 1 (by decide)
  rw [he]
  revert j
  intro j hj _
  have : j = 0 ∨ j = 1 := by omega
  rcases this with rfl | rfl
  · exact Or.inl rfl
  · exact Or.inr rfl
theorem many_nI (x : Int32) : ∃ j, j ≤ 8 ∧ D_X8_many x = nI j := by
  have hl : ∀ n, ∃ j, j ≤ n ∧ D_X8_many_l4 x 0 n = nI j := by
    intro n
    induction n with
    | zero => exact ⟨0, Nat.le_refl 0, rfl⟩
    | succ n ih =>
      obtain ⟨j, hj, he⟩ := ih
      rw [D_X8_many_l4]
      unfold D_X8_many_b4
      rw [he]
      rcases bit_01 (x >>> (nI n &&& 31)) with h | h
      · exact ⟨j, by omega, by rw [h]; exact Int32.add_zero _⟩
      · exact ⟨j + 1, by omega, by rw [h]; exact nI_1 j⟩
  exact hl 8
theorem many_le (x : Int32) : (D_X8_many x).toNatClampNeg ≤ 1000 := by
  obtain ⟨j, hj, he⟩ := many_nI x
  rw [he, nI_clamp (by omega)]
  omega
theorem many_sub (x y : Int32) : (D_X8_many x - 1 - D_X8_many y).toNatClampNeg ≤ 1000 := by
  obtain ⟨j, hj, he⟩ := many_nI x
  obtain ⟨k, hk, hf⟩ := many_nI y
  rw [he, hf]
  have hz : ∀ j, j < 9 → ∀ k, k < 9 → (nI j - 1 - nI k).toNatClampNeg ≤ 1000 := by decide
  exact hz j (by omega) k (by omega)
theorem ways_ne (x : Int32) : ¬ D_X8_ways (D_X8_many x) = 0 := by
  obtain ⟨j, hj, he⟩ := many_nI x
  rw [he]
  have hz : ∀ j, j < 9 → ¬ D_X8_ways (nI j) = 0 := by decide +kernel
  exact hz j (by omega)
/-! pages: where each slip is -/
def NightOK (q : Nat → Int32) : Prop := ∀ k, k < 3 → ¬ D_X8_highOn (D_X8_goNight_l4 0 q k).2 (nI k) < 3 → vp_in (D_X8_slipOn (D_X8_goNight_l4 0 q k).2 (nI k) 0) 8
