/-! the model's indices -/
theorem lN_ti8 (n : Nat) (h : n < 2147483648) : (nI n).toInt64.toInt = (n : Int) := by
  rw [Int32.toInt_toInt64, nI_toInt h]
theorem in_iff (a b c : Int64) : D_X8_in a b c = if b.toInt ≤ a.toInt ∧ a.toInt ≤ c.toInt then 1 else 0 := by
  unfold D_X8_in
  simp only [lg_cmp_lt, lg_cmp_gt, Int64.lt_iff_toInt_lt]
  by_cases h1 : a.toInt < b.toInt
  · rw [if_pos h1, if_neg (by omega)]
  · rw [if_neg h1]
    by_cases h2 : c.toInt < a.toInt
    · rw [if_pos h2, if_neg (by omega)]
    · rw [if_neg h2, if_pos (by omega)]
theorem in_spec {a b c : Int64} (h : ¬ D_X8_in a b c = 0) : b.toInt ≤ a.toInt ∧ a.toInt ≤ c.toInt := by
  rw [in_iff] at h
  by_cases h1 : b.toInt ≤ a.toInt ∧ a.toInt ≤ c.toInt
  · exact h1
  · rw [if_neg h1] at h
    exact absurd rfl h
theorem in_spec0 {a b c : Int64} (h : D_X8_in a b c = 0) : a.toInt < b.toInt ∨ c.toInt < a.toInt := by
  rw [in_iff] at h
  by_cases h1 : b.toInt ≤ a.toInt ∧ a.toInt ≤ c.toInt
  · rw [if_pos h1] at h
    exact absurd h (by decide)
  · omega
theorem vin_noSlip {x : Int32} (h : D_X8_noSlip x = 0) : vp_in x 8 := by
  unfold D_X8_noSlip at h
  split at h
  · exact absurd h (by decide)
  · rename_i h1
    have h2 := in_spec h1
    rw [Int32.toInt_toInt64] at h2
    rw [vp_in_iff]
    have h3 : (0 : Int64).toInt = 0 := by decide
    have h4 : (7 : Int64).toInt = 7 := by decide
    omega
theorem vin_noSpike {x : Int32} (h : D_X8_noSpike x = 0) : vp_in x 3 := by
  unfold D_X8_noSpike at h
  split at h
  · exact absurd h (by decide)
  · rename_i h1
    have h2 := in_spec h1
    rw [Int32.toInt_toInt64] at h2
    rw [vp_in_iff]
    have h3 : (0 : Int64).toInt = 0 := by decide
    have h4 : (2 : Int64).toInt = 2 := by decide
    omega
theorem vin_X8_noThing {c x : Int32} {n : Nat} (hc : inR c n) (h : D_X8_noThing c x = 0) : vp_in x n := by
  unfold D_X8_noThing at h
  split at h
  · exact absurd h (by decide)
  · rename_i h1
    have h2 := in_spec h1
    rw [Int32.toInt_toInt64, Int32.toInt_toInt64] at h2
    rw [vp_in_iff]
    have h3 : (0 : Int64).toInt = 0 := by decide
    have h5 := c.toInt_lt
    have h6 := c.le_toInt
    unfold inR at hc
    have h4 : (c - 1).toInt = c.toInt - 1 := by
      rw [Int32.toInt_sub, show (1 : Int32).toInt = 1 by decide]
      apply Int.bmod_eq_of_le <;> omega
    omega
theorem vin_in2 {x : Int32} (h : ¬ D_X8_in x.toInt64 0 1 = 0) : vp_in x 2 := by
  have h2 := in_spec h
  rw [Int32.toInt_toInt64] at h2
  rw [vp_in_iff]
  have h3 : (0 : Int64).toInt = 0 := by decide
  have h4 : (1 : Int64).toInt = 1 := by decide
  omega
theorem vin_ne {x B : Int32} {n : Nat} (h : inR x n) (hB : B.toInt = n) (c : ¬ x = B) : vp_in x n := by
  rw [vp_in_iff]
  rw [← Int32.toInt_inj] at c
  unfold inR at h
  omega
theorem vin_8 {x : Int32} (h : vp_in x 8) : vp_in (8 + x) 17 := by
  obtain ⟨k, hk, rfl⟩ := vp_in_of h (by decide)
  revert k
  unfold vp_in
  decide
theorem vin_8i (i : Nat) (h : i < 8) : vp_in (8 + nI i) 17 := vin_8 (vp_in_nI h (by decide))
theorem vin_nx {t p : Int32} (ht : inR t 48) (hp : inR p 60) (c : ¬ t ≤ p) : vp_in p 48 := by
  rw [vp_in_iff]
  rw [Int32.le_iff_toInt_le] at c
  unfold inR at ht hp
  omega
theorem vin_r3 {x : Int32} (h : inR x 5) (i : Nat) (hi : i < 3) : vp_in (3 * x + nI i) 18 := by
  obtain ⟨k, hk, rfl⟩ := vp_in_of (inR_in h (k := 6) (by decide)) (by decide)
  exact vin_36' k hk i hi
theorem vin_r36 {x : Int32} (h : vp_in x 6) (i : Nat) (hi : i < 3) : vp_in (3 * x + nI i) 18 := by
  obtain ⟨k, hk, rfl⟩ := vp_in_of h (by decide)
  exact vin_36' k hk i hi
theorem vin_h {x y : Int32} (h : vp_in x 6) (h2 : vp_in y 3) : vp_in (3 * x + y) 18 := by
  obtain ⟨k, hk, rfl⟩ := vp_in_of h (by decide)
  obtain ⟨i, hi, rfl⟩ := vp_in_of h2 (by decide)
  exact vin_36' k hk i hi
theorem vin_t1 {x y : Int32} (h : vp_in x 6) (c : y = 1) : vp_in (3 * x + y - 1) 18 := by
  subst c
  obtain ⟨k, hk, rfl⟩ := vp_in_of h (by decide)
  revert k
  unfold vp_in
  decide
theorem vin_t2 {x y : Int32} (h : vp_in x 6) (c : y = 2) : vp_in (3 * x + y - 1) 18 := by
  subst c
  obtain ⟨k, hk, rfl⟩ := vp_in_of h (by decide)
  revert k
  unfold vp_in
  decide
theorem vin_t3 {x y : Int32} (h : vp_in x 6) (c : y = 3) : vp_in (3 * x + y - 1) 18 := by
  subst c
  obtain ⟨k, hk, rfl⟩ := vp_in_of h (by decide)
  revert k
  unfold vp_in
  decide
theorem vin_17 {x : Int32} (h : inR x 13) (i : Nat) (hi : i < 17) : vp_in (17 * x + nI i) 238 := by
  obtain ⟨k, hk, rfl⟩ := vp_in_of (inR_in h (k := 14) (by decide)) (by decide)
  have h17 : (17 : Int32) = nI 17 := by decide
  rw [h17, pk_mul, nI_add]
  exact vp_in_nI (by omega) (by decide)
theorem vin_k17 {x : Int32} (h : vp_in x 2) (i : Nat) (hi : i < 17) : vp_in (17 * x + nI i) 34 := by
  obtain ⟨k, hk, rfl⟩ := vp_in_of h (by decide)
  have h17 : (17 : Int32) = nI 17 := by decide
  rw [h17, pk_mul, nI_add]
  exact vp_in_nI (by omega) (by decide)
theorem vin_b17 (i : Nat) (hi : i < 221) : vp_in (nI i + 17) 238 := by
  have h17 : (17 : Int32) = nI 17 := by decide
  rw [h17, nI_add]
  exact vp_in_nI (by omega) (by decide)
theorem vin_g2 (i : Nat) (hi : i < 9) : vp_in (2 * nI i) 18 := by
  revert i
  unfold vp_in
  decide
theorem vin_g21 (i : Nat) (hi : i < 9) : vp_in (2 * nI i + 1) 18 := by
  revert i
  unfold vp_in
  decide
theorem vin_ga (i j : Nat) (hi : i < 3) (hj : j < 9) : vp_in (2 * (3 * nI i + (nI j - nI j / 3 * 3))) 18 := by
  have h : ∀ i, i < 3 → ∀ j, j < 9 → vp_in (2 * (3 * nI i + (nI j - nI j / 3 * 3))) 18 := by
    unfold vp_in
    decide
  exact h i hi j hj
theorem vin_gb (j i : Nat) (hj : j < 9) (hi : i < 3) : vp_in (2 * (nI j - (nI j - nI j / 3 * 3) + nI i) + 1) 18 := by
  have h : ∀ i, i < 3 → ∀ j, j < 9 → vp_in (2 * (nI j - (nI j - nI j / 3 * 3) + nI i) + 1) 18 := by
    unfold vp_in
    decide
  exact h i hi j hj
theorem inR_ne {x B : Int32} {n : Nat} (h : inR x (n + 1)) (hB : B.toInt = ((n + 1 : Nat) : Int)) (c : ¬ x = B) : inR x n := by
  rw [← Int32.toInt_inj] at c
  unfold inR at h ⊢
  omega
theorem inR_m1 {x : Int32} (h : inR x 14) (c : ¬ x = 0) : inR (x - 1) 13 := by
  have h1 := vin_cm1 h c
  rw [vp_in_iff] at h1
  unfold inR
  omega
theorem inR_mono {x : Int32} {a b : Nat} (h : inR x a) (hab : a ≤ b) : inR x b := by
  unfold inR at h ⊢
  omega
theorem inR_1 {x : Int32} {n : Nat} (h : inR x n) (hn : n < 1000) : inR (x + 1) (n + 1) := by
  obtain ⟨k, hk, rfl⟩ := vp_in_of (inR_in h (k := n + 1) (by omega)) (by omega)
  rw [nI_1]
  unfold inR
  rw [nI_toInt (by omega)]
  omega
theorem inR_lt6 {x : Int32} (h : inR x 6) (c : x < 6) : inR x 5 := by
  rw [Int32.lt_iff_toInt_lt, show (6 : Int32).toInt = 6 by decide] at c
  unfold inR at h ⊢
  omega
theorem inR_le6 {x : Int32} (h : inR x 6) (c : ¬ (6 : Int32) ≤ x) : inR x 5 := by
  rw [Int32.le_iff_toInt_le, show (6 : Int32).toInt = 6 by decide] at c
  unfold inR at h ⊢
  omega
theorem inR_tx {t p : Int32} (ht : inR t 48) (hp : inR p 48) (c : ¬ t ≤ p) : inR p 47 := by
  rw [Int32.le_iff_toInt_le] at c
  unfold inR at ht hp ⊢
  omega
theorem tmod_lt (a b : Int) (hb : b ≠ 0) : (a.tmod b).natAbs < b.natAbs := by
  rw [Int.natAbs_tmod]
  exact Nat.mod_lt _ (by omega)
theorem rem_eq (p q : Int32) (h : ¬ q = 0) : (p - p / q * q).toInt = p.toInt.tmod q.toInt := by
  rw [Int32.toInt_sub, Int32.toInt_mul, Int32.toInt_div, Int.bmod_mul_bmod, Int.sub_bmod_bmod]
  have h1 : p.toInt - p.toInt.tdiv q.toInt * q.toInt = p.toInt.tmod q.toInt := by rw [Int.tmod_def, Int.mul_comm]
  rw [h1]
  have h2 := p.le_toInt
  have h3 := p.toInt_lt
  have h4 : (p.toInt.tmod q.toInt).natAbs ≤ p.toInt.natAbs := by
    rw [Int.natAbs_tmod]
    exact Nat.mod_le _ _
  rcases Int.le_total 0 p.toInt with h5 | h5
  · have h6 := Int.tmod_nonneg q.toInt h5
    apply Int.bmod_eq_of_le <;> omega
  · have h6 := Int.tmod_nonneg q.toInt (a := -p.toInt) (by omega)
    rw [Int.neg_tmod] at h6
    apply Int.bmod_eq_of_le <;> omega
theorem rem_lt {p q : Int32} (h : ¬ q = 0) : (p - p / q * q).toInt.natAbs < q.toInt.natAbs := by
  rw [rem_eq p q h]
  exact tmod_lt _ _ (fun z => h (Int32.toInt_inj.mp (z.trans z32.symm)))
theorem rt_init (t : Int32) : (t.toInt - (1 : Int32).toInt).toNat < t.toInt.toNat + 1 := by
  have : (1 : Int32).toInt = 1 := by decide
  omega
theorem rt_step {t p p' : Int32} {n : Nat} {X : Prop} (hm : (t.toInt - p.toInt).toNat < n + 1) (c : ¬ t ≤ p) (h : p.toInt < p'.toInt ∧ X) : (t.toInt - p'.toInt).toNat < n := by
  rw [Int32.le_iff_toInt_le] at c
  omega
theorem bz_X8_has (a b : Int32) : D_X8_has a b = 0 ∨ D_X8_has a b = 1 := by
  unfold D_X8_has
  split
  · exact Or.inr rfl
  · exact Or.inl rfl
theorem bz_X8_turns (a : Nat → Int32) (b c d : Int32) : (D_X8_turns a b c d).1 = 0 ∨ (D_X8_turns a b c d).1 = 1 := by
  unfold D_X8_turns D_X8_turns_j21 D_X8_turns_j22
  repeat' split
  all_goals first | exact Or.inl rfl | exact Or.inr rfl
theorem bz_X8_takesTop (a : Nat → Int32) (b : Int32) : (D_X8_takesTop a b).1 = 0 ∨ (D_X8_takesTop a b).1 = 1 := by
  unfold D_X8_takesTop D_X8_takesTop_j20 D_X8_takesTop_j36
  repeat' split
  all_goals first | exact Or.inl rfl | exact Or.inr rfl
theorem bz_X8_readSlip (a : Nat → Int32) (b c d : Int32) (e f : Nat → Int32) : (D_X8_readSlip a b c d e f).1 = 0 ∨ (D_X8_readSlip a b c d e f).1 = 1 := by
  unfold D_X8_readSlip D_X8_readSlip_c34
  repeat' split
  all_goals first | exact Or.inl rfl | exact Or.inr rfl
theorem div_l : ∀ (n i : Nat) (p q : Int32), (¬ p = 0 ∨ ¬ q = 0) → q.toInt.natAbs < n → ¬ D_X8_divisor_l13 n i p q = 0
  | 0, _, _, _, _, h => absurd h (Nat.not_lt_zero _)
  | n + 1, i, p, q, h, hm => by
    rw [D_X8_divisor_l13]
    unfold D_X8_divisor_b13
    by_cases hq : q = 0
    · rw [if_pos hq]
      show ¬ p = 0
      exact h.resolve_right (fun z => z hq)
    · rw [if_neg hq]
      show ¬ D_X8_divisor_l13 n (i + 1) q (p - p / q * q) = 0
      exact div_l n (i + 1) q _ (Or.inl hq) (Nat.lt_of_lt_of_le (rem_lt hq) (Nat.le_of_lt_succ hm))
theorem div_ne {a b : Int32} (h : ¬ b = 0) : ¬ D_X8_divisor a b = 0 := by
  unfold D_X8_divisor D_X8_divisor_j10
  split
  · exact div_l _ _ _ _ (Or.inr h) (Nat.lt_succ_self _)
  · exact div_l _ _ _ _ (Or.inr h) (Nat.lt_succ_self _)
theorem next_out {text : Nat → Int32} {ts p : Int32} (c : ts ≤ p) : D_X8_next text ts p = 0 := if_pos c
theorem rs_step {text : Nat → Int32} {ts pl sl : Int32} {on pg : Nat → Int32} (h : ¬ (D_X8_readSlip text ts pl sl on pg).1 = 0) : (D_X8_readSlip text ts pl sl on pg).2.1 = pl + 1 + 1 ∧ ¬ ts ≤ pl + 1 := by
  unfold D_X8_readSlip at h ⊢
  by_cases c1 : D_X8_noSpike (D_X8_next text ts pl - 48) = 0
  · rw [if_pos c1] at h ⊢
    unfold D_X8_readSlip_c34 at h ⊢
    by_cases c2 : D_X8_noSlip (D_X8_next text ts (pl + 1) - 48) = 0
    · rw [if_pos c2] at h ⊢
      by_cases c3 : D_X8_has sl (D_X8_next text ts (pl + 1) - 48) = 0
      · rw [if_pos c3] at h ⊢
        refine ⟨rfl, fun z => ?_⟩
        rw [next_out z] at c2
        exact absurd c2 (by decide)
      · rw [if_neg c3] at h
        exact absurd rfl h
    · rw [if_neg c2] at h
      exact absurd rfl h
  · rw [if_neg c1] at h
    exact absurd rfl h
theorem b34_cases (text : Nat → Int32) (ts th : Int32) (kd : Nat → Int32) (i : Nat) (pl : Int32) (gr : Nat → Int32) : (D_X8_readThing_b34 text ts th kd i pl gr = .inl (0, pl, th, kd, gr)) ∨ (¬ ts ≤ pl ∧ ∃ v, D_X8_readThing_b34 text ts th kd i pl gr = .inr (pl + 1, upd gr (3 * th + nI i).toNatClampNeg v)) := by
  have hz : ts ≤ pl → D_X8_in (D_X8_next text ts pl).toInt64 48 55 = 0 ∧ D_X8_in (D_X8_next text ts pl).toInt64 65 ((65 + th) - 1).toInt64 = 0 := by
    intro c
    rw [next_out c]
    constructor
    · decide
    · rw [in_iff, if_neg]
      intro ⟨z, _⟩
      exact absurd z (by decide)
  unfold D_X8_readThing_b34 D_X8_readThing_c55 D_X8_readThing_j85 D_X8_readThing_j126
  by_cases c1 : D_X8_in (D_X8_next text ts pl).toInt64 48 55 = 0
  · rw [if_pos c1]
    by_cases c2 : D_X8_in (D_X8_next text ts pl).toInt64 65 ((65 + th) - 1).toInt64 = 0
    · rw [if_pos c2]
      exact Or.inl rfl
    · rw [if_neg c2, if_pos c1]
      exact Or.inr ⟨fun z => c2 (hz z).2, _, rfl⟩
  · rw [if_neg c1, if_neg c1]
    exact Or.inr ⟨fun z => c1 (hz z).1, _, rfl⟩
theorem rth_l {text : Nat → Int32} {ts pl0 th : Int32} {kd : Nat → Int32} (ht : inR ts 48) : ∀ (n i : Nat) (pl : Int32) (gr : Nat → Int32), inR pl 60 → ((D_X8_readThing_l34 text ts pl0 th kd n i pl gr).1 = 0 ∧ (D_X8_readThing_l34 text ts pl0 th kd n i pl gr).2.2.1 = th) ∨ ((D_X8_readThing_l34 text ts pl0 th kd n i pl gr).1 = 1 ∧ (D_X8_readThing_l34 text ts pl0 th kd n i pl gr).2.2.1 = th + 1 ∧ (D_X8_readThing_l34 text ts pl0 th kd n i pl gr).2.1.toInt = pl.toInt + n ∧ (n = 0 ∨ (D_X8_readThing_l34 text ts pl0 th kd n i pl gr).2.1.toInt ≤ ts.toInt))
  | 0, i, pl, gr, _ => Or.inr ⟨rfl, rfl, by show pl.toInt = pl.toInt + (0 : Nat); omega, Or.inl rfl⟩
  | n + 1, i, pl, gr, hp => by
    rcases b34_cases text ts th kd i pl gr with h | ⟨hc, v, h⟩
    · rw [D_X8_readThing_l34_r text ts pl0 th kd n i pl gr _ h]
      exact Or.inl ⟨rfl, rfl⟩
    · rw [D_X8_readThing_l34_s text ts pl0 th kd n i pl gr _ _ h]
      rw [Int32.le_iff_toInt_le] at hc
      have hp1 : inR (pl + 1) 61 := inR_1 hp (by decide)
      have hpl : (pl + 1).toInt = pl.toInt + 1 := by
        obtain ⟨k, hk, rfl⟩ := vp_in_of (inR_in hp (k := 61) (by decide)) (by decide)
        rw [nI_1, nI_toInt (by omega), nI_toInt (by omega)]
        omega
      have hp2 : inR (pl + 1) 60 := by unfold inR at *; omega
      rcases rth_l (text := text) (pl0 := pl0) (th := th) (kd := kd) ht n (i + 1) (pl + 1) (upd gr (3 * th + nI i).toNatClampNeg v) hp2 with h1 | ⟨h1, h2, h3, h4⟩
      · exact Or.inl h1
      · refine Or.inr ⟨h1, h2, by rw [h3, hpl]; omega, Or.inr ?_⟩
        rcases h4 with h4 | h4
        · rw [h3, hpl]
          omega
        · exact h4
theorem rth_v {text : Nat → Int32} {ts pl th : Int32} {kd gd : Nat → Int32} (ht : inR ts 48) (hp : inR pl 50) : ((D_X8_readThing text ts pl th kd gd).1 = 0 ∧ (D_X8_readThing text ts pl th kd gd).2.2.1 = th) ∨ ((D_X8_readThing text ts pl th kd gd).1 = 1 ∧ (D_X8_readThing text ts pl th kd gd).2.2.1 = th + 1 ∧ (D_X8_readThing text ts pl th kd gd).2.1.toInt = pl.toInt + 4 ∧ (D_X8_readThing text ts pl th kd gd).2.1.toInt ≤ ts.toInt) := by
  unfold D_X8_readThing
  by_cases c : D_X8_in (D_X8_next text ts pl - 48).toInt64 0 3 = 0
  · rw [if_pos c]
    exact Or.inl ⟨rfl, rfl⟩
  · rw [if_neg c]
    have hp1 : inR (pl + 1) 51 := inR_1 hp (by decide)
    have hpl : (pl + 1).toInt = pl.toInt + 1 := by
      obtain ⟨k, hk, rfl⟩ := vp_in_of (inR_in hp (k := 51) (by decide)) (by decide)
      rw [nI_1, nI_toInt (by omega), nI_toInt (by omega)]
      omega
    rcases rth_l (text := text) (pl0 := pl) (th := th) (kd := kd) ht 3 0 (pl + 1) gd (inR_mono hp1 (by decide)) with h | ⟨h1, h2, h3, h4⟩
    · exact Or.inl h
    · exact Or.inr ⟨h1, h2, by rw [h3, hpl]; omega, h4.resolve_left (by decide)⟩
theorem bz_X8_readThing (a : Nat → Int32) (b c d : Int32) (e f : Nat → Int32) : (D_X8_readThing a b c d e f).1 = 0 ∨ (D_X8_readThing a b c d e f).1 = 1 := by
  have hl : ∀ (n i : Nat) (pl : Int32) (gr : Nat → Int32), (D_X8_readThing_l34 a b c d e n i pl gr).1 = 0 ∨ (D_X8_readThing_l34 a b c d e n i pl gr).1 = 1 := by
    intro n
    induction n with
    | zero => exact fun i pl gr => Or.inr rfl
    | succ n ih =>
      intro i pl gr
      rcases b34_cases a b d e i pl gr with h | ⟨-, v, h⟩
      · rw [D_X8_readThing_l34_r a b c d e n i pl gr _ h]
        exact Or.inl rfl
      · rw [D_X8_readThing_l34_s a b c d e n i pl gr _ _ h]
        exact ih _ _ _
  unfold D_X8_readThing
  split
  · exact Or.inl rfl
  · exact hl _ _ _ _
theorem rp_cases (text : Nat → Int32) (ts place slips : Int32) (on pg : Nat → Int32) (th : Int32) (kd gd : Nat → Int32) :
    ((D_X8_readPart text ts place slips on pg th kd gd).1 = 0 ∧ (D_X8_readPart text ts place slips on pg th kd gd).2.2.2.2.2.1 = th) ∨
    ((D_X8_readPart text ts place slips on pg th kd gd).1 = (D_X8_readSlip text ts (place + 1) slips on pg).1 ∧ (D_X8_readPart text ts place slips on pg th kd gd).2.1 = (D_X8_readSlip text ts (place + 1) slips on pg).2.1 ∧ (D_X8_readPart text ts place slips on pg th kd gd).2.2.2.2.2.1 = th) ∨
    (¬ (6 : Int32) ≤ th ∧ (D_X8_readPart text ts place slips on pg th kd gd).1 = (D_X8_readThing text ts (place + 1) th kd gd).1 ∧ (D_X8_readPart text ts place slips on pg th kd gd).2.1 = (D_X8_readThing text ts (place + 1) th kd gd).2.1 ∧ (D_X8_readPart text ts place slips on pg th kd gd).2.2.2.2.2.1 = (D_X8_readThing text ts (place + 1) th kd gd).2.2.1) := by
  unfold D_X8_readPart D_X8_readPart_j43 D_X8_readPart_j63
  by_cases c1 : text place.toNatClampNeg = 83
  · rw [if_pos c1]
    by_cases c2 : (8 : Int32) ≤ D_X8_many slips
    · rw [if_pos c2, if_neg (by rw [c1]; decide)]
      exact Or.inl ⟨rfl, rfl⟩
    · rw [if_neg c2]
      refine Or.inr (Or.inl ?_)
      dsimp only
      exact ⟨rfl, rfl, rfl⟩
  · rw [if_neg c1]
    by_cases c2 : text place.toNatClampNeg = 84
    · rw [if_pos c2]
      by_cases c3 : (6 : Int32) ≤ th
      · rw [if_pos c3]
        exact Or.inl ⟨rfl, rfl⟩
      · rw [if_neg c3]
        refine Or.inr (Or.inr ⟨c3, ?_⟩)
        dsimp only
        exact ⟨rfl, rfl, rfl⟩
    · rw [if_neg c2]
      exact Or.inl ⟨rfl, rfl⟩
theorem toInt_1 {x : Int32} {n : Nat} (h : inR x n) (hn : n < 1000) : (x + 1).toInt = x.toInt + 1 := by
  obtain ⟨k, hk, rfl⟩ := vp_in_of (inR_in h (k := n + 1) (by omega)) (by omega)
  rw [nI_1, nI_toInt (by omega), nI_toInt (by omega)]
  omega
theorem rp_step {text : Nat → Int32} {ts place slips : Int32} {on pg : Nat → Int32} {th : Int32} {kd gd : Nat → Int32} (ht : inR ts 48) (hp : inR place 48) (hr : inR th 6) (c : ¬ ts ≤ place) (c2 : ¬ (D_X8_readPart text ts place slips on pg th kd gd).1 = 0) :
    place.toInt < (D_X8_readPart text ts place slips on pg th kd gd).2.1.toInt ∧ inR (D_X8_readPart text ts place slips on pg th kd gd).2.1 48 ∧ inR (D_X8_readPart text ts place slips on pg th kd gd).2.2.2.2.2.1 6 := by
  have e1 := toInt_1 hp (by decide)
  have hp1 := inR_1 hp (by decide)
  have e2 := toInt_1 hp1 (by decide)
  have hp2 := inR_1 hp1 (by decide)
  have e3 := toInt_1 hp2 (by decide)
  rcases rp_cases text ts place slips on pg th kd gd with ⟨h, -⟩ | ⟨h1, h2, h3⟩ | ⟨h0, h1, h2, h3⟩
  · exact absurd h c2
  · rw [h1] at c2
    obtain ⟨h4, h5⟩ := rs_step c2
    rw [Int32.le_iff_toInt_le] at h5
    rw [h2, h3, h4]
    refine ⟨by omega, ?_, hr⟩
    unfold inR at *
    omega
  · rw [h1] at c2
    rcases rth_v (text := text) (pl := place + 1) (th := th) (kd := kd) (gd := gd) ht (inR_mono hp1 (by decide)) with ⟨h4, -⟩ | ⟨-, h5, h6, h7⟩
    · exact absurd h4 c2
    · rw [h2, h3, h5]
      refine ⟨by omega, ?_, inR_1 (inR_le6 hr h0) (by decide)⟩
      unfold inR at *
      omega
theorem rp_th {text : Nat → Int32} {ts place slips : Int32} {on pg : Nat → Int32} {th : Int32} {kd gd : Nat → Int32} (ht : inR ts 48) (hp : inR place 48) (hr : inR th 6) : inR (D_X8_readPart text ts place slips on pg th kd gd).2.2.2.2.2.1 6 := by
  rcases rp_cases text ts place slips on pg th kd gd with ⟨-, h⟩ | ⟨-, -, h3⟩ | ⟨h0, h1, h2, h3⟩
  · rw [h]; exact hr
  · rw [h3]; exact hr
  · rw [h3]
    rcases rth_v (text := text) (pl := place + 1) (th := th) (kd := kd) (gd := gd) ht (inR_mono (inR_1 hp (by decide)) (by decide)) with ⟨-, h4⟩ | ⟨-, h5, -, -⟩
    · rw [h4]; exact hr
    · rw [h5]; exact inR_1 (inR_le6 hr h0) (by decide)
theorem rt_l {text : Nat → Int32} {ts : Int32} (ht : inR ts 48) : ∀ (n i : Nat) (pl sl : Int32) (on pg : Nat → Int32) (th : Int32) (kd gd : Nat → Int32), inR pl 48 → inR th 6 → inR (D_X8_readTown_l67 text ts n i pl sl on pg th kd gd).2.2.2.2.2.1 6
  | 0, i, pl, sl, on, pg, th, kd, gd, _, hr => hr
  | n + 1, i, pl, sl, on, pg, th, kd, gd, hp, hr => by
    by_cases c1 : ts ≤ pl
    · rw [D_X8_readTown_l67_r text ts n i pl sl on pg th kd gd _ (by unfold D_X8_readTown_b67; exact if_pos c1)]
      exact hr
    · by_cases c2 : (D_X8_readPart text ts pl sl on pg th kd gd).1 = 0
      · rw [D_X8_readTown_l67_r text ts n i pl sl on pg th kd gd _ (by unfold D_X8_readTown_b67; rw [if_neg c1]; exact if_pos c2)]
        exact rp_th ht hp hr
      · rw [D_X8_readTown_l67_s text ts n i pl sl on pg th kd gd _ _ _ _ _ _ _ (by unfold D_X8_readTown_b67; rw [if_neg c1]; exact if_neg c2)]
        obtain ⟨-, h2, h3⟩ := rp_step ht hp hr c1 c2
        exact rt_l ht n (i + 1) _ _ _ _ _ _ _ h2 h3
theorem rt_inR {text : Nat → Int32} {ts : Int32} {on pg kd gd : Nat → Int32} (ht : inR ts 48) : inR (D_X8_readTown text ts on pg kd gd).2.2.2.2.2.1 6 := by
  unfold D_X8_readTown D_X8_readTown_k24
  split
  · show inR 0 6
    unfold inR; decide
  · split
    · exact rt_l ht _ _ _ _ _ _ _ _ _ (by unfold inR; decide) (by unfold inR; decide)
    · show inR 0 6
      unfold inR; decide
theorem slipOn_ok (q : Nat → Int32) (k h : Int32) : D_X8_slipOn q k h = -9 ∨ vp_in (D_X8_slipOn q k h) 8 := by
  have hl : ∀ n, n ≤ 8 → D_X8_slipOn_l6 k h q (-9) n = -9 ∨ vp_in (D_X8_slipOn_l6 k h q (-9) n) 8 := by
    intro n
    induction n with
    | zero => exact fun _ => Or.inl rfl
    | succ n ih =>
      intro hn
      rw [D_X8_slipOn_l6]
      unfold D_X8_slipOn_b6
      split
      · split
        · exact Or.inr (vp_in_nI (by omega) (by decide))
        · exact ih (by omega)
      · exact ih (by omega)
  exact hl 8 (Nat.le_refl 8)
theorem topOf_ok (q : Nat → Int32) (k : Int32) : D_X8_topOf q k = -9 ∨ vp_in (D_X8_topOf q k) 8 := slipOn_ok _ _ _
theorem vin_topOf {q : Nat → Int32} {k : Int32} (c : ¬ D_X8_topOf q k = -9) : vp_in (D_X8_topOf q k) 8 := (topOf_ok q k).resolve_left c
theorem lp_ne {x : Int32} {i : Nat} (h : ¬ D_X8_in x.toInt64 1 4 = 0) (hi : i < x.toNatClampNeg) : ¬ D_X8_longPower 1000 (x - 1 - nI i) = 0 := by
  have h2 := in_spec h
  rw [Int32.toInt_toInt64] at h2
  have h3 : (1 : Int64).toInt = 1 := by decide
  have h4 : (4 : Int64).toInt = 4 := by decide
  obtain ⟨k, hk, rfl⟩ := vp_in_of (n := 5) (x := x) (by rw [vp_in_iff]; omega) (by decide)
  rw [nI_clamp (by omega)] at hi
  have hz : ∀ k, k < 5 → ∀ i, i < k → ¬ D_X8_longPower 1000 (nI k - 1 - nI i) = 0 := by decide +kernel
  exact hz k hk i hi
theorem bit_01 (x : Int32) : (x &&& 1 = 0) ∨ (x &&& 1 = 1) := by
  obtain ⟨j, hj, he⟩ := pk_andE x (m := 1) 1 (by decide)
  rw [he]
  revert j
  intro j hj _
  have : j = 0 ∨ j = 1 := by omega
  rcases this with rfl | rfl
  · exact Or.inl rfl
  · exact Or.inr rfl
theorem many_nI (x : Int32) : ∃ j, j ≤ 8 ∧ D_X8_many x = nI j := by
  have hl : ∀ n, ∃ j, j ≤ n ∧ D_X8_many_l4 x 0 n = nI j := by
    intro n
    induction n with
    | zero => exact ⟨0, Nat.le_refl 0, rfl⟩
    | succ n ih =>
      obtain ⟨j, hj, he⟩ := ih
      rw [D_X8_many_l4]
      unfold D_X8_many_b4
      rw [he]
      rcases bit_01 (x >>> (nI n &&& 31)) with h | h
      · exact ⟨j, by omega, by rw [h]; exact Int32.add_zero _⟩
      · exact ⟨j + 1, by omega, by rw [h]; exact nI_1 j⟩
  exact hl 8
theorem many_le (x : Int32) : (D_X8_many x).toNatClampNeg ≤ 1000 := by
  obtain ⟨j, hj, he⟩ := many_nI x
  rw [he, nI_clamp (by omega)]
  omega
theorem many_sub (x y : Int32) : (D_X8_many x - 1 - D_X8_many y).toNatClampNeg ≤ 1000 := by
  obtain ⟨j, hj, he⟩ := many_nI x
  obtain ⟨k, hk, hf⟩ := many_nI y
  rw [he, hf]
  have hz : ∀ j, j < 9 → ∀ k, k < 9 → (nI j - 1 - nI k).toNatClampNeg ≤ 1000 := by decide
  exact hz j (by omega) k (by omega)
theorem ways_ne (x : Int32) : ¬ D_X8_ways (D_X8_many x) = 0 := by
  obtain ⟨j, hj, he⟩ := many_nI x
  rw [he]
  have hz : ∀ j, j < 9 → ¬ D_X8_ways (nI j) = 0 := by decide +kernel
  exact hz j (by omega)
/-! pages: where each slip is -/
def NightOK (q : Nat → Int32) : Prop := ∀ k, k < 3 → ¬ D_X8_highOn (D_X8_goNight_l4 0 q k).2 (nI k) < 3 → vp_in (D_X8_slipOn (D_X8_goNight_l4 0 q k).2 (nI k) 0) 8
