/-! fractions -/
theorem fz_s (n i : Nat) (p q : Int32) : D_X7_commonDivisor_l7 (n + 1) i p q = if q = 0 then p else D_X7_commonDivisor_l7 n (i + 1) q (p - p / q * q) := by
  by_cases h : q = 0
  · rw [if_pos h]
    exact D_X7_commonDivisor_l7_r n i p q _ (by unfold D_X7_commonDivisor_b7; exact if_pos h)
  · rw [if_neg h]
    exact D_X7_commonDivisor_l7_s n i p q _ _ (by unfold D_X7_commonDivisor_b7; exact if_neg h)
theorem gz_s (n i : Nat) (p q : Int32) : D_X8_divisor_l13 (n + 1) i p q = if q = 0 then p else D_X8_divisor_l13 n (i + 1) q (p - p / q * q) := by
  by_cases h : q = 0
  · rw [if_pos h]
    exact D_X8_divisor_l13_r n i p q _ (by unfold D_X8_divisor_b13; exact if_pos h)
  · rw [if_neg h]
    exact D_X8_divisor_l13_s n i p q _ _ (by unfold D_X8_divisor_b13; exact if_neg h)
theorem n0 {q : Int32} (h : ¬ q = 0) : 0 < q.toInt.natAbs := by
  rcases Nat.eq_zero_or_pos q.toInt.natAbs with z | z
  · exact absurd (Int32.toInt_inj.mp ((Int.natAbs_eq_zero.mp z).trans z32.symm)) h
  · exact z
theorem rem_abs {p q : Int32} (h : ¬ q = 0) : (p - p / q * q).toInt.natAbs = p.toInt.natAbs % q.toInt.natAbs := by
  rw [rem_eq p q h, Int.natAbs_tmod]
theorem half_mod {a b : Nat} (hb : 0 < b) (h : b < a) : a % b + b ≤ a := by
  have h1 := Nat.mod_lt a hb
  have h2 := Nat.div_add_mod a b
  have h3 : 0 < a / b := Nat.div_pos (by omega) hb
  have h4 : b * 1 ≤ b * (a / b) := Nat.mul_le_mul_left b h3
  omega
theorem euc : ∀ (k : Nat) (p q : Int32) (n1 n2 i j : Nat), q.toInt.natAbs < 2 ^ k → 2 * k + 1 ≤ n1 → q.toInt.natAbs < n2 → D_X7_commonDivisor_l7 n1 i p q = D_X8_divisor_l13 n2 j p q
  | 0, p, q, n1, n2, i, j, h, h1, h2 => by
    have hq : q = 0 := by
      by_cases z : q = 0
      · exact z
      · have := n0 z
        rw [Nat.pow_zero] at h
        omega
    obtain ⟨m1, rfl⟩ : ∃ m, n1 = m + 1 := ⟨n1 - 1, by omega⟩
    obtain ⟨m2, rfl⟩ : ∃ m, n2 = m + 1 := ⟨n2 - 1, by omega⟩
    rw [fz_s, gz_s, if_pos hq, if_pos hq]
  | k + 1, p, q, n1, n2, i, j, h, h1, h2 => by
    obtain ⟨m1, rfl⟩ : ∃ m, n1 = m + 2 := ⟨n1 - 2, by omega⟩
    obtain ⟨m2, rfl⟩ : ∃ m, n2 = m + 1 := ⟨n2 - 1, by omega⟩
    rw [fz_s, gz_s]
    by_cases hq : q = 0
    · rw [if_pos hq, if_pos hq]
    · rw [if_neg hq, if_neg hq]
      have a1 := n0 hq
      have a2 := rem_lt (p := p) hq
      obtain ⟨m3, rfl⟩ : ∃ m, m2 = m + 1 := ⟨m2 - 1, by omega⟩
      rw [fz_s, gz_s]
      generalize p - p / q * q = r at a2 ⊢
      by_cases hr : r = 0
      · rw [if_pos hr, if_pos hr]
      · rw [if_neg hr, if_neg hr]
        have b1 := n0 hr
        have b2 := half_mod b1 a2
        rw [← rem_abs hr] at b2
        have b3 := rem_lt (p := q) hr
        rw [Nat.pow_succ] at h
        exact euc k r _ m1 m3 _ _ (by omega) (by omega) (by omega)
theorem frac_eq {B : Nat} (hB0 : 0 < B) (hB : B < 131072) (a u : Int32) : D_X7_fraction a (nI B) u = D_X8_fraction a (nI B) u := by
  have hb : ¬ nI B = 0 := nI_ne0 hB0 (by omega)
  have hab : (nI B).toInt.natAbs = B := by rw [nI_toInt (by omega)]; rfl
  have e : D_X7_commonDivisor (if 0 ≤ a then a else 0 - a) (nI B) = D_X8_divisor a (nI B) := by
    unfold D_X7_commonDivisor D_X8_divisor D_X8_divisor_j10
    have hz : (0 : Int32) - a = -a := Int32.zero_sub a
    by_cases c : 0 ≤ a
    · rw [if_pos c, if_pos c]
      exact euc 17 _ _ 100 _ 0 0 (by rw [hab]; exact hB) (by omega) (by omega)
    · rw [if_neg c, if_neg c, hz]
      exact euc 17 _ _ 100 _ 0 0 (by rw [hab]; exact hB) (by omega) (by omega)
  unfold D_X7_fraction D_X7_fraction_j9 D_X8_fraction
  rw [e, if_neg (div_ne hb), if_neg (div_ne hb)]
/-! shares -/
theorem bits_cond (x y b : Int32) : x &&& ((y &&& (b ^^^ -1)) ^^^ -1) = (x &&& (y ^^^ -1)) ||| (x &&& b) := by
  apply Int32.toBitVec_inj.1
  have e : (-1 : Int32).toBitVec = BitVec.allOnes 32 := by decide
  simp only [Int32.toBitVec_and, Int32.toBitVec_or, Int32.toBitVec_xor, e]
  apply BitVec.eq_of_getLsbD_eq
  intro i hi
  simp only [BitVec.getLsbD_and, BitVec.getLsbD_or, BitVec.getLsbD_xor, BitVec.getLsbD_allOnes, hi, decide_true]
  cases x.toBitVec.getLsbD i <;> cases y.toBitVec.getLsbD i <;> cases b.toBitVec.getLsbD i <;> rfl
theorem or_z {x y : Int32} : (x ||| y = 0) ↔ (x = 0 ∧ y = 0) := by
  obtain ⟨a, ha, rfl⟩ := wb_of32 x
  obtain ⟨b, hb, rfl⟩ := wb_of32 y
  have hz : ∀ n, n < 2 ^ 32 → (nI n = 0 ↔ n = 0) := fun n hn => by
    rw [← Int32.toBitVec_inj, ← BitVec.toNat_inj, pk_tn hn]
    exact Iff.rfl
  rw [fa_or, hz _ (Nat.or_lt_two_pow ha hb), hz a ha, hz b hb]
  exact Nat.or_eq_zero_iff
theorem has_and : ∀ i, i < 256 → ∀ s, s < 8 → ((nI i &&& (1 <<< (nI s &&& 31)) = 0) ↔ D_X8_has (nI i) (nI s) = 0) := by decide +kernel
theorem less_one : ∀ S, S < 256 → ∀ s, s < 8 → (D_X8_has (nI S) (nI s) = 0 ∨ D_J6_bitCount_0f7a4 (nI S &&& ((1 <<< (nI s &&& 31)) ^^^ -1)) = D_X8_many (nI S) - 1) := by decide +kernel
theorem fact_l (b : Int32) : ∀ n, D_X7_factorial_l4 b n = D_X8_ways_l4 b n
  | 0 => rfl
  | n + 1 => by
    rw [D_X7_factorial_l4, D_X8_ways_l4, fact_l b n]
    rfl
theorem fact_eq (x : Int32) : D_X7_factorial x = D_X8_ways x := fact_l _ _
theorem ways_d : ∀ j, j < 9 → D_X8_ways (nI j) = nI (D_X8_ways (nI j)).toNatClampNeg ∧ 0 < (D_X8_ways (nI j)).toNatClampNeg ∧ (D_X8_ways (nI j)).toNatClampNeg < 131072 := by decide +kernel
theorem ways_b (x : Int32) : ∃ B, D_X8_ways (D_X8_many x) = nI B ∧ 0 < B ∧ B < 131072 := by
  obtain ⟨j, hj, e⟩ := many_nI x
  rw [e]
  exact ⟨_, ways_d j (by omega)⟩
theorem sh_comm (g a b : Int32) : g * a * b = a * b * g := by
  rw [Int32.mul_assoc, Int32.mul_comm]
theorem gain_l {pg kn gr kq gd : Nat → Int32} {c th : Int32} (hG : RG kn gr c th kq gd) {S s : Nat} (eM : D_X8_onSpikes pg = nI S) (hs8 : s < 8) (m : Int32) (hm : m = D_X8_many (nI S) - 1) : ∀ n, n ≤ 256 → D_X7_gainInAllOrders_l24 (nI s) (nI S) kn gr c m 0 n = D_X8_share_l52 (nI s) th kq gd pg 0 n
  | 0, _ => rfl
  | n + 1, hn => by
    rw [D_X7_gainInAllOrders_l24, D_X8_share_l52, gain_l hG eM hs8 m hm n (by omega)]
    generalize D_X8_share_l52 (nI s) th kq gd pg 0 n = acc
    unfold D_X7_gainInAllOrders_b24 D_X8_share_b52 D_X7_gainInAllOrders_c76 D_X7_gainInAllOrders_c98 D_X8_share_c128
    rw [eM, bits_cond]
    have hn8 : n < 256 := by omega
    by_cases c1 : nI n &&& (nI S ^^^ -1) = 0
    · rw [if_pos c1]
      by_cases c2 : D_X8_has (nI n) (nI s) = 0
      · rw [if_pos c2, if_pos (or_z.mpr ⟨c1, (has_and n hn8 s hs8).mpr c2⟩), fact_eq, fact_eq, bc_many hn8, ← hm]
        have ho := or_256 hn8 (p8_lt hs8)
        obtain ⟨T, hT, f1, f2⟩ := soBy_v hG hn8
        obtain ⟨U, hU, g1, g2⟩ := soBy_v hG ho
        rw [bit_1n s hs8, fa_or, f1, f2, g1, g2, bc_many (by omega), bc_many (by omega), sh_comm]
      · rw [if_neg c2, if_neg (fun z => c2 ((has_and n hn8 s hs8).mp (or_z.mp z).2))]
    · rw [if_neg c1, if_neg (fun z => c1 (or_z.mp z).1)]
theorem share_key {sp pg kn gr kq gd : Nat → Int32} {c th : Int32} (h : TS sp pg) (hG : RG kn gr c th kq gd) (a1 a2 : Int32) : D_X7_share sp kn gr c a1 a2 = (D_X8_share th kq gd pg a1 a2).1 := by
  unfold D_X7_share D_X8_share
  obtain ⟨S, hS, e1, e2⟩ := TS_so h
  rcases slip_cases a1 with ⟨h1, h2⟩ | ⟨s, hs8, rfl, h1, h2⟩
  · rw [if_pos h1, if_neg h2]
  · rw [if_neg h1, if_pos h2, e1, e2, bit_at (by omega) (by omega), has_v (by omega) (by omega)]
    by_cases c1 : nI (bv S s) = 0
    · rw [if_pos c1, if_pos c1]
      have q1 : ∀ y, D_X7_fraction_j9 0 1 y = y / 1 := fun y => rfl
      unfold D_X7_fraction
      rw [q1, q1]
      by_cases c2 : a2 = 0
      · rw [if_pos c2, if_pos c2]
        decide
      · rw [if_neg c2, if_neg c2]
        decide
    · rw [if_neg c1, if_neg c1]
      unfold D_X8_share_k52 D_X7_gainInAllOrders D_X7_gainInAllOrders_c16 D_X7_gainInAllOrders_k24
      have hb : ¬ D_X8_has (nI S) (nI s) = 0 := by rw [has_v (by omega) (by omega)]; exact c1
      obtain ⟨B, w1, w2, w3⟩ := ways_b (nI S)
      dsimp only
      rw [e2, gain_l hG e2 hs8 _ ((less_one S hS s hs8).resolve_left hb) 256 (Nat.le_refl _), fact_eq, bc_many hS, w1]
      exact frac_eq w2 w3 _ _
