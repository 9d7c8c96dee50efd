/-! small facts of counters and bounds -/
def inR (x : Int32) (n : Nat) : Prop := 0 ≤ x.toInt ∧ x.toInt ≤ n
theorem cl_toInt {B : Int32} (h : 0 < B.toNatClampNeg) : B.toInt = (B.toNatClampNeg : Int) := by
  have h1 : B.toNatClampNeg = B.toInt.toNat := rfl
  omega
theorem cl_le0 {B : Int32} : B.toInt ≤ (B.toNatClampNeg : Int) := by
  have h1 : B.toNatClampNeg = B.toInt.toNat := rfl
  omega
theorem cl_31 (B : Int32) : B.toNatClampNeg < 2147483648 := by
  have h1 : B.toNatClampNeg = B.toInt.toNat := rfl
  have h2 := B.toInt_lt
  have h3 := B.le_toInt
  omega
theorem cl_lt {B : Int32} {k : Nat} (h : k < B.toNatClampNeg) : ¬ B ≤ nI k := by
  have h1 := cl_31 B
  have h2 := cl_toInt (B := B) (by omega)
  rw [Int32.le_iff_toInt_le, nI_toInt (by omega)]
  omega
theorem cl_ge {B : Int32} {k : Nat} (h : k = B.toNatClampNeg) : B ≤ nI k := by
  have h1 := cl_31 B
  have h2 := cl_le0 (B := B)
  rw [Int32.le_iff_toInt_le, nI_toInt (by omega)]
  omega
theorem cl_le {B : Int32} {k : Nat} (h : k ≤ B.toNatClampNeg) (h0 : 0 < k) : ¬ B < nI k := by
  have h1 := cl_31 B
  have h2 := cl_toInt (B := B) (by omega)
  rw [Int32.lt_iff_toInt_lt, nI_toInt (by omega)]
  omega
theorem cl_gt {B : Int32} {k : Nat} (h : B.toNatClampNeg < k ∧ k < 2147483648) : B < nI k := by
  have h2 := cl_le0 (B := B)
  rw [Int32.lt_iff_toInt_lt, nI_toInt (by omega)]
  omega
theorem cl_ltc {B : Int32} {N k : Nat} (hB : B = nI N) (h : k < N) (hN : N < 2147483648) : ¬ B ≤ nI k := by
  subst hB
  exact nI_ge h hN
theorem cl_lec {B : Int32} {N k : Nat} (hB : B = nI N) (h : k ≤ N) (hN : N < 2147483648) : ¬ B < nI k := by
  subst hB
  exact nI_nlt h hN
theorem dn_step (s i : Nat) : nI s - nI i + Int32.ofInt (-1) = nI s - nI (i + 1) := by
  have h : Int32.ofInt (-1) = -1 := by decide
  rw [h, nI_succ, Int32.sub_eq_add_neg, Int32.sub_eq_add_neg, Int32.neg_add, Int32.sub_eq_add_neg, Int32.add_assoc]
theorem dn_go (s i : Nat) (h : i < 8) (hs : s = 7 := by rfl) : ¬ (nI s - nI i < 0) := by
  subst hs
  revert i
  decide
theorem dn_end7 : nI 7 - nI 8 < 0 := by decide
theorem dn_in (s i : Nat) (h : i < 8) (hs : s < 2147483648) (h7 : s = 7 := by rfl) : vp_in (nI s - nI i) 8 := by
  subst h7
  have h2 : ∀ i, i < 8 → nI 7 - nI i = nI (7 - i) := by decide
  rw [h2 i h]
  exact vp_in_nI (by omega) (by decide)
theorem vin_le {x : Int32} {a b : Nat} (h : vp_in x a) (hab : a ≤ b) : vp_in x b := by
  rw [vp_in_iff] at h ⊢
  omega
theorem inR_in {x : Int32} {n k : Nat} (h : inR x n) (hk : n < k) : vp_in x k := by
  rw [vp_in_iff]
  unfold inR at h
  omega
