theorem has_t {c : Int32} {t : Nat} (h : inR c 6) (ht : t < c.toNatClampNeg) : ¬ D_X6_has c (nI t) = 0 := by
  have h1 := cl_31 c
  unfold D_X6_has
  rw [if_neg (nI_pos (by omega)), if_neg (cl_lt ht)]
  decide
theorem groundOf_v {gr : Nat → Int32} {c : Int32} {t j : Nat} (h : inR c 6) (ht : t < c.toNatClampNeg) (ht6 : t < 6) (hj : j < 3) : D_X6_groundOf gr c (nI t) (nI j) = gr (3 * t + j) := by
  unfold D_X6_groundOf
  have e : (nI t * (3 : Int32) + nI j).toNatClampNeg = 3 * t + j := by
    rw [show (3 : Int32) = nI 3 from rfl, pk_mul, nI_add, Nat.mul_comm t 3]
    exact nI_clamp (by omega)
  rw [if_neg (has_t h ht), if_neg (nI_pos (by omega)), if_neg (fun z : (3 : Int32) ≤ nI j => absurd z (nI_ge (b := 3) hj (by omega))), e]
theorem cl_6 {c : Int32} (h : inR c 6) : c.toNatClampNeg ≤ 6 := by
  have h1 : c.toNatClampNeg = c.toInt.toNat := rfl
  unfold inR at h
  omega
def SG (v a b c : Nat) : Int32 := D_X6_isSoByGrounds (nI v) (nI a) (nI b) (nI c)
theorem isSo_v {kd gd : Nat → Int32} {t S T v x0 x1 x2 : Nat} (hS : S < 256) (hT : T < 64) (ht : t < 6) (hv : v < 4) (hk : kd t = nI v) (h0 : gd (3 * t + 0) = nI x0) (h1 : gd (3 * t + 1) = nI x1) (h2 : gd (3 * t + 2) = nI x2) (g0 : x0 < 8 ∨ (10 ≤ x0 ∧ x0 < 16)) (g1 : x1 < 8 ∨ (10 ≤ x1 ∧ x1 < 16)) (g2 : x2 < 8 ∨ (10 ≤ x2 ∧ x2 < 16)) :
    D_X8_isSo kd gd (nI t) (nI S) (nI T) = SG v (hold S T x0) (hold S T x1) (hold S T x2) := by
  have e0 : D_X8_holds gd (nI t) 0 (nI S) (nI T) = nI (hold S T x0) := hold_m (j := 0) hS hT ht (by omega) h0 g0
  have e1 : D_X8_holds gd (nI t) 1 (nI S) (nI T) = nI (hold S T x1) := hold_m (j := 1) hS hT ht (by omega) h1 g1
  have e2 : D_X8_holds gd (nI t) 2 (nI S) (nI T) = nI (hold S T x2) := hold_m (j := 2) hS hT ht (by omega) h2 g2
  unfold D_X8_isSo D_X8_isSo_j116 D_X8_isSo_j126 D_X8_isSo_j74
  rw [nI_clamp (by omega : t < 2 ^ 31), hk, e0, e1, e2]
  have hv4 : v = 0 ∨ v = 1 ∨ v = 2 ∨ v = 3 := by omega
  rcases hold_01 S T x0 with q0 | q0 <;> rcases hold_01 S T x1 with q1 | q1 <;> rcases hold_01 S T x2 with q2 | q2 <;> rw [q0, q1, q2] <;> rcases hv4 with rfl | rfl | rfl | rfl <;> decide
theorem b4_x {kn gr : Nat → Int32} {c : Int32} {t S T v x0 x1 x2 : Nat} (hc : inR c 6) (htc : t < c.toNatClampNeg) (hS : S < 256) (hT : T < 64) (ht : t < 6) (hk : kn t = nI v) (h0 : gr (3 * t + 0) = nI x0) (h1 : gr (3 * t + 1) = nI x1) (h2 : gr (3 * t + 2) = nI x2) (g0 : x0 < 8 ∨ (10 ≤ x0 ∧ x0 < 16)) (g1 : x1 < 8 ∨ (10 ≤ x1 ∧ x1 < 16)) (g2 : x2 < 8 ∨ (10 ≤ x2 ∧ x2 < 16)) :
    D_X6_soBy_b4 (nI S) kn gr c t (nI T) = if SG v (hold S T x0) (hold S T x1) (hold S T x2) = 0 then nI T else nI T ||| (1 <<< (nI t &&& 31)) := by
  have e0 : D_X6_groundOf gr c (nI t) 0 = nI x0 := (groundOf_v (j := 0) hc htc ht (by omega)).trans h0
  have e1 : D_X6_groundOf gr c (nI t) 1 = nI x1 := (groundOf_v (j := 1) hc htc ht (by omega)).trans h1
  have e2 : D_X6_groundOf gr c (nI t) 2 = nI x2 := (groundOf_v (j := 2) hc htc ht (by omega)).trans h2
  have ek : D_X6_kindOf kn c (nI t) = nI v := by
    unfold D_X6_kindOf
    rw [if_neg (has_t hc htc), nI_clamp (by omega), hk]
  unfold D_X6_soBy_b4 D_X6_soBy_j40 D_X6_soBy_j62 D_X6_soBy_j84
  rw [e0, e1, e2, ek, hold_x hS hT g0, hold_x hS hT g1, hold_x hS hT g2]
  unfold SG
  have z0 : ¬ nI 0 = (1 : Int32) := by decide
  have z1 : nI 1 = (1 : Int32) := by decide
  rcases hold_01 S T x0 with q0 | q0 <;> rcases hold_01 S T x1 with q1 | q1 <;> rcases hold_01 S T x2 with q2 | q2 <;> rw [q0, q1, q2] <;> simp only [z0, z1, if_true, if_false] <;> rfl
theorem two_pow6 {n : Nat} (h : n ≤ 6) : 2 ^ n ≤ 64 := Nat.le_trans (Nat.pow_le_pow_right (by omega) h) (by decide)
/-- what is so by these slips is the same on both sides, and a set of the things -/
theorem soBy_l {kn gr kd gd : Nat → Int32} {c th : Int32} (hR : RG kn gr c th kd gd) {S : Nat} (hS : S < 256) : ∀ n, n ≤ th.toNatClampNeg → ∃ T, T < 2 ^ n ∧ D_X6_soBy_l4 (nI S) kn gr c 0 n = nI T ∧ D_X8_soBy_l4 (nI S) kd gd 0 n = nI T
  | 0, _ => ⟨0, by decide, rfl, rfl⟩
  | n + 1, hn => by
    obtain ⟨T, h1, h2, h3⟩ := soBy_l hR hS n (by omega)
    obtain ⟨hc, h6, hth⟩ := hR
    have h66 := cl_6 h6
    obtain ⟨k1, ⟨v, hv, k2⟩, k3⟩ := hth n (by omega)
    obtain ⟨a0, x0, b0, g0⟩ := k3 0 (by omega)
    obtain ⟨a1, x1, b1, g1⟩ := k3 1 (by omega)
    obtain ⟨a2, x2, b2, g2⟩ := k3 2 (by omega)
    have hp := two_pow6 (n := n) (by omega)
    have hX := b4_x (S := S) (T := T) (x0 := x0) (x1 := x1) (x2 := x2) (kn := kn) (gr := gr) (c := c) (t := n) (v := v) (by rw [hc]; exact h6) (by rw [hc]; omega) hS (by omega) (by omega) (k1.trans k2) (a0.trans b0) (a1.trans b1) (a2.trans b2) (by omega) (by omega) (by omega)
    have hM := isSo_v (S := S) (T := T) (t := n) hS (by omega) (by omega) hv k2 b0 b1 b2 (by omega) (by omega) (by omega)
    rw [D_X6_soBy_l4, D_X8_soBy_l4, h2, h3, hX]
    unfold D_X8_soBy_b4
    rw [hM, bit_1n n (by omega), fa_or]
    split
    · refine ⟨T, by rw [Nat.pow_succ]; omega, rfl, ?_⟩
      exact Int32.or_zero
    · refine ⟨T ||| 2 ^ n, ?_, rfl, rfl⟩
      apply Nat.or_lt_two_pow
      · rw [Nat.pow_succ]; omega
      · rw [Nat.pow_succ]
        have : 0 < 2 ^ n := Nat.two_pow_pos n
        omega
theorem soBy_v {kn gr kd gd : Nat → Int32} {c th : Int32} (hR : RG kn gr c th kd gd) {S : Nat} (hS : S < 256) : ∃ T, T < 64 ∧ D_X6_soBy kn gr c (nI S) = nI T ∧ D_X8_soBy th kd gd (nI S) = nI T := by
  obtain ⟨T, h1, h2, h3⟩ := soBy_l hR hS _ (Nat.le_refl _)
  have h66 := cl_6 hR.2.1
  have := two_pow6 h66
  refine ⟨T, by omega, ?_, h3⟩
  unfold D_X6_soBy D_X6_soBy_k4
  rw [hR.1]
  rw [← hR.1] at h2 ⊢
  exact h2
theorem soBy_eq {kn gr kd gd : Nat → Int32} {c th : Int32} (hR : RG kn gr c th kd gd) {S : Nat} (hS : S < 256) : D_X6_soBy kn gr c (nI S) = D_X8_soBy th kd gd (nI S) := by
  obtain ⟨T, -, h1, h2⟩ := soBy_v hR hS
  rw [h1, h2]
