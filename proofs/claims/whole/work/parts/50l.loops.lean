/-! judge, years -/
theorem rng_cases (x : Int32) {A B : Nat} (hA : A < 2147483648) (hB : B < 2147483647) : (D_X8_in x.toInt64 (lN A) (lN B) = 0 ∧ (x.toInt < A ∨ (B : Int) < x.toInt)) ∨ ∃ j, A ≤ j ∧ j ≤ B ∧ x = nI j ∧ D_X8_in x.toInt64 (lN A) (lN B) = 1 := by
  rw [in_iff, Int32.toInt_toInt64, lN_toInt hA, lN_toInt (by omega)]
  by_cases c : (A : Int) ≤ x.toInt ∧ x.toInt ≤ B
  · rw [if_pos c]
    obtain ⟨j, hj, e⟩ := vp_in_of (x := x) (n := B + 1) (by rw [vp_in_iff]; omega) (by omega)
    have e2 : x.toInt = j := by rw [e, nI_toInt (by omega)]
    exact Or.inr ⟨j, by omega, by omega, e, rfl⟩
  · rw [if_neg c]
    exact Or.inl ⟨rfl, by omega⟩
theorem wld_l (P : Nat) (hP : P < 2 ^ 63) : ∀ n, D_X7_withoutLastDoings_l5 (lN P) n = lN (P / 1000 ^ n)
  | 0 => by rw [Nat.pow_zero, Nat.div_one]; rfl
  | n + 1 => by
    have h1 : P / 1000 ^ n ≤ P := Nat.div_le_self _ _
    rw [D_X7_withoutLastDoings_l5, wld_l P hP n]
    unfold D_X7_withoutLastDoings_b5
    rw [show (1000 : Int64) = lN 1000 from rfl, pk_lDiv (by omega) (by omega) (by omega), Nat.div_div_eq_div_mul, Nat.pow_succ]
theorem wld_v {P : Nat} (hP : P < 2 ^ 63) {k : Nat} (hk : k < 1000) : D_X7_withoutLastDoings (lN P) (nI k) = lN (P / 1000 ^ k) := by
  unfold D_X7_withoutLastDoings D_X7_withoutLastDoings_k5
  rw [nI_clamp (by omega), wld_l P hP]
theorem lp_l : ∀ n, D_X8_longPower_l5 1000 1 n = lN (1000 ^ n)
  | 0 => rfl
  | n + 1 => by
    rw [D_X8_longPower_l5, lp_l n]
    unfold D_X8_longPower_b5
    rw [show (1000 : Int64) = lN 1000 from rfl, lN_mul, Nat.pow_succ]
theorem lp_v {k : Nat} (hk : k < 1000) : D_X8_longPower 1000 (nI k) = lN (1000 ^ k) := by
  unfold D_X8_longPower D_X8_longPower_k5
  rw [nI_clamp (by omega), lp_l]
theorem p1000 {e : Nat} (he : e ≤ 4) : 0 < 1000 ^ e ∧ 1000 ^ e ≤ 1000000000000 := by
  have : e = 0 ∨ e = 1 ∨ e = 2 ∨ e = 3 ∨ e = 4 := by omega
  rcases this with rfl | rfl | rfl | rfl | rfl <;> decide
theorem dig_v {V : Nat} (hV : V < 1000) : nI V / (100 : Int32) = nI (V / 100) ∧ nI V / (10 : Int32) - nI V / (10 : Int32) / (10 : Int32) * (10 : Int32) = nI (V / 10 % 10) ∧ nI V - nI V / (10 : Int32) * (10 : Int32) = nI (V % 10) := by
  have h10 : (10 : Int32) = nI 10 := rfl
  have h100 : (100 : Int32) = nI 100 := rfl
  rw [h10, h100]
  refine ⟨pk_div (by omega) (by omega) (by omega), ?_, pk_rem (by omega) (by omega) (by omega)⟩
  rw [pk_div (by omega) (by omega) (by omega), pk_rem (by omega) (by omega) (by omega)]
theorem judge_l {kn gr kq gd : Nat → Int32} {c th : Int32} (hG : RG kn gr c th kq gd) {P N : Nat} (hP : P < 2 ^ 63) (hN : N ≤ 4) : ∀ (k i : Nat) (sp pg : Nat → Int32) (nt : Int32), i + k = N → TS sp pg → (D_X7_judge_l46 (nI N) (lN P) kn gr c k i sp nt).1 = (D_X8_judge_l44 (nI N) (lN P) th kq gd k i pg).1
  | 0, i, sp, pg, nt, _, h => rfl
  | k + 1, i, sp, pg, nt, hi, h => by
    have e0 : nI N - 1 - nI i = nI (N - 1 - i) := by
      rw [show (1 : Int32) = nI 1 from rfl, pk_sub (by omega), pk_sub (by omega)]
    obtain ⟨p0, p1⟩ := p1000 (e := N - 1 - i) (by omega)
    have hd : P / 1000 ^ (N - 1 - i) ≤ P := Nat.div_le_self _ _
    obtain ⟨V, hV⟩ : ∃ V, V = P / 1000 ^ (N - 1 - i) % 1000 := ⟨_, rfl⟩
    have hV2 : V < 1000 := by omega
    have eX : (D_X7_withoutLastDoings (lN P) (nI N - 1 - nI i) - D_X7_withoutLastDoings (lN P) (nI N - 1 - nI i) / (1000 : Int64) * (1000 : Int64)).toInt32 = nI V := by
      rw [e0, wld_v hP (by omega), show (1000 : Int64) = lN 1000 from rfl, pk_lRem (by omega) (by omega) (by omega), lN_i, hV]
    have eM : (lN P / D_X8_longPower 1000 (nI N - 1 - nI i) - lN P / D_X8_longPower 1000 (nI N - 1 - nI i) / (1000 : Int64) * (1000 : Int64)).toInt32 = nI V := by
      rw [e0, lp_v (by omega), pk_lDiv hP p0 (by omega), show (1000 : Int64) = lN 1000 from rfl, pk_lRem (by omega) (by omega) (by omega), lN_i, hV]
    obtain ⟨d1, d2, d3⟩ := dig_v hV2
    obtain ⟨t1, t2⟩ := try_eq h hG nt (V := V) (a := V / 100) (b := V / 10 % 10) (d := V % 10) (by omega) (by omega) (by omega) (by omega)
    by_cases c1 : (D_X8_does th kq gd pg (nI V)).1 = 0
    · rw [D_X7_judge_l46_r (nI N) (lN P) kn gr c k i sp nt _ (by unfold D_X7_judge_b46 D_X7_judge_c67; rw [eX, d1, d2, d3, t1]; exact if_pos c1), D_X8_judge_l44_r (nI N) (lN P) th kq gd k i pg _ (by unfold D_X8_judge_b44; rw [eM]; exact if_pos c1)]
    · rw [D_X7_judge_l46_s (nI N) (lN P) kn gr c k i sp nt _ _ (by unfold D_X7_judge_b46 D_X7_judge_c67; rw [eX, d1, d2, d3, t1]; exact if_neg c1), D_X8_judge_l44_s (nI N) (lN P) th kq gd k i pg _ (by unfold D_X8_judge_b44; rw [eM]; exact if_neg c1)]
      exact judge_l hG hP hN k (i + 1) _ _ _ (by omega) t2
theorem judge_key {sp pg kn gr kq gd : Nat → Int32} {c th : Int32} (h : TS sp pg) (hG : RG kn gr c th kq gd) (nt : Int32) (tr : Nat → Int32) (tn : Int32) (mt : Nat → Int32) (a1 : Int32) (a2 : Int64) : (D_X7_judge sp nt tr tn kn gr c a1 a2).1 = (D_X8_judge th kq gd pg mt a1 a2).1 := by
  unfold D_X7_judge D_X8_judge
  have e : D_X8_in a1.toInt64 1 4 = D_X8_in a1.toInt64 (lN 1) (lN 4) := rfl
  have h1' : (1 : Int32).toInt = 1 := by decide
  have h4' : (4 : Int32).toInt = 4 := by decide
  rw [e]
  rcases rng_cases a1 (A := 1) (B := 4) (by omega) (by omega) with ⟨h1, h2⟩ | ⟨N, hN1, hN, rfl, h1⟩
  · rw [h1, if_pos rfl]
    by_cases c1 : a1 < 1
    · rw [if_pos c1]
    · rw [if_neg c1]
      rw [Int32.lt_iff_toInt_lt, h1'] at c1
      rw [if_neg (fun z => by rw [Int32.le_iff_toInt_le, h4'] at z; omega)]
  · rw [h1, if_neg (show ¬ nI N < 1 from nI_nlt (b := 1) hN1 (by omega)), if_pos (show nI N ≤ 4 from nI_le (b := 4) hN (by omega)), if_neg (show ¬ (1 : Int32) = 0 by decide)]
    obtain ⟨p0, p1⟩ := p1000 (e := N) hN
    simp only [lg_cmp_lt, lg_cmp_eq]
    by_cases c1 : a2 < 0
    · rw [if_pos c1]
      have hz : ∀ X, D_X8_in a2 0 X = 0 := fun X => by
        rw [in_iff]
        refine if_neg (fun z => ?_)
        rw [Int64.lt_iff_toInt_lt] at c1
        omega
      rw [if_pos (hz _)]
    · rw [if_neg c1]
      obtain ⟨P, hP, rfl⟩ := pk_lOf c1
      rw [wld_v hP (by omega), in_iff, lp_v (by omega), show (1 : Int64) = lN 1 from rfl, lN_sub p0, pf_lI hP, pf_lI (by omega), show (0 : Int64) = lN 0 from rfl, pf_lI (by omega)]
      have hd : P / 1000 ^ N ≤ P := Nat.div_le_self _ _
      by_cases c2 : P < 1000 ^ N
      · rw [if_pos (show lN (P / 1000 ^ N) = lN 0 by rw [Nat.div_eq_of_lt c2]), if_pos (show ((0 : Nat) : Int) ≤ (P : Int) ∧ (P : Int) ≤ ((1000 ^ N - 1 : Nat) : Int) by omega), if_neg (by decide), nI_clamp (by omega)]
        exact judge_l hG hP hN N 0 _ _ _ (by omega) (TS_begin h tr nt mt)
      · have hpos : 0 < P / 1000 ^ N := Nat.div_pos (by omega) p0
        rw [if_neg (show ¬ lN (P / 1000 ^ N) = lN 0 from fun z => by have := (pk_lEQ (by omega) (by omega)).mp z; omega), if_neg (show ¬ (((0 : Nat) : Int) ≤ (P : Int) ∧ (P : Int) ≤ ((1000 ^ N - 1 : Nat) : Int)) by omega), if_pos rfl]
theorem yr1 : ∀ x, x < 24 → (100 : Int32) + 10 * (nI x / 3) + (nI x - nI x / 3 * 3) = nI (100 * 1 + 10 * (x / 3) + x % 3) ∧ nI x / 3 = nI (x / 3) ∧ nI x - nI x / 3 * 3 = nI (x % 3) := by decide +kernel
theorem pass_v {x : Nat} (hx : x < 36) (sp : Nat → Int32) (nt : Int32) (kn gr : Nat → Int32) (c : Int32) : ∃ V a b d, V = 100 * a + 10 * b + d ∧ a < 10 ∧ b < 10 ∧ d < 10 ∧ (D_X7_passYear sp nt (nI x)).1 = (D_X7_tryDoing sp nt kn gr c (nI a) (nI b) (nI d)).2.1 ∧ ∀ (th : Int32) (kq gd : Nat → Int32) (a0 : Int32) (s0 : Int64) (tr : Nat → Int32), D_X8_years_c61 th kq gd a0 s0 tr (nI x) = D_X8_years_j122 th kq gd a0 s0 tr (nI V) := by
  unfold D_X7_passYear D_X8_years_c61
  by_cases c1 : x < 24
  · obtain ⟨y1, y2, y3⟩ := yr1 x c1
    refine ⟨_, 1, x / 3, x % 3, rfl, by omega, by omega, by omega, ?_, fun th kq gd a0 s0 tr => ?_⟩
    · rw [if_neg (show ¬ (24 : Int32) ≤ nI x from nI_ge (b := 24) c1 (by omega)), y3, y2]
      unfold D_X7_tryDoing
      rw [if_pos (show nI 1 = (1 : Int32) from rfl)]
      split <;> rfl
    · rw [if_neg (show ¬ (24 : Int32) ≤ nI x from nI_ge (b := 24) c1 (by omega)), y1]
  · have k1 : (24 : Int32) ≤ nI x := nI_le (a := 24) (by omega) (by omega)
    by_cases c2 : x < 27
    · have k2 : ¬ (27 : Int32) ≤ nI x := nI_ge (b := 27) c2 (by omega)
      refine ⟨_, 2, 0, x - 24, rfl, by omega, by omega, by omega, ?_, fun th kq gd a0 s0 tr => ?_⟩
      · rw [if_pos k1, if_neg k2]
        unfold D_X7_tryDoing
        rw [if_neg (by decide), if_pos (show nI 0 = (0 : Int32) from rfl), if_neg (by decide), if_neg (by decide), if_pos (show nI 2 = (2 : Int32) from rfl), show (24 : Int32) = nI 24 from rfl, pk_sub (by omega)]
        split <;> rfl
      · rw [if_pos k1, if_neg k2, show (176 : Int32) = nI 176 from rfl, nI_add]
        congr 2
        omega
    · have k2 : (27 : Int32) ≤ nI x := nI_le (a := 27) (by omega) (by omega)
      by_cases c3 : x < 30
      · have k3 : ¬ (30 : Int32) ≤ nI x := nI_ge (b := 30) c3 (by omega)
        refine ⟨_, 5, 0, x - 27, rfl, by omega, by omega, by omega, ?_, fun th kq gd a0 s0 tr => ?_⟩
        · rw [if_pos k1, if_pos k2, if_neg k3]
          unfold D_X7_tryDoing
          rw [if_neg (by decide), if_pos (show nI 0 = (0 : Int32) from rfl), if_neg (by decide), if_neg (by decide), if_neg (by decide), if_neg (by decide), if_neg (by decide), if_pos (show nI 5 = (5 : Int32) from rfl), show (27 : Int32) = nI 27 from rfl, pk_sub (by omega)]
          split <;> rfl
        · rw [if_pos k1, if_pos k2, if_neg k3, show (473 : Int32) = nI 473 from rfl, nI_add]
          congr 2
          omega
      · have k3 : (30 : Int32) ≤ nI x := nI_le (a := 30) (by omega) (by omega)
        refine ⟨_, 0, 0, 0, rfl, by omega, by omega, by omega, ?_, fun th kq gd a0 s0 tr => ?_⟩
        · rw [if_pos k1, if_pos k2, if_pos k3]
          unfold D_X7_tryDoing
          rw [if_neg (by decide), if_pos (show nI 0 = (0 : Int32) from rfl), if_pos (show nI 0 = (0 : Int32) from rfl), if_pos (show nI 0 = (0 : Int32) from rfl)]
        · rw [if_pos k1, if_pos k2, if_pos k3]
          rfl
theorem draw_v (s : Int64) : ∃ x, x < 36 ∧ (((s.toUInt64 >>> ((33 : Int32).toInt64.toUInt64 &&& Int64.toUInt64 63)).toInt64 - (s.toUInt64 >>> ((33 : Int32).toInt64.toUInt64 &&& Int64.toUInt64 63)).toInt64 / (36 : Int64) * (36 : Int64)).toInt32) = nI x := by
  obtain ⟨q, hq, rfl⟩ := wb_of s
  refine ⟨q / 2 ^ 33 % 36, by omega, ?_⟩
  rw [show (33 : Int32) = nI 33 from rfl, wb_shr hq (by omega), show (36 : Int64) = lN 36 from rfl, pk_lRem (by omega) (by omega) (by omega), lN_i]
theorem so_many {sp pg kn gr kq gd : Nat → Int32} {c th : Int32} (h : TS sp pg) (hG : RG kn gr c th kq gd) : D_J6_bitCount_0f7a4 (D_X6_soBy kn gr c (D_X4_onSpikes sp)) = D_X8_many (D_X8_soThen th kq gd pg) := by
  obtain ⟨S, hS, e1, e2⟩ := TS_so h
  obtain ⟨T, hT, f1, f2⟩ := soBy_v hG hS
  unfold D_X8_soThen
  rw [e1, e2, f1, f2, bc_many (by omega)]
theorem years_l {kn gr kq gd : Nat → Int32} {c th : Int32} (hG : RG kn gr c th kq gd) (s0 : Int64) {sp pg : Nat → Int32} (h : TS sp pg) (nt : Int32) : ∀ n, (D_X7_years_l29 kn gr c 0 s0 sp nt n).1 = (D_X8_years_l28 th kq gd 0 s0 pg n).1 ∧ (D_X7_years_l29 kn gr c 0 s0 sp nt n).2.1 = (D_X8_years_l28 th kq gd 0 s0 pg n).2.1 ∧ TS (D_X7_years_l29 kn gr c 0 s0 sp nt n).2.2.1 (D_X8_years_l28 th kq gd 0 s0 pg n).2.2
  | 0 => ⟨rfl, rfl, h⟩
  | n + 1 => by
    obtain ⟨h1, h2, h3⟩ := years_l hG s0 h nt n
    rw [D_X7_years_l29, D_X8_years_l28]
    generalize D_X7_years_l29 kn gr c 0 s0 sp nt n = X at h1 h2 h3 ⊢
    generalize D_X8_years_l28 th kq gd 0 s0 pg n = M at h1 h2 h3 ⊢
    obtain ⟨x1, x2, x3, x4⟩ := X
    obtain ⟨m1, m2, m3⟩ := M
    dsimp only at h1 h2 h3 ⊢
    subst h1
    subst h2
    unfold D_X7_years_b29 D_X7_years_c85 D_X8_years_b28
    obtain ⟨x, hx, ex⟩ := draw_v (x2 * (6364136223846793005 : Int64) + (1442695040888963407 : Int64))
    rw [ex]
    obtain ⟨V, a, b, d, hV, ha, hb, hd, e1, e2⟩ := pass_v hx x3 x4 kn gr c
    obtain ⟨t1, t2⟩ := try_eq h3 hG x4 hV ha hb hd
    rw [e2]
    unfold D_X8_years_j122 D_X8_years_c135
    dsimp only
    rw [e1]
    exact ⟨by rw [so_many t2 hG], rfl, t2⟩
theorem years_key {sp pg kn gr kq gd : Nat → Int32} {c th : Int32} (h : TS sp pg) (hG : RG kn gr c th kq gd) (nt : Int32) (tr : Nat → Int32) (tn : Int32) (mt : Nat → Int32) (s0 : Int64) (a1 : Int32) : (D_X7_years sp nt tr tn kn gr c s0 a1).1 = (D_X8_years th kq gd pg mt s0 a1).1 ∧ (D_X7_years sp nt tr tn kn gr c s0 a1).2.2.2 = (D_X8_years th kq gd pg mt s0 a1).2.2.2 := by
  unfold D_X7_years D_X8_years
  have e : D_X8_in a1.toInt64 1 30 = D_X8_in a1.toInt64 (lN 1) (lN 30) := rfl
  have h1' : (1 : Int32).toInt = 1 := by decide
  have h30 : (30 : Int32).toInt = 30 := by decide
  rw [e]
  rcases rng_cases a1 (A := 1) (B := 30) (by omega) (by omega) with ⟨h1, h2⟩ | ⟨N, hN1, hN, rfl, h1⟩
  · rw [h1, if_pos rfl]
    by_cases c1 : a1 < 1
    · rw [if_pos c1]
      exact ⟨rfl, rfl⟩
    · rw [if_neg c1]
      rw [Int32.lt_iff_toInt_lt, h1'] at c1
      rw [if_neg (fun z => by rw [Int32.le_iff_toInt_le, h30] at z; omega)]
      exact ⟨rfl, rfl⟩
  · rw [h1, if_neg (show ¬ nI N < 1 from nI_nlt (b := 1) hN1 (by omega)), if_pos (show nI N ≤ 30 from nI_le (b := 30) hN (by omega)), if_neg (by decide), nI_clamp (by omega)]
    obtain ⟨k1, k2, k3⟩ := years_l hG s0 (TS_begin h tr nt mt) (D_X4_copyFrom tr sp nt).2 N
    exact ⟨k1, k2⟩
