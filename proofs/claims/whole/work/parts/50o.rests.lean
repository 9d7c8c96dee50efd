/-! rests -/
theorem bits_or (x a b : Int32) : (x &&& (a ^^^ -1)) &&& (b ^^^ -1) = x &&& ((a ||| b) ^^^ -1) := by
  apply Int32.toBitVec_inj.1
  have e : (-1 : Int32).toBitVec = BitVec.allOnes 32 := by decide
  simp only [Int32.toBitVec_and, Int32.toBitVec_or, Int32.toBitVec_xor, e]
  apply BitVec.eq_of_getLsbD_eq
  intro i hi
  simp only [BitVec.getLsbD_and, BitVec.getLsbD_or, BitVec.getLsbD_xor, BitVec.getLsbD_allOnes, hi, decide_true]
  cases x.toBitVec.getLsbD i <;> cases a.toBitVec.getLsbD i <;> cases b.toBitVec.getLsbD i <;> rfl
theorem chosen_eq : ∀ S, S < 256 → ∀ q, q < 3 → D_X7_slipChosen (nI q) (nI S) = D_X8_takenBy (nI S) (nI q) := by decide +kernel
section RESTS
variable {sp pg kn gr kq gd : Nat → Int32} {c th : Int32} {S t1 t2 : Nat}
def WO (sp kn gr : Nat → Int32) (c : Int32) (t1 t2 i j : Nat) : Int32 := D_X7_worth sp kn gr c (nI t1) (nI t2) (nI i) (nI j)
theorem worth_b : ∀ x, x < 2 → ∀ y, y < 2 → ∀ i, i < 3 → ((3 : Int32) * nI x + 1 - nI y - (if nI i ≤ 0 then 0 else 1)) = (if nI i = 0 then (if nI y = 0 then 3 * nI x + 1 else 3 * nI x) else (if nI y = 0 then (3 * nI x + (-1)) + 1 else 3 * nI x + (-1))) := by decide
theorem worth_v (hG : RG kn gr c th kq gd) (hS : S < 256) (eX : D_X4_onSpikes sp = nI S) (h1 : t1 < 6) (h2 : t2 < 6) {i j : Nat} (hi : i < 3) (hj : j < 3) : ∃ T, T < 64 ∧ D_X8_soBy th kq gd (nI S &&& ((D_X8_takenBy (nI S) (nI i) ||| D_X8_takenBy (nI S) (nI j)) ^^^ -1)) = nI T ∧ WO sp kn gr c t1 t2 i j = 3 * nI (bv T t1) + 1 - nI (bv T t2) - (if nI i ≤ 0 then 0 else 1) ∧ WO sp kn gr c t2 t1 j i = 3 * nI (bv T t2) + 1 - nI (bv T t1) - (if nI j ≤ 0 then 0 else 1) := by
  obtain ⟨C, hC, e⟩ := and_256 hS ((D_X8_takenBy (nI S) (nI i) ||| D_X8_takenBy (nI S) (nI j)) ^^^ -1)
  obtain ⟨T, hT, f1, f2⟩ := soBy_v hG hC
  have e' : nI S &&& ((D_X8_takenBy (nI S) (nI j) ||| D_X8_takenBy (nI S) (nI i)) ^^^ -1) = nI C := by rw [Int32.or_comm]; exact e
  refine ⟨T, hT, by rw [e]; exact f2, ?_, ?_⟩
  · unfold WO D_X7_worth D_X7_worth_c37 D_X7_worth_j56
    rw [eX, chosen_eq S hS i hi, chosen_eq S hS j hj, bits_or, e, f1, bit_at (by omega) (by omega), bit_at (by omega) (by omega)]
    exact (worth_b _ (by rcases bv_01 T t1 with z | z <;> omega) _ (by rcases bv_01 T t2 with z | z <;> omega) i hi).symm
  · unfold WO D_X7_worth D_X7_worth_c37 D_X7_worth_j56
    rw [eX, chosen_eq S hS i hi, chosen_eq S hS j hj, bits_or, e', f1, bit_at (by omega) (by omega), bit_at (by omega) (by omega)]
    exact (worth_b _ (by rcases bv_01 T t2 with z | z <;> omega) _ (by rcases bv_01 T t1 with z | z <;> omega) j hj).symm
theorem g_ix : ∀ k, k < 9 → ((2 : Int32) * nI k).toNatClampNeg = 2 * k ∧ ((2 : Int32) * nI k + 1).toNatClampNeg = 2 * k + 1 ∧ nI k / 3 = nI (k / 3) ∧ nI k - nI k / 3 * 3 = nI (k % 3) := by decide
theorem gains_l (hG : RG kn gr c th kq gd) (hS : S < 256) (eX : D_X4_onSpikes sp = nI S) (eM : D_X8_onSpikes pg = nI S) (h1 : t1 < 6) (h2 : t2 < 6) (g0 : Nat → Int32) : ∀ n, n ≤ 9 → ∀ k, k < n → D_X8_rests_l53 (nI t1) (nI t2) th kq gd pg g0 n (2 * k) = WO sp kn gr c t1 t2 (k / 3) (k % 3) ∧ D_X8_rests_l53 (nI t1) (nI t2) th kq gd pg g0 n (2 * k + 1) = WO sp kn gr c t2 t1 (k % 3) (k / 3)
  | 0, _ => fun k hk => absurd hk (Nat.not_lt_zero k)
  | n + 1, hn => by
    have ih := gains_l hG hS eX eM h1 h2 g0 n (by omega)
    obtain ⟨i1, i2, i3, i4⟩ := g_ix n (by omega)
    obtain ⟨T, hT, w0, w1, w2⟩ := worth_v hG hS eX h1 h2 (i := n / 3) (j := n % 3) (by omega) (by omega)
    have key : D_X8_rests_l53 (nI t1) (nI t2) th kq gd pg g0 (n + 1) = upd (upd (D_X8_rests_l53 (nI t1) (nI t2) th kq gd pg g0 n) (2 * n) (WO sp kn gr c t1 t2 (n / 3) (n % 3))) (2 * n + 1) (WO sp kn gr c t2 t1 (n % 3) (n / 3)) := by
      rw [D_X8_rests_l53]
      unfold D_X8_rests_b53 D_X8_rests_c88 D_X8_rests_j135 D_X8_rests_j168
      rw [i4, i3, eM, w0, i1, i2, bit_at (by omega) (by omega), bit_at (by omega) (by omega), w1, w2]
      by_cases q1 : nI (n / 3) ≤ 0 <;> by_cases q2 : nI (n % 3) ≤ 0 <;> simp only [if_pos, if_neg, q1, q2, not_false_eq_true]
    intro k hk
    rw [key]
    by_cases hkn : k = n
    · subst hkn
      rw [up_n _ _ (by omega), up_s, up_s]
      exact ⟨rfl, rfl⟩
    · rw [up_n _ _ (by omega), up_n _ _ (by omega), up_n _ _ (by omega), up_n _ _ (by omega)]
      exact ih k (by omega)
theorem best_l (p0 p1 p3 w : Int32) : ∀ n i, i + n = 3 → (D_X7_isBest_l14 p0 p1 p3 sp kn gr c w n i = 0 ↔ ∃ o, i ≤ o ∧ o < 3 ∧ ¬ D_X7_worth sp kn gr c p0 p1 (nI o) p3 ≤ w)
  | 0, i, hi => ⟨fun z => absurd (show (1 : Int32) = 0 from z) (by decide), fun ⟨q, h1, h2, _⟩ => by omega⟩
  | n + 1, i, hi => by
    by_cases g : D_X7_worth sp kn gr c p0 p1 (nI i) p3 ≤ w
    · rw [D_X7_isBest_l14_s _ _ _ _ _ _ _ _ _ _ (by unfold D_X7_isBest_b14; exact if_pos g), best_l p0 p1 p3 w n (i + 1) (by omega)]
      refine ⟨fun ⟨q, h1, h2, h3⟩ => ⟨q, by omega, h2, h3⟩, fun ⟨q, h1, h2, h3⟩ => ⟨q, ?_, h2, h3⟩⟩
      by_cases hqi : q = i
      · subst hqi
        exact absurd g h3
      · omega
    · rw [D_X7_isBest_l14_r _ _ _ _ _ _ _ _ _ _ _ (by unfold D_X7_isBest_b14; exact if_neg g)]
      exact ⟨fun _ => ⟨i, by omega, by omega, g⟩, fun _ => rfl⟩
theorem best_v (sp kn gr : Nat → Int32) (c : Int32) (t1 t2 i j : Nat) : D_X7_isBest sp kn gr c (nI t1) (nI t2) (nI i) (nI j) = 0 ↔ ∃ o, o < 3 ∧ WO sp kn gr c t1 t2 i j < WO sp kn gr c t1 t2 o j := by
  unfold D_X7_isBest D_X7_isBest_c9
  refine (best_l _ _ _ _ 3 0 (by omega)).trans ⟨fun ⟨o, _, h2, h3⟩ => ⟨o, h2, ?_⟩, fun ⟨o, h2, h3⟩ => ⟨o, by omega, h2, ?_⟩⟩
  · exact Int32.not_le.mp h3
  · exact Int32.not_le.mpr h3
theorem ga_ix : ∀ k, k < 9 → ∀ o, o < 3 → ((2 : Int32) * (3 * nI o + (nI k - nI k / 3 * 3))).toNatClampNeg = 2 * (3 * o + k % 3) ∧ ((2 : Int32) * (nI k - (nI k - nI k / 3 * 3) + nI o) + 1).toNatClampNeg = 2 * (3 * (k / 3) + o) + 1 := by decide
theorem l203 {G : Nat → Int32} {k : Nat} (hk : k < 9) : ∀ n, n ≤ 3 → (D_X8_rests_l203 G k 1 n = 0 ↔ ∃ o, o < n ∧ (G (2 * k) < G (2 * (3 * o + k % 3)) ∨ G (2 * k + 1) < G (2 * (3 * (k / 3) + o) + 1)))
  | 0, _ => ⟨fun z => absurd (show (1 : Int32) = 0 from z) (by decide), fun ⟨q, h1, _⟩ => by omega⟩
  | n + 1, hn => by
    have ih := l203 (G := G) hk n (by omega)
    obtain ⟨i1, i2, i3, i4⟩ := g_ix k hk
    obtain ⟨i5, i6⟩ := ga_ix k hk n (by omega)
    rw [D_X8_rests_l203]
    unfold D_X8_rests_b203
    rw [i5, i6, i1, i2]
    by_cases g0 : D_X8_rests_l203 G k 1 n = 0
    · rw [if_pos g0]
      obtain ⟨q, h1, h2⟩ := ih.mp g0
      exact ⟨fun _ => ⟨q, by omega, h2⟩, fun _ => rfl⟩
    · rw [if_neg g0]
      by_cases g1 : G (2 * k) < G (2 * (3 * n + k % 3))
      · rw [if_pos g1]
        exact ⟨fun _ => ⟨n, by omega, Or.inl g1⟩, fun _ => rfl⟩
      · rw [if_neg g1]
        by_cases g2 : G (2 * k + 1) < G (2 * (3 * (k / 3) + n) + 1)
        · rw [if_pos g2]
          exact ⟨fun _ => ⟨n, by omega, Or.inr g2⟩, fun _ => rfl⟩
        · rw [if_neg g2]
          refine ⟨fun z => absurd z (by decide), fun ⟨q, h1, h2⟩ => ?_⟩
          by_cases hqn : q = n
          · subst hqn
            exact absurd h2 (fun z => z.elim g1 g2)
          · exact absurd (ih.mpr ⟨q, by omega, h2⟩) g0
theorem rest_e {G : Nat → Int32} (hg : ∀ k, k < 9 → G (2 * k) = WO sp kn gr c t1 t2 (k / 3) (k % 3) ∧ G (2 * k + 1) = WO sp kn gr c t2 t1 (k % 3) (k / 3)) {i j : Nat} (hi : i < 3) (hj : j < 3) : (D_X8_rests_l203 G (3 * i + j) 1 3 = 0) ↔ (D_X7_isBest sp kn gr c (nI t1) (nI t2) (nI i) (nI j) = 0 ∨ D_X7_isBest sp kn gr c (nI t2) (nI t1) (nI j) (nI i) = 0) := by
  have d1 : (3 * i + j) / 3 = i := by omega
  have d2 : (3 * i + j) % 3 = j := by omega
  rw [best_v, best_v]
  refine (l203 (by omega) 3 (by omega)).trans ?_
  obtain ⟨k1, k2⟩ := hg (3 * i + j) (by omega)
  rw [d1, d2] at k1 k2
  rw [k1, k2, d1, d2]
  have ho : ∀ o, o < 3 → G (2 * (3 * o + j)) = WO sp kn gr c t1 t2 o j ∧ G (2 * (3 * i + o) + 1) = WO sp kn gr c t2 t1 o i := fun o ho => by
    have x1 := (hg (3 * o + j) (by omega)).1
    have x2 := (hg (3 * i + o) (by omega)).2
    rw [show (3 * o + j) / 3 = o by omega, show (3 * o + j) % 3 = j by omega] at x1
    rw [show (3 * i + o) / 3 = i by omega, show (3 * i + o) % 3 = o by omega] at x2
    exact ⟨x1, x2⟩
  constructor
  · rintro ⟨o, h1, h2⟩
    rw [(ho o h1).1, (ho o h1).2] at h2
    rcases h2 with h2 | h2
    · exact Or.inl ⟨o, h1, h2⟩
    · exact Or.inr ⟨o, h1, h2⟩
  · rintro (⟨o, h1, h2⟩ | ⟨o, h1, h2⟩)
    · exact ⟨o, h1, by rw [(ho o h1).1]; exact Or.inl h2⟩
    · exact ⟨o, h1, by rw [(ho o h1).2]; exact Or.inr h2⟩
def RQ (G : Nat → Int32) (k : Nat) (X : Int32 × Int32) : Prop := D_X8_rests_l190 G (-9) 0 k = (X.2, X.1) ∧ CI k X.1 X.2
theorem rest_v9 : ∀ i, i < 3 → ∀ j, j < 3 → (10 : Int32) * (nI (3 * i + j) / 3) + (nI (3 * i + j) - nI (3 * i + j) / 3 * 3) = 10 * nI i + nI j ∧ ¬ (10 : Int32) * nI i + nI j = -9 := by decide
theorem rest_in {G : Nat → Int32} (hg : ∀ k, k < 9 → G (2 * k) = WO sp kn gr c t1 t2 (k / 3) (k % 3) ∧ G (2 * k + 1) = WO sp kn gr c t2 t1 (k % 3) (k / 3)) {i : Nat} (hi : i < 3) {a f : Int32} (h : RQ G (3 * i) (a, f)) : ∀ j, j ≤ 3 → RQ G (3 * i + j) (D_X7_rests_l60 (nI t1) (nI t2) sp kn gr c i a f j)
  | 0, _ => h
  | j + 1, hj => by
    obtain ⟨h1, h2⟩ := rest_in hg hi h j (by omega)
    rw [D_X7_rests_l60]
    unfold RQ
    rw [show 3 * i + (j + 1) = (3 * i + j) + 1 by omega, D_X8_rests_l190, h1]
    generalize D_X7_rests_l60 (nI t1) (nI t2) sp kn gr c i a f j = X at h2 ⊢
    obtain ⟨x1, x2⟩ := X
    dsimp only at h2 ⊢
    have ez := CI_z (by omega) h2
    have he := rest_e hg hi (show j < 3 by omega)
    obtain ⟨v1, v2⟩ := rest_v9 i hi j (by omega)
    unfold D_X7_rests_b60 D_X8_rests_b190 D_X8_rests_k203 D_X8_rests_j316 D_X8_rests_j320 D_X8_rests_j338
    rw [v1]
    simp only [ez]
    have hno : ((x2, x1 + 0) = (x2, x1) ∧ CI (3 * i + j + 1) x1 x2) := ⟨by rw [Int32.add_zero], CI_no h2⟩
    have hy := CI_yes v2 h2
    by_cases b1 : D_X7_isBest sp kn gr c (nI t1) (nI t2) (nI i) (nI j) = 0
    · have g := he.mpr (Or.inl b1)
      simp only [if_pos g, if_pos b1]
      exact hno
    · by_cases b2 : D_X7_isBest sp kn gr c (nI t2) (nI t1) (nI j) (nI i) = 0
      · have g := he.mpr (Or.inr b2)
        simp only [if_pos g, if_neg b1, if_pos b2]
        exact hno
      · have g : ¬ D_X8_rests_l203 G (3 * i + j) 1 3 = 0 := fun z => (he.mp z).elim b1 b2
        simp only [if_neg g, if_neg b1, if_neg b2]
        by_cases g2 : x2 = -9
        · rw [if_pos g2] at hy
          simp only [if_pos g2]
          first | exact ⟨rfl, hy⟩ | exact ⟨trivial, hy⟩
        · rw [if_neg g2] at hy
          simp only [if_neg g2]
          first | exact ⟨rfl, hy⟩ | exact ⟨trivial, hy⟩
theorem rest_out {G : Nat → Int32} (hg : ∀ k, k < 9 → G (2 * k) = WO sp kn gr c t1 t2 (k / 3) (k % 3) ∧ G (2 * k + 1) = WO sp kn gr c t2 t1 (k % 3) (k / 3)) : ∀ i, i ≤ 3 → RQ G (3 * i) (D_X7_rests_l51 (nI t1) (nI t2) sp kn gr c 0 (-9) i)
  | 0, _ => ⟨rfl, CI_0⟩
  | i + 1, hi => by
    have h := rest_out hg i (by omega)
    rw [D_X7_rests_l51]
    unfold D_X7_rests_b51 D_X7_rests_k60
    exact rest_in hg (by omega) (a := (D_X7_rests_l51 (nI t1) (nI t2) sp kn gr c 0 (-9) i).1) (f := (D_X7_rests_l51 (nI t1) (nI t2) sp kn gr c 0 (-9) i).2) h 3 (by omega)
theorem rests_key (h : TS sp pg) (hG : RG kn gr c th kq gd) (rm rf : Int32) (g0 : Nat → Int32) (a1 a2 a3 : Int32) : D_X7_rests sp kn gr c a1 a2 a3 = (D_X8_rests th kq gd pg rm rf g0 a1 a2 a3).1 := by
  obtain ⟨S, hS, eX, eM⟩ := TS_so h
  unfold D_X7_rests D_X8_rests
  rcases thing_cases hG a1 with ⟨h1, h2⟩ | ⟨t1, ht1, _, rfl, h1, h2⟩
  · rw [if_pos h1, if_neg h2]
  · rw [if_neg h1, if_pos h2]
    rcases thing_cases hG a2 with ⟨h3, h4⟩ | ⟨t2, ht2, _, rfl, h3, h4⟩
    · rw [if_pos h3, if_neg h4]
    · rw [if_neg h3, if_pos h4]
      by_cases c0 : nI t1 = nI t2
      · rw [if_pos c0, if_pos c0]
      · rw [if_neg c0, if_neg c0]
        have hg := gains_l hG hS eX eM ht1 ht2 g0 9 (Nat.le_refl _)
        obtain ⟨q1, q2⟩ := rest_out hg 3 (by omega)
        unfold D_X7_rests_j41 D_X7_rests_k51 D_X8_rests_k53 D_X8_rests_k190
        rw [show D_X8_rests_l190 (D_X8_rests_l53 (nI t1) (nI t2) th kq gd pg g0 9) (-9) 0 9 = _ from q1]
        generalize D_X7_rests_l51 (nI t1) (nI t2) sp kn gr c 0 (-9) 3 = X
        dsimp only
        have e : D_X8_in a3.toInt64 0 1 = D_X8_in a3.toInt64 0 (lN 1) := rfl
        rw [e]
        rcases in_cases a3 (b := 1) (by omega) with ⟨g1, g2⟩ | ⟨j, hj, rfl, g1⟩
        · rw [g1, if_pos rfl, if_neg (fun z => by rw [z, show (0 : Int32).toInt = 0 by decide] at g2; omega), if_neg (fun z => by rw [z, show (1 : Int32).toInt = 1 by decide] at g2; omega)]
        · rw [g1, if_neg (show ¬ (1 : Int32) = 0 by decide)]
          have : j = 0 ∨ j = 1 := by omega
          rcases this with rfl | rfl
          · rw [if_pos (show nI 0 = (0 : Int32) from rfl), if_pos (show nI 0 = (0 : Int32) from rfl), if_pos (show nI 0 = (0 : Int32) from rfl)]
          · have q : ¬ nI 1 = (0 : Int32) := by decide
            rw [if_neg q, if_neg q, if_neg q, if_pos (show nI 1 = (1 : Int32) from rfl)]
end RESTS
