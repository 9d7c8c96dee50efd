/-! the fewest slips -/
theorem mov_eq : ∀ S, S < 256 → (255 : Int32) - nI S = 255 &&& (nI S ^^^ -1) := by decide +kernel
theorem many_cmp {b i : Nat} (hb : b < 256) (hi : i < 256) : (D_J6_bitCount_0f7a4 (nI b) ≤ D_J6_bitCount_0f7a4 (nI i)) = (D_X8_many (nI b) ≤ D_X8_many (nI i)) := by rw [bc_many hb, bc_many hi]
theorem nI_eq9 (b : Nat) (h : b < 256) : ¬ nI b = -9 := fun z => by
  have := congrArg Int32.toInt z
  rw [nI_toInt (by omega), show (-9 : Int32).toInt = -9 by decide] at this
  omega
theorem few_l {sp pg kn gr kq gd : Nat → Int32} {c th : Int32} (hG : RG kn gr c th kq gd) {S : Nat} (hS : S < 256) (eX : D_X4_onSpikes sp = nI S) (eM : D_X8_onSpikes pg = nI S) {x : Int32} (hx : ¬ D_X6_has c x = 0) (p1 p2 : Int32) : ∀ n, n ≤ 256 → ∃ B F, D_X7_fewestToTurn_l20 x p1 p2 sp kn gr c (-9) 9 n = (B, F) ∧ D_X8_fewest_l16 x p1 p2 th kq gd pg (-9) n = B ∧ ((B = -9 ∧ F = 9) ∨ ∃ b, b < 256 ∧ B = nI b ∧ F = D_J6_bitCount_0f7a4 (nI b))
  | 0, _ => ⟨-9, 9, rfl, rfl, Or.inl ⟨rfl, rfl⟩⟩
  | n + 1, hn => by
    obtain ⟨B, F, h1, h2, h3⟩ := few_l hG hS eX eM hx p1 p2 n (by omega)
    rw [D_X7_fewestToTurn_l20, D_X8_fewest_l16, h1, h2]
    unfold D_X7_fewestToTurn_b20 D_X8_fewest_b16 D_X8_fewest_j57 D_X8_fewest_j53 D_X8_fewest_j58
    dsimp only
    rw [eX, eM, fa_xor, isSo_eq hG (xor_256 hS (by omega : n < 256)) hx]
    have z10 : ¬ (1 : Int32) = 0 := by decide
    have hend : ∃ B' F', (B, F) = (B', F') ∧ B = B' ∧ ((B' = -9 ∧ F' = 9) ∨ ∃ b, b < 256 ∧ B' = nI b ∧ F' = D_J6_bitCount_0f7a4 (nI b)) := ⟨B, F, rfl, rfl, h3⟩
    have hnew : ∃ B' F', (nI n, D_J6_bitCount_0f7a4 (nI n)) = (B', F') ∧ nI n = B' ∧ ((B' = -9 ∧ F' = 9) ∨ ∃ b, b < 256 ∧ B' = nI b ∧ F' = D_J6_bitCount_0f7a4 (nI b)) := ⟨_, _, rfl, rfl, Or.inr ⟨n, by omega, rfl, rfl⟩⟩
    simp only [if_true, if_neg z10]
    by_cases c1 : nI n &&& (p1 ^^^ -1) = 0
    · rw [if_pos c1, if_pos c1]
      rcases h3 with ⟨rfl, rfl⟩ | ⟨b, hb, rfl, rfl⟩
      · rw [if_pos rfl, if_neg (show ¬ (9 : Int32) ≤ D_J6_bitCount_0f7a4 (nI n) by
          rw [bc_many (by omega)]
          obtain ⟨j, hj, e⟩ := many_nI (nI n)
          rw [e]
          exact nI_ge (b := 9) (by omega) (by omega))]
        by_cases c2 : D_X8_has (D_X8_soBy th kq gd (nI (S ^^^ n))) x = p2
        · rw [if_pos c2, if_pos c2]
          exact hnew
        · rw [if_neg c2, if_neg c2]
          exact hend
      · rw [if_neg (nI_eq9 b hb)]
        simp only [many_cmp hb (by omega : n < 256)]
        by_cases c3 : D_X8_many (nI b) ≤ D_X8_many (nI n)
        · rw [if_pos c3, if_pos c3]
          exact hend
        · rw [if_neg c3, if_neg c3]
          by_cases c2 : D_X8_has (D_X8_soBy th kq gd (nI (S ^^^ n))) x = p2
          · rw [if_pos c2, if_pos c2]
            exact hnew
          · rw [if_neg c2, if_neg c2]
            exact hend
    · rw [if_neg c1, if_neg c1]
      exact hend
theorem few_key {sp pg kn gr kq gd : Nat → Int32} {c th : Int32} (hG : RG kn gr c th kq gd) {S : Nat} (hS : S < 256) (eX : D_X4_onSpikes sp = nI S) (eM : D_X8_onSpikes pg = nI S) {x : Int32} (hx : ¬ D_X6_has c x = 0) (p1 p2 : Int32) : D_X7_fewestToTurn sp kn gr c x p1 p2 = D_X8_fewest th kq gd pg x p1 p2 := by
  obtain ⟨B, F, h1, h2, -⟩ := few_l hG hS eX eM hx p1 p2 256 (Nat.le_refl _)
  unfold D_X7_fewestToTurn D_X7_fewestToTurn_k20 D_X8_fewest D_X8_fewest_k16
  rw [h1, h2]
theorem wants_key {sp pg kn gr kq gd : Nat → Int32} {c th : Int32} (h : TS sp pg) (hG : RG kn gr c th kq gd) (a1 : Int32) : D_X7_wants sp kn gr c a1 = (D_X8_wants th kq gd pg a1).1 := by
  unfold D_X7_wants D_X8_wants
  obtain ⟨S, hS, e1, e2⟩ := TS_so h
  rcases thing_cases hG a1 with ⟨h1, h2⟩ | ⟨t, ht, htc, rfl, h1, h2⟩
  · rw [if_pos h1, if_neg h2]
  · rw [if_neg h1, if_pos h2, few_key hG hS e1 e2 h1, e1, e2, mov_eq S hS]
theorem breaks_key {sp pg kn gr kq gd : Nat → Int32} {c th : Int32} (h : TS sp pg) (hG : RG kn gr c th kq gd) (a1 : Int32) : D_X7_breaks sp kn gr c a1 = (D_X8_breaks th kq gd pg a1).1 := by
  unfold D_X7_breaks D_X8_breaks
  obtain ⟨S, hS, e1, e2⟩ := TS_so h
  rcases thing_cases hG a1 with ⟨h1, h2⟩ | ⟨t, ht, htc, rfl, h1, h2⟩
  · rw [if_pos h1, if_neg h2]
  · rw [if_neg h1, if_pos h2, few_key hG hS e1 e2 h1, e1, e2]
/-! counting, and the first one -/
def CI (n : Nat) (a f : Int32) : Prop := ∃ k, k ≤ n ∧ a = nI k ∧ (k = 0 ↔ f = -9)
theorem CI_0 : CI 0 0 (-9) := ⟨0, Nat.le_refl _, rfl, by decide⟩
theorem CI_no {n : Nat} {a f : Int32} (h : CI n a f) : CI (n + 1) a f := by
  obtain ⟨k, h1, h2, h3⟩ := h
  exact ⟨k, by omega, h2, h3⟩
theorem CI_z {n : Nat} {a f : Int32} (hn : n < 1000) (h : CI n a f) : (a = 0) = (f = -9) := by
  obtain ⟨k, h1, rfl, h3⟩ := h
  exact propext ((nI_eq (b := 0) (by omega) (by omega)).trans h3)
theorem CI_yes {n : Nat} {a f v : Int32} (hv : ¬ v = -9) (h : CI n a f) : CI (n + 1) (a + 1) (if f = -9 then v else f) := by
  obtain ⟨k, h1, rfl, h3⟩ := h
  refine ⟨k + 1, by omega, nI_1 k, ⟨fun z => by omega, fun z => ?_⟩⟩
  by_cases c : f = -9
  · rw [if_pos c] at z
    exact absurd z hv
  · rw [if_neg c] at z
    exact absurd z c
/-! sworn -/
section MAY
variable {kn gr kq gd sw an st so : Nat → Int32} {c th oc sn : Int32}
def KJ (th : Int32) (kq gd st so : Nat → Int32) (i j : Nat) : Prop := D_X8_noThing th (st j) = 0 → D_X8_has (D_X8_soBy th kq gd (nI i)) (st j) = so j
theorem kb9 (hG : RG kn gr c th kq gd) {i j : Nat} (hi : i < 256) (hj : j < 6) (e1 : sw j = st j) (e2 : an j = so j) : (KJ th kq gd st so i j → D_X1_allKeptBy_b9 (nI i) sw an kn gr c j = .inr ()) ∧ (¬ KJ th kq gd st so i j → D_X1_allKeptBy_b9 (nI i) sw an kn gr c j = .inl 0) := by
  unfold D_X1_allKeptBy_b9 KJ
  rw [nI_clamp (by omega), e1, e2]
  rcases thing_cases hG (st j) with ⟨h1, h2⟩ | ⟨t, ht, htc, e, h1, h2⟩
  · rw [if_pos h1]
    exact ⟨fun _ => rfl, fun z => absurd (fun y => absurd y h2) z⟩
  · rw [if_neg h1, e]
    rw [e] at h2
    obtain ⟨T, hT, f1, f2⟩ := soBy_v hG hi
    rw [f1, f2, bit_at (by omega) (by omega), has_v (by omega) (by omega)]
    by_cases g : nI (bv T t) = so j
    · rw [if_pos g]
      exact ⟨fun _ => rfl, fun z => absurd (fun _ => g) z⟩
    · rw [if_neg g]
      exact ⟨fun z => absurd (z h2) g, fun _ => rfl⟩
theorem kb50 {i j : Nat} (hj : j < 6) (e3 : so j = 0 ∨ so j = 1) {acc : Int32} (ha : ¬ acc = 0) : (KJ th kq gd st so i j → D_X8_may_b50 th kq gd st so i j acc = 1) ∧ (¬ KJ th kq gd st so i j → D_X8_may_b50 th kq gd st so i j acc = 0) := by
  unfold D_X8_may_b50 D_X8_may_j105 KJ
  rw [nI_clamp (by omega), if_neg ha]
  have hw : (if so j = 1 then (if D_X8_has (D_X8_soBy th kq gd (nI i)) (st j) = 1 then (1 : Int32) else 0) else (if D_X8_has (D_X8_soBy th kq gd (nI i)) (st j) = 0 then (1 : Int32) else 0)) = if D_X8_has (D_X8_soBy th kq gd (nI i)) (st j) = so j then 1 else 0 := by
    rcases e3 with e | e
    · rw [e, if_neg (by decide)]
    · rw [e, if_pos rfl]
  rw [hw]
  by_cases g1 : D_X8_noThing th (st j) = 0
  · rw [if_pos g1]
    by_cases g2 : D_X8_has (D_X8_soBy th kq gd (nI i)) (st j) = so j
    · rw [if_pos g2]
      exact ⟨fun _ => rfl, fun z => absurd (fun _ => g2) z⟩
    · rw [if_neg g2]
      exact ⟨fun z => absurd (z g1) g2, fun _ => rfl⟩
  · rw [if_neg g1]
    exact ⟨fun _ => rfl, fun z => absurd (fun y => absurd y g1) z⟩
theorem kl9 (hG : RG kn gr c th kq gd) {i N : Nat} (hi : i < 256) (hN : N ≤ 6) (he : ∀ j, j < N → sw j = st j ∧ an j = so j ∧ (so j = 0 ∨ so j = 1)) : ∀ n j, j + n = N → (D_X1_allKeptBy_l9 (nI i) sw an kn gr c n j = 0 ↔ ∃ q, j ≤ q ∧ q < N ∧ ¬ KJ th kq gd st so i q)
  | 0, j, hj => ⟨fun z => absurd (show (1 : Int32) = 0 from z) (by decide), fun ⟨q, h1, h2, _⟩ => by omega⟩
  | n + 1, j, hj => by
    obtain ⟨e1, e2, e3⟩ := he j (by omega)
    obtain ⟨b1, b2⟩ := kb9 hG (i := i) (j := j) hi (by omega) e1 e2
    by_cases g : KJ th kq gd st so i j
    · rw [D_X1_allKeptBy_l9_s _ _ _ _ _ _ _ _ (b1 g), kl9 hG hi hN he n (j + 1) (by omega)]
      refine ⟨fun ⟨q, h1, h2, h3⟩ => ⟨q, by omega, h2, h3⟩, fun ⟨q, h1, h2, h3⟩ => ⟨q, ?_, h2, h3⟩⟩
      by_cases hqj : q = j
      · subst hqj
        exact absurd g h3
      · omega
    · rw [D_X1_allKeptBy_l9_r _ _ _ _ _ _ _ _ _ (b2 g)]
      exact ⟨fun _ => ⟨j, by omega, by omega, g⟩, fun _ => rfl⟩
theorem kl50 {i N : Nat} (hN : N ≤ 6) (he : ∀ j, j < N → (so j = 0 ∨ so j = 1)) : ∀ n, n ≤ N → (D_X8_may_l50 th kq gd st so i 1 n = 0 ↔ ∃ q, q < n ∧ ¬ KJ th kq gd st so i q)
  | 0, _ => ⟨fun z => absurd (show (1 : Int32) = 0 from z) (by decide), fun ⟨q, h1, _⟩ => by omega⟩
  | n + 1, hn => by
    have ih := kl50 (i := i) hN he n (by omega)
    rw [D_X8_may_l50]
    by_cases g0 : D_X8_may_l50 th kq gd st so i 1 n = 0
    · obtain ⟨q, h1, h2⟩ := ih.mp g0
      refine ⟨fun _ => ⟨q, by omega, h2⟩, fun _ => ?_⟩
      unfold D_X8_may_b50
      rw [if_pos g0]
    · obtain ⟨b1, b2⟩ := kb50 (th := th) (kq := kq) (gd := gd) (st := st) (i := i) (j := n) (by omega) (he n (by omega)) g0
      by_cases g : KJ th kq gd st so i n
      · rw [b1 g]
        refine ⟨fun z => absurd z (by decide), fun ⟨q, h1, h2⟩ => ?_⟩
        by_cases hqn : q = n
        · subst hqn
          exact absurd g h2
        · exact absurd (ih.mpr ⟨q, by omega, h2⟩) g0
      · rw [b2 g]
        exact ⟨fun _ => ⟨n, by omega, g⟩, fun _ => rfl⟩
theorem kept_eq (hG : RG kn gr c th kq gd) (hO : RO sw an oc st so sn) {i : Nat} (hi : i < 256) : (D_X1_allKeptBy sw an oc kn gr c (nI i) = 0) = (D_X8_may_l50 th kq gd st so i 1 sn.toNatClampNeg = 0) := by
  obtain ⟨rfl, h6, he⟩ := hO
  have hN := cl_6 h6
  unfold D_X1_allKeptBy
  refine propext ((kl9 hG hi hN he _ 0 (by omega)).trans (Iff.trans ?_ (kl50 (th := th) (kq := kq) (gd := gd) (st := st) (i := i) hN (fun j hj => (he j hj).2.2) _ (Nat.le_refl _)).symm))
  exact ⟨fun ⟨q, _, h2, h3⟩ => ⟨q, h2, h3⟩, fun ⟨q, h2, h3⟩ => ⟨q, by omega, h2, h3⟩⟩
theorem may_l (hG : RG kn gr c th kq gd) (hO : RO sw an oc st so sn) : ∀ n, n ≤ 256 → ∃ a f, D_X7_may_l20 kn gr c sw an oc 0 (-9) n = (a, f) ∧ D_X8_may_l31 th kq gd sn st so (-9) 0 n = (f, a) ∧ CI n a f
  | 0, _ => ⟨0, -9, rfl, rfl, CI_0⟩
  | n + 1, hn => by
    obtain ⟨a, f, h1, h2, h3⟩ := may_l hG hO n (by omega)
    have ez := CI_z (by omega) h3
    rw [D_X7_may_l20, D_X8_may_l31, h1, h2]
    unfold D_X7_may_b20 D_X8_may_b31 D_X8_may_k50 D_X8_may_j138 D_X8_may_j142 D_X8_may_j160
    dsimp only
    simp only [kept_eq hG hO (by omega : n < 256), ez]
    by_cases g : D_X8_may_l50 th kq gd st so n 1 sn.toNatClampNeg = 0
    · simp only [if_pos g]
      exact ⟨a, f, rfl, by rw [Int32.add_zero], CI_no h3⟩
    · simp only [if_neg g]
      have hy := CI_yes (v := nI n) (nI_eq9 n (by omega)) h3
      by_cases g2 : f = -9
      · simp only [if_pos g2]
        rw [if_pos g2] at hy
        exact ⟨_, _, rfl, rfl, hy⟩
      · simp only [if_neg g2]
        rw [if_neg g2] at hy
        exact ⟨_, _, rfl, rfl, hy⟩
theorem may_key (hG : RG kn gr c th kq gd) (hO : RO sw an oc st so sn) (mm mf a1 : Int32) : D_X7_may kn gr c sw an oc a1 = (D_X8_may th kq gd sn st so mm mf a1).1 := by
  obtain ⟨a, f, h1, h2, h3⟩ := may_l hG hO 256 (Nat.le_refl _)
  unfold D_X7_may D_X7_may_j12 D_X7_may_k20 D_X8_may D_X8_may_k31
  rw [h1, h2]
  have e : D_X8_in a1.toInt64 0 1 = D_X8_in a1.toInt64 0 (lN 1) := rfl
  rw [e]
  rcases in_cases a1 (b := 1) (by omega) with ⟨g1, g2⟩ | ⟨j, hj, rfl, g1⟩
  · rw [g1, if_pos rfl, if_neg (fun z => by rw [z, show (0 : Int32).toInt = 0 by decide] at g2; omega), if_neg (fun z => by rw [z, show (1 : Int32).toInt = 1 by decide] at g2; omega)]
  · rw [g1, if_neg (show ¬ (1 : Int32) = 0 by decide)]
    have : j = 0 ∨ j = 1 := by omega
    rcases this with rfl | rfl
    · rw [if_pos (show nI 0 = (0 : Int32) from rfl), if_pos (show nI 0 = (0 : Int32) from rfl), if_pos (show nI 0 = (0 : Int32) from rfl)]
    · have q : ¬ nI 1 = (0 : Int32) := by decide
      rw [if_neg q, if_neg q, if_neg q, if_pos (show nI 1 = (1 : Int32) from rfl)]
end MAY
