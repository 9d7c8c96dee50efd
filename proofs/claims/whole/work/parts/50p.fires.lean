/-! fires -/
theorem bset_andn (p q : Nat → Bool) : nI (bset p 8) &&& (nI (bset q 8) ^^^ -1) = nI (bset (fun s => p s && !q s) 8) := by
  apply Int32.toBitVec_inj.1
  have e : (-1 : Int32).toBitVec = BitVec.allOnes 32 := by decide
  show BitVec.ofNat 32 _ &&& (BitVec.ofNat 32 _ ^^^ (-1 : Int32).toBitVec) = BitVec.ofNat 32 _
  rw [e]
  apply BitVec.eq_of_getLsbD_eq
  intro i hi
  simp only [BitVec.getLsbD_and, BitVec.getLsbD_xor, BitVec.getLsbD_allOnes, BitVec.getLsbD_ofNat, hi, decide_true, bset_bit, Bool.true_and]
  cases decide (i < 8) <;> cases p i <;> cases q i <;> rfl
theorem weight_eq : ∀ i, i < 8 → ∀ x, x < 11 → D_X7_weightOfFire (nI i) (nI x) = D_X8_power (nI x) (D_X8_many (nI i)) * D_X8_power ((10 : Int32) - nI x) ((3 : Int32) - D_X8_many (nI i)) := by decide +kernel
def wsum (x : Int32) : Nat → Int32
  | 0 => 0
  | n + 1 => wsum x n + D_X7_weightOfFire (nI n) x
theorem wsum_8 : ∀ x, x < 11 → wsum (nI x) 8 = nI 1000 := by decide +kernel
theorem bv8 {i k : Nat} (hi : i < 8) : ((nI i >>> (nI k &&& 31)) &&& 1 = 1) = (bv i k = 1) ∨ 31 ≤ k := by
  by_cases hk : k < 31
  · left
    rw [bit_at (by omega) hk]
    rcases bv_01 i k with z | z <;> rw [z] <;> decide
  · right
    omega
theorem left_l {σ : Nat → Nat} {sp : Nat → Int32} (hW : WFs σ) (hs : SPi σ sp) {i : Nat} (hi : i < 8) : ∀ n, n ≤ 3 → D_X7_leftByFire_l10 (nI i) sp (nI (onS σ)) n = nI (bset (fun s => decide (σ s < 24) && !(decide (σ s / 8 < n) && decide (bv i (σ s / 8) = 1))) 8)
  | 0, _ => by
    show nI (onS σ) = _
    unfold onS
    congr 1
    apply bset_cong
    intro s hs8
    simp
  | n + 1, hn => by
    rw [D_X7_leftByFire_l10, left_l hW hs hi n (by omega)]
    unfold D_X7_leftByFire_b10 D_X7_leftByFire_c36 D_X4_slipsOn
    have hb := (bv8 (i := i) (k := n) hi).resolve_right (by omega)
    have hf := slipsFrom_v hW.1 hs (F := n * 8) (M := 8) (by omega)
    rw [k8 n (by omega), show (8 : Int32) = nI 8 from rfl, hf]
    simp only [hb]
    by_cases c : bv i n = 1
    · rw [if_pos c, bset_andn]
      congr 1
      apply bset_cong
      intro s hs8
      have h26 := hW.1 s hs8
      rw [Bool.eq_iff_iff]
      simp only [Bool.and_eq_true, Bool.not_eq_true', Bool.and_eq_false_iff, decide_eq_true_eq, decide_eq_false_iff_not]
      by_cases hsn : σ s / 8 = n
      · rw [hsn]
        constructor
        · rintro ⟨⟨h1, h2⟩, h3⟩
          omega
        · rintro ⟨h1, h2⟩
          exfalso
          rcases h2 with h2 | h2
          · omega
          · exact h2 c
      · constructor
        · rintro ⟨⟨h1, h2⟩, h3⟩
          refine ⟨h1, ?_⟩
          rcases h2 with h2 | h2
          · exact Or.inl (by omega)
          · exact Or.inr h2
        · rintro ⟨h1, h2⟩
          refine ⟨⟨h1, ?_⟩, by omega⟩
          rcases h2 with h2 | h2
          · exact Or.inl (by omega)
          · exact Or.inr h2
    · rw [if_neg c]
      congr 1
      apply bset_cong
      intro s hs8
      rw [Bool.eq_iff_iff]
      simp only [Bool.and_eq_true, Bool.not_eq_true', Bool.and_eq_false_iff, decide_eq_true_eq, decide_eq_false_iff_not]
      by_cases hsn : σ s / 8 = n
      · rw [hsn]
        constructor
        · rintro ⟨h1, -⟩
          exact ⟨h1, Or.inr c⟩
        · rintro ⟨h1, -⟩
          exact ⟨h1, Or.inr c⟩
      · constructor
        · rintro ⟨h1, h2⟩
          refine ⟨h1, ?_⟩
          rcases h2 with h2 | h2
          · exact Or.inl (by omega)
          · exact Or.inr h2
        · rintro ⟨h1, h2⟩
          refine ⟨h1, ?_⟩
          rcases h2 with h2 | h2
          · exact Or.inl (by omega)
          · exact Or.inr h2
theorem burn_l {σ : Nat → Nat} {pg : Nat → Int32} (hW : WFs σ) (hp : PGi σ pg) {i : Nat} (hi : i < 8) : ∀ n, n ≤ 3 → D_X8_fires_l49 pg i 0 n = nI (bset (fun s => decide (σ s / 8 < n) && !decide (bv i (σ s / 8) = 1)) 8)
  | 0, _ => by
    show nI 0 = _
    congr 1
    have : bset (fun s => decide (σ s / 8 < 0) && !decide (bv i (σ s / 8) = 1)) 8 = bset (fun _ => false) 8 := bset_cong (fun s _ => by simp)
    rw [this]
    rfl
  | n + 1, hn => by
    rw [D_X8_fires_l49, burn_l hW hp hi n (by omega)]
    unfold D_X8_fires_b49
    rw [has_v (by omega) (by omega), slipsAt_v hW.1 hp (k := n) (by omega)]
    have h01 := bv_01 i n
    by_cases c : bv i n = 1
    · rw [c, if_neg (by decide), Int32.or_zero]
      congr 1
      apply bset_cong
      intro s hs8
      rw [Bool.eq_iff_iff]
      simp only [Bool.and_eq_true, Bool.not_eq_true', decide_eq_true_eq, decide_eq_false_iff_not]
      constructor
      · rintro ⟨h1, h2⟩
        exact ⟨by omega, h2⟩
      · rintro ⟨h1, h2⟩
        refine ⟨?_, h2⟩
        by_cases hsn : σ s / 8 = n
        · rw [hsn] at h2
          exact absurd c h2
        · omega
    · have c0 : bv i n = 0 := h01.resolve_right c
      rw [c0, if_pos (by decide), fa_or, bset_or]
      congr 1
      apply bset_cong
      intro s hs8
      have h26 := hW.1 s hs8
      rw [Bool.eq_iff_iff]
      simp only [Bool.or_eq_true, Bool.and_eq_true, Bool.not_eq_true', decide_eq_true_eq, decide_eq_false_iff_not]
      rw [kd_k (by omega)]
      constructor
      · rintro (⟨h1, h2⟩ | h1)
        · exact ⟨by omega, h2⟩
        · exact ⟨by omega, by rw [h1]; exact c⟩
      · rintro ⟨h1, h2⟩
        by_cases hsn : σ s / 8 = n
        · exact Or.inr hsn
        · exact Or.inl ⟨by omega, h2⟩
theorem left_eq {σ : Nat → Nat} {sp pg : Nat → Int32} (hW : WFs σ) (hs : SPi σ sp) (hp : PGi σ pg) {i : Nat} (hi : i < 8) : ∃ C, C < 256 ∧ D_X7_leftByFire sp (nI i) = nI C ∧ D_X8_fires_l49 pg i 0 3 = nI C := by
  refine ⟨_, bset_256 _, ?_, burn_l hW hp hi 3 (by omega)⟩
  unfold D_X7_leftByFire D_X7_leftByFire_k10
  rw [onSpikes_x hW.1 hs, left_l hW hs hi 3 (by omega)]
  congr 1
  apply bset_cong
  intro s hs8
  have h26 := hW.1 s hs8
  rw [Bool.eq_iff_iff]
  simp only [Bool.and_eq_true, Bool.not_eq_true', Bool.and_eq_false_iff, decide_eq_true_eq, decide_eq_false_iff_not]
  constructor
  · rintro ⟨h1, h2⟩
    refine ⟨by omega, ?_⟩
    rcases h2 with h2 | h2
    · omega
    · exact h2
  · rintro ⟨h1, h2⟩
    exact ⟨by omega, Or.inr h2⟩
theorem fires_l {σ : Nat → Nat} {sp pg kn gr kq gd : Nat → Int32} {c th : Int32} (hW : WFs σ) (hs : SPi σ sp) (hp : PGi σ pg) (hG : RG kn gr c th kq gd) {t : Int32} (ht : ¬ D_X6_has c t = 0) {x : Nat} (hx : x < 11) : ∀ n, n ≤ 8 → D_X7_fires_l35 t (nI x) sp kn gr c 0 0 n = (D_X8_fires_l36 t (nI x) th kq gd pg 0 n, wsum (nI x) n)
  | 0, _ => rfl
  | n + 1, hn => by
    rw [D_X7_fires_l35, fires_l hW hs hp hG ht hx n (by omega), D_X8_fires_l36]
    generalize D_X8_fires_l36 t (nI x) th kq gd pg 0 n = acc
    unfold D_X7_fires_b35 D_X8_fires_b36 D_X8_fires_k49 D_X8_fires_c134
    obtain ⟨C, hC, e1, e2⟩ := left_eq hW hs hp (i := n) (by omega)
    rw [e1, e2, isSo_eq hG hC ht, wsum, weight_eq n (by omega) x hx]
    dsimp only
    by_cases g : D_X8_has (D_X8_soBy th kq gd (nI C)) t = 0
    · rw [if_pos g, if_pos g, Int32.add_zero]
    · rw [if_neg g, if_neg g]
theorem fires_key {sp pg kn gr kq gd : Nat → Int32} {c th : Int32} (h : TS sp pg) (hG : RG kn gr c th kq gd) (a1 a2 a3 : Int32) : D_X7_fires sp kn gr c a1 a2 a3 = (D_X8_fires th kq gd pg a1 a2 a3).1 := by
  obtain ⟨σ, hW, hs, hp⟩ := h
  unfold D_X7_fires D_X8_fires
  rcases thing_cases hG a1 with ⟨h1, h2⟩ | ⟨t, ht, htc, rfl, h1, h2⟩
  · rw [if_pos h1, if_neg h2]
  · rw [if_neg h1, if_pos h2]
    have e : D_X8_in a2.toInt64 0 10 = D_X8_in a2.toInt64 0 (lN 10) := rfl
    have h10 : (10 : Int32).toInt = 10 := by decide
    rw [e]
    rcases in_cases a2 (b := 10) (by omega) with ⟨g1, g2⟩ | ⟨x, hx, rfl, g1⟩
    · rw [g1, if_pos rfl]
      by_cases c1 : a2 < 0
      · rw [if_pos c1]
      · rw [if_neg c1]
        rw [Int32.lt_iff_toInt_lt, z32] at c1
        rw [if_neg (fun z => by rw [Int32.le_iff_toInt_le, h10] at z; omega)]
    · rw [g1, if_neg (nI_pos (by omega)), if_pos (show nI x ≤ (10 : Int32) from nI_le (b := 10) hx (by omega)), if_neg (show ¬ (1 : Int32) = 0 by decide), fires_l hW hs hp hG h1 (by omega) 8 (by omega), wsum_8 x (by omega)]
      unfold D_X7_fires_k35 D_X8_fires_k36
      dsimp only
      rw [show D_X8_power 10 3 = nI 1000 by decide +kernel]
      exact frac_eq (by omega) (by omega) _ _
/-! swear -/
theorem swear_key {kn gr kq gd sw an st so : Nat → Int32} {c th oc sn : Int32} (hG : RG kn gr c th kq gd) (hO : RO sw an oc st so sn) (a1 a2 : Int32) : (D_X7_swear c sw an oc a1 a2).1 = (D_X8_swear th sn st so a1 a2).1 ∧ RO (D_X7_swear c sw an oc a1 a2).2.1 (D_X7_swear c sw an oc a1 a2).2.2.1 (D_X7_swear c sw an oc a1 a2).2.2.2 (D_X8_swear th sn st so a1 a2).2.2.2.1 (D_X8_swear th sn st so a1 a2).2.2.2.2 (D_X8_swear th sn st so a1 a2).2.2.1 := by
  unfold D_X7_swear D_X8_swear D_X7_swear_j25 D_X1_append
  rcases thing_cases hG a1 with ⟨h1, h2⟩ | ⟨t, ht, htc, e1, h1, h2⟩
  · rw [if_pos h1, if_neg h2]
    exact ⟨rfl, hO⟩
  · rw [if_neg h1, if_pos h2]
    have e : D_X8_in a2.toInt64 0 1 = D_X8_in a2.toInt64 0 (lN 1) := rfl
    rw [e]
    rcases in_cases a2 (b := 1) (by omega) with ⟨g1, g2⟩ | ⟨j, hj, e2, g1⟩
    · rw [g1, if_pos rfl, if_neg (fun z => by rw [z, show (0 : Int32).toInt = 0 by decide] at g2; omega), if_neg (fun z => by rw [z, show (1 : Int32).toInt = 1 by decide] at g2; omega)]
      exact ⟨rfl, hO⟩
    · have h01 : a2 = 0 ∨ a2 = 1 := by
        rw [e2]
        have : j = 0 ∨ j = 1 := by omega
        rcases this with rfl | rfl
        · exact Or.inl rfl
        · exact Or.inr rfl
      obtain ⟨rfl, h6, he⟩ := hO
      obtain ⟨N, hN, rfl⟩ := vp_in_of (inR_in h6 (k := 7) (by decide)) (by decide)
      rw [nI_clamp (by omega)] at he
      have goalA : ∀ (z : Prop) [Decidable z], z → True := fun _ _ _ => trivial
      rw [g1, if_neg (show ¬ (1 : Int32) = 0 by decide)]
      have main : (if nI N < 6 then (nI N + 1, upd sw (nI N).toNatClampNeg a1, upd an (nI N).toNatClampNeg a2, nI N + 1) else ((-4 : Int32), sw, an, nI N)).1 = (if nI N = 6 then ((-4 : Int32), (0 : Int32), nI N, st, so) else (nI N + 1, 0, nI N + 1, upd st (nI N).toNatClampNeg a1, upd so (nI N).toNatClampNeg a2)).1 ∧ RO (if nI N < 6 then (nI N + 1, upd sw (nI N).toNatClampNeg a1, upd an (nI N).toNatClampNeg a2, nI N + 1) else ((-4 : Int32), sw, an, nI N)).2.1 (if nI N < 6 then (nI N + 1, upd sw (nI N).toNatClampNeg a1, upd an (nI N).toNatClampNeg a2, nI N + 1) else ((-4 : Int32), sw, an, nI N)).2.2.1 (if nI N < 6 then (nI N + 1, upd sw (nI N).toNatClampNeg a1, upd an (nI N).toNatClampNeg a2, nI N + 1) else ((-4 : Int32), sw, an, nI N)).2.2.2 (if nI N = 6 then ((-4 : Int32), (0 : Int32), nI N, st, so) else (nI N + 1, 0, nI N + 1, upd st (nI N).toNatClampNeg a1, upd so (nI N).toNatClampNeg a2)).2.2.2.1 (if nI N = 6 then ((-4 : Int32), (0 : Int32), nI N, st, so) else (nI N + 1, 0, nI N + 1, upd st (nI N).toNatClampNeg a1, upd so (nI N).toNatClampNeg a2)).2.2.2.2 (if nI N = 6 then ((-4 : Int32), (0 : Int32), nI N, st, so) else (nI N + 1, 0, nI N + 1, upd st (nI N).toNatClampNeg a1, upd so (nI N).toNatClampNeg a2)).2.2.1 := by
        by_cases hN6 : N < 6
        · rw [if_pos (show nI N < 6 from nI_lt (b := 6) hN6 (by omega)), if_neg (show ¬ nI N = 6 from fun z => by have := (nI_eq (b := 6) (by omega) (by omega)).mp z; omega), nI_1, nI_clamp (by omega)]
          dsimp only
          refine ⟨rfl, rfl, ?_, fun q hq => ?_⟩
          · unfold inR
            rw [nI_toInt (by omega)]
            omega
          · rw [nI_clamp (by omega)] at hq
            by_cases hqN : q = N
            · subst hqN
              rw [up_s, up_s, up_s, up_s]
              exact ⟨rfl, rfl, h01⟩
            · rw [up_n _ _ hqN, up_n _ _ hqN, up_n _ _ hqN, up_n _ _ hqN]
              exact he q (by omega)
        · have : N = 6 := by omega
          subst this
          rw [if_neg (by decide), if_pos (show nI 6 = (6 : Int32) from rfl)]
          exact ⟨rfl, rfl, h6, fun q hq => he q (by rw [nI_clamp (by omega)] at hq; exact hq)⟩
      by_cases c0 : a2 = 0
      · rw [if_pos c0]
        exact main
      · rw [if_neg c0, if_pos (h01.resolve_left c0)]
        exact main
