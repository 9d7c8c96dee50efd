/-! the class's spots hold a town's slips -/
def SPi (σ : Nat → Nat) (sp : Nat → Int32) : Prop := ∀ s, s < 8 → sp s = nI (σ s)
theorem slipsFrom_l {σ : Nat → Nat} {sp : Nat → Int32} (hW : ∀ s, s < 8 → σ s < 26) (h : SPi σ sp) {F M : Nat} (hF : F + M < 1000) : ∀ n, n ≤ 8 → D_X4_slipsFrom_l5 (nI F) (nI M) sp 0 n = nI (bset (fun s => decide (F ≤ σ s ∧ σ s < F + M)) n)
  | 0, _ => rfl
  | n + 1, hn => by
    rw [D_X4_slipsFrom_l5, slipsFrom_l hW h hF n (by omega), bset]
    unfold D_X4_slipsFrom_b5
    have hb := hW n (by omega)
    rw [cl8 (by omega), h n (by omega), bit_1n n (by omega), nI_add]
    by_cases h1 : σ n < F
    · rw [if_pos (nI_lt h1 (by omega))]
      simp [show ¬ F ≤ σ n by omega]
    · rw [if_neg (nI_nlt (by omega) (by omega))]
      by_cases h2 : F + M ≤ σ n
      · rw [if_pos (nI_le h2 (by omega))]
        simp [show ¬ σ n < F + M by omega]
      · rw [if_neg (nI_ge (by omega) (by omega)), fa_or]
        simp [show F ≤ σ n by omega, show σ n < F + M by omega]
theorem slipsFrom_v {σ : Nat → Nat} {sp : Nat → Int32} (hW : ∀ s, s < 8 → σ s < 26) (h : SPi σ sp) {F M : Nat} (hF : F + M < 1000) : D_X4_slipsFrom sp (nI F) (nI M) = nI (bset (fun s => decide (F ≤ σ s ∧ σ s < F + M)) 8) := slipsFrom_l hW h hF 8 (Nat.le_refl 8)
def onS (σ : Nat → Nat) : Nat := bset (fun s => decide (σ s < 24)) 8
def inH (σ : Nat → Nat) : Nat := bset (fun s => decide (σ s = 24)) 8
def goN (σ : Nat → Nat) : Nat := bset (fun s => decide (σ s = 25)) 8
theorem onSpikes_x {σ : Nat → Nat} {sp : Nat → Int32} (hW : ∀ s, s < 8 → σ s < 26) (h : SPi σ sp) : D_X4_onSpikes sp = nI (onS σ) := by
  refine (slipsFrom_v hW h (F := 0) (M := 24) (by omega)).trans ?_
  unfold onS
  congr 1
  exact bset_cong (fun i hi => decide_eq_decide.mpr (by omega))
theorem inHand_x {σ : Nat → Nat} {sp : Nat → Int32} (hW : ∀ s, s < 8 → σ s < 26) (h : SPi σ sp) : D_X4_inHand sp = nI (inH σ) := by
  refine (slipsFrom_v hW h (F := 24) (M := 1) (by omega)).trans ?_
  unfold inH
  congr 1
  exact bset_cong (fun i hi => decide_eq_decide.mpr (by omega))
theorem gone_x {σ : Nat → Nat} {sp : Nat → Int32} (hW : ∀ s, s < 8 → σ s < 26) (h : SPi σ sp) : D_X4_gone sp = nI (goN σ) := by
  refine (slipsFrom_v hW h (F := 25) (M := 1) (by omega)).trans ?_
  unfold goN
  congr 1
  exact bset_cong (fun i hi => decide_eq_decide.mpr (by omega))
theorem onSpikes_m {σ : Nat → Nat} {q : Nat → Int32} (hW : ∀ s, s < 8 → σ s < 26) (h : PGi σ q) : D_X8_onSpikes q = nI (onS σ) := by
  unfold D_X8_onSpikes
  have e0 := slipsAt_v hW h (k := 0) (by omega)
  have e1 := slipsAt_v hW h (k := 1) (by omega)
  have e2 := slipsAt_v hW h (k := 2) (by omega)
  rw [show (0 : Int32) = nI 0 from rfl, show (1 : Int32) = nI 1 from rfl, show (2 : Int32) = nI 2 from rfl, e0, e1, e2, fa_or, fa_or, bset_or, bset_or]
  unfold onS
  congr 1
  apply bset_cong
  intro i hi
  have := hW i hi
  rw [Bool.eq_iff_iff]
  simp only [Bool.or_eq_true, decide_eq_true_eq]
  unfold kd
  split <;> omega
theorem inHand_m {σ : Nat → Nat} {q : Nat → Int32} (hW : ∀ s, s < 8 → σ s < 26) (h : PGi σ q) : D_X8_slipsAt q 3 = nI (inH σ) := by
  refine (slipsAt_v hW h (k := 3) (by omega)).trans ?_
  unfold inH
  congr 1
  apply bset_cong
  intro i hi
  have := hW i hi
  exact decide_eq_decide.mpr (by unfold kd; split <;> omega)
theorem gone_m {σ : Nat → Nat} {q : Nat → Int32} (hW : ∀ s, s < 8 → σ s < 26) (h : PGi σ q) : D_X8_slipsAt q 4 = nI (goN σ) := by
  refine (slipsAt_v hW h (k := 4) (by omega)).trans ?_
  unfold goN
  congr 1
  apply bset_cong
  intro i hi
  have := hW i hi
  exact decide_eq_decide.mpr (by unfold kd; split <;> omega)
theorem k8 : ∀ k, k < 3 → nI k * 8 = nI (k * 8) := by decide
theorem countOn_x {σ : Nat → Nat} {sp : Nat → Int32} (hW : ∀ s, s < 8 → σ s < 26) (h : SPi σ sp) {k : Nat} (hk : k < 3) : D_X4_countOn sp (nI k) = nI (cnt σ k) := by
  unfold D_X4_countOn
  have e := slipsFrom_v hW h (F := k * 8) (M := 8) (by omega)
  rw [k8 k hk, show (8 : Int32) = nI 8 from rfl, e, bc_bset]
  congr 1
  unfold cnt
  exact fb_ct_cong (fun i hi => decide_eq_decide.mpr (by omega))
theorem isSlip_t {s : Nat} (hs : s < 8) : ¬ D_X7_isSlip (nI s) = 0 := by
  revert s
  decide
theorem isSpike_t {k : Nat} (hk : k < 3) : ¬ D_X7_isSpike (nI k) = 0 := by
  revert k
  decide
theorem div8 : ∀ v, v < 26 → nI v / 8 = nI (v / 8) := by decide
theorem mod8 : ∀ v, v < 26 → nI v - nI v / 8 * 8 = nI (v % 8) := by decide
theorem le24 {v : Nat} (hv : v < 26) : ((24 : Int32) ≤ nI v) ↔ 24 ≤ v := nI_leI (a := 24) (by omega) (by omega)
theorem spikeOf_x {σ : Nat → Nat} {sp : Nat → Int32} (hW : ∀ s, s < 8 → σ s < 26) (h : SPi σ sp) {s : Nat} (hs : s < 8) : D_X4_spikeOf sp (nI s) = if σ s < 24 then nI (σ s / 8) else -9 := by
  unfold D_X4_spikeOf
  have hb := hW s hs
  rw [if_neg (isSlip_t hs), cl8 hs, h s hs, div8 _ hb]
  by_cases h1 : σ s < 24
  · rw [if_pos h1, if_neg (fun z => absurd ((le24 hb).mp z) (by omega))]
  · rw [if_neg h1, if_pos ((le24 hb).mpr (by omega))]
theorem heightOf_x {σ : Nat → Nat} {sp : Nat → Int32} (hW : ∀ s, s < 8 → σ s < 26) (h : SPi σ sp) {s : Nat} (hs : s < 8) : D_X4_heightOf sp (nI s) = if σ s < 24 then nI (σ s % 8) else -9 := by
  unfold D_X4_heightOf
  have hb := hW s hs
  rw [if_neg (isSlip_t hs), cl8 hs, h s hs, mod8 _ hb]
  by_cases h1 : σ s < 24
  · rw [if_pos h1, if_neg (fun z => absurd ((le24 hb).mp z) (by omega))]
  · rw [if_neg h1, if_pos ((le24 hb).mpr (by omega))]
