/-! the two readers of THE TEXT -/
theorem fb_full {p : Nat → Bool} : ∀ {n : Nat}, fb_ct p n = n ↔ ∀ k, k < n → p k = true
  | 0 => ⟨fun _ k hk => absurd hk (Nat.not_lt_zero k), fun _ => rfl⟩
  | n + 1 => by
    have ih := fb_full (p := p) (n := n)
    have hle := fb_ct_le p n
    rw [fb_ct_succ]
    constructor
    · intro h k hk
      cases hp : p n
      · simp [hp] at h
        omega
      · by_cases hkn : k = n
        · subst hkn; exact hp
        · simp [hp] at h
          exact ih.mp (by omega) k (by omega)
    · intro h
      rw [ih.mpr (fun k hk => h k (by omega)), h n (by omega), if_pos rfl]
theorem bset_z {p : Nat → Bool} : bset p 8 = 0 ↔ ∀ s, s < 8 → p s = false := by
  constructor
  · intro h s hs
    have := bset_bit p 8 s
    rw [h, Nat.zero_testBit] at this
    simpa [hs] using this.symm
  · intro h
    have : bset p 8 = bset (fun _ => false) 8 := bset_cong (fun s hs => h s hs)
    rw [this]
    rfl
theorem bv_tb : ∀ x, x < 256 → ∀ s, s < 8 → bv x s = if x.testBit s then 1 else 0 := by decide +kernel
theorem bv_bset (p : Nat → Bool) {s : Nat} (hs : s < 8) : bv (bset p 8) s = if p s then 1 else 0 := by
  rw [bv_tb _ (bset_256 p) s hs, bset_bit]
  simp [hs]
theorem one_bset : ∀ s, s < 8 → 2 ^ s = bset (fun t => decide (t = s)) 8 := by decide
theorem onS_us {σ : Nat → Nat} {s v : Nat} (hs : s < 8) (hv : v < 24) : onS (us σ s v) = onS σ ||| 2 ^ s := by
  unfold onS
  rw [one_bset s hs, bset_or]
  apply bset_cong
  intro t _
  by_cases hts : t = s
  · subst hts
    rw [us_s]
    simp [hv]
  · rw [us_n _ _ hts]
    simp [hts]
def PV (σ : Nat → Nat) (sp pg : Nat → Int32) (sl : Int32) (on : Nat → Int32) : Prop := WFs σ ∧ (∀ s, s < 8 → σ s ≤ 24) ∧ SPi σ sp ∧ PGi σ pg ∧ pg 16 = 0 ∧ sl = nI (onS σ) ∧ ∀ k, k < 3 → on k = nI (cnt σ k)
theorem PV_full {σ : Nat → Nat} {sp pg : Nat → Int32} {sl : Int32} {on : Nat → Int32} (h : PV σ sp pg sl on) : (D_X4_inHand sp = 0) = ((8 : Int32) ≤ D_X8_many sl) := by
  obtain ⟨hW, h24, hs, hp, h16, rfl, hon⟩ := h
  rw [inHand_x hW.1 hs]
  have e1 : (nI (inH σ) = 0) = (inH σ = 0) := propext (nI_eq (b := 0) (by have := inH_256 σ; omega) (by omega))
  rw [e1]
  unfold onS inH
  rw [many_bset]
  have hle := fb_ct_le (fun s => decide (σ s < 24)) 8
  have e2 : ((8 : Int32) ≤ nI (fb_ct (fun s => decide (σ s < 24)) 8)) = (8 ≤ fb_ct (fun s => decide (σ s < 24)) 8) := propext (nI_leI (a := 8) (by omega) (by omega))
  rw [e2]
  apply propext
  rw [bset_z]
  constructor
  · intro h
    have h2 : fb_ct (fun s => decide (σ s < 24)) 8 = 8 := fb_full.mpr (fun k hk => by
      have h3 := h k hk
      have h4 := h24 k hk
      simp only [decide_eq_false_iff_not] at h3
      simp only [decide_eq_true_eq]
      omega)
    omega
  · intro h s hs8
    have h2 : fb_ct (fun s => decide (σ s < 24)) 8 = 8 := by omega
    have h3 := fb_full.mp h2 s hs8
    simp only [decide_eq_true_eq] at h3
    simp only [decide_eq_false_iff_not]
    omega
theorem PV_has {σ : Nat → Nat} {sp pg : Nat → Int32} {sl : Int32} {on : Nat → Int32} (h : PV σ sp pg sl on) {s : Nat} (hs8 : s < 8) : (D_X8_has sl (nI s) = 0) = (σ s = 24) := by
  obtain ⟨hW, h24, hs, hp, h16, rfl, hon⟩ := h
  have h1 := h24 s hs8
  rw [has_v (by have := onS_256 σ; omega) (by omega)]
  unfold onS
  rw [bv_bset _ hs8]
  apply propext
  by_cases c : σ s < 24
  · simp only [decide_eq_true_eq, if_pos c]
    exact ⟨fun z => absurd z (by decide), fun z => by omega⟩
  · simp only [decide_eq_true_eq, if_neg c]
    exact ⟨fun _ => by omega, fun _ => rfl⟩
theorem PV_put {σ : Nat → Nat} {sp pg : Nat → Int32} {sl : Int32} {on : Nat → Int32} (h : PV σ sp pg sl on) {s k : Nat} (hs8 : s < 8) (hk : k < 3) (c : σ s = 24) : PV (us σ s (8 * k + cnt σ k)) (upd sp s (nI (8 * k + cnt σ k))) (upd (upd pg s (nI k)) (8 + s) (on k)) (sl ||| (1 <<< (nI s &&& 31))) (upd on k (on k + 1)) := by
  obtain ⟨hW, h24, hs, hp, h16, rfl, hon⟩ := h
  obtain ⟨hW', hc⟩ := wf_put hW hs8 hk c
  refine ⟨hW', fun t ht => ?_, sp_us hs s _, fun t ht => ?_, ?_, ?_, fun k' hk' => ?_⟩
  · by_cases hts : t = s
    · subst hts
      rw [us_s]
      omega
    · rw [us_n _ _ hts]
      exact h24 t ht
  · by_cases hts : t = s
    · subst hts
      rw [us_s, up_n _ _ (by omega), up_s, up_s]
      refine ⟨?_, fun _ => ?_⟩
      · rw [(kd_k hk).mpr (by omega)]
      · rw [hon k hk]
        congr 1
        omega
    · rw [us_n _ _ hts, up_n _ _ (by omega), up_n _ _ hts]
      refine ⟨(hp t ht).1, fun z => ?_⟩
      rw [up_n _ _ (by omega), up_n _ _ (by omega)]
      exact (hp t ht).2 z
  · rw [up_n _ _ (by omega), up_n _ _ (by omega)]
    exact h16
  · rw [bit_1n s hs8, fa_or, onS_us hs8 (by omega)]
  · have h4 := cnt_us σ (8 * k + cnt σ k) k' hs8
    rw [if_neg (show ¬ σ s / 8 = k' by omega)] at h4
    by_cases hkk : k' = k
    · subst hkk
      rw [if_pos (by omega)] at h4
      rw [up_s, hon k' hk, nI_1]
      congr 1
      omega
    · rw [if_neg (by omega)] at h4
      rw [up_n _ _ hkk, hon k' hk']
      congr 1
      omega
/-! steps of the class's reader -/
section FL
variable (sp0 : Nat → Int32) (tx : Nat → Int32) (ts : Int32)
theorem fl_bad {n i : Nat} {sp kn gr : Nat → Int32} {gc aw t k ga gb l : Int32} (hl : D_X5_letterAt tx ts (nI i) = l) (h : (D_X2_reads sp kn gr gc aw t k ga gb l).1 = 0) : (D_X2_faultOf_l21 sp0 tx ts (n + 1) i sp kn gr gc aw t k ga gb).1 = nI i := by
  rw [D_X2_faultOf_l21_r sp0 tx ts n i sp kn gr gc aw t k ga gb _ (by unfold D_X2_faultOf_b21; rw [hl]; exact if_pos h)]
theorem fl_go {n i : Nat} {sp kn gr : Nat → Int32} {gc aw t k ga gb l : Int32} (hl : D_X5_letterAt tx ts (nI i) = l) {sp' kn' gr' : Nat → Int32} {gc' aw' t' k' ga' gb' : Int32} (h : D_X2_reads sp kn gr gc aw t k ga gb l = (1, sp', kn', gr', gc', aw', t', k', ga', gb')) : D_X2_faultOf_l21 sp0 tx ts (n + 1) i sp kn gr gc aw t k ga gb = D_X2_faultOf_l21 sp0 tx ts n (i + 1) sp' kn' gr' gc' aw' t' k' ga' gb' :=
  D_X2_faultOf_l21_s sp0 tx ts n i sp kn gr gc aw t k ga gb sp' kn' gr' gc' aw' t' k' ga' gb' (by unfold D_X2_faultOf_b21; rw [hl, h]; exact if_neg (by dsimp only; decide))
theorem fl_end {i : Nat} {sp kn gr : Nat → Int32} {gc aw t k ga gb : Int32} (h : ¬ aw = 1) : (D_X2_faultOf_l21 sp0 tx ts 0 i sp kn gr gc aw t k ga gb).1 = ts := by
  rw [D_X2_faultOf_l21]
  unfold D_X2_faultOf_k21
  rw [if_neg h]
end FL
theorem rd_1 (sp kn gr : Nat → Int32) (gc t k ga gb l : Int32) : D_X2_reads sp kn gr gc 1 t k ga gb l = ((D_X2_readsPart sp gc l).1, sp, kn, gr, gc, (D_X2_readsPart sp gc l).2, t, k, ga, gb) := by
  unfold D_X2_reads
  rw [if_neg (by decide), if_pos rfl]
theorem rd_2 (sp kn gr : Nat → Int32) (gc t k ga gb l : Int32) : D_X2_reads sp kn gr gc 2 t k ga gb l = (D_X7_isSpike (l - 48), sp, kn, gr, gc, 3, l - 48, k, ga, gb) := by
  unfold D_X2_reads D_X2_readsSpike
  rw [if_neg (by decide), if_neg (by decide), if_pos rfl]
theorem rd_3 (sp kn gr : Nat → Int32) (gc t k ga gb l : Int32) : D_X2_reads sp kn gr gc 3 t k ga gb l = (if D_X7_isRefusal (D_X4_putOn sp (l - 48) t).1 = 0 then 1 else 0, (D_X4_putOn sp (l - 48) t).2, kn, gr, gc, 1, t, k, ga, gb) := by
  unfold D_X2_reads D_X2_readsSlip
  rw [if_neg (by decide), if_neg (by decide), if_neg (by decide), if_pos rfl]
  split <;> rfl
theorem rd_4 (sp kn gr : Nat → Int32) (gc t k ga gb l : Int32) : D_X2_reads sp kn gr gc 4 t k ga gb l = ((D_X2_readsKind l).1, sp, kn, gr, gc, 5, t, l - 48, ga, gb) := by
  unfold D_X2_reads D_X2_readsKind
  rw [if_neg (by decide), if_neg (by decide), if_neg (by decide), if_neg (by decide), if_pos rfl]
  split
  · rfl
  · split <;> rfl
theorem rd_g (sp kn gr : Nat → Int32) (gc t k ga gb l : Int32) {aw : Int32} (h : aw = 5 ∨ aw = 6 ∨ aw = 7) : D_X2_reads sp kn gr gc aw t k ga gb l = ((D_X2_readsGround kn gr gc aw k ga gb l).1, sp, (D_X2_readsGround kn gr gc aw k ga gb l).2.1, (D_X2_readsGround kn gr gc aw k ga gb l).2.2.1, (D_X2_readsGround kn gr gc aw k ga gb l).2.2.2.1, (D_X2_readsGround kn gr gc aw k ga gb l).2.2.2.2.1, t, k, (D_X2_readsGround kn gr gc aw k ga gb l).2.2.2.2.2.1, (D_X2_readsGround kn gr gc aw k ga gb l).2.2.2.2.2.2) := by
  have h0 : ¬ aw = 0 := by rcases h with rfl | rfl | rfl <;> decide
  have h1 : ¬ aw = 1 := by rcases h with rfl | rfl | rfl <;> decide
  have h2 : ¬ aw = 2 := by rcases h with rfl | rfl | rfl <;> decide
  have h3 : ¬ aw = 3 := by rcases h with rfl | rfl | rfl <;> decide
  have h4 : ¬ aw = 4 := by rcases h with rfl | rfl | rfl <;> decide
  unfold D_X2_reads
  rw [if_neg h0, if_neg h1, if_neg h2, if_neg h3, if_neg h4]
/-! one ground -/
theorem gr_d : ∀ T, T < 7 → ∀ x, x < 6 → (D_X6_has (nI T) (nI x) = 0 ↔ ¬ x < T) := has_d
theorem ground_cases {T : Nat} (hT : T < 6) (l : Int32) : (D_X2_groundTold (nI T) l = -9 ∧ D_X8_in l.toInt64 48 55 = 0 ∧ D_X8_in l.toInt64 65 ((65 + nI T) - 1).toInt64 = 0) ∨ ∃ x, D_X2_groundTold (nI T) l = nI x ∧ x < 16 ∧ ((x < 8 ∧ D_X8_in l.toInt64 48 55 = 1 ∧ l - 48 = nI x) ∨ (10 ≤ x ∧ x < 10 + T ∧ D_X8_in l.toInt64 48 55 = 0 ∧ D_X8_in l.toInt64 65 ((65 + nI T) - 1).toInt64 = 1 ∧ (10 + l) - 65 = nI x)) := by
  have e0 : ((65 : Int32) + nI T) - 1 = nI (64 + T) := by
    rw [show (65 : Int32) = nI 65 from rfl, nI_add, show 65 + T = (64 + T) + 1 by omega, nI_pred]
  have hin1 : D_X8_in l.toInt64 48 55 = if 48 ≤ l.toInt ∧ l.toInt ≤ 55 then 1 else 0 := by
    rw [in_iff, Int32.toInt_toInt64]
    rfl
  have hin2 : D_X8_in l.toInt64 65 ((65 + nI T) - 1).toInt64 = if 65 ≤ l.toInt ∧ l.toInt ≤ 64 + T then 1 else 0 := by
    rw [e0, nI_l (by omega), in_iff, Int32.toInt_toInt64, pf_lI (by omega)]
    show (if (65 : Int) ≤ l.toInt ∧ l.toInt ≤ ((64 + T : Nat) : Int) then (1 : Int32) else 0) = _
    congr 1
  rw [hin1, hin2]
  unfold D_X2_groundTold
  by_cases c1 : 48 ≤ l.toInt ∧ l.toInt ≤ 55
  · obtain ⟨j, hj, rfl⟩ := vp_in_of (x := l) (n := 56) (by rw [vp_in_iff]; omega) (by omega)
    rw [nI_toInt (by omega)] at c1
    have es : nI j - 48 = nI (j - 48) := pk_sub (b := 48) (by omega)
    rw [es, if_neg (isSlip_t (by omega))]
    refine Or.inr ⟨j - 48, rfl, by omega, Or.inl ⟨by omega, ?_, rfl⟩⟩
    rw [nI_toInt (by omega)]
    exact if_pos (by omega)
  · have hs : D_X7_isSlip (l - 48) = 0 := by
      by_cases h : D_X7_isSlip (l - 48) = 0
      · exact h
      · obtain ⟨j, hj, e⟩ := vp_in_of (vin_isSlip h) (by decide)
        have e2 : l = nI (j + 48) := by
          have : l = (l - 48) + 48 := (Int32.sub_add_cancel l 48).symm
          rw [this, e, show (48 : Int32) = nI 48 from rfl, nI_add]
        rw [e2, nI_toInt (by omega)] at c1
        omega
    rw [if_pos hs, if_neg c1]
    by_cases c2 : 65 ≤ l.toInt ∧ l.toInt ≤ 64 + T
    · obtain ⟨j, hj, rfl⟩ := vp_in_of (x := l) (n := 71) (by rw [vp_in_iff]; omega) (by omega)
      have c3 := c2
      rw [nI_toInt (by omega)] at c3
      have es : nI j - 65 = nI (j - 65) := pk_sub (b := 65) (by omega)
      have ex : (10 : Int32) + nI j - 65 = nI (10 + (j - 65)) := by
        rw [show (10 : Int32) = nI 10 from rfl, show (65 : Int32) = nI 65 from rfl, nI_add, pk_sub (by omega)]
        congr 1
        omega
      rw [es, if_neg (fun z => (has_d T (by omega) (j - 65) (by omega)).mp z (by omega)), if_pos c2, ex]
      exact Or.inr ⟨10 + (j - 65), rfl, by omega, Or.inr ⟨by omega, by omega, rfl, rfl, rfl⟩⟩
    · have hh : D_X6_has (nI T) (l - 65) = 0 := by
        by_cases h : D_X6_has (nI T) (l - 65) = 0
        · exact h
        · have hv : vp_in (l - 65) T := vin_X6_has (n := T) (by unfold inR; rw [nI_toInt (by omega)]; omega) h
          obtain ⟨j, hj, e⟩ := vp_in_of hv (by omega)
          have e2 : l = nI (j + 65) := by
            have : l = (l - 65) + 65 := (Int32.sub_add_cancel l 65).symm
            rw [this, e, show (65 : Int32) = nI 65 from rfl, nI_add]
          rw [e2, nI_toInt (by omega)] at c2
          omega
      rw [if_pos hh, if_neg c2]
      exact Or.inl ⟨rfl, rfl, rfl⟩
