theorem n9 (k : Nat) (h : k < 100) : ¬ (-9 : Int32) = nI k := fun z => nI_ne9 k h z.symm
theorem spk_iff {σ : Nat → Nat} {sp : Nat → Int32} (hW : ∀ s, s < 8 → σ s < 26) (h : SPi σ sp) {s k : Nat} (hs : s < 8) (hk : k < 3) : D_X4_spikeOf sp (nI s) = nI k ↔ σ s / 8 = k := by
  rw [spikeOf_x hW h hs]
  by_cases h1 : σ s < 24
  · rw [if_pos h1]
    exact nI_eq (by omega) (by omega)
  · rw [if_neg h1]
    exact ⟨fun z => absurd z (n9 k (by omega)), fun z => by omega⟩
theorem slipAt_l {σ : Nat → Nat} {sp : Nat → Int32} (hW : ∀ s, s < 8 → σ s < 26) (h : SPi σ sp) {k : Nat} (hk : k < 3) (H : Int32) : ∀ n i, i + n = 8 → (∀ s, s < i → σ s / 8 = k → nI (σ s % 8) ≠ H) → ((∃ s, s < 8 ∧ σ s / 8 = k ∧ nI (σ s % 8) = H ∧ D_X4_slipAt_l2 (nI k) H sp n i = nI s) ∨ ((∀ s, s < 8 → σ s / 8 = k → nI (σ s % 8) ≠ H) ∧ D_X4_slipAt_l2 (nI k) H sp n i = -9))
  | 0, i, hi, hn => Or.inr ⟨fun s hs => hn s (by omega), rfl⟩
  | n + 1, i, hi, hn => by
    by_cases c1 : σ i / 8 = k
    · have e1 := (spk_iff hW h (by omega : i < 8) hk).mpr c1
      by_cases c2 : nI (σ i % 8) = H
      · have e2 : D_X4_heightOf sp (nI i) = H := by rw [heightOf_x hW h (by omega), if_pos (by omega)]; exact c2
        rw [D_X4_slipAt_l2_r (nI k) H sp n i (nI i) (by unfold D_X4_slipAt_b2; rw [if_pos e1, if_pos e2])]
        exact Or.inl ⟨i, by omega, c1, c2, rfl⟩
      · have e2 : ¬ D_X4_heightOf sp (nI i) = H := by rw [heightOf_x hW h (by omega), if_pos (by omega)]; exact c2
        rw [D_X4_slipAt_l2_s (nI k) H sp n i (by unfold D_X4_slipAt_b2; rw [if_pos e1, if_neg e2])]
        refine slipAt_l hW h hk H n (i + 1) (by omega) (fun s hs hq => ?_)
        by_cases hsi : s = i
        · subst hsi; exact c2
        · exact hn s (by omega) hq
    · have e1 : ¬ D_X4_spikeOf sp (nI i) = nI k := fun z => c1 ((spk_iff hW h (by omega : i < 8) hk).mp z)
      rw [D_X4_slipAt_l2_s (nI k) H sp n i (by unfold D_X4_slipAt_b2; rw [if_neg e1])]
      refine slipAt_l hW h hk H n (i + 1) (by omega) (fun s hs hq => ?_)
      by_cases hsi : s = i
      · subst hsi; exact absurd hq c1
      · exact hn s (by omega) hq
theorem slipAt_v {σ : Nat → Nat} {sp : Nat → Int32} (hW : ∀ s, s < 8 → σ s < 26) (h : SPi σ sp) {k : Nat} (hk : k < 3) (H : Int32) : (∃ s, s < 8 ∧ σ s / 8 = k ∧ nI (σ s % 8) = H ∧ D_X4_slipAt sp (nI k) H = nI s) ∨ ((∀ s, s < 8 → σ s / 8 = k → nI (σ s % 8) ≠ H) ∧ D_X4_slipAt sp (nI k) H = -9) := slipAt_l hW h hk H 8 0 (by omega) (fun s hs => by omega)
/-- the two sides find the same slip -/
theorem slipAt_eq {σ : Nat → Nat} {sp q : Nat → Int32} (hW : WFs σ) (h : SPi σ sp) (hq : PGi σ q) {k : Nat} (hk : k < 3) (H : Int32) : D_X4_slipAt sp (nI k) H = D_X8_slipOn q (nI k) H := by
  rcases slipAt_v hW.1 h hk H with ⟨s, a, b, c, d⟩ | ⟨a, b⟩ <;> rcases slipOn_v hW hq hk H with ⟨s', a', b', c', d'⟩ | ⟨a', b'⟩
  · rw [d, d']
    congr 1
    have := (nI_eq (by omega) (by omega)).mp (c.trans c'.symm)
    exact hW.2.1 s s' a a' (by omega) (by omega)
  · exact absurd c (a' s a b)
  · exact absurd c' (a s' a' b')
  · rw [b, b']
theorem topOf_eq {σ : Nat → Nat} {sp q : Nat → Int32} (hW : WFs σ) (h : SPi σ sp) (hq : PGi σ q) {k : Nat} (hk : k < 3) : D_X4_topOf sp (nI k) = D_X8_topOf q (nI k) := by
  unfold D_X4_topOf D_X8_topOf
  rw [countOn_x hW.1 h hk, highOn_v hW.1 hq hk]
  exact slipAt_eq hW h hq hk _
/-- a slip's, a spike's, a thing's number on both sides -/
theorem slip_cases (x : Int32) : (D_X7_isSlip x = 0 ∧ ¬ D_X8_noSlip x = 0) ∨ ∃ s, s < 8 ∧ x = nI s ∧ ¬ D_X7_isSlip x = 0 ∧ D_X8_noSlip x = 0 := by
  by_cases h : D_X8_noSlip x = 0
  · obtain ⟨s, hs, rfl⟩ := vp_in_of (vin_noSlip h) (by decide)
    exact Or.inr ⟨s, hs, rfl, isSlip_t hs, h⟩
  · refine Or.inl ⟨?_, h⟩
    by_cases h2 : D_X7_isSlip x = 0
    · exact h2
    · obtain ⟨s, hs, rfl⟩ := vp_in_of (vin_isSlip h2) (by decide)
      exact absurd (by revert s; decide) h
theorem spike_cases (x : Int32) : (D_X7_isSpike x = 0 ∧ ¬ D_X8_noSpike x = 0) ∨ ∃ s, s < 3 ∧ x = nI s ∧ ¬ D_X7_isSpike x = 0 ∧ D_X8_noSpike x = 0 := by
  by_cases h : D_X8_noSpike x = 0
  · obtain ⟨s, hs, rfl⟩ := vp_in_of (vin_noSpike h) (by decide)
    exact Or.inr ⟨s, hs, rfl, isSpike_t hs, h⟩
  · refine Or.inl ⟨?_, h⟩
    by_cases h2 : D_X7_isSpike x = 0
    · exact h2
    · obtain ⟨s, hs, rfl⟩ := vp_in_of (vin_isSpike h2) (by decide)
      exact absurd (by revert s; decide) h
