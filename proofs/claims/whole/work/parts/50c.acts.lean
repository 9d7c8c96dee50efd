theorem sp_us {σ : Nat → Nat} {sp : Nat → Int32} (h : SPi σ sp) (s v : Nat) : SPi (us σ s v) (upd sp s (nI v)) := by
  intro t ht
  by_cases hts : t = s
  · subst hts
    rw [up_s, us_s]
  · rw [up_n _ _ hts, us_n _ _ hts]
    exact h t ht
theorem spikeOf_v {sp : Nat → Int32} {s v : Nat} (hs : s < 8) (hv : v < 26) (h : sp s = nI v) : D_X4_spikeOf sp (nI s) = if v < 24 then nI (v / 8) else -9 := by
  unfold D_X4_spikeOf
  rw [if_neg (isSlip_t hs), cl8 hs, h, div8 _ hv]
  by_cases h1 : v < 24
  · rw [if_pos h1, if_neg (fun z => absurd ((le24 hv).mp z) (by omega))]
  · rw [if_neg h1, if_pos ((le24 hv).mpr (by omega))]
theorem heightOf_v {sp : Nat → Int32} {s v : Nat} (hs : s < 8) (hv : v < 26) (h : sp s = nI v) : D_X4_heightOf sp (nI s) = if v < 24 then nI (v % 8) else -9 := by
  unfold D_X4_heightOf
  rw [if_neg (isSlip_t hs), cl8 hs, h, mod8 _ hv]
  by_cases h1 : v < 24
  · rw [if_pos h1, if_neg (fun z => absurd ((le24 hv).mp z) (by omega))]
  · rw [if_neg h1, if_pos ((le24 hv).mpr (by omega))]
theorem spk_v {sp : Nat → Int32} {s v k : Nat} (hs : s < 8) (hv : v < 26) (h : sp s = nI v) (hk : k < 3) : D_X4_spikeOf sp (nI s) = nI k ↔ v / 8 = k := by
  rw [spikeOf_v hs hv h]
  by_cases h1 : v < 24
  · rw [if_pos h1]
    exact nI_eq (by omega) (by omega)
  · rw [if_neg h1]
    exact ⟨fun z => absurd z (n9 k (by omega)), fun z => by omega⟩
theorem lose_l {σ : Nat → Nat} {sp : Nat → Int32} (hW : ∀ s, s < 8 → σ s < 26) (h : SPi σ sp) {k : Nat} (hk : k < 3) : ∀ n, n ≤ 8 → (∀ t, n ≤ t → D_X4_loseLowest_l2 (nI k) sp n t = sp t) ∧ ∀ t, t < n → D_X4_loseLowest_l2 (nI k) sp n t = nI (nt1 σ k t)
  | 0, _ => ⟨fun t _ => rfl, fun t ht => by omega⟩
  | n + 1, hn => by
    obtain ⟨h1, h2⟩ := lose_l hW h hk n (by omega)
    have hb := hW n (by omega)
    have e0 : D_X4_loseLowest_l2 (nI k) sp n n = nI (σ n) := by rw [h1 n (Nat.le_refl n)]; exact h n (by omega)
    rw [D_X4_loseLowest_l2]
    unfold D_X4_loseLowest_b2 D_X4_loseLowest_j43
    by_cases c1 : σ n / 8 = k
    · rw [if_pos ((spk_v (by omega) hb e0 hk).mpr c1), heightOf_v (by omega) hb e0, if_pos (by omega : σ n < 24), cl8 (by omega), e0]
      have key : ∀ x : Int32, x = nI (nt1 σ k n) → (∀ t, n + 1 ≤ t → upd (D_X4_loseLowest_l2 (nI k) sp n) n x t = sp t) ∧ ∀ t, t < n + 1 → upd (D_X4_loseLowest_l2 (nI k) sp n) n x t = nI (nt1 σ k t) := by
        intro x hx
        refine ⟨fun t ht => ?_, fun t ht => ?_⟩
        · rw [up_n _ _ (by omega)]
          exact h1 t (by omega)
        · by_cases htn : t = n
          · subst htn
            rw [up_s, hx]
          · rw [up_n _ _ htn]
            exact h2 t (by omega)
      by_cases c2 : σ n % 8 = 0
      · rw [if_pos (by rw [c2]; exact nI_0)]
        exact key _ (by rw [nt1_in c1, if_pos c2]; rfl)
      · rw [if_neg (nI_ne0 (by omega) (by omega))]
        refine key _ ?_
        rw [nt1_in c1, if_neg c2]
        exact pk_sub (a := σ n) (b := 1) (by omega)
    · rw [if_neg (fun z => c1 ((spk_v (by omega) hb e0 hk).mp z))]
      refine ⟨fun t ht => h1 t (by omega), fun t ht => ?_⟩
      by_cases htn : t = n
      · subst htn
        rw [e0, nt1_out c1]
      · exact h2 t (by omega)
theorem sp_night1 {σ : Nat → Nat} {sp : Nat → Int32} (hW : ∀ s, s < 8 → σ s < 26) (h : SPi σ sp) {k : Nat} (hk : k < 3) : SPi (nt1 σ k) (D_X4_loseLowest sp (nI k)) := by
  have h1 := (lose_l hW h hk 8 (Nat.le_refl 8)).2
  unfold D_X4_loseLowest D_X4_loseLowest_k2
  generalize D_X4_loseLowest_l2 (nI k) sp 8 = f at h1 ⊢
  exact h1
theorem sp_nts {σ : Nat → Nat} {sp : Nat → Int32} (hW : WFs σ) (h : SPi σ sp) : ∀ k, k ≤ 3 → SPi (nts σ k) (D_X4_letMiceIn_l4 0 sp k).2 ∧ (D_X4_letMiceIn_l4 0 sp k).1 = nI (eat σ k)
  | 0, _ => ⟨h, rfl⟩
  | k + 1, hk => by
    obtain ⟨h1, h2⟩ := sp_nts hW h k (by omega)
    have hW1 := wf_nts hW k (by omega)
    have hc8 := cnt_le (nts σ k) k
    have hh := countOn_x hW1.1 h1 (k := k) (by omega)
    rw [D_X4_letMiceIn_l4, nts, eat]
    unfold D_X4_letMiceIn_b4
    rw [hh]
    by_cases hc : cnt (nts σ k) k < 3
    · rw [if_pos ((lt3 (by omega)).mpr hc), if_pos hc, if_pos hc]
      exact ⟨h1, h2⟩
    · rw [if_neg (fun z => hc ((lt3 (by omega)).mp z)), if_neg hc, if_neg hc]
      dsimp only
      rw [h2]
      exact ⟨sp_night1 hW1.1 h1 (by omega), nI_1 _⟩
theorem sp_night {σ : Nat → Nat} {sp : Nat → Int32} (hW : WFs σ) (h : SPi σ sp) (nt : Int32) : SPi (nts σ 3) (D_X4_letMiceIn sp nt).2.1 ∧ (D_X4_letMiceIn sp nt).1 = nI (eat σ 3) ∧ (D_X4_letMiceIn sp nt).2.2 = nt + 1 := by
  obtain ⟨h1, h2⟩ := sp_nts hW h 3 (Nat.le_refl 3)
  unfold D_X4_letMiceIn D_X4_letMiceIn_k4
  dsimp only
  exact ⟨h1, h2, rfl⟩
theorem aud8 : ∀ k, k < 3 → ∀ n, n < 9 → ∀ x, x < n → nI k * 8 + (nI n - 1) - nI x = nI (8 * k + (n - 1 - x)) := by decide
theorem turn_l {σ : Nat → Nat} {sp : Nat → Int32} (hW : WFs σ) (h : SPi σ sp) {k : Nat} (hk : k < 3) : ∀ n, n ≤ 8 → (∀ t, n ≤ t → D_X4_turnOver_l19 (nI k) sp sp n t = sp t) ∧ ∀ t, t < n → D_X4_turnOver_l19 (nI k) sp sp n t = nI (aud σ k t)
  | 0, _ => ⟨fun t _ => rfl, fun t ht => by omega⟩
  | n + 1, hn => by
    obtain ⟨h1, h2⟩ := turn_l hW h hk n (by omega)
    have hb := hW.1 n (by omega)
    have hc8 := cnt_le σ k
    have e0 : D_X4_turnOver_l19 (nI k) sp sp n n = nI (σ n) := by rw [h1 n (Nat.le_refl n)]; exact h n (by omega)
    rw [D_X4_turnOver_l19]
    unfold D_X4_turnOver_b19
    by_cases c1 : σ n / 8 = k
    · have h3 := hW.2.2.1 n (by omega) (by omega)
      rw [c1] at h3
      rw [if_pos ((spk_v (by omega) hb e0 hk).mpr c1), heightOf_v (by omega) hb e0, if_pos (by omega : σ n < 24), cl8 (by omega), countOn_x hW.1 h hk, aud8 k hk _ (by omega) _ h3]
      refine ⟨fun t ht => ?_, fun t ht => ?_⟩
      · rw [up_n _ _ (by omega)]
        exact h1 t (by omega)
      · by_cases htn : t = n
        · subst htn
          rw [up_s, aud_in c1]
        · rw [up_n _ _ htn]
          exact h2 t (by omega)
    · rw [if_neg (fun z => c1 ((spk_v (by omega) hb e0 hk).mp z))]
      refine ⟨fun t ht => h1 t (by omega), fun t ht => ?_⟩
      by_cases htn : t = n
      · subst htn
        rw [e0, aud_out c1]
      · exact h2 t (by omega)
theorem sp_audit {σ : Nat → Nat} {sp : Nat → Int32} (hW : WFs σ) (h : SPi σ sp) {k : Nat} (hk : k < 3) : SPi (aud σ k) (D_X4_turnOver sp (nI k)).2 ∧ (D_X4_turnOver sp (nI k)).1 = D_X4_topOf (D_X4_turnOver sp (nI k)).2 (nI k) := by
  have h1 := (turn_l hW h hk 8 (Nat.le_refl 8)).2
  unfold D_X4_turnOver D_X4_turnOver_k19
  rw [if_neg (isSpike_t hk)]
  dsimp only
  generalize D_X4_turnOver_l19 (nI k) sp sp 8 = f at h1 ⊢
  exact ⟨h1, rfl⟩
