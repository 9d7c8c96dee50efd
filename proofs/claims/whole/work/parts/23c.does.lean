/-! the model's doings keep a page well formed -/
theorem kd3 {v : Nat} (h : v < 26) (h3 : kd v = 3) : v = 24 := by unfold kd at h3; split at h3 <;> omega
theorem kd4 {v : Nat} (h : v < 26) (h3 : kd v = 4) : v = 25 := by unfold kd at h3; split at h3 <;> omega
theorem pg_kind {σ : Nat → Nat} {q : Nat → Int32} (hW : WFs σ) (h : PGi σ q) {s c : Nat} (hs : s < 8) (hc : c < 100) : q s = nI c ↔ kd (σ s) = c := by
  rw [(h s hs).1]
  have := kd_lt (hW.1 s hs)
  exact nI_eq (by omega) (by omega)
theorem topOf_hit {σ : Nat → Nat} {q : Nat → Int32} (hW : WFs σ) (h : PGi σ q) {k n : Nat} (hk : k < 3) (hn : cnt σ k = n + 1) : ∃ s, s < 8 ∧ σ s = 8 * k + n ∧ D_X8_topOf q (nI k) = nI s := by
  obtain ⟨s, hs, he⟩ := hW.2.2.2 k n hk (by omega)
  have := cnt_le σ k
  refine ⟨s, hs, he, ?_⟩
  unfold D_X8_topOf
  rw [highOn_v hW.1 h hk, hn]
  have e1 : nI (n + 1) - 1 = nI n := nI_pred n
  rw [e1]
  exact slipOn_hit hW h hk (by omega) hs he
theorem topOf_miss {σ : Nat → Nat} {q : Nat → Int32} (hW : WFs σ) (h : PGi σ q) {k : Nat} (hk : k < 3) (hn : cnt σ k = 0) : D_X8_topOf q (nI k) = -9 := by
  unfold D_X8_topOf
  rw [highOn_v hW.1 h hk, hn]
  rcases slipOn_v hW h hk (nI 0 - 1) with ⟨s, a, b, c, d⟩ | ⟨a, b⟩
  · have := hW.2.2.1 s a (by omega)
    rw [b, hn] at this
    omega
  · exact b
theorem nI_ne9 (s : Nat) (h : s < 100) : ¬ nI s = -9 := by
  revert s
  decide
theorem pg_goPut {σ : Nat → Nat} {q : Nat → Int32} (hW : WFs σ) (h : PGi σ q) {s k : Nat} (hs : s < 8) (hk : k < 3) (hq : q s = 3) : σ s = 24 ∧ WFs (us σ s (8 * k + cnt σ k)) ∧ PGi (us σ s (8 * k + cnt σ k)) (D_X8_goPut q (nI s) (nI k)) := by
  have h24 : σ s = 24 := kd3 (hW.1 s hs) ((pg_kind hW h hs (by omega)).mp hq)
  obtain ⟨h1, h2⟩ := wf_put hW hs hk h24
  exact ⟨h24, h1, pg_put hW.1 h hs hk h2⟩
theorem pg_turn {σ : Nat → Nat} {q : Nat → Int32} (hW : WFs σ) (h : PGi σ q) {s a b : Nat} (hs : s < 8) (ha : a = 3 ∨ a = 4) (hb : b = 3 ∨ b = 4) (hq : q s = nI a) : σ s = a + 21 ∧ WFs (us σ s (b + 21)) ∧ PGi (us σ s (b + 21)) (D_X8_goAway q (nI s) (nI b)) := by
  have h1 := (pg_kind hW h hs (by omega)).mp hq
  have h2 : σ s = a + 21 := by
    rcases ha with rfl | rfl
    · exact kd3 (hW.1 s hs) h1
    · exact kd4 (hW.1 s hs) h1
  have h3 := pg_away h hs (v := b + 21) (by omega)
  rw [show b + 21 - 21 = b by omega] at h3
  exact ⟨h2, wf_off hW hs (by omega) (by omega) (by omega), h3⟩
theorem pg_take {σ : Nat → Nat} {q : Nat → Int32} (hW : WFs σ) (h : PGi σ q) {k n s : Nat} (hs : s < 8) (hk : k < 3) (hn : cnt σ k = n + 1) (he : σ s = 8 * k + n) : WFs (us σ s 24) ∧ PGi (us σ s 24) (D_X8_goAway q (nI s) 3) :=
  ⟨wf_take hW hs hk hn he, pg_away h hs (v := 24) (by omega)⟩
theorem WFp_mk {σ : Nat → Nat} {q : Nat → Int32} (hW : WFs σ) (h : PGi σ q) : WFp q := ⟨σ, hW, h⟩
theorem WFp_turns {q : Nat → Int32} (h : WFp q) (x : Int32) {a b : Nat} (ha : a = 3 ∨ a = 4) (hb : b = 3 ∨ b = 4) : WFp (D_X8_turns q x (nI a) (nI b)).2 := by
  unfold D_X8_turns D_X8_turns_j21 D_X8_turns_j22
  split
  · rename_i h1
    split
    · rename_i h2
      rw [if_neg (by decide)]
      obtain ⟨s, hs, rfl⟩ := vp_in_of (vin_noSlip h1) (by decide)
      rw [cl8 hs] at h2
      obtain ⟨σ, hW, hP⟩ := h
      obtain ⟨-, h3, h4⟩ := pg_turn hW hP hs ha hb h2
      dsimp only
      exact WFp_mk h3 h4
    · rw [if_pos rfl]; exact h
  · rw [if_pos rfl]; exact h
theorem WFp_takesTop {q : Nat → Int32} (h : WFp q) (x : Int32) : WFp (D_X8_takesTop q x).2 := by
  unfold D_X8_takesTop D_X8_takesTop_j20 D_X8_takesTop_j36
  split
  · rename_i h1
    obtain ⟨k, hk, rfl⟩ := vp_in_of (vin_noSpike h1) (by decide)
    obtain ⟨σ, hW, hP⟩ := h
    by_cases hn : cnt σ k = 0
    · rw [topOf_miss hW hP hk hn, if_pos rfl, if_pos rfl]
      exact ⟨σ, hW, hP⟩
    · obtain ⟨n, hn⟩ : ∃ n, cnt σ k = n + 1 := ⟨cnt σ k - 1, by omega⟩
      obtain ⟨s, hs, he, ht⟩ := topOf_hit hW hP hk hn
      rw [ht, if_neg (nI_ne9 s (by omega)), if_neg (nI_ne9 s (by omega))]
      obtain ⟨h3, h4⟩ := pg_take hW hP hs hk hn he
      dsimp only
      exact WFp_mk h3 h4
  · rw [if_pos rfl, if_pos rfl]; exact h
theorem WFp_doesTo {q : Nat → Int32} (h : WFp q) (th : Int32) (kn gr : Nat → Int32) (x y : Int32) : WFp (D_X8_doesTo th kn gr q x y).2 := by
  unfold D_X8_doesTo
  split
  · exact WFp_takesTop h y
  · split
    · exact WFp_turns h y (a := 3) (b := 4) (Or.inl rfl) (Or.inr rfl)
    · split
      · exact WFp_turns h y (a := 4) (b := 3) (Or.inr rfl) (Or.inl rfl)
      · split
        · split
          · rename_i h1
            obtain ⟨k, hk, rfl⟩ := vp_in_of (vin_noSpike h1) (by decide)
            obtain ⟨σ, hW, hP⟩ := h
            dsimp only
            exact WFp_mk (wf_audit hW hk).1 (pg_audit hW hP hk).1
          · exact h
        · split
          · split
            · split <;> exact h
            · exact h
          · exact h
theorem WFp_does {q : Nat → Int32} (h : WFp q) {th : Int32} {kn gr : Nat → Int32} {x : Int32} : WFp (D_X8_does th kn gr q x).2 := by
  unfold D_X8_does D_X8_does_c12 D_X8_does_j67 D_X8_does_j68
  generalize x / 10 - x / 10 / 10 * 10 = c
  generalize x - x / 10 * 10 = b
  split
  · exact WFp_night h
  · split
    · split
      · rename_i h1
        split
        · rename_i h2
          split
          · rename_i h3
            rw [if_neg (by decide)]
            obtain ⟨s, hs, rfl⟩ := vp_in_of (vin_noSlip h1) (by decide)
            obtain ⟨k, hk, rfl⟩ := vp_in_of (vin_noSpike h2) (by decide)
            rw [cl8 hs] at h3
            obtain ⟨σ, hW, hP⟩ := h
            obtain ⟨-, h4, h5⟩ := pg_goPut hW hP hs hk h3
            dsimp only
            exact WFp_mk h4 h5
          · rw [if_pos rfl]; exact h
        · rw [if_pos rfl]; exact h
      · rw [if_pos rfl]; exact h
    · split
      · split <;> exact WFp_doesTo h _ _ _ _ _
      · exact h
