/-! one told doing on both sides -/
def TA (r : Int32) (sp sp' pg : Nat → Int32) (M : Int32 × (Nat → Int32)) : Prop := (D_X7_isRefusal r = 0 ∧ M.1 = 1 ∧ TS sp' M.2) ∨ (¬ D_X7_isRefusal r = 0 ∧ sp' = sp ∧ M = (0, pg))
theorem TA_no {r : Int32} {sp pg : Nat → Int32} {M : Int32 × (Nat → Int32)} (h : ¬ D_X7_isRefusal r = 0) (hM : M = (0, pg)) : TA r sp sp pg M := Or.inr ⟨h, rfl, hM⟩
theorem rf1 : ¬ D_X7_isRefusal (-1) = 0 := by decide
theorem rf3 : ¬ D_X7_isRefusal (-3) = 0 := by decide
theorem TS_put {sp pg : Nat → Int32} (h : TS sp pg) (x y : Int32) : (D_X7_isRefusal (D_X4_putOn sp x y).1 = 0 ∧ D_X8_noSlip x = 0 ∧ D_X8_noSpike y = 0 ∧ pg x.toNatClampNeg = 3 ∧ TS (D_X4_putOn sp x y).2 (D_X8_goPut pg x y)) ∨ (¬ D_X7_isRefusal (D_X4_putOn sp x y).1 = 0 ∧ (D_X4_putOn sp x y).2 = sp ∧ (¬ D_X8_noSlip x = 0 ∨ ¬ D_X8_noSpike y = 0 ∨ ¬ pg x.toNatClampNeg = 3)) := by
  obtain ⟨σ, hW, hs, hp⟩ := h
  rcases slip_cases x with ⟨h1, h2⟩ | ⟨s, hs8, rfl, h1, h2⟩
  · rw [putOn_u (Or.inl h1)]
    exact Or.inr ⟨rf1, rfl, Or.inl h2⟩
  · rcases spike_cases y with ⟨h3, h4⟩ | ⟨k, hk, rfl, h3, h4⟩
    · rw [putOn_u (Or.inr h3)]
      exact Or.inr ⟨rf1, rfl, Or.inr (Or.inl h4)⟩
    · by_cases c : σ s = 24
      · have hq := (pg_24 hW hp hs8).mpr c
        have hc8 := cnt_le σ k
        rw [putOn_y hW hs hs8 hk c]
        refine Or.inl ⟨ref_nI (by omega), h2, h4, hq, ?_⟩
        rw [cl8 hs8] at hq
        obtain ⟨-, hW', hp'⟩ := pg_goPut hW hp hs8 hk hq
        exact ⟨_, hW', sp_us hs s _, hp'⟩
      · rw [putOn_n hW hs hs8 hk c]
        exact Or.inr ⟨rf3, rfl, Or.inr (Or.inr (fun z => c ((pg_24 hW hp hs8).mp z)))⟩
theorem TS_take {sp pg : Nat → Int32} (h : TS sp pg) (x : Int32) : TA (D_X4_takeTop sp x).1 sp (D_X4_takeTop sp x).2 pg (D_X8_takesTop pg x) := by
  obtain ⟨σ, hW, hs, hp⟩ := h
  unfold D_X8_takesTop D_X8_takesTop_j20 D_X8_takesTop_j36
  rcases spike_cases x with ⟨h3, h4⟩ | ⟨k, hk, rfl, h3, h4⟩
  · rw [take_u h3]
    refine TA_no rf1 ?_
    rw [if_neg h4, if_pos rfl, if_pos rfl]
  · rw [if_pos h4]
    by_cases c : cnt σ k = 0
    · obtain ⟨e1, e2⟩ := take_n hW hs hp hk c
      rw [e1, e2]
      refine TA_no rf3 ?_
      rw [if_pos rfl, if_pos rfl]
    · obtain ⟨s, hs8, he, e1, e2⟩ := take_y hW hs hp hk (n := cnt σ k - 1) (by omega)
      obtain ⟨hW', hp'⟩ := pg_take hW hp hs8 hk (n := cnt σ k - 1) (by omega) he
      rw [e1, e2, if_neg (nI_ne9 s (by omega)), if_neg (nI_ne9 s (by omega))]
      exact Or.inl ⟨ref_nI (by omega), rfl, ⟨_, hW', sp_us hs s _, hp'⟩⟩
theorem turns_no {pg : Nat → Int32} {x a b : Int32} (h : ¬ D_X8_noSlip x = 0 ∨ ¬ pg x.toNatClampNeg = a) : D_X8_turns pg x a b = (0, pg) := by
  unfold D_X8_turns D_X8_turns_j21 D_X8_turns_j22
  by_cases h1 : D_X8_noSlip x = 0
  · rw [if_pos h1, if_neg (h.resolve_left (fun z => z h1)), if_pos rfl]
  · rw [if_neg h1, if_pos rfl]
theorem turns_yes {pg : Nat → Int32} {x a b : Int32} (h1 : D_X8_noSlip x = 0) (h2 : pg x.toNatClampNeg = a) : D_X8_turns pg x a b = (1, D_X8_goAway pg x b) := by
  unfold D_X8_turns D_X8_turns_j22
  rw [if_pos h1, if_pos h2, if_neg (by decide)]
theorem many_ref (x : Int32) : D_X7_isRefusal (D_X8_many x) = 0 := by
  obtain ⟨j, hj, e⟩ := many_nI x
  rw [e]
  exact ref_nI (by omega)
theorem TS_tear {sp pg : Nat → Int32} (h : TS sp pg) (x : Int32) : TA (D_X4_tearUp sp x).1 sp (D_X4_tearUp sp x).2 pg (D_X8_turns pg x 3 4) := by
  obtain ⟨σ, hW, hs, hp⟩ := h
  rcases slip_cases x with ⟨h1, h2⟩ | ⟨s, hs8, rfl, h1, h2⟩
  · rw [tear_u h1]
    exact TA_no rf1 (turns_no (Or.inl h2))
  · by_cases c : σ s = 24
    · have hq := (pg_24 hW hp hs8).mpr c
      rw [tear_y hW hs hs8 c, turns_yes h2 hq]
      rw [cl8 hs8] at hq
      obtain ⟨-, hW', hp'⟩ := pg_turn hW hp hs8 (a := 3) (b := 4) (Or.inl rfl) (Or.inr rfl) hq
      exact Or.inl ⟨many_ref _, rfl, ⟨_, hW', sp_us hs s _, hp'⟩⟩
    · rw [tear_n hW hs hs8 c]
      exact TA_no rf3 (turns_no (Or.inr (fun z => c ((pg_24 hW hp hs8).mp z))))
theorem TS_forge {sp pg : Nat → Int32} (h : TS sp pg) (x : Int32) : TA (D_X4_forgeAnew sp x).1 sp (D_X4_forgeAnew sp x).2 pg (D_X8_turns pg x 4 3) := by
  obtain ⟨σ, hW, hs, hp⟩ := h
  rcases slip_cases x with ⟨h1, h2⟩ | ⟨s, hs8, rfl, h1, h2⟩
  · rw [forge_u h1]
    exact TA_no rf1 (turns_no (Or.inl h2))
  · by_cases c : σ s = 25
    · have hq := (pg_25 hW hp hs8).mpr c
      rw [forge_y hW hs hs8 c, turns_yes h2 hq]
      rw [cl8 hs8] at hq
      obtain ⟨-, hW', hp'⟩ := pg_turn hW hp hs8 (a := 4) (b := 3) (Or.inr rfl) (Or.inl rfl) hq
      exact Or.inl ⟨many_ref _, rfl, ⟨_, hW', sp_us hs s _, hp'⟩⟩
    · rw [forge_n hW hs hs8 c]
      exact TA_no rf3 (turns_no (Or.inr (fun z => c ((pg_25 hW hp hs8).mp z))))
theorem TS_audit {sp pg : Nat → Int32} (h : TS sp pg) (x : Int32) : TA (D_X4_turnOver sp x).1 sp (D_X4_turnOver sp x).2 pg (if D_X8_noSpike x = 0 then ((1 : Int32), D_X8_goAudit pg x) else ((0 : Int32), pg)) := by
  obtain ⟨σ, hW, hs, hp⟩ := h
  rcases spike_cases x with ⟨h3, h4⟩ | ⟨k, hk, rfl, h3, h4⟩
  · rw [turn_u h3]
    exact TA_no rf1 (if_neg h4)
  · rw [if_pos h4]
    obtain ⟨e1, e2⟩ := sp_audit hW hs hk
    obtain ⟨d1, d2⟩ := pg_audit hW hp hk
    have hW' := (wf_audit hW hk).1
    rw [topOf_eq hW' e1 d1 hk] at e2
    have hr : D_X7_isRefusal (D_X4_turnOver sp (nI k)).1 = 0 := by rw [e2]; exact topOf_ref _
    have hT : TS (D_X4_turnOver sp (nI k)).2 (D_X8_goAudit pg (nI k)) := ⟨_, hW', e1, d1⟩
    unfold TA
    dsimp only
    exact Or.inl ⟨hr, rfl, hT⟩
theorem TA_use {r : Int32} {sp sp' pg : Nat → Int32} {M : Int32 × (Nat → Int32)} (nt : Int32) (hT : TS sp pg) (h : TA r sp sp' pg M) : (if D_X7_isRefusal r = 0 then ((1 : Int32), sp', nt) else ((0 : Int32), sp', nt)).1 = (if M.1 = 0 then ((0 : Int32), M.2) else ((1 : Int32), M.2)).1 ∧ TS (if D_X7_isRefusal r = 0 then ((1 : Int32), sp', nt) else ((0 : Int32), sp', nt)).2.1 (if M.1 = 0 then ((0 : Int32), M.2) else ((1 : Int32), M.2)).2 := by
  rcases h with ⟨h1, h2, h3⟩ | ⟨h1, h2, h3⟩
  · rw [if_pos h1, h2, if_neg (by decide)]
    exact ⟨rfl, h3⟩
  · rw [if_neg h1, h3, if_pos rfl, h2]
    exact ⟨rfl, hT⟩
theorem does_v (th : Int32) (kq gd pg : Nat → Int32) {V a b d : Nat} (hV : V = 100 * a + 10 * b + d) (ha : a < 10) (hb : b < 10) (hd : d < 10) : D_X8_does th kq gd pg (nI V) = if V = 0 then ((1 : Int32), (D_X8_goNight pg).2) else if a = 1 then (if D_X8_noSlip (nI b) = 0 then (if D_X8_noSpike (nI d) = 0 then (if pg (nI b).toNatClampNeg = 3 then ((1 : Int32), D_X8_goPut pg (nI b) (nI d)) else ((0 : Int32), pg)) else ((0 : Int32), pg)) else ((0 : Int32), pg)) else if b = 0 then (if (D_X8_doesTo th kq gd pg (nI a) (nI d)).1 = 0 then ((0 : Int32), (D_X8_doesTo th kq gd pg (nI a) (nI d)).2) else ((1 : Int32), (D_X8_doesTo th kq gd pg (nI a) (nI d)).2)) else ((0 : Int32), pg) := by
  have e100 : nI V / (100 : Int32) = nI a := by
    rw [show (100 : Int32) = nI 100 from rfl, pk_div (by omega) (by omega) (by omega)]
    congr 1
    omega
  have e10 : nI V / (10 : Int32) = nI (V / 10) := by
    rw [show (10 : Int32) = nI 10 from rfl, pk_div (by omega) (by omega) (by omega)]
  have eb : nI (V / 10) - nI (V / 10) / (10 : Int32) * (10 : Int32) = nI b := by
    rw [show (10 : Int32) = nI 10 from rfl, pk_rem (by omega) (by omega) (by omega)]
    congr 1
    omega
  have ed : nI V - nI (V / 10) * (10 : Int32) = nI d := by
    rw [← e10, show (10 : Int32) = nI 10 from rfl, pk_rem (by omega) (by omega) (by omega)]
    congr 1
    omega
  have hz : (nI V = (0 : Int32)) = (V = 0) := propext (nI_eq (b := 0) (by omega) (by omega))
  have h1 : (nI a = (1 : Int32)) = (a = 1) := propext (nI_eq (b := 1) (by omega) (by omega))
  have h0 : (nI b = (0 : Int32)) = (b = 0) := propext (nI_eq (b := 0) (by omega) (by omega))
  unfold D_X8_does D_X8_does_c12 D_X8_does_j67 D_X8_does_j68
  rw [e100, e10, eb, ed]
  simp only [hz, h1, h0, if_true, show ((1 : Int32) = 0) = False from eq_false (by decide), if_false]
theorem try_eq {sp pg kn gr kq gd : Nat → Int32} {c th : Int32} (h : TS sp pg) (hG : RG kn gr c th kq gd) (nt : Int32) {V a b d : Nat} (hV : V = 100 * a + 10 * b + d) (ha : a < 10) (hb : b < 10) (hd : d < 10) : (D_X7_tryDoing sp nt kn gr c (nI a) (nI b) (nI d)).1 = (D_X8_does th kq gd pg (nI V)).1 ∧ TS (D_X7_tryDoing sp nt kn gr c (nI a) (nI b) (nI d)).2.1 (D_X8_does th kq gd pg (nI V)).2 := by
  rw [does_v th kq gd pg hV ha hb hd]
  unfold D_X7_tryDoing
  have nq : ∀ j, j < 100 → a ≠ j → ¬ nI a = nI j := fun j hj hne z => hne ((nI_eq (by omega) (by omega)).mp z)
  by_cases a1 : a = 1
  · have p1 : nI a = (1 : Int32) := by rw [a1]; rfl
    rw [if_pos p1, if_neg (show ¬ V = 0 by omega), if_pos a1]
    rcases TS_put h (nI b) (nI d) with ⟨h1, h2, h3, h4, h5⟩ | ⟨h1, h2, h3⟩
    · rw [if_pos h1, if_pos h2, if_pos h3, if_pos h4]
      exact ⟨rfl, h5⟩
    · rw [if_neg h1, h2]
      by_cases g1 : D_X8_noSlip (nI b) = 0
      · rw [if_pos g1]
        by_cases g2 : D_X8_noSpike (nI d) = 0
        · rw [if_pos g2]
          by_cases g3 : pg (nI b).toNatClampNeg = 3
          · rcases h3 with h3 | h3 | h3
            · exact absurd g1 h3
            · exact absurd g2 h3
            · exact absurd g3 h3
          · rw [if_neg g3]
            first | exact ⟨rfl, h⟩ | exact ⟨trivial, h⟩
        · rw [if_neg g2]
          first | exact ⟨rfl, h⟩ | exact ⟨trivial, h⟩
      · rw [if_neg g1]
        first | exact ⟨rfl, h⟩ | exact ⟨trivial, h⟩
  · have q1 : ¬ nI a = (1 : Int32) := nq 1 (by omega) a1
    rw [if_neg q1, if_neg a1]
    by_cases b0 : b = 0
    · rw [if_pos (show nI b = (0 : Int32) by rw [b0]; rfl), if_pos b0]
      by_cases a0 : a = 0
      · rw [if_pos (show nI a = (0 : Int32) by rw [a0]; rfl)]
        by_cases d0 : d = 0
        · rw [if_pos (show nI d = (0 : Int32) by rw [d0]; rfl), if_pos (show V = 0 by omega)]
          exact ⟨rfl, TS_night h nt⟩
        · rw [if_neg (nI_ne0 (by omega) (by omega)), if_neg (show ¬ V = 0 by omega)]
          unfold D_X8_doesTo
          have q2 : ¬ nI a = (2 : Int32) := nq 2 (by omega) (by omega)
          have q3 : ¬ nI a = (3 : Int32) := nq 3 (by omega) (by omega)
          have q4 : ¬ nI a = (4 : Int32) := nq 4 (by omega) (by omega)
          have q5 : ¬ nI a = (5 : Int32) := nq 5 (by omega) (by omega)
          have q6 : ¬ nI a = (6 : Int32) := nq 6 (by omega) (by omega)
          simp only [if_neg q2, if_neg q3, if_neg q4, if_neg q5, if_neg q6, if_true]
          first | exact ⟨rfl, h⟩ | exact ⟨trivial, h⟩
      · have q0 : ¬ nI a = (0 : Int32) := nq 0 (by omega) a0
        rw [if_neg q0, if_neg q1, if_neg (show ¬ V = 0 by omega)]
        unfold D_X8_doesTo
        by_cases a2 : a = 2
        · have p2 : nI a = (2 : Int32) := by rw [a2]; rfl
          simp only [if_pos p2]
          exact TA_use nt h (TS_take h (nI d))
        · have q2 : ¬ nI a = (2 : Int32) := nq 2 (by omega) a2
          by_cases a3 : a = 3
          · have p3 : nI a = (3 : Int32) := by rw [a3]; rfl
            simp only [if_neg q2, if_pos p3]
            exact TA_use nt h (TS_tear h (nI d))
          · have q3 : ¬ nI a = (3 : Int32) := nq 3 (by omega) a3
            by_cases a4 : a = 4
            · have p4 : nI a = (4 : Int32) := by rw [a4]; rfl
              simp only [if_neg q2, if_neg q3, if_pos p4]
              exact TA_use nt h (TS_forge h (nI d))
            · have q4 : ¬ nI a = (4 : Int32) := nq 4 (by omega) a4
              by_cases a5 : a = 5
              · have p5 : nI a = (5 : Int32) := by rw [a5]; rfl
                simp only [if_neg q2, if_neg q3, if_neg q4, if_pos p5]
                exact TA_use nt h (TS_audit h (nI d))
              · have q5 : ¬ nI a = (5 : Int32) := nq 5 (by omega) a5
                by_cases a6 : a = 6
                · have p6 : nI a = (6 : Int32) := by rw [a6]; rfl
                  simp only [if_neg q2, if_neg q3, if_neg q4, if_neg q5, if_pos p6]
                  rcases thing_cases hG (nI d) with ⟨h1, h2⟩ | ⟨t, ht, htc, e, h1, h2⟩
                  · simp only [if_pos h1, if_neg h2, if_true]
                    first | exact ⟨rfl, h⟩ | exact ⟨trivial, h⟩
                  · simp only [if_neg h1, if_pos h2, TS_isSo h hG h1]
                    by_cases g : D_X8_has (D_X8_soThen th kq gd pg) (nI d) = 0
                    · simp only [if_pos g, if_true]
                      first | exact ⟨rfl, h⟩ | exact ⟨trivial, h⟩
                    · simp only [if_neg g, if_neg (show ¬ (1 : Int32) = 0 by decide)]
                      first | exact ⟨rfl, h⟩ | exact ⟨trivial, h⟩
                · have q6 : ¬ nI a = (6 : Int32) := nq 6 (by omega) a6
                  simp only [if_neg q2, if_neg q3, if_neg q4, if_neg q5, if_neg q6, if_true]
                  first | exact ⟨rfl, h⟩ | exact ⟨trivial, h⟩
    · rw [if_neg (nI_ne0 (by omega) (by omega)), if_neg (show ¬ V = 0 by omega), if_neg b0]
      first | exact ⟨rfl, h⟩ | exact ⟨trivial, h⟩
