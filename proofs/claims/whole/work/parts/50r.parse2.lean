/-! steps of the model's reader -/
section ML
variable (tx : Nat → Int32) {L : Nat}
theorem ml_end {m q : Nat} {pl sl th : Int32} {on pg kd gd : Nat → Int32} (h : nI L ≤ pl) : D_X8_readTown_l67 tx (nI L) (m + 1) q pl sl on pg th kd gd = (-9, pl, sl, on, pg, th, kd, gd) :=
  D_X8_readTown_l67_r tx (nI L) m q pl sl on pg th kd gd _ (by unfold D_X8_readTown_b67 D_X8_readTown_k67; exact if_pos h)
theorem ml_bad {m q : Nat} {pl sl th : Int32} {on pg kd gd : Nat → Int32} (h : ¬ nI L ≤ pl) (h2 : (D_X8_readPart tx (nI L) pl sl on pg th kd gd).1 = 0) : (D_X8_readTown_l67 tx (nI L) (m + 1) q pl sl on pg th kd gd).1 = (D_X8_readPart tx (nI L) pl sl on pg th kd gd).2.1 := by
  rw [D_X8_readTown_l67_r tx (nI L) m q pl sl on pg th kd gd _ (by unfold D_X8_readTown_b67; rw [if_neg h]; exact if_pos h2)]
theorem ml_go {m q : Nat} {pl sl th : Int32} {on pg kd gd : Nat → Int32} (h : ¬ nI L ≤ pl) {pl' sl' th' : Int32} {on' pg' kd' gd' : Nat → Int32} (h2 : D_X8_readPart tx (nI L) pl sl on pg th kd gd = (1, pl', sl', on', pg', th', kd', gd')) : D_X8_readTown_l67 tx (nI L) (m + 1) q pl sl on pg th kd gd = D_X8_readTown_l67 tx (nI L) m (q + 1) pl' sl' on' pg' th' kd' gd' :=
  D_X8_readTown_l67_s tx (nI L) m q pl sl on pg th kd gd pl' sl' on' pg' th' kd' gd' (by unfold D_X8_readTown_b67; rw [if_neg h, h2]; exact if_neg (by dsimp only; decide))
theorem nx_in {i : Nat} (hL : L ≤ 48) (h : i < L) : D_X8_next tx (nI L) (nI i) = tx i := by
  unfold D_X8_next
  rw [if_neg (nI_ge h (by omega)), nI_clamp (by omega)]
theorem nx_out {i : Nat} (hL : L ≤ 48) (h : L ≤ i) (hi : i < 1000) : D_X8_next tx (nI L) (nI i) = 0 := by
  unfold D_X8_next
  rw [if_pos (nI_le h (by omega))]
theorem la_in {i : Nat} (hL : L ≤ 48) (h : i < L) : D_X5_letterAt tx (nI L) (nI i) = tx i := by
  unfold D_X5_letterAt
  rw [if_neg (nI_pos (by omega)), if_neg (nI_ge h (by omega)), nI_clamp (by omega)]
theorem part_S {i : Nat} (hi : i < 1000) {sl th : Int32} {on pg kd gd : Nat → Int32} (h : tx i = 83) (hm : ¬ (8 : Int32) ≤ D_X8_many sl) : D_X8_readPart tx (nI L) (nI i) sl on pg th kd gd = ((D_X8_readSlip tx (nI L) (nI (i + 1)) sl on pg).1, (D_X8_readSlip tx (nI L) (nI (i + 1)) sl on pg).2.1, (D_X8_readSlip tx (nI L) (nI (i + 1)) sl on pg).2.2.1, (D_X8_readSlip tx (nI L) (nI (i + 1)) sl on pg).2.2.2.1, (D_X8_readSlip tx (nI L) (nI (i + 1)) sl on pg).2.2.2.2, th, kd, gd) := by
  unfold D_X8_readPart
  rw [nI_clamp (by omega), if_pos h, if_neg hm, nI_1]
theorem part_T {i : Nat} (hi : i < 1000) {sl th : Int32} {on pg kd gd : Nat → Int32} (h : tx i = 84) (hm : ¬ (6 : Int32) ≤ th) : D_X8_readPart tx (nI L) (nI i) sl on pg th kd gd = ((D_X8_readThing tx (nI L) (nI (i + 1)) th kd gd).1, (D_X8_readThing tx (nI L) (nI (i + 1)) th kd gd).2.1, sl, on, pg, (D_X8_readThing tx (nI L) (nI (i + 1)) th kd gd).2.2.1, (D_X8_readThing tx (nI L) (nI (i + 1)) th kd gd).2.2.2.1, (D_X8_readThing tx (nI L) (nI (i + 1)) th kd gd).2.2.2.2) := by
  unfold D_X8_readPart D_X8_readPart_j43
  rw [nI_clamp (by omega), if_neg (by rw [h]; decide), if_pos h, if_neg hm, nI_1]
theorem part_no {i : Nat} (hi : i < 1000) {sl th : Int32} {on pg kd gd : Nat → Int32} (h : (tx i = 83 ∧ (8 : Int32) ≤ D_X8_many sl) ∨ (tx i = 84 ∧ (6 : Int32) ≤ th) ∨ (¬ tx i = 83 ∧ ¬ tx i = 84)) : D_X8_readPart tx (nI L) (nI i) sl on pg th kd gd = (0, nI i, sl, on, pg, th, kd, gd) := by
  have e : nI i + 1 - 1 = nI i := by rw [nI_1, nI_pred]
  unfold D_X8_readPart D_X8_readPart_j43 D_X8_readPart_j63
  rw [nI_clamp (by omega), e]
  rcases h with ⟨h1, h2⟩ | ⟨h1, h2⟩ | ⟨h1, h2⟩
  · rw [if_pos h1, if_pos h2, if_neg (by rw [h1]; decide)]
  · rw [if_neg (by rw [h1]; decide), if_pos h1, if_pos h2]
  · rw [if_neg h1, if_neg h2]
theorem rs_a {pl sl : Int32} {on pg : Nat → Int32} (h : ¬ D_X8_noSpike (D_X8_next tx (nI L) pl - 48) = 0) : D_X8_readSlip tx (nI L) pl sl on pg = (0, pl, sl, on, pg) := if_neg h
theorem rs_b {pl sl : Int32} {on pg : Nat → Int32} (h : D_X8_noSpike (D_X8_next tx (nI L) pl - 48) = 0) (h2 : ¬ D_X8_noSlip (D_X8_next tx (nI L) (pl + 1) - 48) = 0 ∨ ¬ D_X8_has sl (D_X8_next tx (nI L) (pl + 1) - 48) = 0) : D_X8_readSlip tx (nI L) pl sl on pg = (0, pl + 1, sl, on, pg) := by
  unfold D_X8_readSlip D_X8_readSlip_c34
  rw [if_pos h]
  by_cases g : D_X8_noSlip (D_X8_next tx (nI L) (pl + 1) - 48) = 0
  · rw [if_pos g, if_neg (h2.resolve_left (fun z => z g))]
  · rw [if_neg g]
theorem rs_d {pl sl : Int32} {on pg : Nat → Int32} {s k : Nat} (hs8 : s < 8) (hk : k < 3) (e1 : D_X8_next tx (nI L) pl - 48 = nI k) (e2 : D_X8_next tx (nI L) (pl + 1) - 48 = nI s) (h3 : D_X8_has sl (nI s) = 0) : D_X8_readSlip tx (nI L) pl sl on pg = ((1 : Int32), pl + 1 + 1, sl ||| (1 <<< (nI s &&& 31)), upd on k (on k + 1), upd (upd pg s (nI k)) (8 + s) (on k)) := by
  have n1 : D_X8_noSpike (nI k) = 0 := by
    rcases spike_cases (nI k) with ⟨g1, -⟩ | ⟨_, _, _, _, g⟩
    · exact absurd g1 (isSpike_t hk)
    · exact g
  have n2 : D_X8_noSlip (nI s) = 0 := by
    rcases slip_cases (nI s) with ⟨g1, -⟩ | ⟨_, _, _, _, g⟩
    · exact absurd g1 (isSlip_t hs8)
    · exact g
  unfold D_X8_readSlip D_X8_readSlip_c34
  rw [e1, e2, if_pos n1, if_pos n2, if_pos h3, nI_clamp (by omega), cl8 hs8, cl88 s hs8]
theorem th_k {l : Int32} : (D_X8_in (l - 48).toInt64 0 3 = 0 ∧ (D_X2_readsKind l).1 = 0) ∨ ∃ v, v < 4 ∧ l - 48 = nI v ∧ ¬ D_X8_in (l - 48).toInt64 0 3 = 0 ∧ (D_X2_readsKind l).1 = 1 := by
  unfold D_X2_readsKind
  have e : D_X8_in (l - 48).toInt64 0 3 = D_X8_in (l - 48).toInt64 0 (lN 3) := rfl
  have h3 : (3 : Int32).toInt = 3 := by decide
  rw [e]
  rcases in_cases (l - 48) (b := 3) (by omega) with ⟨g1, g2⟩ | ⟨v, hv, e1, g1⟩
  · refine Or.inl ⟨g1, ?_⟩
    by_cases c1 : l - 48 < 0
    · rw [if_pos c1]
    · rw [if_neg c1]
      rw [Int32.lt_iff_toInt_lt, z32] at c1
      rw [if_pos (by rw [Int32.lt_iff_toInt_lt, h3]; omega)]
  · refine Or.inr ⟨v, by omega, e1, by rw [g1]; decide, ?_⟩
    rw [e1, if_neg (nI_pos (by omega)), if_neg (show ¬ (3 : Int32) < nI v from nI_nlt (a := 3) hv (by omega))]
end ML
/-! how the two readings end alike -/
def PE (F : Int32 × (Nat → Int32) × Int32 × (Nat → Int32) × (Nat → Int32) × Int32 × Int32 × Int32 × Int32 × Int32 × Int32) (M : Int32 × Int32 × Int32 × (Nat → Int32) × (Nat → Int32) × Int32 × (Nat → Int32) × (Nat → Int32)) : Prop := F.1 = M.1 ∧ (F.1 = -9 → ∃ σ, WFs σ ∧ SPi σ F.2.1 ∧ F.2.2.1 = 0 ∧ PGi σ M.2.2.2.2.1 ∧ M.2.2.2.2.1 16 = 0 ∧ M.2.2.1 = nI (onS σ) ∧ RG F.2.2.2.1 F.2.2.2.2.1 F.2.2.2.2.2.1 M.2.2.2.2.2.1 M.2.2.2.2.2.2.1 M.2.2.2.2.2.2.2)
theorem PE_bad {F : Int32 × (Nat → Int32) × Int32 × (Nat → Int32) × (Nat → Int32) × Int32 × Int32 × Int32 × Int32 × Int32 × Int32} {M : Int32 × Int32 × Int32 × (Nat → Int32) × (Nat → Int32) × Int32 × (Nat → Int32) × (Nat → Int32)} {a : Nat} (ha : a < 100) (h1 : F.1 = nI a) (h2 : M.1 = nI a) : PE F M := ⟨h1.trans h2.symm, fun z => absurd (h1.symm.trans z) (nI_ne9 a ha)⟩
theorem u3_0 (f : Nat → Int32) (b : Nat) (x0 x1 x2 : Int32) : upd (upd (upd f b x0) (b + 1) x1) (b + 2) x2 (b + 0) = x0 := by
  rw [up_n _ _ (by omega), up_n _ _ (by omega), Nat.add_zero, up_s]
theorem u3_1 (f : Nat → Int32) (b : Nat) (x0 x1 x2 : Int32) : upd (upd (upd f b x0) (b + 1) x1) (b + 2) x2 (b + 1) = x1 := by
  rw [up_n _ _ (by omega), up_s]
theorem u3_2 (f : Nat → Int32) (b : Nat) (x0 x1 x2 : Int32) : upd (upd (upd f b x0) (b + 1) x1) (b + 2) x2 (b + 2) = x2 := by
  rw [up_s]
theorem RG_app {kn gr kd gd : Nat → Int32} {T v x0 x1 x2 : Nat} (hG : RG kn gr (nI T) (nI T) kd gd) (hT : T < 6) (hv : v < 4) (h0 : x0 < 8 ∨ (10 ≤ x0 ∧ x0 < 10 + T)) (h1 : x1 < 8 ∨ (10 ≤ x1 ∧ x1 < 10 + T)) (h2 : x2 < 8 ∨ (10 ≤ x2 ∧ x2 < 10 + T)) : RG (upd kn T (nI v)) (upd (upd (upd gr (3 * T) (nI x0)) (3 * T + 1) (nI x1)) (3 * T + 2) (nI x2)) (nI (T + 1)) (nI (T + 1)) (upd kd T (nI v)) (upd (upd (upd gd (3 * T) (nI x0)) (3 * T + 1) (nI x1)) (3 * T + 2) (nI x2)) := by
  obtain ⟨-, h6, hth⟩ := hG
  rw [nI_clamp (by omega)] at hth
  refine ⟨rfl, by unfold inR; rw [nI_toInt (by omega)]; omega, fun t ht => ?_⟩
  rw [nI_clamp (by omega)] at ht
  by_cases htT : t = T
  · subst htT
    rw [up_s, up_s]
    refine ⟨rfl, ⟨v, hv, rfl⟩, fun j hj => ?_⟩
    have hj3 : j = 0 ∨ j = 1 ∨ j = 2 := by omega
    rcases hj3 with rfl | rfl | rfl
    · rw [u3_0, u3_0]
      exact ⟨rfl, x0, rfl, h0⟩
    · rw [u3_1, u3_1]
      exact ⟨rfl, x1, rfl, h1⟩
    · rw [u3_2, u3_2]
      exact ⟨rfl, x2, rfl, h2⟩
  · rw [up_n _ _ htT, up_n _ _ htT]
    obtain ⟨k1, k2, k3⟩ := hth t (by omega)
    refine ⟨k1, k2, fun j hj => ?_⟩
    rw [up_n _ _ (by omega), up_n _ _ (by omega), up_n _ _ (by omega), up_n _ _ (by omega), up_n _ _ (by omega), up_n _ _ (by omega)]
    exact k3 j hj
theorem app_v {kn gr : Nat → Int32} {T : Nat} (hT : T < 6) (v x0 x1 x2 : Int32) : D_X6_append kn gr (nI T) v x0 x1 x2 = (upd kn T v, upd (upd (upd gr (3 * T) x0) (3 * T + 1) x1) (3 * T + 2) x2, nI (T + 1)) := by
  have e0 : nI T * (3 : Int32) = nI (3 * T) := by rw [show (3 : Int32) = nI 3 from rfl, pk_mul, Nat.mul_comm]
  unfold D_X6_append
  rw [if_neg (show ¬ (6 : Int32) ≤ nI T from nI_ge (b := 6) hT (by omega)), e0, show (1 : Int32) = nI 1 from rfl, show (2 : Int32) = nI 2 from rfl, nI_add, nI_add, nI_add, nI_clamp (by omega), nI_clamp (by omega), nI_clamp (by omega), nI_clamp (by omega)]
/-- the model's grounds: one step -/
theorem b34_v {tx : Nat → Int32} {L T : Nat} (hT : T < 6) (kd : Nat → Int32) (j : Nat) (hj : j < 3) (pl : Int32) (gd : Nat → Int32) {l : Int32} (hl : D_X8_next tx (nI L) pl = l) : (D_X2_groundTold (nI T) l = -9 ∧ D_X8_readThing_b34 tx (nI L) (nI T) kd j pl gd = .inl (0, pl, nI T, kd, gd)) ∨ ∃ x, (x < 8 ∨ (10 ≤ x ∧ x < 10 + T)) ∧ D_X2_groundTold (nI T) l = nI x ∧ ¬ D_X2_groundTold (nI T) l = -9 ∧ D_X8_readThing_b34 tx (nI L) (nI T) kd j pl gd = .inr (pl + 1, upd gd (3 * T + j) (nI x)) := by
  unfold D_X8_readThing_b34 D_X8_readThing_c55 D_X8_readThing_j85 D_X8_readThing_j126
  have e : ((3 : Int32) * nI T + nI j).toNatClampNeg = 3 * T + j := by
    rw [show (3 : Int32) = nI 3 from rfl, pk_mul, nI_add, nI_clamp (by omega)]
  rw [hl, e]
  rcases ground_cases hT l with ⟨h1, h2, h3⟩ | ⟨x, h1, hx, ⟨h2, h3, h4⟩ | ⟨h2, h3, h4, h5, h6⟩⟩
  · refine Or.inl ⟨h1, ?_⟩
    rw [h2, if_pos rfl, if_pos h3]
  · refine Or.inr ⟨x, Or.inl h2, h1, by rw [h1]; exact nI_ne9 x (by omega), ?_⟩
    rw [h3, if_neg (by decide), if_neg (by decide), h4]
  · refine Or.inr ⟨x, Or.inr ⟨h2, h3⟩, h1, by rw [h1]; exact nI_ne9 x (by omega), ?_⟩
    rw [h4, if_pos rfl, if_neg (by rw [h5]; decide), if_pos rfl, h6]
