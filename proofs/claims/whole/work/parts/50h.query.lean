/-! queries: the two sides answer alike -/
theorem onS_256 (σ : Nat → Nat) : onS σ < 256 := bset_256 _
theorem inH_256 (σ : Nat → Nat) : inH σ < 256 := bset_256 _
theorem goN_256 (σ : Nat → Nat) : goN σ < 256 := bset_256 _
theorem and_256 {A : Nat} (hA : A < 256) (x : Int32) : ∃ C, C < 256 ∧ nI A &&& x = nI C := by
  obtain ⟨y, hy, rfl⟩ := wb_of32 x
  exact ⟨A &&& y, Nat.lt_of_le_of_lt Nat.and_le_left hA, fa_and A y⟩
theorem p8_lt {s : Nat} (hs : s < 8) : 2 ^ s < 256 := by
  have : s = 0 ∨ s = 1 ∨ s = 2 ∨ s = 3 ∨ s = 4 ∨ s = 5 ∨ s = 6 ∨ s = 7 := by omega
  rcases this with rfl | rfl | rfl | rfl | rfl | rfl | rfl | rfl <;> decide
theorem or_256 {A B : Nat} (hA : A < 256) (hB : B < 256) : A ||| B < 256 := Nat.or_lt_two_pow (n := 8) hA hB
theorem xor_256 {A B : Nat} (hA : A < 256) (hB : B < 256) : A ^^^ B < 256 := Nat.xor_lt_two_pow (n := 8) hA hB
theorem fa_xor (a b : Nat) : nI a ^^^ nI b = nI (a ^^^ b) := by
  apply Int32.toBitVec_inj.1
  show BitVec.ofNat 32 a ^^^ BitVec.ofNat 32 b = BitVec.ofNat 32 (a ^^^ b)
  apply BitVec.eq_of_getLsbD_eq
  intro i hi
  simp [hi]
theorem in_cases (x : Int32) {b : Nat} (hb : b < 2147483647) : (D_X8_in x.toInt64 0 (lN b) = 0 ∧ (x.toInt < 0 ∨ (b : Int) < x.toInt)) ∨ ∃ j, j ≤ b ∧ x = nI j ∧ D_X8_in x.toInt64 0 (lN b) = 1 := by
  rw [in32 x (n := b) (by omega)]
  by_cases c : 0 ≤ x.toInt ∧ x.toInt ≤ b
  · rw [if_pos c]
    obtain ⟨j, hj, e⟩ := vp_in_of (x := x) (n := b + 1) (by rw [vp_in_iff]; omega) (by omega)
    exact Or.inr ⟨j, by omega, e, rfl⟩
  · rw [if_neg c]
    exact Or.inl ⟨rfl, by omega⟩
theorem noThing_d : ∀ T, T < 7 → ∀ t, t < 6 → (D_X8_noThing (nI T) (nI t) = 0 ↔ t < T) := by decide +kernel
theorem has_d : ∀ T, T < 7 → ∀ t, t < 6 → (D_X6_has (nI T) (nI t) = 0 ↔ ¬ t < T) := by decide +kernel
theorem thing_cases {kn gr kd gd : Nat → Int32} {c th : Int32} (hR : RG kn gr c th kd gd) (x : Int32) : (D_X6_has c x = 0 ∧ ¬ D_X8_noThing th x = 0) ∨ ∃ t, t < 6 ∧ t < th.toNatClampNeg ∧ x = nI t ∧ ¬ D_X6_has c x = 0 ∧ D_X8_noThing th x = 0 := by
  obtain ⟨hc, h6, -⟩ := hR
  subst hc
  obtain ⟨T, hT, rfl⟩ := vp_in_of (inR_in h6 (k := 7) (by decide)) (by decide)
  by_cases hv : vp_in x 6
  · obtain ⟨t, ht, rfl⟩ := vp_in_of hv (by decide)
    rw [nI_clamp (by omega)]
    by_cases h : t < T
    · exact Or.inr ⟨t, ht, h, rfl, fun z => (has_d T hT t ht).mp z h, (noThing_d T hT t ht).mpr h⟩
    · exact Or.inl ⟨(has_d T hT t ht).mpr h, fun z => h ((noThing_d T hT t ht).mp z)⟩
  · refine Or.inl ⟨?_, fun z => hv (vin_X8_noThing h6 z)⟩
    by_cases h : D_X6_has (nI T) x = 0
    · exact h
    · exact absurd (vin_X6_has h6 h) hv
theorem isSo_eq {kn gr kd gd : Nat → Int32} {c th : Int32} (hR : RG kn gr c th kd gd) {S : Nat} (hS : S < 256) {x : Int32} (hx : ¬ D_X6_has c x = 0) : D_X6_isSo kn gr c x (nI S) = D_X8_has (D_X8_soBy th kd gd (nI S)) x := by
  unfold D_X6_isSo D_X8_has
  rw [if_neg hx, soBy_eq hR hS]
theorem bv_bool {X : Int32} {T t : Nat} (hX : X = nI (bv T t)) : (if X = 0 then (0 : Int32) else 1) = X := by
  subst hX
  rcases bv_01 T t with h | h <;> rw [h] <;> decide
theorem state_x {σ : Nat → Nat} {sp : Nat → Int32} (hW : ∀ s, s < 8 → σ s < 26) (h : SPi σ sp) {s : Nat} (hs : s < 8) : D_X4_stateOf sp (nI s) = if σ s < 24 then 0 else nI (kd (σ s)) - 3 + 1 := by
  unfold D_X4_stateOf D_X4_isInHand
  have hb := hW s hs
  rw [spikeOf_x hW h hs, if_neg (isSlip_t hs), cl8 hs, h s hs]
  by_cases c : σ s < 24
  · rw [if_pos c, if_pos c, if_neg (nI_ne9 _ (by omega))]
  · rw [if_neg c, if_neg c, if_pos rfl]
    have h2 : σ s = 24 ∨ σ s = 25 := by omega
    rcases h2 with h2 | h2 <;> rw [h2] <;> decide
theorem hang_eq {σ : Nat → Nat} {sp pg kn gr kq gd : Nat → Int32} {c th : Int32} (hW : WFs σ) (hs : SPi σ sp) (hp : PGi σ pg) (hG : RG kn gr c th kq gd) {s : Nat} (hs8 : s < 8) : D_X7_hangsOf sp kn gr c (nI s) = D_X8_hangs th kq gd pg (nI s) := by
  unfold D_X7_hangsOf D_X8_hangs
  rw [onSpikes_x hW.1 hs, onSpikes_m hW.1 hp, bit_1n s hs8, fa_or]
  obtain ⟨C, hC, e⟩ := and_256 (onS_256 σ) (nI (2 ^ s) ^^^ -1)
  rw [e, soBy_eq hG hC, soBy_eq hG (or_256 (onS_256 σ) (p8_lt hs8))]
theorem slip_key {σ : Nat → Nat} {sp pg kn gr kq gd : Nat → Int32} {c th : Int32} (hW : WFs σ) (hs : SPi σ sp) (hp : PGi σ pg) (hG : RG kn gr c th kq gd) (a1 a2 : Int32) : D_X7_slip sp kn gr c a1 a2 = (D_X8_slip th kq gd pg a1 a2).1 := by
  unfold D_X7_slip D_X8_slip
  rcases slip_cases a1 with ⟨h1, h2⟩ | ⟨s, hs8, rfl, h1, h2⟩
  · rw [if_pos h1, if_neg h2]
  · have hb := hW.1 s hs8
    have z10 : ¬ (1 : Int32) = 0 := by decide
    rw [if_neg h1, if_pos h2, cl8 hs8, (hp s hs8).1, spikeOf_x hW.1 hs hs8, heightOf_x hW.1 hs hs8, state_x hW.1 hs hs8, hang_eq hW hs hp hG hs8]
    unfold D_X8_slip_j29
    rw [cl8 hs8, cl88 s hs8, (hp s hs8).1]
    by_cases c : σ s < 24
    · have ek : kd (σ s) = σ s / 8 := by unfold kd; rw [if_pos c]
      rw [if_neg (show ¬ (3 : Int32) ≤ nI (kd (σ s)) from nI_ge (b := 3) (by omega) (by omega)), (hp s hs8).2 c, ek]
      simp only [apply_ite Prod.fst, if_neg z10, if_pos c]
    · have ek : 3 ≤ kd (σ s) := by unfold kd; rw [if_neg c]; omega
      have hk := kd_lt hb
      rw [if_pos (show (3 : Int32) ≤ nI (kd (σ s)) from nI_le (a := 3) ek (by omega))]
      simp only [apply_ite Prod.fst, if_neg c, if_true]
theorem spike_key {σ : Nat → Nat} {sp pg : Nat → Int32} (hW : WFs σ) (hs : SPi σ sp) (hp : PGi σ pg) (a1 a2 : Int32) : D_X7_spike sp a1 a2 = (D_X8_spike pg a1 a2).1 := by
  unfold D_X7_spike D_X8_spike
  rcases spike_cases a1 with ⟨h1, h2⟩ | ⟨k, hk, rfl, h1, h2⟩
  · rw [if_pos h1, if_neg h2]
  · rw [if_neg h1, if_pos h2, countOn_x hW.1 hs hk, slipAt_eq hW hs hp hk, topOf_eq hW hs hp hk]
    unfold D_X8_topOf
    rw [highOn_v hW.1 hp hk]
    simp only [apply_ite Prod.fst]
theorem th_ix : ∀ t, t < 6 → ((3 : Int32) * nI t + 1 - 1).toNatClampNeg = 3 * t + 0 ∧ ((3 : Int32) * nI t + 2 - 1).toNatClampNeg = 3 * t + 1 ∧ ((3 : Int32) * nI t + 3 - 1).toNatClampNeg = 3 * t + 2 := by decide
theorem thing_key {σ : Nat → Nat} {sp pg kn gr kq gd : Nat → Int32} {c th : Int32} (hW : WFs σ) (hs : SPi σ sp) (hp : PGi σ pg) (hG : RG kn gr c th kq gd) (a1 a2 : Int32) : D_X7_thing sp kn gr c a1 a2 = (D_X8_thing th kq gd pg a1 a2).1 := by
  unfold D_X7_thing D_X8_thing
  rcases thing_cases hG a1 with ⟨h1, h2⟩ | ⟨t, ht, htc, rfl, h1, h2⟩
  · rw [if_pos h1, if_neg h2]
  · rw [if_neg h1, if_pos h2]
    obtain ⟨hc, h6, hth⟩ := id hG
    obtain ⟨k1, -, k3⟩ := hth t htc
    have hx : t < c.toNatClampNeg := by rw [hc]; exact htc
    have h6c : inR c 6 := by rw [hc]; exact h6
    obtain ⟨i1, i2, i3⟩ := th_ix t ht
    by_cases c0 : a2 = 0
    · rw [if_pos c0, if_pos c0]
      unfold D_X6_kindOf
      rw [if_neg h1, nI_clamp (by omega)]
      exact k1
    · rw [if_neg c0, if_neg c0]
      by_cases c1 : a2 = 1
      · subst c1
        rw [if_pos rfl, if_pos rfl, show (1 : Int32) - 1 = nI 0 by decide, groundOf_v h6c hx ht (by omega), (k3 0 (by omega)).1, i1]
      · rw [if_neg c1, if_neg c1]
        by_cases c2 : a2 = 2
        · subst c2
          rw [if_pos rfl, if_pos rfl, show (2 : Int32) - 1 = nI 1 by decide, groundOf_v h6c hx ht (by omega), (k3 1 (by omega)).1, i2]
        · rw [if_neg c2, if_neg c2]
          by_cases c3 : a2 = 3
          · subst c3
            rw [if_pos rfl, if_pos rfl, show (3 : Int32) - 1 = nI 2 by decide, groundOf_v h6c hx ht (by omega), (k3 2 (by omega)).1, i3]
          · rw [if_neg c3, if_neg c3]
            by_cases c4 : a2 = 4
            · rw [if_pos c4, if_pos c4, onSpikes_x hW.1 hs, onSpikes_m hW.1 hp, isSo_eq hG (onS_256 σ) h1]
              obtain ⟨T, hT, eX, eM⟩ := soBy_v hG (onS_256 σ)
              rw [eM, has_v (by omega) (by omega), bit_at (by omega) (by omega)]
              exact bv_bool rfl
            · rw [if_neg c4, if_neg c4]
/-! acts: what is remembered -/
theorem rf_l (bf : Nat → Int64) : ∀ n, n ≤ 13 → (∀ j, j < n → D_X0_removeFirst_l2 bf n j = bf (j + 1)) ∧ ∀ j, n ≤ j → D_X0_removeFirst_l2 bf n j = bf j
  | 0, _ => ⟨fun j hj => absurd hj (Nat.not_lt_zero j), fun j _ => rfl⟩
  | n + 1, hn => by
    obtain ⟨h1, h2⟩ := rf_l bf n (by omega)
    have e1 : (nI (1 + n) - 1).toNatClampNeg = n := by rw [show 1 + n = n + 1 by omega, nI_pred, nI_clamp (by omega)]
    have e2 : (nI (1 + n)).toNatClampNeg = n + 1 := by rw [nI_clamp (by omega)]; omega
    rw [D_X0_removeFirst_l2]
    unfold D_X0_removeFirst_b2
    rw [e1, e2, h2 (n + 1) (by omega)]
    refine ⟨fun j hj => ?_, fun j hj => ?_⟩
    · by_cases hjn : j = n
      · subst hjn
        rw [pk_uLs]
      · rw [pk_uLn hjn]
        exact h1 j (by omega)
    · rw [pk_uLn (by omega)]
      exact h2 j (by omega)
theorem app_lt {bf : Nat → Int64} {A : Nat} (v : Int64) (h : A < 14) : D_X0_append bf (nI A) v = (vp_updL bf A v, nI (A + 1)) := by
  unfold D_X0_append
  rw [if_pos (show nI A < 14 from nI_lt (b := 14) h (by omega)), nI_clamp (by omega), nI_1]
theorem app_14 {bf : Nat → Int64} (v : Int64) : ∃ f : Nat → Int64, D_X0_append bf (nI 14) v = (f, nI 14) ∧ (∀ j, j < 13 → f j = bf (j + 1)) ∧ f 13 = v := by
  obtain ⟨h1, -⟩ := rf_l bf 13 (Nat.le_refl 13)
  refine ⟨vp_updL (D_X0_removeFirst_l2 bf 13) 13 v, ?_, fun j hj => ?_, pk_uLs⟩
  · unfold D_X0_append D_X0_removeFirst D_X0_removeFirst_k2
    rw [if_neg (by decide)]
    dsimp only
    rw [show (14 : Int32) - 1 = nI 13 by decide, nI_clamp (by omega), nI_1]
  · rw [pk_uLn (by omega)]
    exact h1 j hj
theorem note51 (pg bk : Nat → Int32) {A : Nat} (hA : A < 14) : ∀ n, n ≤ 17 → ∀ x, D_X8_note_l51 pg (nI A) bk n x = if 17 * A ≤ x ∧ x < 17 * A + n then pg (x - 17 * A) else bk x
  | 0, _ => fun x => by rw [if_neg (by omega)]; rfl
  | n + 1, hn => by
    intro x
    have e : ((17 : Int32) * nI A + nI n).toNatClampNeg = 17 * A + n := by
      rw [show (17 : Int32) = nI 17 from rfl, pk_mul, nI_add, nI_clamp (by omega)]
    rw [D_X8_note_l51]
    unfold D_X8_note_b51
    rw [e, nI_clamp (by omega)]
    by_cases hx : x = 17 * A + n
    · subst hx
      rw [up_s, if_pos (by omega)]
      congr 1
      omega
    · rw [up_n _ _ hx, note51 pg bk hA n (by omega) x]
      by_cases c : 17 * A ≤ x ∧ x < 17 * A + n
      · rw [if_pos c, if_pos (by omega)]
      · rw [if_neg c, if_neg (by omega)]
theorem note11 (bk : Nat → Int32) : ∀ n, n ≤ 221 → ∀ x, D_X8_note_l11 bk n x = if x < n then bk (x + 17) else bk x
  | 0, _ => fun x => by rw [if_neg (by omega)]; rfl
  | n + 1, hn => by
    intro x
    have e : (nI n + (17 : Int32)).toNatClampNeg = n + 17 := by
      rw [show (17 : Int32) = nI 17 from rfl, nI_add, nI_clamp (by omega)]
    rw [D_X8_note_l11]
    unfold D_X8_note_b11
    rw [e, nI_clamp (by omega)]
    by_cases hx : x = n
    · subst hx
      rw [up_s, if_pos (by omega), note11 bk x (by omega), if_neg (by omega)]
    · rw [up_n _ _ hx, note11 bk n (by omega) x]
      by_cases c : x < n
      · rw [if_pos c, if_pos (by omega)]
      · rw [if_neg c, if_neg (by omega)]
theorem note_lt {pg bk : Nat → Int32} {A : Nat} (h : A < 14) : ∃ f : Nat → Int32, D_X8_note pg bk (nI A) = (f, nI (A + 1)) ∧ (∀ x, x < 17 * A → f x = bk x) ∧ ∀ i, i < 17 → f (17 * A + i) = pg i := by
  refine ⟨D_X8_note_l51 pg (nI A) bk 17, ?_, fun x hx => ?_, fun i hi => ?_⟩
  · unfold D_X8_note D_X8_note_j49 D_X8_note_k51
    rw [if_neg (show ¬ nI A = (14 : Int32) from fun z => by have := (nI_eq (b := 14) (by omega) (by omega)).mp z; omega), nI_1]
  · rw [note51 pg bk h 17 (by omega), if_neg (by omega)]
  · rw [note51 pg bk h 17 (by omega), if_pos (by omega)]
    congr 1
    omega
theorem note_14 {pg bk : Nat → Int32} : ∃ f : Nat → Int32, D_X8_note pg bk (nI 14) = (f, nI 14) ∧ (∀ x, x < 17 * 13 → f x = bk (x + 17)) ∧ ∀ i, i < 17 → f (17 * 13 + i) = pg i := by
  have h : 13 < 14 := by omega
  refine ⟨D_X8_note_l51 pg (nI 13) (D_X8_note_l11 bk 221) 17, ?_, fun x hx => ?_, fun i hi => ?_⟩
  · unfold D_X8_note D_X8_note_k11 D_X8_note_j49 D_X8_note_k51
    rw [if_pos (by decide), nI_pred, nI_1]
  · rw [note51 pg _ h 17 (by omega), if_neg (by omega), note11 bk 221 (by omega), if_pos (by omega)]
  · rw [note51 pg _ h 17 (by omega), if_pos (by omega), Nat.add_sub_cancel_left]
theorem RP_congr {n : Nat} {v : Int64} {r r' : Nat → Int32} (h : RP n v r) (he : ∀ i, i < 17 → r' i = r i) : RP n v r' := by
  obtain ⟨σ, m, h1, h2, h3, h4, h5⟩ := h
  refine ⟨σ, m, h1, h2, h3, fun s hs => ?_, by rw [he 16 (by omega)]; exact h5⟩
  rw [he s (by omega), he (8 + s) (by omega)]
  exact h4 s hs
theorem RA_act {n : Nat} {bf : Nat → Int64} {ac : Int32} {bk : Nat → Int32} {acts : Int32} {v : Int64} {pg : Nat → Int32} (h : RA n bf ac bk acts) (hv : RP n v pg) : RA n (D_X0_append bf ac v).1 (D_X0_append bf ac v).2 (D_X8_note pg bk acts).1 (D_X8_note pg bk acts).2 := by
  obtain ⟨rfl, h2, h3⟩ := h
  obtain ⟨A, hA, rfl⟩ := vp_in_of (inR_in h2 (k := 15) (by decide)) (by decide)
  rw [nI_clamp (by omega)] at h3
  by_cases c : A < 14
  · obtain ⟨f, e1, e2, e3⟩ := note_lt (pg := pg) (bk := bk) c
    rw [app_lt v c, e1]
    dsimp only
    refine ⟨rfl, ?_, fun j hj => ?_⟩
    · unfold inR
      rw [nI_toInt (by omega)]
      omega
    · rw [nI_clamp (by omega)] at hj
      by_cases hjA : j = A
      · subst hjA
        rw [pk_uLs]
        exact RP_congr hv (fun i hi => e3 i hi)
      · rw [pk_uLn hjA]
        exact RP_congr (h3 j (by omega)) (fun i hi => e2 _ (by omega))
  · have e : A = 14 := by omega
    subst e
    obtain ⟨f, e1, e2, e3⟩ := note_14 (pg := pg) (bk := bk)
    obtain ⟨g, d1, d2, d3⟩ := app_14 (bf := bf) v
    rw [d1, e1]
    dsimp only
    refine ⟨rfl, h2, fun j hj => ?_⟩
    rw [nI_clamp (by omega)] at hj
    by_cases hjA : j = 13
    · subst hjA
      rw [d3]
      exact RP_congr hv (fun i hi => e3 i hi)
    · rw [d2 j (by omega)]
      refine RP_congr (h3 (j + 1) (by omega)) (fun i hi => ?_)
      show f (17 * j + i) = bk (17 * (j + 1) + i)
      rw [e2 _ (by omega)]
      congr 1
      omega
theorem RS_RP {n : Nat} (hn : n < 500) {sp : Nat → Int32} {nt : Int32} {pg : Nat → Int32} (h : RS n sp nt pg) : RP n (D_X4_packed sp nt) pg := by
  obtain ⟨σ, m, hm, hW, hs, hnt, hp, h16⟩ := h
  subst hnt
  refine ⟨σ, m, hm, hW, ?_, hp, h16⟩
  rw [packed_x hW.1 hs (by omega), packed_x (sp := fun s => nI (σ s)) hW.1 (fun s _ => rfl) (by omega)]
theorem RP_RS {n : Nat} (hn : n < 500) {v : Int64} {row : Nat → Int32} (h : RP n v row) (sp : Nat → Int32) : RS n (D_X4_unpack sp v).1 (D_X4_unpack sp v).2 row := by
  obtain ⟨σ, m, hm, hW, hv, hp, h16⟩ := h
  rw [packed_x (sp := fun s => nI (σ s)) hW.1 (fun s _ => rfl) (by omega)] at hv
  obtain ⟨h1, h2⟩ := unpack_x sp hW.1 (m := m) (by omega)
  subst hv
  exact ⟨σ, m, hm, hW, h1, h2, hp, h16⟩
theorem RS_congr {n : Nat} {sp : Nat → Int32} {nt : Int32} {pg pg' : Nat → Int32} (h : RS n sp nt pg) (he : ∀ i, i < 17 → pg' i = pg i) : RS n sp nt pg' := by
  obtain ⟨σ, m, hm, hW, hs, hnt, hp, h16⟩ := h
  refine ⟨σ, m, hm, hW, hs, hnt, fun s hs => ?_, by rw [he 16 (by omega)]; exact h16⟩
  rw [he s (by omega), he (8 + s) (by omega)]
  exact hp s hs
theorem act_no (bf : Nat → Int64) (ac : Int32) (v : Int64) {r : Int32} (h : ¬ D_X7_isRefusal r = 0) : D_X7_act bf ac v r = (r, bf, ac) := if_neg h
theorem act_ok (bf : Nat → Int64) (ac : Int32) (v : Int64) {r : Int32} (h : D_X7_isRefusal r = 0) : D_X7_act bf ac v r = (r, (D_X0_append bf ac v).1, (D_X0_append bf ac v).2) := if_pos h
theorem ref_nI {k : Nat} (h : k < 1000) : D_X7_isRefusal (nI k) = 0 := by
  have h1 : ¬ nI k = (-1 : Int32) := fun z => by
    have := congrArg Int32.toInt z
    rw [nI_toInt (by omega), show (-1 : Int32).toInt = -1 by decide] at this
    omega
  have h2 : ¬ nI k = (-3 : Int32) := fun z => by
    have := congrArg Int32.toInt z
    rw [nI_toInt (by omega), show (-3 : Int32).toInt = -3 by decide] at this
    omega
  unfold D_X7_isRefusal
  rw [if_neg h1, if_neg h2]
/-! the doings in terms of the town -/
theorem sp_is {σ : Nat → Nat} {sp : Nat → Int32} (hW : WFs σ) (hs : SPi σ sp) {s v : Nat} (hs8 : s < 8) (hv : v < 1000) : sp (nI s).toNatClampNeg = nI v ↔ σ s = v := by
  have := hW.1 s hs8
  rw [cl8 hs8, hs s hs8]
  exact nI_eq (by omega) (by omega)
theorem sp_24 {σ : Nat → Nat} {sp : Nat → Int32} (hW : WFs σ) (hs : SPi σ sp) {s : Nat} (hs8 : s < 8) : sp (nI s).toNatClampNeg = (24 : Int32) ↔ σ s = 24 := sp_is hW hs hs8 (v := 24) (by omega)
theorem sp_25 {σ : Nat → Nat} {sp : Nat → Int32} (hW : WFs σ) (hs : SPi σ sp) {s : Nat} (hs8 : s < 8) : sp (nI s).toNatClampNeg = (25 : Int32) ↔ σ s = 25 := sp_is hW hs hs8 (v := 25) (by omega)
theorem pg_24 {σ : Nat → Nat} {pg : Nat → Int32} (hW : WFs σ) (hp : PGi σ pg) {s : Nat} (hs8 : s < 8) : pg (nI s).toNatClampNeg = 3 ↔ σ s = 24 := by
  have hb := hW.1 s hs8
  rw [cl8 hs8]
  refine (pg_kind hW hp hs8 (c := 3) (by omega)).trans ⟨kd3 hb, fun z => ?_⟩
  rw [z]; rfl
theorem pg_25 {σ : Nat → Nat} {pg : Nat → Int32} (hW : WFs σ) (hp : PGi σ pg) {s : Nat} (hs8 : s < 8) : pg (nI s).toNatClampNeg = 4 ↔ σ s = 25 := by
  have hb := hW.1 s hs8
  rw [cl8 hs8]
  refine (pg_kind hW hp hs8 (c := 4) (by omega)).trans ⟨kd4 hb, fun z => ?_⟩
  rw [z]; rfl
theorem putOn_y {σ : Nat → Nat} {sp : Nat → Int32} (hW : WFs σ) (hs : SPi σ sp) {s k : Nat} (hs8 : s < 8) (hk : k < 3) (c : σ s = 24) : D_X4_putOn sp (nI s) (nI k) = (nI (cnt σ k), upd sp s (nI (8 * k + cnt σ k))) := by
  unfold D_X4_putOn
  rw [if_neg (isSlip_t hs8), if_neg (isSpike_t hk), if_pos ((sp_24 hW hs hs8).mpr c), cl8 hs8, countOn_x hW.1 hs hk, k8 k hk, nI_add, Nat.mul_comm]
theorem putOn_n {σ : Nat → Nat} {sp : Nat → Int32} (hW : WFs σ) (hs : SPi σ sp) {s k : Nat} (hs8 : s < 8) (hk : k < 3) (c : ¬ σ s = 24) : D_X4_putOn sp (nI s) (nI k) = (-3, sp) := by
  unfold D_X4_putOn
  rw [if_neg (isSlip_t hs8), if_neg (isSpike_t hk), if_neg (fun z => c ((sp_24 hW hs hs8).mp z))]
theorem take_y {σ : Nat → Nat} {sp pg : Nat → Int32} (hW : WFs σ) (hs : SPi σ sp) (hp : PGi σ pg) {k n : Nat} (hk : k < 3) (hn : cnt σ k = n + 1) : ∃ s, s < 8 ∧ σ s = 8 * k + n ∧ D_X8_topOf pg (nI k) = nI s ∧ D_X4_takeTop sp (nI k) = (nI s, upd sp s (nI 24)) := by
  obtain ⟨s, hs8, he, ht⟩ := topOf_hit hW hp hk hn
  refine ⟨s, hs8, he, ht, ?_⟩
  unfold D_X4_takeTop
  rw [if_neg (isSpike_t hk), topOf_eq hW hs hp hk, ht, if_neg (isSlip_t hs8), cl8 hs8]
  rfl
theorem take_n {σ : Nat → Nat} {sp pg : Nat → Int32} (hW : WFs σ) (hs : SPi σ sp) (hp : PGi σ pg) {k : Nat} (hk : k < 3) (hn : cnt σ k = 0) : D_X8_topOf pg (nI k) = -9 ∧ D_X4_takeTop sp (nI k) = (-3, sp) := by
  have ht := topOf_miss hW hp hk hn
  refine ⟨ht, ?_⟩
  unfold D_X4_takeTop
  rw [if_neg (isSpike_t hk), topOf_eq hW hs hp hk, ht, if_pos (by decide)]
theorem bc_many {x : Nat} (h : x < 256) : D_J6_bitCount_0f7a4 (nI x) = D_X8_many (nI x) := by rw [bc_256 x h, many_256 x h]
theorem tear_y {σ : Nat → Nat} {sp : Nat → Int32} (hW : WFs σ) (hs : SPi σ sp) {s : Nat} (hs8 : s < 8) (c : σ s = 24) : D_X4_tearUp sp (nI s) = (D_X8_many (nI (goN (us σ s 25))), upd sp s (nI 25)) := by
  have hW' := wf_off hW hs8 (v := 25) (by omega) (by omega) (by omega)
  have hs' := sp_us hs s 25
  unfold D_X4_tearUp
  rw [if_neg (isSlip_t hs8), if_pos ((sp_24 hW hs hs8).mpr c), cl8 hs8, show (25 : Int32) = nI 25 from rfl, gone_x hW'.1 hs', bc_many (goN_256 _)]
theorem tear_n {σ : Nat → Nat} {sp : Nat → Int32} (hW : WFs σ) (hs : SPi σ sp) {s : Nat} (hs8 : s < 8) (c : ¬ σ s = 24) : D_X4_tearUp sp (nI s) = (-3, sp) := by
  unfold D_X4_tearUp
  rw [if_neg (isSlip_t hs8), if_neg (fun z => c ((sp_24 hW hs hs8).mp z))]
theorem forge_y {σ : Nat → Nat} {sp : Nat → Int32} (hW : WFs σ) (hs : SPi σ sp) {s : Nat} (hs8 : s < 8) (c : σ s = 25) : D_X4_forgeAnew sp (nI s) = (D_X8_many (nI (goN (us σ s 24))), upd sp s (nI 24)) := by
  have hW' := wf_off hW hs8 (v := 24) (by omega) (by omega) (by omega)
  have hs' := sp_us hs s 24
  unfold D_X4_forgeAnew
  rw [if_neg (isSlip_t hs8), if_pos ((sp_25 hW hs hs8).mpr c), cl8 hs8, show (24 : Int32) = nI 24 from rfl, gone_x hW'.1 hs', bc_many (goN_256 _)]
theorem forge_n {σ : Nat → Nat} {sp : Nat → Int32} (hW : WFs σ) (hs : SPi σ sp) {s : Nat} (hs8 : s < 8) (c : ¬ σ s = 25) : D_X4_forgeAnew sp (nI s) = (-3, sp) := by
  unfold D_X4_forgeAnew
  rw [if_neg (isSlip_t hs8), if_neg (fun z => c ((sp_25 hW hs hs8).mp z))]
theorem putOn_u {sp : Nat → Int32} {x y : Int32} (h : D_X7_isSlip x = 0 ∨ D_X7_isSpike y = 0) : D_X4_putOn sp x y = (-1, sp) := by
  unfold D_X4_putOn
  by_cases h1 : D_X7_isSlip x = 0
  · rw [if_pos h1]
  · rw [if_neg h1, if_pos (h.resolve_left h1)]
theorem take_u {sp : Nat → Int32} {x : Int32} (h : D_X7_isSpike x = 0) : D_X4_takeTop sp x = (-1, sp) := if_pos h
theorem tear_u {sp : Nat → Int32} {x : Int32} (h : D_X7_isSlip x = 0) : D_X4_tearUp sp x = (-1, sp) := if_pos h
theorem forge_u {sp : Nat → Int32} {x : Int32} (h : D_X7_isSlip x = 0) : D_X4_forgeAnew sp x = (-1, sp) := if_pos h
theorem turn_u {sp : Nat → Int32} {x : Int32} (h : D_X7_isSpike x = 0) : D_X4_turnOver sp x = (-1, sp) := if_pos h
