/-! a town read on both sides -/
theorem aih_l (sp : Nat → Int32) : ∀ n, n ≤ 8 → ∀ s, s < n → D_X4_allInHand_l2 sp n s = 24
  | 0, _ => fun s hs => absurd hs (Nat.not_lt_zero s)
  | n + 1, hn => by
    intro s hs
    rw [D_X4_allInHand_l2]
    unfold D_X4_allInHand_b2
    rw [cl8 (by omega)]
    by_cases h : s = n
    · subst h
      rw [up_s]
    · rw [up_n _ _ h]
      exact aih_l sp n (by omega) s (by omega)
theorem lay_l (pg : Nat → Int32) : ∀ n, n ≤ 8 → ∀ s, s < n → D_X8_layHand_l2 pg n s = 3
  | 0, _ => fun s hs => absurd hs (Nat.not_lt_zero s)
  | n + 1, hn => by
    intro s hs
    rw [D_X8_layHand_l2]
    unfold D_X8_layHand_b2
    rw [cl8 (by omega), cl88 n (by omega), up_n _ _ (by omega)]
    by_cases h : s = n
    · subst h
      rw [up_s]
    · rw [up_n _ _ h]
      exact lay_l pg n (by omega) s (by omega)
def s24 : Nat → Nat := fun _ => 24
theorem wf_24 : WFs s24 := by
  refine ⟨fun s _ => by unfold s24; omega, fun s t _ _ h => ?_, fun s _ h => ?_, fun k h hk hh => ?_⟩
  · unfold s24 at h; omega
  · unfold s24 at h; omega
  · have : cnt s24 k = 0 := by
      unfold cnt
      refine fb_ct_zero.mpr (fun q _ => ?_)
      unfold s24
      exact decide_eq_false (by omega)
    omega
theorem cnt_24 {k : Nat} (hk : k < 3) : cnt s24 k = 0 := by
  unfold cnt
  refine fb_ct_zero.mpr (fun q _ => ?_)
  unfold s24
  exact decide_eq_false (by omega)
theorem sp_24' (sp : Nat → Int32) : SPi s24 (D_X4_allInHand sp).1 := by
  intro s hs
  exact aih_l sp 8 (by omega) s hs
theorem pg_24' (pg : Nat → Int32) : PGi s24 (D_X8_layHand pg) ∧ D_X8_layHand pg 16 = 0 := by
  unfold D_X8_layHand D_X8_layHand_k2
  rw [cl16]
  refine ⟨fun s hs => ⟨?_, fun z => by unfold s24 at z; omega⟩, up_s _ _ _⟩
  rw [up_n _ _ (by omega), lay_l pg 8 (by omega) s hs]
  rfl
theorem on_24 : onS s24 = 0 := by
  unfold onS
  exact bset_z.mpr (fun s _ => decide_eq_false (by unfold s24; omega))
theorem ron_l (on : Nat → Int32) : ∀ n, n ≤ 3 → ∀ k, k < n → D_X8_readTown_l24 on n k = 0
  | 0, _ => fun s hs => absurd hs (Nat.not_lt_zero s)
  | n + 1, hn => by
    intro k hk
    rw [D_X8_readTown_l24]
    unfold D_X8_readTown_b24
    rw [nI_clamp (by omega)]
    by_cases h : k = n
    · subst h
      rw [up_s]
    · rw [up_n _ _ h]
      exact ron_l on n (by omega) k (by omega)
theorem RG_0 (kn gr kd gd : Nat → Int32) : RG kn gr (nI 0) (nI 0) kd gd := by
  refine ⟨rfl, by unfold inR; decide, fun t ht => ?_⟩
  rw [nI_clamp (by omega)] at ht
  exact absurd ht (Nat.not_lt_zero t)
theorem read_eq (tx : Nat → Int32) {L : Nat} (hL : L ≤ 48) (rsp rkn rgr : Nat → Int32) (r1 r2 r3 r4 : Int32) (on0 pg0 kd0 gd0 : Nat → Int32) : PE (D_X2_faultOf rsp rkn rgr r1 r2 r3 r4 tx (nI L)) (D_X8_readTown tx (nI L) on0 pg0 kd0 gd0) := by
  unfold D_X2_faultOf D_X8_readTown D_X8_readTown_k24 D_X6_clear
  rw [nI_clamp (by omega)]
  cases L with
  | zero =>
    refine PE_bad (a := 0) (by omega) (fl_end rsp tx (nI 0) (by decide)) ?_
    rw [if_pos (show nI 0 = (0 : Int32) from rfl)]
    rfl
  | succ L =>
    rw [if_neg (show ¬ nI (L + 1) = 0 from nI_ne0 (by omega) (by omega)), show (0 : Int32).toNatClampNeg = 0 by decide]
    by_cases c : tx 0 = 82
    · rw [if_pos c]
      have x0 : D_X2_reads (D_X4_allInHand rsp).1 rkn rgr 0 0 r1 r2 r3 r4 (tx 0) = (1, (D_X4_allInHand rsp).1, rkn, rgr, 0, 1, r1, r2, r3, r4) := by
        unfold D_X2_reads D_X2_readsStart
        rw [if_pos rfl, if_pos c]
      rw [fl_go rsp tx (nI (L + 1)) (la_in tx hL (i := 0) (by omega)) x0, nI_toInt (by omega)]
      obtain ⟨p1, p2⟩ := pg_24' pg0
      exact pl_l rsp tx hL L L 1 _ 0 s24 _ _ rkn rgr kd0 gd0 _ 0 0 r1 r2 r3 r4 (Nat.le_refl _) (by omega) (by omega) ⟨wf_24, fun s _ => by unfold s24; omega, sp_24' rsp, p1, p2, by rw [on_24]; rfl, fun k hk => by rw [cnt_24 hk]; exact ron_l on0 3 (by omega) k hk⟩ (RG_0 _ _ _ _) (by omega)
    · rw [if_neg c]
      refine PE_bad (a := 0) (by omega) (fl_bad rsp tx (nI (L + 1)) (la_in tx hL (i := 0) (by omega)) ?_) rfl
      unfold D_X2_reads D_X2_readsStart
      rw [if_pos rfl, if_neg c]
/-! a town taken over -/
theorem cpk_l (o kn : Nat → Int32) : ∀ n, n ≤ 6 → ∀ t, t < n → D_X6_copyFrom_l2 o kn n t = o t
  | 0, _ => fun s hs => absurd hs (Nat.not_lt_zero s)
  | n + 1, hn => by
    intro t ht
    rw [D_X6_copyFrom_l2]
    unfold D_X6_copyFrom_b2
    rw [nI_clamp (by omega)]
    by_cases h : t = n
    · subst h
      rw [up_s]
    · rw [up_n _ _ h]
      exact cpk_l o kn n (by omega) t (by omega)
theorem cpg_l (o gr : Nat → Int32) : ∀ n, n ≤ 18 → ∀ t, t < n → D_X6_copyFrom_l28 o gr n t = o t
  | 0, _ => fun s hs => absurd hs (Nat.not_lt_zero s)
  | n + 1, hn => by
    intro t ht
    rw [D_X6_copyFrom_l28]
    unfold D_X6_copyFrom_b28
    rw [nI_clamp (by omega)]
    by_cases h : t = n
    · subst h
      rw [up_s]
    · rw [up_n _ _ h]
      exact cpg_l o gr n (by omega) t (by omega)
theorem t88_l (tx : Nat → Int32) (ts : Int32) (on0 pg0 kd0 gd0 pg : Nat → Int32) : ∀ n, n ≤ 17 → ∀ i, i < n → D_X8_town_l88 tx ts on0 pg0 kd0 gd0 pg n i = (D_X8_readTown tx ts on0 pg0 kd0 gd0).2.2.2.2.1 i
  | 0, _ => fun s hs => absurd hs (Nat.not_lt_zero s)
  | n + 1, hn => by
    intro t ht
    rw [D_X8_town_l88]
    unfold D_X8_town_b88
    rw [nI_clamp (by omega)]
    by_cases h : t = n
    · subst h
      rw [up_s]
    · rw [up_n _ _ h]
      exact t88_l tx ts on0 pg0 kd0 gd0 pg n (by omega) t (by omega)
theorem t49_l (tx : Nat → Int32) (ts : Int32) (on0 pg0 kd0 gd0 : Nat → Int32) {t : Nat} (ht : t < 6) (g : Nat → Int32) : ∀ n, n ≤ 3 → (∀ j, j < n → D_X8_town_l49 tx ts on0 pg0 kd0 gd0 t g n (3 * t + j) = (D_X8_readTown tx ts on0 pg0 kd0 gd0).2.2.2.2.2.2.2 (3 * t + j)) ∧ ∀ x, x < 3 * t → D_X8_town_l49 tx ts on0 pg0 kd0 gd0 t g n x = g x
  | 0, _ => ⟨fun s hs => absurd hs (Nat.not_lt_zero s), fun x _ => rfl⟩
  | n + 1, hn => by
    obtain ⟨h1, h2⟩ := t49_l tx ts on0 pg0 kd0 gd0 ht g n (by omega)
    have e : ((3 : Int32) * nI t + nI n).toNatClampNeg = 3 * t + n := by
      rw [show (3 : Int32) = nI 3 from rfl, pk_mul, nI_add, nI_clamp (by omega)]
    rw [D_X8_town_l49]
    unfold D_X8_town_b49
    rw [e]
    refine ⟨fun j hj => ?_, fun x hx => ?_⟩
    · by_cases h : j = n
      · subst h
        rw [up_s]
      · rw [up_n _ _ (by omega)]
        exact h1 j (by omega)
    · rw [up_n _ _ (by omega)]
      exact h2 x hx
theorem t27_l (tx : Nat → Int32) (ts : Int32) (on0 pg0 kd0 gd0 k g : Nat → Int32) : ∀ n, n ≤ 6 → ∀ t, t < n → (D_X8_town_l27 tx ts on0 pg0 kd0 gd0 k g n).1 t = (D_X8_readTown tx ts on0 pg0 kd0 gd0).2.2.2.2.2.2.1 t ∧ ∀ j, j < 3 → (D_X8_town_l27 tx ts on0 pg0 kd0 gd0 k g n).2 (3 * t + j) = (D_X8_readTown tx ts on0 pg0 kd0 gd0).2.2.2.2.2.2.2 (3 * t + j)
  | 0, _ => fun s hs => absurd hs (Nat.not_lt_zero s)
  | n + 1, hn => by
    have ih := t27_l tx ts on0 pg0 kd0 gd0 k g n (by omega)
    intro t ht
    rw [D_X8_town_l27]
    generalize D_X8_town_l27 tx ts on0 pg0 kd0 gd0 k g n = Z at ih ⊢
    unfold D_X8_town_b27 D_X8_town_k49
    dsimp only
    obtain ⟨h1, h2⟩ := t49_l tx ts on0 pg0 kd0 gd0 (t := n) (by omega) Z.2 3 (Nat.le_refl _)
    rw [nI_clamp (by omega)]
    by_cases h : t = n
    · subst h
      rw [up_s]
      exact ⟨rfl, h1⟩
    · rw [up_n _ _ h]
      obtain ⟨i1, i2⟩ := ih t (by omega)
      exact ⟨i1, fun j hj => by rw [h2 _ (by omega)]; exact i2 j hj⟩
theorem town_ok {F : Int32 × (Nat → Int32) × Int32 × (Nat → Int32) × (Nat → Int32) × Int32 × Int32 × Int32 × Int32 × Int32 × Int32} {M : Int32 × Int32 × Int32 × (Nat → Int32) × (Nat → Int32) × Int32 × (Nat → Int32) × (Nat → Int32)} (hPE : PE F M) (hc : F.1 = -9) (n : Nat) (sp kn gr : Nat → Int32) : (10 * D_J6_bitCount_0f7a4 (D_X4_onSpikes (D_X4_copyFrom sp F.2.1 F.2.2.1).1) + (D_X6_copyFrom kn gr F.2.2.2.1 F.2.2.2.2.1 F.2.2.2.2.2.1).2.2 = 10 * D_X8_many M.2.2.1 + M.2.2.2.2.2.1) ∧ M.2.2.2.2.2.1.toNatClampNeg ≤ 6 ∧ ∀ P KD GD : Nat → Int32, (∀ i, i < 17 → P i = M.2.2.2.2.1 i) → (∀ t, t < M.2.2.2.2.2.1.toNatClampNeg → KD t = M.2.2.2.2.2.2.1 t ∧ ∀ j, j < 3 → GD (3 * t + j) = M.2.2.2.2.2.2.2 (3 * t + j)) → RS (n + 1) (D_X4_copyFrom sp F.2.1 F.2.2.1).1 (D_X4_copyFrom sp F.2.1 F.2.2.1).2 P ∧ RG (D_X6_copyFrom kn gr F.2.2.2.1 F.2.2.2.2.1 F.2.2.2.2.2.1).1 (D_X6_copyFrom kn gr F.2.2.2.1 F.2.2.2.2.1 F.2.2.2.2.2.1).2.1 (D_X6_copyFrom kn gr F.2.2.2.1 F.2.2.2.2.1 F.2.2.2.2.2.1).2.2 M.2.2.2.2.2.1 KD GD := by
  obtain ⟨σ, hW, hs, hn0, hp, h16, hsl, hG⟩ := hPE.2 hc
  have hs' := SP_cpy hs sp F.2.2.1
  have h66 := cl_6 hG.2.1
  refine ⟨?_, h66, fun P KD GD hP hK => ⟨?_, ?_⟩⟩
  · rw [onSpikes_x hW.1 hs', hsl, bc_many (onS_256 σ)]
    show _ + F.2.2.2.2.2.1 = _
    rw [hG.1]
  · refine ⟨σ, 0, by omega, hW, hs', ?_, fun s hs8 => ?_, ?_⟩
    · show F.2.2.1 = _
      rw [hn0]
      rfl
    · rw [hP s (by omega), hP (8 + s) (by omega)]
      exact hp s hs8
    · rw [hP 16 (by omega), h16]
      rfl
  · obtain ⟨g1, g2, g3⟩ := hG
    refine ⟨g1, g2, fun t ht => ?_⟩
    obtain ⟨k1, k2⟩ := hK t ht
    obtain ⟨f1, f2, f3⟩ := g3 t ht
    unfold D_X6_copyFrom D_X6_copyFrom_k2 D_X6_copyFrom_k28
    dsimp only
    rw [cpk_l _ _ 6 (Nat.le_refl _) t (by omega), k1]
    refine ⟨f1, f2, fun j hj => ?_⟩
    rw [cpg_l _ _ 18 (Nat.le_refl _) (3 * t + j) (by omega), k2 j hj]
    exact f3 j hj
theorem fa_l (fl : Nat → Int32) : ∀ n, n ≤ 2 → ∀ k, k < n → D_X3_forgetAll_l2 fl n k = 0
  | 0, _ => fun s hs => absurd hs (Nat.not_lt_zero s)
  | n + 1, hn => by
    intro k hk
    rw [D_X3_forgetAll_l2]
    unfold D_X3_forgetAll_b2
    rw [nI_clamp (by omega)]
    by_cases h : k = n
    · subst h
      rw [up_s]
      decide
    · rw [up_n _ _ h]
      exact fa_l fl n (by omega) k (by omega)
theorem ik_0 (ik : Nat → Int32) : ∀ j, j < 2 → upd (upd ik (0 : Int32).toNatClampNeg (vp_nar .boolean (0 : Int32))) (1 : Int32).toNatClampNeg (vp_nar .boolean (0 : Int32)) j = 0 := by
  intro j hj
  rw [show (0 : Int32).toNatClampNeg = 0 by decide, show (1 : Int32).toNatClampNeg = 1 by decide]
  have : j = 0 ∨ j = 1 := by omega
  rcases this with rfl | rfl
  · rw [up_n _ _ (by omega), up_s]
    decide
  · rw [up_s]
    decide
