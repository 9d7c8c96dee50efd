/-! slots -/
theorem slot_cases (x : Int32) : (D_X7_isSlot x = 0 ∧ D_X8_in x.toInt64 0 1 = 0) ∨ ∃ k, k < 2 ∧ x = nI k ∧ ¬ D_X7_isSlot x = 0 ∧ ¬ D_X8_in x.toInt64 0 1 = 0 := by
  have e : D_X8_in x.toInt64 0 1 = D_X8_in x.toInt64 0 (lN 1) := rfl
  rw [e]
  rcases in_cases x (b := 1) (by omega) with ⟨h1, h2⟩ | ⟨j, hj, rfl, h1⟩
  · refine Or.inl ⟨?_, h1⟩
    by_cases h : D_X7_isSlot x = 0
    · exact h
    · have := vp_in_iff.mp (vin_isSlot h)
      omega
  · refine Or.inr ⟨j, by omega, rfl, ?_, by rw [h1]; decide⟩
    have : j = 0 ∨ j = 1 := by omega
    rcases this with rfl | rfl <;> decide
theorem keep_row (pg kt : Nat → Int32) {k : Nat} (hk : k < 2) : ∀ n, n ≤ 17 → ∀ x, D_X8_keep_l26 (nI k) pg kt n x = if 17 * k ≤ x ∧ x < 17 * k + n then pg (x - 17 * k) else kt x
  | 0, _ => fun x => by rw [if_neg (by omega)]; rfl
  | n + 1, hn => by
    intro x
    have e : ((17 : Int32) * nI k + nI n).toNatClampNeg = 17 * k + n := by
      rw [show (17 : Int32) = nI 17 from rfl, pk_mul, nI_add, nI_clamp (by omega)]
    rw [D_X8_keep_l26]
    unfold D_X8_keep_b26
    rw [e, nI_clamp (by omega)]
    by_cases hx : x = 17 * k + n
    · subst hx
      rw [up_s, if_pos (by omega), Nat.add_sub_cancel_left]
    · rw [up_n _ _ hx, keep_row pg kt hk n (by omega) x]
      by_cases c : 17 * k ≤ x ∧ x < 17 * k + n
      · rw [if_pos c, if_pos (by omega)]
      · rw [if_neg c, if_neg (by omega)]
theorem again_row (pg kt : Nat → Int32) {k : Nat} (hk : k < 2) : ∀ n, n ≤ 17 → ∀ i, i < n → D_X8_again_l31 (nI k) kt pg n i = kt (17 * k + i)
  | 0, _ => fun i hi => absurd hi (Nat.not_lt_zero i)
  | n + 1, hn => by
    intro i hi
    have e : ((17 : Int32) * nI k + nI n).toNatClampNeg = 17 * k + n := by
      rw [show (17 : Int32) = nI 17 from rfl, pk_mul, nI_add, nI_clamp (by omega)]
    rw [D_X8_again_l31]
    unfold D_X8_again_b31
    rw [e, nI_clamp (by omega)]
    by_cases hin : i = n
    · subst hin
      rw [up_s]
    · rw [up_n _ _ hin]
      exact again_row pg kt hk n (by omega) i (by omega)
section RRS3
variable {n : Nat} {tl : Nat → Int32} {tc : Int32} {sp : Nat → Int32} {nt : Int32} {kn gr : Nat → Int32} {gc : Int32} {bf : Nat → Int64} {ac : Int32} {sw an : Nat → Int32} {oc : Int32} {kp : Nat → Int64} {fl : Nat → Int32} {se : Int64} {tx : Nat → Int32} {ts : Int32} {pg : Nat → Int32} {th : Int32} {kd gd bk : Nat → Int32} {acts : Int32} {st so : Nat → Int32} {sn : Int32} {kt ik : Nat → Int32} {sd : Int64}
theorem RR_16 (hR : RR n tl tc sp nt kn gr gc bf ac sw an oc kp fl se tx ts pg th kd gd bk acts st so sn kt ik sd) : nt = pg 16 := by
  obtain ⟨σ, m, hm, hW, hs, hnt, hp, h16⟩ := hR.2.1
  rw [hnt, h16]
theorem keep_sim (hn : n < 500) (hR : RR n tl tc sp nt kn gr gc bf ac sw an oc kp fl se tx ts pg th kd gd bk acts st so sn kt ik sd) (a1 : Int32) : (D_X7_keep sp nt kp fl a1).1 = (D_X8_keep pg kt ik a1).1 ∧ RR (n + 1) tl tc sp nt kn gr gc bf ac sw an oc (D_X7_keep sp nt kp fl a1).2.1 (D_X7_keep sp nt kp fl a1).2.2 se tx ts pg th kd gd bk acts st so sn (D_X8_keep pg kt ik a1).2.2.1 (D_X8_keep pg kt ik a1).2.2.2 sd := by
  have h16 := RR_16 hR
  have hv := RS_RP hn hR.2.1
  obtain ⟨g1, g2, g3, g4, g5, hL, g7⟩ := id hR
  unfold D_X7_keep D_X8_keep
  rcases slot_cases a1 with ⟨h1, h2⟩ | ⟨k, hk, rfl, h1, h2⟩
  · rw [if_pos h1, if_pos h2]
    exact ⟨rfl, RR_mono hR⟩
  · rw [if_neg h1, if_neg h2]
    unfold D_X8_keep_k26 D_X3_store
    rw [if_neg h1, nI_clamp (by omega), cl16]
    dsimp only
    refine ⟨h16, ?_⟩
    obtain ⟨m1, m2, m3, m4, m5, -, m7⟩ := RR_mono hR
    refine ⟨m1, m2, m3, m4, m5, fun j hj => ?_, m7⟩
    by_cases hjk : j = k
    · subst hjk
      rw [up_s, up_s, pk_uLs]
      refine ⟨rfl, Or.inr (by decide), fun _ => RP_mono (RP_congr hv (fun i hi => ?_)) (by omega)⟩
      rw [keep_row pg kt hk 17 (by omega), if_pos (by omega), Nat.add_sub_cancel_left]
    · rw [up_n _ _ hjk, up_n _ _ hjk, pk_uLn hjk]
      obtain ⟨l1, l2, l3⟩ := hL j hj
      refine ⟨l1, l2, fun z => RP_mono (RP_congr (l3 z) (fun i hi => ?_)) (by omega)⟩
      rw [keep_row pg kt hk 17 (by omega), if_neg (by omega)]
theorem again_sim (hn : n < 500) (hR : RR n tl tc sp nt kn gr gc bf ac sw an oc kp fl se tx ts pg th kd gd bk acts st so sn kt ik sd) (a1 : Int32) : (D_X7_again sp nt ac kp fl a1).1 = (D_X8_again pg acts kt ik a1).1 ∧ RR (n + 1) tl tc (D_X7_again sp nt ac kp fl a1).2.1 (D_X7_again sp nt ac kp fl a1).2.2.1 kn gr gc bf (D_X7_again sp nt ac kp fl a1).2.2.2 sw an oc kp fl se tx ts (D_X8_again pg acts kt ik a1).2.2.1 th kd gd bk (D_X8_again pg acts kt ik a1).2.2.2 st so sn kt ik sd := by
  unfold D_X7_again D_X8_again
  rcases slot_cases a1 with ⟨h1, h2⟩ | ⟨k, hk, rfl, h1, h2⟩
  · rw [if_pos h1, if_pos h2]
    exact ⟨rfl, RR_mono hR⟩
  · rw [if_neg h1, if_neg h2]
    unfold D_X3_isFull D_X3_stored
    rw [if_neg h1, if_neg h1, nI_clamp (by omega)]
    obtain ⟨l1, l2, l3⟩ := hR.2.2.2.2.2.1 k hk
    rcases l2 with l2 | l2
    · rw [l1, l2, if_pos rfl, if_pos rfl, if_pos rfl]
      exact ⟨rfl, RR_mono hR⟩
    · have z10 : ¬ (1 : Int32) = 0 := by decide
      rw [l1, l2, if_neg z10, if_neg z10, if_neg z10]
      unfold D_X8_again_k31 D_X0_forgetAll
      have hRS := RP_RS hn (l3 l2) sp
      have hRS' := RS_congr hRS (pg' := D_X8_again_l31 (nI k) kt pg 17) (fun i hi => again_row pg kt hk 17 (by omega) i hi)
      rw [cl16]
      dsimp only
      have hR2 := RR_sp hR (RS_mono hRS' (Nat.le_succ n)) (bf' := bf) (ac' := 0) (bk' := bk) (acts' := 0) ⟨rfl, by unfold inR; decide, fun j hj => absurd hj (Nat.not_lt_zero j)⟩
      exact ⟨RR_16 hR2, hR2⟩
end RRS3
/-! what is tried -/
def TS (sp pg : Nat → Int32) : Prop := ∃ σ, WFs σ ∧ SPi σ sp ∧ PGi σ pg
theorem TS_so {sp pg : Nat → Int32} (h : TS sp pg) : ∃ S, S < 256 ∧ D_X4_onSpikes sp = nI S ∧ D_X8_onSpikes pg = nI S := by
  obtain ⟨σ, hW, hs, hp⟩ := h
  exact ⟨onS σ, onS_256 σ, onSpikes_x hW.1 hs, onSpikes_m hW.1 hp⟩
theorem TS_soBy {sp pg kn gr kq gd : Nat → Int32} {c th : Int32} (h : TS sp pg) (hG : RG kn gr c th kq gd) : D_X6_soBy kn gr c (D_X4_onSpikes sp) = D_X8_soThen th kq gd pg := by
  obtain ⟨S, hS, e1, e2⟩ := TS_so h
  unfold D_X8_soThen
  rw [e1, e2, soBy_eq hG hS]
theorem TS_isSo {sp pg kn gr kq gd : Nat → Int32} {c th : Int32} (h : TS sp pg) (hG : RG kn gr c th kq gd) {x : Int32} (hx : ¬ D_X6_has c x = 0) : D_X6_isSo kn gr c x (D_X4_onSpikes sp) = D_X8_has (D_X8_soThen th kq gd pg) x := by
  obtain ⟨S, hS, e1, e2⟩ := TS_so h
  unfold D_X8_soThen
  rw [e1, e2, isSo_eq hG hS hx]
theorem TS_night {sp pg : Nat → Int32} (h : TS sp pg) (nt : Int32) : TS (D_X4_letMiceIn sp nt).2.1 (D_X8_goNight pg).2 := by
  obtain ⟨σ, hW, hs, hp⟩ := h
  exact ⟨_, wf_nts hW 3 (by omega), (sp_night hW hs nt).1, (pg_night hW hp).1⟩
theorem cpy_l (o sp : Nat → Int32) : ∀ n, n ≤ 8 → ∀ s, s < n → D_X4_copyFrom_l2 o sp n s = o s
  | 0, _ => fun s hs => absurd hs (Nat.not_lt_zero s)
  | n + 1, hn => by
    intro s hs
    rw [D_X4_copyFrom_l2]
    unfold D_X4_copyFrom_b2
    rw [cl8 (by omega)]
    by_cases h : s = n
    · subst h
      rw [up_s]
    · rw [up_n _ _ h]
      exact cpy_l o sp n (by omega) s (by omega)
theorem SP_cpy {σ : Nat → Nat} {o : Nat → Int32} (h : SPi σ o) (sp : Nat → Int32) (nt : Int32) : SPi σ (D_X4_copyFrom sp o nt).1 := by
  intro s hs
  unfold D_X4_copyFrom D_X4_copyFrom_k2
  dsimp only
  rw [cpy_l o sp 8 (by omega) s hs]
  exact h s hs
theorem TS_begin {sp pg : Nat → Int32} (h : TS sp pg) (tr : Nat → Int32) (nt : Int32) (mt : Nat → Int32) : TS (D_X4_copyFrom tr sp nt).1 (D_X8_begin pg mt) := by
  obtain ⟨σ, hW, hs, hp⟩ := h
  exact ⟨σ, hW, SP_cpy hs tr nt, pg_begin hp⟩
theorem RS_TS {n : Nat} {sp : Nat → Int32} {nt : Int32} {pg : Nat → Int32} (h : RS n sp nt pg) : TS sp pg := by
  obtain ⟨σ, m, hm, hW, hs, hnt, hp, h16⟩ := h
  exact ⟨σ, hW, hs, hp⟩
theorem TS_later {sp pg : Nat → Int32} (h : TS sp pg) (nt : Int32) : ∀ k, TS (D_X7_later_l26 sp nt k).1 (D_X8_later_l26 pg k)
  | 0 => h
  | k + 1 => by
    rw [D_X7_later_l26, D_X8_later_l26]
    unfold D_X7_later_b26 D_X8_later_b26
    exact TS_night (TS_later h nt k) _
theorem later_key {sp pg kn gr kq gd : Nat → Int32} {c th : Int32} (h : TS sp pg) (hG : RG kn gr c th kq gd) (nt : Int32) (tr : Nat → Int32) (tn : Int32) (mt : Nat → Int32) (a1 : Int32) : (D_X7_later sp nt tr tn kn gr c a1).1 = (D_X8_later th kq gd pg mt a1).1 := by
  unfold D_X7_later D_X8_later
  have e : D_X8_in a1.toInt64 0 20 = D_X8_in a1.toInt64 0 (lN 20) := rfl
  have h20 : (20 : Int32).toInt = 20 := by decide
  rw [e]
  rcases in_cases a1 (b := 20) (by omega) with ⟨h1, h2⟩ | ⟨j, hj, rfl, h1⟩
  · rw [h1, if_pos rfl]
    by_cases c1 : a1 < 0
    · rw [if_pos c1]
    · rw [if_neg c1]
      rw [Int32.lt_iff_toInt_lt, z32] at c1
      rw [if_neg (fun z => by rw [Int32.le_iff_toInt_le, h20] at z; omega)]
  · rw [if_neg (nI_pos (by omega)), if_pos (show nI j ≤ (20 : Int32) from nI_le (b := 20) hj (by omega)), h1, if_neg (by decide)]
    exact TS_soBy (TS_later (TS_begin h tr nt mt) _ _) hG
theorem lasts_l {kn gr kq gd : Nat → Int32} {c th : Int32} (hG : RG kn gr c th kq gd) {x : Int32} (hx : ¬ D_X6_has c x = 0) : ∀ (n i : Nat) (sp pg : Nat → Int32) (nt : Int32), TS sp pg → (D_X7_lasts_l47 x kn gr c n i sp nt).1 = (D_X8_lasts_l35 x th kq gd n i pg).1
  | 0, i, sp, pg, nt, h => rfl
  | n + 1, i, sp, pg, nt, h => by
    have hT := TS_night h nt
    have e := TS_isSo hT hG hx
    by_cases c1 : D_X8_has (D_X8_soThen th kq gd (D_X8_goNight pg).2) x = 0
    · rw [D_X7_lasts_l47_r x kn gr c n i sp nt _ (by unfold D_X7_lasts_b47; rw [e]; exact if_pos c1), D_X8_lasts_l35_r x th kq gd n i pg _ (by unfold D_X8_lasts_b35; exact if_pos c1)]
    · rw [D_X7_lasts_l47_s x kn gr c n i sp nt _ _ (by unfold D_X7_lasts_b47; rw [e]; exact if_neg c1), D_X8_lasts_l35_s x th kq gd n i pg _ (by unfold D_X8_lasts_b35; exact if_neg c1)]
      exact lasts_l hG hx n (i + 1) _ _ _ hT
theorem lasts_key {sp pg kn gr kq gd : Nat → Int32} {c th : Int32} (h : TS sp pg) (hG : RG kn gr c th kq gd) (nt : Int32) (tr : Nat → Int32) (tn : Int32) (mt : Nat → Int32) (a1 : Int32) : (D_X7_lasts sp nt tr tn kn gr c a1).1 = (D_X8_lasts th kq gd pg mt a1).1 := by
  unfold D_X7_lasts D_X8_lasts
  rcases thing_cases hG a1 with ⟨h1, h2⟩ | ⟨t, ht, htc, rfl, h1, h2⟩
  · rw [if_pos h1, if_neg h2]
  · have hb := TS_begin h tr nt mt
    have e1 := TS_isSo h hG h1
    have e2 := TS_isSo hb hG h1
    have e3 : D_X8_soThen th kq gd (D_X8_begin pg mt) = D_X8_soThen th kq gd pg := by
      obtain ⟨σ, hW, hs, hp⟩ := h
      unfold D_X8_soThen
      rw [onSpikes_m hW.1 hp, onSpikes_m hW.1 (pg_begin hp)]
    rw [if_neg h1, if_pos h2, e1, e3]
    by_cases c1 : D_X8_has (D_X8_soThen th kq gd pg) (nI t) = 0
    · rw [if_pos c1, if_pos c1]
    · rw [if_neg c1, if_neg c1]
      exact lasts_l hG h1 20 0 _ _ _ hb
