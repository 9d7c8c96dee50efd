/-! an act on both sides -/
section RRS2
variable {n : Nat} {tl : Nat → Int32} {tc : Int32} {sp : Nat → Int32} {nt : Int32} {kn gr : Nat → Int32} {gc : Int32} {bf : Nat → Int64} {ac : Int32} {sw an : Nat → Int32} {oc : Int32} {kp : Nat → Int64} {fl : Nat → Int32} {se : Int64} {tx : Nat → Int32} {ts : Int32} {pg : Nat → Int32} {th : Int32} {kd gd bk : Nat → Int32} {acts : Int32} {st so : Nat → Int32} {sn : Int32} {kt ik : Nat → Int32} {sd : Int64}
theorem RR_sp (hR : RR n tl tc sp nt kn gr gc bf ac sw an oc kp fl se tx ts pg th kd gd bk acts st so sn kt ik sd) {sp' : Nat → Int32} {nt' : Int32} {pg' : Nat → Int32} (h : RS (n + 1) sp' nt' pg') {bf' : Nat → Int64} {ac' : Int32} {bk' : Nat → Int32} {acts' : Int32} (hA : RA (n + 1) bf' ac' bk' acts') : RR (n + 1) tl tc sp' nt' kn gr gc bf' ac' sw an oc kp fl se tx ts pg' th kd gd bk' acts' st so sn kt ik sd := by
  obtain ⟨h1, -, h3, -, h5, h6, h7⟩ := RR_mono hR
  exact ⟨h1, h, h3, hA, h5, h6, h7⟩
theorem RR_ra (hn : n < 500) (hR : RR n tl tc sp nt kn gr gc bf ac sw an oc kp fl se tx ts pg th kd gd bk acts st so sn kt ik sd) : RA (n + 1) (D_X0_append bf ac (D_X4_packed sp nt)).1 (D_X0_append bf ac (D_X4_packed sp nt)).2 (D_X8_note pg bk acts).1 (D_X8_note pg bk acts).2 := RA_mono (RA_act hR.2.2.2.1 (RS_RP hn hR.2.1)) (by omega)
theorem put_sim (hn : n < 500) (hR : RR n tl tc sp nt kn gr gc bf ac sw an oc kp fl se tx ts pg th kd gd bk acts st so sn kt ik sd) (a1 a2 : Int32) : (D_X7_put sp nt bf ac a1 a2).1 = (D_X8_put pg bk acts a1 a2).1 ∧ RR (n + 1) tl tc (D_X7_put sp nt bf ac a1 a2).2.1 nt kn gr gc (D_X7_put sp nt bf ac a1 a2).2.2.1 (D_X7_put sp nt bf ac a1 a2).2.2.2 sw an oc kp fl se tx ts (D_X8_put pg bk acts a1 a2).2.2.1 th kd gd (D_X8_put pg bk acts a1 a2).2.2.2.1 (D_X8_put pg bk acts a1 a2).2.2.2.2 st so sn kt ik sd := by
  obtain ⟨σ, m, hm, hW, hs, hnt, hp, h16⟩ := hR.2.1
  have hA := RR_ra hn hR
  unfold D_X7_put D_X8_put
  rcases slip_cases a1 with ⟨h1, h2⟩ | ⟨s, hs8, rfl, h1, h2⟩
  · rw [putOn_u (Or.inl h1), if_neg h2, act_no _ _ _ (by dsimp only; decide)]
    exact ⟨rfl, RR_mono hR⟩
  · rw [if_pos h2]
    rcases spike_cases a2 with ⟨h3, h4⟩ | ⟨k, hk, rfl, h3, h4⟩
    · rw [putOn_u (Or.inr h3), if_neg h4, act_no _ _ _ (by dsimp only; decide)]
      exact ⟨rfl, RR_mono hR⟩
    · rw [if_pos h4]
      by_cases c : σ s = 24
      · have hq := (pg_24 hW hp hs8).mpr c
        have hc8 := cnt_le σ k
        rw [putOn_y hW hs hs8 hk c, if_pos hq, act_ok _ _ _ (ref_nI (by omega))]
        rw [cl8 hs8] at hq
        obtain ⟨-, hW', hp'⟩ := pg_goPut hW hp hs8 hk hq
        dsimp only
        refine ⟨?_, RR_sp hR ⟨_, m, by omega, hW', sp_us hs s _, hnt, hp', by rw [put_16 pg hs8]; exact h16⟩ hA⟩
        have h5 := (hp' s hs8).2
        rw [us_s] at h5
        rw [cl88 s hs8, h5 (by have := (wf_put hW hs8 hk c).2; omega)]
        congr 1
        have := (wf_put hW hs8 hk c).2
        omega
      · rw [putOn_n hW hs hs8 hk c, if_neg (fun z => c ((pg_24 hW hp hs8).mp z)), act_no _ _ _ (by dsimp only; decide)]
        exact ⟨rfl, RR_mono hR⟩
theorem take_sim (hn : n < 500) (hR : RR n tl tc sp nt kn gr gc bf ac sw an oc kp fl se tx ts pg th kd gd bk acts st so sn kt ik sd) (a1 : Int32) : (D_X7_take sp nt bf ac a1).1 = (D_X8_take pg bk acts a1).1 ∧ RR (n + 1) tl tc (D_X7_take sp nt bf ac a1).2.1 nt kn gr gc (D_X7_take sp nt bf ac a1).2.2.1 (D_X7_take sp nt bf ac a1).2.2.2 sw an oc kp fl se tx ts (D_X8_take pg bk acts a1).2.2.1 th kd gd (D_X8_take pg bk acts a1).2.2.2.1 (D_X8_take pg bk acts a1).2.2.2.2 st so sn kt ik sd := by
  obtain ⟨σ, m, hm, hW, hs, hnt, hp, h16⟩ := hR.2.1
  have hA := RR_ra hn hR
  unfold D_X7_take D_X8_take
  rcases spike_cases a1 with ⟨h3, h4⟩ | ⟨k, hk, rfl, h3, h4⟩
  · rw [take_u h3, if_neg h4, act_no _ _ _ (by dsimp only; decide)]
    exact ⟨rfl, RR_mono hR⟩
  · rw [if_pos h4]
    by_cases c : cnt σ k = 0
    · obtain ⟨e1, e2⟩ := take_n hW hs hp hk c
      rw [e1, e2, if_pos rfl, act_no _ _ _ (by dsimp only; decide)]
      exact ⟨rfl, RR_mono hR⟩
    · obtain ⟨s, hs8, he, e1, e2⟩ := take_y hW hs hp hk (n := cnt σ k - 1) (by omega)
      obtain ⟨hW', hp'⟩ := pg_take hW hp hs8 hk (n := cnt σ k - 1) (by omega) he
      rw [e1, e2, if_neg (nI_ne9 s (by omega)), act_ok _ _ _ (ref_nI (by omega))]
      dsimp only
      exact ⟨rfl, RR_sp hR ⟨_, m, by omega, hW', sp_us hs s _, hnt, hp', by rw [away_16 pg hs8]; exact h16⟩ hA⟩
theorem tear_sim (hn : n < 500) (hR : RR n tl tc sp nt kn gr gc bf ac sw an oc kp fl se tx ts pg th kd gd bk acts st so sn kt ik sd) (a1 : Int32) : (D_X7_tear sp nt bf ac a1).1 = (D_X8_tear pg bk acts a1).1 ∧ RR (n + 1) tl tc (D_X7_tear sp nt bf ac a1).2.1 nt kn gr gc (D_X7_tear sp nt bf ac a1).2.2.1 (D_X7_tear sp nt bf ac a1).2.2.2 sw an oc kp fl se tx ts (D_X8_tear pg bk acts a1).2.2.1 th kd gd (D_X8_tear pg bk acts a1).2.2.2.1 (D_X8_tear pg bk acts a1).2.2.2.2 st so sn kt ik sd := by
  obtain ⟨σ, m, hm, hW, hs, hnt, hp, h16⟩ := hR.2.1
  have hA := RR_ra hn hR
  unfold D_X7_tear D_X8_tear
  rcases slip_cases a1 with ⟨h3, h4⟩ | ⟨s, hs8, rfl, h3, h4⟩
  · rw [tear_u h3, if_neg h4, act_no _ _ _ (by dsimp only; decide)]
    exact ⟨rfl, RR_mono hR⟩
  · rw [if_pos h4]
    by_cases c : σ s = 24
    · have hq := (pg_24 hW hp hs8).mpr c
      rw [tear_y hW hs hs8 c, if_pos hq]
      rw [cl8 hs8] at hq
      obtain ⟨-, hW', hp'⟩ := pg_turn hW hp hs8 (a := 3) (b := 4) (Or.inl rfl) (Or.inr rfl) hq
      rw [act_ok _ _ _ (by dsimp only; obtain ⟨j, hj, e⟩ := many_nI (nI (goN (us σ s 25))); rw [e]; exact ref_nI (by omega))]
      dsimp only
      refine ⟨?_, RR_sp hR ⟨_, m, by omega, hW', sp_us hs s _, hnt, hp', by rw [away_16 pg hs8]; exact h16⟩ hA⟩
      rw [show D_X8_slipsAt (D_X8_goAway pg (nI s) 4) 4 = _ from gone_m hW'.1 hp']
    · rw [tear_n hW hs hs8 c, if_neg (fun z => c ((pg_24 hW hp hs8).mp z)), act_no _ _ _ (by dsimp only; decide)]
      exact ⟨rfl, RR_mono hR⟩
theorem forge_sim (hn : n < 500) (hR : RR n tl tc sp nt kn gr gc bf ac sw an oc kp fl se tx ts pg th kd gd bk acts st so sn kt ik sd) (a1 : Int32) : (D_X7_forge sp nt bf ac a1).1 = (D_X8_forge pg bk acts a1).1 ∧ RR (n + 1) tl tc (D_X7_forge sp nt bf ac a1).2.1 nt kn gr gc (D_X7_forge sp nt bf ac a1).2.2.1 (D_X7_forge sp nt bf ac a1).2.2.2 sw an oc kp fl se tx ts (D_X8_forge pg bk acts a1).2.2.1 th kd gd (D_X8_forge pg bk acts a1).2.2.2.1 (D_X8_forge pg bk acts a1).2.2.2.2 st so sn kt ik sd := by
  obtain ⟨σ, m, hm, hW, hs, hnt, hp, h16⟩ := hR.2.1
  have hA := RR_ra hn hR
  unfold D_X7_forge D_X8_forge
  rcases slip_cases a1 with ⟨h3, h4⟩ | ⟨s, hs8, rfl, h3, h4⟩
  · rw [forge_u h3, if_neg h4, act_no _ _ _ (by dsimp only; decide)]
    exact ⟨rfl, RR_mono hR⟩
  · rw [if_pos h4]
    by_cases c : σ s = 25
    · have hq := (pg_25 hW hp hs8).mpr c
      rw [forge_y hW hs hs8 c, if_pos hq]
      rw [cl8 hs8] at hq
      obtain ⟨-, hW', hp'⟩ := pg_turn hW hp hs8 (a := 4) (b := 3) (Or.inr rfl) (Or.inl rfl) hq
      rw [act_ok _ _ _ (by dsimp only; obtain ⟨j, hj, e⟩ := many_nI (nI (goN (us σ s 24))); rw [e]; exact ref_nI (by omega))]
      dsimp only
      refine ⟨?_, RR_sp hR ⟨_, m, by omega, hW', sp_us hs s _, hnt, hp', by rw [away_16 pg hs8]; exact h16⟩ hA⟩
      rw [show D_X8_slipsAt (D_X8_goAway pg (nI s) 3) 4 = _ from gone_m hW'.1 hp']
    · rw [forge_n hW hs hs8 c, if_neg (fun z => c ((pg_25 hW hp hs8).mp z)), act_no _ _ _ (by dsimp only; decide)]
      exact ⟨rfl, RR_mono hR⟩
theorem night_sim (hn : n < 500) (hR : RR n tl tc sp nt kn gr gc bf ac sw an oc kp fl se tx ts pg th kd gd bk acts st so sn kt ik sd) : (D_X7_night sp nt bf ac).1 = (D_X8_night pg bk acts).1 ∧ RR (n + 1) tl tc (D_X7_night sp nt bf ac).2.1 (D_X7_night sp nt bf ac).2.2.1 kn gr gc (D_X7_night sp nt bf ac).2.2.2.1 (D_X7_night sp nt bf ac).2.2.2.2 sw an oc kp fl se tx ts (D_X8_night pg bk acts).2.2.1 th kd gd (D_X8_night pg bk acts).2.2.2.1 (D_X8_night pg bk acts).2.2.2.2 st so sn kt ik sd := by
  obtain ⟨σ, m, hm, hW, hs, hnt, hp, h16⟩ := hR.2.1
  have hA := RR_ra hn hR
  obtain ⟨a1, a2, a3⟩ := sp_night hW hs nt
  obtain ⟨b1, b2, b3⟩ := pg_night hW hp
  have h3 := eat_le σ 3
  unfold D_X7_night D_X8_night
  dsimp only
  rw [act_ok _ _ _ (by rw [a2]; exact ref_nI (by omega))]
  dsimp only
  refine ⟨a2.trans b2.symm, RR_sp hR ⟨_, m + 1, by omega, wf_nts hW 3 (by omega), a1, ?_, b1, ?_⟩ hA⟩
  · rw [a3, hnt, nI_1]
  · rw [b3, h16, nI_1]
theorem topOf_ref {pg : Nat → Int32} (k : Int32) : D_X7_isRefusal (D_X8_topOf pg k) = 0 := by
  rcases topOf_ok pg k with e | e
  · rw [e]; decide
  · obtain ⟨j, hj, e⟩ := vp_in_of e (by decide)
    rw [e]
    exact ref_nI (by omega)
theorem audit_sim (hn : n < 500) (hR : RR n tl tc sp nt kn gr gc bf ac sw an oc kp fl se tx ts pg th kd gd bk acts st so sn kt ik sd) (a1 : Int32) : (D_X7_audit sp nt bf ac a1).1 = (D_X8_audit pg bk acts a1).1 ∧ RR (n + 1) tl tc (D_X7_audit sp nt bf ac a1).2.1 nt kn gr gc (D_X7_audit sp nt bf ac a1).2.2.1 (D_X7_audit sp nt bf ac a1).2.2.2 sw an oc kp fl se tx ts (D_X8_audit pg bk acts a1).2.2.1 th kd gd (D_X8_audit pg bk acts a1).2.2.2.1 (D_X8_audit pg bk acts a1).2.2.2.2 st so sn kt ik sd := by
  obtain ⟨σ, m, hm, hW, hs, hnt, hp, h16⟩ := hR.2.1
  have hA := RR_ra hn hR
  unfold D_X7_audit D_X8_audit
  rcases spike_cases a1 with ⟨h3, h4⟩ | ⟨k, hk, rfl, h3, h4⟩
  · rw [turn_u h3, if_neg h4, act_no _ _ _ (by dsimp only; decide)]
    exact ⟨rfl, RR_mono hR⟩
  · rw [if_pos h4]
    obtain ⟨e1, e2⟩ := sp_audit hW hs hk
    obtain ⟨d1, d2⟩ := pg_audit hW hp hk
    have hW' := (wf_audit hW hk).1
    rw [topOf_eq hW' e1 d1 hk] at e2
    rw [act_ok _ _ _ (by rw [e2]; exact topOf_ref _)]
    dsimp only
    exact ⟨e2, RR_sp hR ⟨_, m, by omega, hW', e1, hnt, d1, by rw [d2]; exact h16⟩ hA⟩
theorem undo_row (bk : Nat → Int32) {A : Nat} (hA : A < 14) (pg : Nat → Int32) : ∀ n, n ≤ 17 → ∀ i, i < n → D_X8_undo_l27 bk (nI (A + 1)) pg n i = bk (17 * A + i)
  | 0, _ => fun i hi => absurd hi (Nat.not_lt_zero i)
  | n + 1, hn => by
    intro i hi
    have e : ((17 : Int32) * (nI (A + 1) - 1) + nI n).toNatClampNeg = 17 * A + n := by
      rw [show (17 : Int32) = nI 17 from rfl, nI_pred, pk_mul, nI_add, nI_clamp (by omega)]
    rw [D_X8_undo_l27]
    unfold D_X8_undo_b27
    rw [e, nI_clamp (by omega)]
    by_cases hin : i = n
    · subst hin
      rw [up_s]
    · rw [up_n _ _ hin]
      exact undo_row bk hA pg n (by omega) i (by omega)
theorem undo_sim (hn : n < 500) (hR : RR n tl tc sp nt kn gr gc bf ac sw an oc kp fl se tx ts pg th kd gd bk acts st so sn kt ik sd) : (D_X7_undo sp nt bf ac).1 = (D_X8_undo pg bk acts).1 ∧ RR (n + 1) tl tc (D_X7_undo sp nt bf ac).2.1 (D_X7_undo sp nt bf ac).2.2.1 kn gr gc bf (D_X7_undo sp nt bf ac).2.2.2 sw an oc kp fl se tx ts (D_X8_undo pg bk acts).2.2.1 th kd gd bk (D_X8_undo pg bk acts).2.2.2 st so sn kt ik sd := by
  obtain ⟨e0, h2, h3⟩ := hR.2.2.2.1
  obtain ⟨A, hA, e1⟩ := vp_in_of (inR_in h2 (k := 15) (by decide)) (by decide)
  unfold D_X7_undo D_X8_undo
  rw [e0]
  by_cases c : acts = 0
  · rw [if_pos c, if_pos c]
    have hR' := RR_mono hR
    rw [e0] at hR'
    exact ⟨rfl, hR'⟩
  · rw [if_neg c, if_neg c]
    cases A with
    | zero => exact absurd (e1.trans nI_0) c
    | succ A =>
      subst e1
      unfold D_X0_removeLast D_X8_undo_k27
      rw [if_neg c, nI_pred]
      dsimp only
      rw [nI_clamp (by omega)] at h3 ⊢
      refine ⟨rfl, RR_sp hR (RS_mono ?_ (Nat.le_succ n)) ⟨rfl, ?_, fun j hj => ?_⟩⟩
      · exact RS_congr (RP_RS hn (h3 A (by omega)) sp) (fun i hi => undo_row bk (by omega) pg 17 (by omega) i hi)
      · unfold inR
        rw [nI_toInt (by omega)]
        omega
      · rw [nI_clamp (by omega)] at hj
        exact RP_mono (h3 j (by omega)) (by omega)
end RRS2
