/-! the two readers read alike -/
theorem isSpike_1 : ∀ k, k < 3 → D_X7_isSpike (nI k) = 1 := by decide
theorem gt_0 : ∀ T, T < 6 → D_X2_groundTold (nI T) 0 = -9 := by decide
theorem rg5 (kn gr : Nat → Int32) (gc k ga gb l : Int32) {g : Int32} (hg : D_X2_groundTold gc l = g) : D_X2_readsGround kn gr gc 5 k ga gb l = (if g = -9 then (0 : Int32) else 1, kn, gr, gc, 6, g, gb) := by
  unfold D_X2_readsGround D_X2_readsGround_j82
  rw [if_pos rfl, hg]
  split <;> rfl
theorem rg6 (kn gr : Nat → Int32) (gc k ga gb l : Int32) {g : Int32} (hg : D_X2_groundTold gc l = g) : D_X2_readsGround kn gr gc 6 k ga gb l = (if g = -9 then (0 : Int32) else 1, kn, gr, gc, 7, ga, g) := by
  unfold D_X2_readsGround D_X2_readsGround_j82
  rw [if_neg (by decide), if_pos rfl, hg]
  split <;> rfl
theorem rg7_bad (kn gr : Nat → Int32) (gc k ga gb l : Int32) (hg : D_X2_groundTold gc l = -9) : (D_X2_readsGround kn gr gc 7 k ga gb l).1 = 0 := by
  unfold D_X2_readsGround D_X2_readsGround_j82
  rw [if_neg (by decide), if_neg (by decide), hg, if_pos rfl, if_pos rfl]
theorem rg7_ok (kn gr : Nat → Int32) (gc k ga gb l : Int32) {g : Int32} (hg : D_X2_groundTold gc l = g) (h9 : ¬ g = -9) : D_X2_readsGround kn gr gc 7 k ga gb l = ((1 : Int32), (D_X6_append kn gr gc k ga gb g).1, (D_X6_append kn gr gc k ga gb g).2.1, (D_X6_append kn gr gc k ga gb g).2.2, 1, ga, gb) := by
  unfold D_X2_readsGround D_X2_readsGround_j82
  rw [if_neg (by decide), if_neg (by decide), hg, if_neg h9, if_neg h9]
section PL
variable (sp0 : Nat → Int32) (tx : Nat → Int32) {L : Nat}
theorem ml_bad' {m q a : Nat} {pl sl th : Int32} {on pg kd gd : Nat → Int32} (h : ¬ nI L ≤ pl) {sl' th' : Int32} {on' pg' kd' gd' : Nat → Int32} (h2 : D_X8_readPart tx (nI L) pl sl on pg th kd gd = (0, nI a, sl', on', pg', th', kd', gd')) : (D_X8_readTown_l67 tx (nI L) (m + 1) q pl sl on pg th kd gd).1 = nI a := by
  rw [ml_bad tx h (by rw [h2]), h2]
theorem pl_S (hL : L ≤ 48) {σ : Nat → Nat} {sp pg kn gr kd gd on : Nat → Int32} {sl t k ga gb : Int32} {n i m q T : Nat} (hi : i + (n + 1) = L) (hV : PV σ sp pg sl on) (hl : tx i = 83) (hf : ¬ D_X4_inHand sp = 0) (ih : ∀ (n' i' : Nat) (σ' : Nat → Nat) (sp' pg' on' : Nat → Int32) (sl' t' : Int32), n' < n → i' + n' = L → PV σ' sp' pg' sl' on' → PE (D_X2_faultOf_l21 sp0 tx (nI L) n' i' sp' kn gr (nI T) 1 t' k ga gb) (D_X8_readTown_l67 tx (nI L) m (q + 1) (nI i') sl' on' pg' (nI T) kd gd)) : PE (D_X2_faultOf_l21 sp0 tx (nI L) (n + 1) i sp kn gr (nI T) 1 t k ga gb) (D_X8_readTown_l67 tx (nI L) (m + 1) q (nI i) sl on pg (nI T) kd gd) := by
  have hnl : ¬ nI L ≤ nI i := nI_ge (by omega) (by omega)
  have hfull := PV_full hV
  have hm : ¬ (8 : Int32) ≤ D_X8_many sl := by rw [← hfull]; exact hf
  have eP := part_S tx (L := L) (i := i) (by omega) (sl := sl) (th := nI T) (on := on) (pg := pg) (kd := kd) (gd := gd) hl hm
  have x1 : D_X2_reads sp kn gr (nI T) 1 t k ga gb (tx i) = (1, sp, kn, gr, nI T, 2, t, k, ga, gb) := by
    rw [rd_1, hl]
    unfold D_X2_readsPart
    rw [if_pos rfl, if_neg hf]
  rw [fl_go sp0 tx (nI L) (la_in tx hL (by omega)) x1]
  cases n with
  | zero =>
    have eR := rs_a tx (L := L) (pl := nI (i + 1)) (sl := sl) (on := on) (pg := pg) (by rw [nx_out tx hL (by omega) (by omega)]; decide)
    rw [eR] at eP
    refine PE_bad (a := i + 1) (by omega) ?_ (ml_bad' tx hnl eP)
    rw [fl_end sp0 tx (nI L) (by decide)]
    exact congrArg nI (by omega)
  | succ n =>
    have n1 := nx_in tx hL (i := i + 1) (by omega)
    rcases spike_cases (tx (i + 1) - 48) with ⟨g1, g2⟩ | ⟨k0, hk0, ek, g1, g2⟩
    · have eR := rs_a tx (L := L) (pl := nI (i + 1)) (sl := sl) (on := on) (pg := pg) (by rw [n1]; exact g2)
      rw [eR] at eP
      refine PE_bad (a := i + 1) (by omega) ?_ (ml_bad' tx hnl eP)
      exact fl_bad sp0 tx (nI L) (la_in tx hL (by omega)) (by rw [rd_2]; exact g1)
    · have x2 : D_X2_reads sp kn gr (nI T) 2 t k ga gb (tx (i + 1)) = (1, sp, kn, gr, nI T, 3, nI k0, k, ga, gb) := by
        rw [rd_2, ek, isSpike_1 k0 hk0]
      rw [fl_go sp0 tx (nI L) (la_in tx hL (by omega)) x2]
      rw [ek] at g2
      cases n with
      | zero =>
        have eR := rs_b tx (L := L) (pl := nI (i + 1)) (sl := sl) (on := on) (pg := pg) (by rw [n1, ek]; exact g2) (Or.inl (by rw [nI_1, nx_out tx hL (by omega) (by omega)]; decide))
        rw [eR, nI_1] at eP
        refine PE_bad (a := i + 1 + 1) (by omega) ?_ (ml_bad' tx hnl eP)
        rw [fl_end sp0 tx (nI L) (by decide)]
        exact congrArg nI (by omega)
      | succ n =>
        have n2 := nx_in tx hL (i := i + 1 + 1) (by omega)
        rcases slip_cases (tx (i + 1 + 1) - 48) with ⟨f1, f2⟩ | ⟨s, hs8, es, f1, f2⟩
        · have eR := rs_b tx (L := L) (pl := nI (i + 1)) (sl := sl) (on := on) (pg := pg) (by rw [n1, ek]; exact g2) (Or.inl (by rw [nI_1, n2]; exact f2))
          rw [eR, nI_1] at eP
          refine PE_bad (a := i + 1 + 1) (by omega) ?_ (ml_bad' tx hnl eP)
          refine fl_bad sp0 tx (nI L) (la_in tx hL (by omega)) ?_
          rw [rd_3, putOn_u (Or.inl f1)]
          dsimp only
          rw [if_neg rf1]
        · by_cases c : σ s = 24
          · have hh := (PV_has hV hs8).symm ▸ c
            have eR := rs_d tx (L := L) (pl := nI (i + 1)) (sl := sl) (on := on) (pg := pg) hs8 hk0 (by rw [n1, ek]) (by rw [nI_1, n2, es]) hh
            rw [eR, nI_1, nI_1] at eP
            rw [ml_go tx hnl eP]
            have hc8 := cnt_le σ k0
            have x3 : D_X2_reads sp kn gr (nI T) 3 (nI k0) k ga gb (tx (i + 1 + 1)) = (1, upd sp s (nI (8 * k0 + cnt σ k0)), kn, gr, nI T, 1, nI k0, k, ga, gb) := by
              rw [rd_3, es, putOn_y hV.1 hV.2.2.1 hs8 hk0 c]
              dsimp only
              rw [if_pos (ref_nI (by omega))]
            rw [fl_go sp0 tx (nI L) (la_in tx hL (by omega)) x3]
            exact ih n (i + 1 + 1 + 1) _ _ _ _ _ _ (by omega) (by omega) (PV_put hV hs8 hk0 c)
          · have hh : ¬ D_X8_has sl (nI s) = 0 := by rw [PV_has hV hs8]; exact c
            have eR := rs_b tx (L := L) (pl := nI (i + 1)) (sl := sl) (on := on) (pg := pg) (by rw [n1, ek]; exact g2) (Or.inr (by rw [nI_1, n2, es]; exact hh))
            rw [eR, nI_1] at eP
            refine PE_bad (a := i + 1 + 1) (by omega) ?_ (ml_bad' tx hnl eP)
            refine fl_bad sp0 tx (nI L) (la_in tx hL (by omega)) ?_
            rw [rd_3, es, putOn_n hV.1 hV.2.2.1 hs8 hk0 c]
            dsimp only
            rw [if_neg rf3]
theorem rt_go {pl : Int32} {T : Nat} {kd gd : Nat → Int32} (h : ¬ D_X8_in (D_X8_next tx (nI L) pl - 48).toInt64 0 3 = 0) : D_X8_readThing tx (nI L) pl (nI T) kd gd = D_X8_readThing_l34 tx (nI L) pl (nI T) kd 3 0 (pl + 1) gd := if_neg h
theorem rt_bad {pl : Int32} {T : Nat} {kd gd : Nat → Int32} (h : D_X8_in (D_X8_next tx (nI L) pl - 48).toInt64 0 3 = 0) : D_X8_readThing tx (nI L) pl (nI T) kd gd = (0, pl, nI T, kd, gd) := if_pos h
theorem pl_T (hL : L ≤ 48) {sp pg kn gr kd gd on : Nat → Int32} {sl t k ga gb : Int32} {n i m q T : Nat} (hi : i + (n + 1) = L) (hG : RG kn gr (nI T) (nI T) kd gd) (hl : tx i = 84) (hT : T < 6) (ih : ∀ (n' i' : Nat) (kn' gr' kd' gd' : Nat → Int32) (k' ga' gb' : Int32), n' < n → i' + n' = L → RG kn' gr' (nI (T + 1)) (nI (T + 1)) kd' gd' → PE (D_X2_faultOf_l21 sp0 tx (nI L) n' i' sp kn' gr' (nI (T + 1)) 1 t k' ga' gb') (D_X8_readTown_l67 tx (nI L) m (q + 1) (nI i') sl on pg (nI (T + 1)) kd' gd')) : PE (D_X2_faultOf_l21 sp0 tx (nI L) (n + 1) i sp kn gr (nI T) 1 t k ga gb) (D_X8_readTown_l67 tx (nI L) (m + 1) q (nI i) sl on pg (nI T) kd gd) := by
  have hnl : ¬ nI L ≤ nI i := nI_ge (by omega) (by omega)
  have hm : ¬ (6 : Int32) ≤ nI T := nI_ge (b := 6) hT (by omega)
  have eP := part_T tx (L := L) (i := i) (by omega) (sl := sl) (th := nI T) (on := on) (pg := pg) (kd := kd) (gd := gd) hl hm
  have x1 : D_X2_reads sp kn gr (nI T) 1 t k ga gb (tx i) = (1, sp, kn, gr, nI T, 4, t, k, ga, gb) := by
    rw [rd_1, hl]
    unfold D_X2_readsPart
    rw [if_neg (by decide), if_pos rfl, if_neg hm]
  rw [fl_go sp0 tx (nI L) (la_in tx hL (by omega)) x1]
  cases n with
  | zero =>
    have eR := rt_bad tx (L := L) (pl := nI (i + 1)) (T := T) (kd := kd) (gd := gd) (by rw [nx_out tx hL (by omega) (by omega)]; decide)
    rw [eR] at eP
    refine PE_bad (a := i + 1) (by omega) ?_ (ml_bad' tx hnl eP)
    rw [fl_end sp0 tx (nI L) (by decide)]
    exact congrArg nI (by omega)
  | succ n =>
    have n1 := nx_in tx hL (i := i + 1) (by omega)
    rcases th_k (l := tx (i + 1)) with ⟨g1, g2⟩ | ⟨v, hv, ev, g1, g2⟩
    · have eR := rt_bad tx (L := L) (pl := nI (i + 1)) (T := T) (kd := kd) (gd := gd) (by rw [n1]; exact g1)
      rw [eR] at eP
      refine PE_bad (a := i + 1) (by omega) ?_ (ml_bad' tx hnl eP)
      exact fl_bad sp0 tx (nI L) (la_in tx hL (by omega)) (by rw [rd_4]; exact g2)
    · have eR := rt_go tx (L := L) (pl := nI (i + 1)) (T := T) (kd := kd) (gd := gd) (by rw [n1]; exact g1)
      rw [nI_1] at eR
      have x2 : D_X2_reads sp kn gr (nI T) 4 t k ga gb (tx (i + 1)) = (1, sp, kn, gr, nI T, 5, t, nI v, ga, gb) := by
        rw [rd_4, g2, ev]
      rw [fl_go sp0 tx (nI L) (la_in tx hL (by omega)) x2]
      -- the first ground
      cases n with
      | zero =>
        rcases b34_v hT kd 0 (by omega) (nI (i + 1 + 1)) gd (nx_out tx hL (i := i + 1 + 1) (by omega) (by omega)) with ⟨_, b2⟩ | ⟨x, _, _, b3, _⟩
        · rw [D_X8_readThing_l34_r tx (nI L) (nI (i + 1)) (nI T) kd 2 0 (nI (i + 1 + 1)) gd _ b2] at eR
          rw [eR] at eP
          refine PE_bad (a := i + 1 + 1) (by omega) ?_ (ml_bad' tx hnl eP)
          rw [fl_end sp0 tx (nI L) (by decide)]
          exact congrArg nI (by omega)
        · exact absurd (gt_0 T hT) b3
      | succ n =>
        rcases b34_v hT kd 0 (by omega) (nI (i + 1 + 1)) gd (nx_in tx hL (i := i + 1 + 1) (by omega)) with ⟨b1, b2⟩ | ⟨x0, hx0, b1, b3, b2⟩
        · rw [D_X8_readThing_l34_r tx (nI L) (nI (i + 1)) (nI T) kd 2 0 (nI (i + 1 + 1)) gd _ b2] at eR
          rw [eR] at eP
          refine PE_bad (a := i + 1 + 1) (by omega) ?_ (ml_bad' tx hnl eP)
          refine fl_bad sp0 tx (nI L) (la_in tx hL (by omega)) ?_
          rw [rd_g _ _ _ _ _ _ _ _ _ (Or.inl rfl), rg5 _ _ _ _ _ _ _ b1]
          dsimp only
          rw [if_pos rfl]
        · rw [D_X8_readThing_l34_s tx (nI L) (nI (i + 1)) (nI T) kd 2 0 (nI (i + 1 + 1)) gd _ _ b2, nI_1] at eR
          have x3 : D_X2_reads sp kn gr (nI T) 5 t (nI v) ga gb (tx (i + 1 + 1)) = (1, sp, kn, gr, nI T, 6, t, nI v, nI x0, gb) := by
            rw [rd_g _ _ _ _ _ _ _ _ _ (Or.inl rfl), rg5 _ _ _ _ _ _ _ b1]
            dsimp only
            rw [if_neg (nI_ne9 x0 (by omega))]
          rw [fl_go sp0 tx (nI L) (la_in tx hL (by omega)) x3]
          -- the second ground
          cases n with
          | zero =>
            rcases b34_v hT kd 1 (by omega) (nI (i + 1 + 1 + 1)) (upd gd (3 * T + 0) (nI x0)) (nx_out tx hL (i := i + 1 + 1 + 1) (by omega) (by omega)) with ⟨_, b2⟩ | ⟨x, _, _, b3, _⟩
            · rw [D_X8_readThing_l34_r tx (nI L) (nI (i + 1)) (nI T) kd 1 1 (nI (i + 1 + 1 + 1)) _ _ b2] at eR
              rw [eR] at eP
              refine PE_bad (a := i + 1 + 1 + 1) (by omega) ?_ (ml_bad' tx hnl eP)
              rw [fl_end sp0 tx (nI L) (by decide)]
              exact congrArg nI (by omega)
            · exact absurd (gt_0 T hT) b3
          | succ n =>
            rcases b34_v hT kd 1 (by omega) (nI (i + 1 + 1 + 1)) (upd gd (3 * T + 0) (nI x0)) (nx_in tx hL (i := i + 1 + 1 + 1) (by omega)) with ⟨b1, b2⟩ | ⟨x1, hx1, b1, b3, b2⟩
            · rw [D_X8_readThing_l34_r tx (nI L) (nI (i + 1)) (nI T) kd 1 1 (nI (i + 1 + 1 + 1)) _ _ b2] at eR
              rw [eR] at eP
              refine PE_bad (a := i + 1 + 1 + 1) (by omega) ?_ (ml_bad' tx hnl eP)
              refine fl_bad sp0 tx (nI L) (la_in tx hL (by omega)) ?_
              rw [rd_g _ _ _ _ _ _ _ _ _ (Or.inr (Or.inl rfl)), rg6 _ _ _ _ _ _ _ b1]
              dsimp only
              rw [if_pos rfl]
            · rw [D_X8_readThing_l34_s tx (nI L) (nI (i + 1)) (nI T) kd 1 1 (nI (i + 1 + 1 + 1)) _ _ _ b2, nI_1] at eR
              have x4 : D_X2_reads sp kn gr (nI T) 6 t (nI v) (nI x0) gb (tx (i + 1 + 1 + 1)) = (1, sp, kn, gr, nI T, 7, t, nI v, nI x0, nI x1) := by
                rw [rd_g _ _ _ _ _ _ _ _ _ (Or.inr (Or.inl rfl)), rg6 _ _ _ _ _ _ _ b1]
                dsimp only
                rw [if_neg (nI_ne9 x1 (by omega))]
              rw [fl_go sp0 tx (nI L) (la_in tx hL (by omega)) x4]
              -- the third ground
              cases n with
              | zero =>
                rcases b34_v hT kd 2 (by omega) (nI (i + 1 + 1 + 1 + 1)) (upd (upd gd (3 * T + 0) (nI x0)) (3 * T + 1) (nI x1)) (nx_out tx hL (i := i + 1 + 1 + 1 + 1) (by omega) (by omega)) with ⟨_, b2⟩ | ⟨x, _, _, b3, _⟩
                · rw [D_X8_readThing_l34_r tx (nI L) (nI (i + 1)) (nI T) kd 0 2 (nI (i + 1 + 1 + 1 + 1)) _ _ b2] at eR
                  rw [eR] at eP
                  refine PE_bad (a := i + 1 + 1 + 1 + 1) (by omega) ?_ (ml_bad' tx hnl eP)
                  rw [fl_end sp0 tx (nI L) (by decide)]
                  exact congrArg nI (by omega)
                · exact absurd (gt_0 T hT) b3
              | succ n =>
                rcases b34_v hT kd 2 (by omega) (nI (i + 1 + 1 + 1 + 1)) (upd (upd gd (3 * T + 0) (nI x0)) (3 * T + 1) (nI x1)) (nx_in tx hL (i := i + 1 + 1 + 1 + 1) (by omega)) with ⟨b1, b2⟩ | ⟨x2, hx2, b1, b3, b2⟩
                · rw [D_X8_readThing_l34_r tx (nI L) (nI (i + 1)) (nI T) kd 0 2 (nI (i + 1 + 1 + 1 + 1)) _ _ b2] at eR
                  rw [eR] at eP
                  refine PE_bad (a := i + 1 + 1 + 1 + 1) (by omega) ?_ (ml_bad' tx hnl eP)
                  refine fl_bad sp0 tx (nI L) (la_in tx hL (by omega)) ?_
                  rw [rd_g _ _ _ _ _ _ _ _ _ (Or.inr (Or.inr rfl))]
                  exact rg7_bad _ _ _ _ _ _ _ b1
                · rw [D_X8_readThing_l34_s tx (nI L) (nI (i + 1)) (nI T) kd 0 2 (nI (i + 1 + 1 + 1 + 1)) _ _ _ b2, nI_1, D_X8_readThing_l34] at eR
                  unfold D_X8_readThing_k34 at eR
                  rw [n1, ev, nI_1, nI_clamp (by omega), Nat.add_zero] at eR
                  rw [eR] at eP
                  dsimp only at eP
                  rw [ml_go tx hnl eP]
                  have x5 : D_X2_reads sp kn gr (nI T) 7 t (nI v) (nI x0) (nI x1) (tx (i + 1 + 1 + 1 + 1)) = (1, sp, upd kn T (nI v), upd (upd (upd gr (3 * T) (nI x0)) (3 * T + 1) (nI x1)) (3 * T + 2) (nI x2), nI (T + 1), 1, t, nI v, nI x0, nI x1) := by
                    rw [rd_g _ _ _ _ _ _ _ _ _ (Or.inr (Or.inr rfl)), rg7_ok _ _ _ _ _ _ _ b1 (nI_ne9 x2 (by omega)), app_v hT]
                  rw [fl_go sp0 tx (nI L) (la_in tx hL (by omega)) x5]
                  exact ih n (i + 1 + 1 + 1 + 1 + 1) _ _ _ _ _ _ _ (by omega) (by omega) (RG_app hG hT hv hx0 hx1 hx2)
theorem pl_l (hL : L ≤ 48) : ∀ (N n i m q : Nat) (σ : Nat → Nat) (sp pg kn gr kd gd on : Nat → Int32) (sl : Int32) (T : Nat) (t k ga gb : Int32), n ≤ N → i + n = L → n < m → PV σ sp pg sl on → RG kn gr (nI T) (nI T) kd gd → T < 7 → PE (D_X2_faultOf_l21 sp0 tx (nI L) n i sp kn gr (nI T) 1 t k ga gb) (D_X8_readTown_l67 tx (nI L) m q (nI i) sl on pg (nI T) kd gd) := by
  have h0 : ∀ (i m q : Nat) (σ : Nat → Nat) (sp pg kn gr kd gd on : Nat → Int32) (sl : Int32) (T : Nat) (t k ga gb : Int32), i + 0 = L → 0 < m → PV σ sp pg sl on → RG kn gr (nI T) (nI T) kd gd → PE (D_X2_faultOf_l21 sp0 tx (nI L) 0 i sp kn gr (nI T) 1 t k ga gb) (D_X8_readTown_l67 tx (nI L) m q (nI i) sl on pg (nI T) kd gd) := by
    intro i m q σ sp pg kn gr kd gd on sl T t k ga gb hi hm hV hG
    obtain ⟨m, rfl⟩ : ∃ m', m = m' + 1 := ⟨m - 1, by omega⟩
    rw [ml_end tx (nI_le (by omega) (by omega)), D_X2_faultOf_l21]
    unfold D_X2_faultOf_k21
    rw [if_pos rfl]
    obtain ⟨hW, h24, hs, hp, h16, hsl, hon⟩ := hV
    exact ⟨rfl, fun _ => ⟨σ, hW, hs, rfl, hp, h16, hsl, hG⟩⟩
  intro N
  induction N with
  | zero =>
    intro n i m q σ sp pg kn gr kd gd on sl T t k ga gb hn hi hm hV hG hT
    have : n = 0 := by omega
    subst this
    exact h0 i m q σ sp pg kn gr kd gd on sl T t k ga gb hi hm hV hG
  | succ N ihN =>
    intro n i m q σ sp pg kn gr kd gd on sl T t k ga gb hn hi hm hV hG hT
    cases n with
    | zero => exact h0 i m q σ sp pg kn gr kd gd on sl T t k ga gb hi hm hV hG
    | succ n =>
      obtain ⟨m, rfl⟩ : ∃ m', m = m' + 1 := ⟨m - 1, by omega⟩
      have hnl : ¬ nI L ≤ nI i := nI_ge (by omega) (by omega)
      have hfull := PV_full hV
      have bad : ((tx i = 83 ∧ (8 : Int32) ≤ D_X8_many sl) ∨ (tx i = 84 ∧ (6 : Int32) ≤ nI T) ∨ (¬ tx i = 83 ∧ ¬ tx i = 84)) → (D_X2_readsPart sp (nI T) (tx i)).1 = 0 → PE (D_X2_faultOf_l21 sp0 tx (nI L) (n + 1) i sp kn gr (nI T) 1 t k ga gb) (D_X8_readTown_l67 tx (nI L) (m + 1) q (nI i) sl on pg (nI T) kd gd) := by
        intro hb hx
        refine PE_bad (a := i) (by omega) ?_ (ml_bad' tx hnl (part_no tx (by omega) hb))
        exact fl_bad sp0 tx (nI L) (la_in tx hL (by omega)) (by rw [rd_1]; exact hx)
      by_cases c1 : tx i = 83
      · by_cases c2 : D_X4_inHand sp = 0
        · refine bad (Or.inl ⟨c1, by rw [← hfull]; exact c2⟩) ?_
          unfold D_X2_readsPart
          rw [if_pos c1, if_pos c2]
        · exact pl_S sp0 tx hL hi hV c1 c2 (fun n' i' σ' sp' pg' on' sl' t' hn' hi' hV' => ihN n' i' m (q + 1) σ' sp' pg' kn gr kd gd on' sl' T t' k ga gb (by omega) hi' (by omega) hV' hG hT)
      · by_cases c3 : tx i = 84
        · by_cases c4 : T < 6
          · exact pl_T sp0 tx hL hi hG c3 c4 (fun n' i' kn' gr' kd' gd' k' ga' gb' hn' hi' hG' => ihN n' i' m (q + 1) σ sp pg kn' gr' kd' gd' on sl (T + 1) t k' ga' gb' (by omega) hi' (by omega) hV hG' (by omega))
          · have h6 : (6 : Int32) ≤ nI T := nI_le (a := 6) (by omega) (by omega)
            refine bad (Or.inr (Or.inl ⟨c3, h6⟩)) ?_
            unfold D_X2_readsPart
            rw [if_neg c1, if_pos c3, if_pos h6]
        · refine bad (Or.inr (Or.inr ⟨c1, c3⟩)) ?_
          unfold D_X2_readsPart
          rw [if_neg c1, if_neg c3]
end PL
