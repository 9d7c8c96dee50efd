abbrev rm_J6_bitCount_0f7a4 : Room := { frames := 0, cells := 0, slots := 0, locals := 0 }
set_option maxHeartbeats 4000000 in
set_option maxRecDepth 100000 in
theorem c_J6_bitCount_0f7a4 (l : Launch) (D : va_G) (cI cJ cZ : ClassId) (p0 : Int32) : CT l D (tys3 cI cJ cZ) yJ6_bitCount_0f7a4 cJ6_bitCount_0f7a4 1 (some .int) rm_J6_bitCount_0f7a4 [.int p0] [] (some (.int (D_J6_bitCount_0f7a4 p0))) [] := by
  refine CT.of (by decide) (Nat.le_of_ble_eq_true rfl) ?_
  intro p e s m args below meth c A Q ls hQ hx hb hr hml hown hts hlk hK hA hW hS hl
  have hl : lv_has ls 1 [(0, .int p0)] := hl
  have hF := (D_J6_bitCount_0f7a4.eq_1 p0)
  refine lv_iload_n hx hb dJ6_bitCount_0f7a4_0 rfl (lv_at hl 0 rfl) ?_
  refine lv_iload_n hx hb dJ6_bitCount_0f7a4_1 rfl (lv_at hl 0 rfl) ?_
  refine lv_iconst (v := 1) hx hb dJ6_bitCount_0f7a4_2 (by decide) ?_
  refine lv_iushr (v := ((p0.toUInt32 >>> ((1 : Int32).toUInt32 &&& Int32.toUInt32 31)).toInt32)) hx hb dJ6_bitCount_0f7a4_3 rfl ?_
  refine lv_ldcw (own := RJ6) (v := 1431655765) hx hb hown (hts _ tw297) dJ6_bitCount_0f7a4_4 ?_
  refine lv_iand hx hb dJ6_bitCount_0f7a4_7 ?_
  refine lv_isub hx hb dJ6_bitCount_0f7a4_8 ?_
  refine lv_topi (fun c9_0 ec9_0 => ?_)
  rw [← ec9_0] at hF
  refine lv_istore_n (lv' := [(0, .int c9_0)]) hx hb dJ6_bitCount_0f7a4_9 rfl hl (by decide) rfl (fun ls hl => ?_)
  have hF := hF.trans ((D_J6_bitCount_0f7a4_c9.eq_1 c9_0))
  refine lv_iload_n hx hb dJ6_bitCount_0f7a4_10 rfl (lv_at hl 0 rfl) ?_
  refine lv_ldcw (own := RJ6) (v := 858993459) hx hb hown (hts _ tw298) dJ6_bitCount_0f7a4_11 ?_
  refine lv_iand hx hb dJ6_bitCount_0f7a4_14 ?_
  refine lv_iload_n hx hb dJ6_bitCount_0f7a4_15 rfl (lv_at hl 0 rfl) ?_
  refine lv_iconst (v := 2) hx hb dJ6_bitCount_0f7a4_16 (by decide) ?_
  refine lv_iushr (v := ((c9_0.toUInt32 >>> ((2 : Int32).toUInt32 &&& Int32.toUInt32 31)).toInt32)) hx hb dJ6_bitCount_0f7a4_17 rfl ?_
  refine lv_ldcw (own := RJ6) (v := 858993459) hx hb hown (hts _ tw298) dJ6_bitCount_0f7a4_18 ?_
  refine lv_iand hx hb dJ6_bitCount_0f7a4_21 ?_
  refine lv_iadd hx hb dJ6_bitCount_0f7a4_22 ?_
  refine lv_topi (fun c23_0 ec23_0 => ?_)
  rw [← ec23_0] at hF
  refine lv_istore_n (lv' := [(0, .int c23_0)]) hx hb dJ6_bitCount_0f7a4_23 rfl hl (by decide) rfl (fun ls hl => ?_)
  have hF := hF.trans ((D_J6_bitCount_0f7a4_c23.eq_1 c23_0))
  refine lv_iload_n hx hb dJ6_bitCount_0f7a4_24 rfl (lv_at hl 0 rfl) ?_
  refine lv_iload_n hx hb dJ6_bitCount_0f7a4_25 rfl (lv_at hl 0 rfl) ?_
  refine lv_iconst (v := 4) hx hb dJ6_bitCount_0f7a4_26 (by decide) ?_
  refine lv_iushr (v := ((c23_0.toUInt32 >>> ((4 : Int32).toUInt32 &&& Int32.toUInt32 31)).toInt32)) hx hb dJ6_bitCount_0f7a4_27 rfl ?_
  refine lv_iadd hx hb dJ6_bitCount_0f7a4_28 ?_
  refine lv_ldcw (own := RJ6) (v := 252645135) hx hb hown (hts _ tw299) dJ6_bitCount_0f7a4_29 ?_
  refine lv_iand hx hb dJ6_bitCount_0f7a4_32 ?_
  refine lv_topi (fun c33_0 ec33_0 => ?_)
  rw [← ec33_0] at hF
  refine lv_istore_n (lv' := [(0, .int c33_0)]) hx hb dJ6_bitCount_0f7a4_33 rfl hl (by decide) rfl (fun ls hl => ?_)
  have hF := hF.trans ((D_J6_bitCount_0f7a4_c33.eq_1 c33_0))
  refine lv_iload_n hx hb dJ6_bitCount_0f7a4_34 rfl (lv_at hl 0 rfl) ?_
  refine lv_iload_n hx hb dJ6_bitCount_0f7a4_35 rfl (lv_at hl 0 rfl) ?_
  refine lv_bipush (v := 8) hx hb dJ6_bitCount_0f7a4_36 (by decide) ?_
  refine lv_iushr (v := ((c33_0.toUInt32 >>> ((8 : Int32).toUInt32 &&& Int32.toUInt32 31)).toInt32)) hx hb dJ6_bitCount_0f7a4_38 rfl ?_
  refine lv_iadd hx hb dJ6_bitCount_0f7a4_39 ?_
  refine lv_topi (fun c40_0 ec40_0 => ?_)
  rw [← ec40_0] at hF
  refine lv_istore_n (lv' := [(0, .int c40_0)]) hx hb dJ6_bitCount_0f7a4_40 rfl hl (by decide) rfl (fun ls hl => ?_)
  have hF := hF.trans ((D_J6_bitCount_0f7a4_c40.eq_1 c40_0))
  refine lv_iload_n hx hb dJ6_bitCount_0f7a4_41 rfl (lv_at hl 0 rfl) ?_
  refine lv_iload_n hx hb dJ6_bitCount_0f7a4_42 rfl (lv_at hl 0 rfl) ?_
  refine lv_bipush (v := 16) hx hb dJ6_bitCount_0f7a4_43 (by decide) ?_
  refine lv_iushr (v := ((c40_0.toUInt32 >>> ((16 : Int32).toUInt32 &&& Int32.toUInt32 31)).toInt32)) hx hb dJ6_bitCount_0f7a4_45 rfl ?_
  refine lv_iadd hx hb dJ6_bitCount_0f7a4_46 ?_
  refine lv_topi (fun c47_0 ec47_0 => ?_)
  rw [← ec47_0] at hF
  refine lv_istore_n (lv' := [(0, .int c47_0)]) hx hb dJ6_bitCount_0f7a4_47 rfl hl (by decide) rfl (fun ls hl => ?_)
  have hF := hF.trans ((D_J6_bitCount_0f7a4_c47.eq_1 c47_0))
  refine lv_iload_n hx hb dJ6_bitCount_0f7a4_48 rfl (lv_at hl 0 rfl) ?_
  refine lv_bipush (v := 63) hx hb dJ6_bitCount_0f7a4_49 (by decide) ?_
  refine lv_iand hx hb dJ6_bitCount_0f7a4_51 ?_
  exact retI hQ hx hb hr hlk hK hW hS (by rw [hF]) (rfl) dJ6_bitCount_0f7a4_52
abbrev rm_X7_isSlip : Room := { frames := 0, cells := 0, slots := 0, locals := 0 }
set_option maxHeartbeats 4000000 in
set_option maxRecDepth 100000 in
theorem c_X7_isSlip (l : Launch) (D : va_G) (cI cJ cZ : ClassId) (p0 : Int32) : CT l D (tys3 cI cJ cZ) yX7_isSlip cX7_isSlip 1 (some .boolean) rm_X7_isSlip [.int p0] [] (some (.int (D_X7_isSlip p0))) [] := by
  refine CT.of (by decide) (Nat.le_of_ble_eq_true rfl) ?_
  intro p e s m args below meth c A Q ls hQ hx hb hr hml hown hts hlk hK hA hW hS hl
  have hl : lv_has ls 1 [(0, .int p0)] := hl
  have hF := (D_X7_isSlip.eq_1 p0)
  refine lv_iload_n hx hb dX7_isSlip_0 rfl (lv_at hl 0 rfl) ?_
  refine lv_if_lt (tgt := 14) hx hb dX7_isSlip_1 (by decide) (fun c_1 => ?_) (fun c_1 => ?_)
  · have hF := hF.trans (if_pos c_1)
    refine lv_iconst (v := 0) hx hb dX7_isSlip_14 (by decide) ?_
    exact retZ hQ hx hb hr hlk hK hW hS (Or.inl rfl) (by rw [hF]) (rfl) dX7_isSlip_15
  · have hF := hF.trans (if_neg c_1)
    refine lv_iload_n hx hb dX7_isSlip_4 rfl (lv_at hl 0 rfl) ?_
    refine lv_bipush (v := 8) hx hb dX7_isSlip_5 (by decide) ?_
    refine lv_icmp_ge (tgt := 14) hx hb dX7_isSlip_7 (by decide) (fun c_7 => ?_) (fun c_7 => ?_)
    · have hF := hF.trans (if_pos c_7)
      refine lv_iconst (v := 0) hx hb dX7_isSlip_14 (by decide) ?_
      exact retZ hQ hx hb hr hlk hK hW hS (Or.inl rfl) (by rw [hF]) (rfl) dX7_isSlip_15
    · have hF := hF.trans (if_neg c_7)
      refine lv_iconst (v := 1) hx hb dX7_isSlip_10 (by decide) ?_
      refine lv_goto (tgt := 15) hx hb dX7_isSlip_11 (by decide) ?_
      exact retZ hQ hx hb hr hlk hK hW hS (Or.inr rfl) (by rw [hF]) (rfl) dX7_isSlip_15
abbrev rm_X7_isSpike : Room := { frames := 0, cells := 0, slots := 0, locals := 0 }
set_option maxHeartbeats 4000000 in
set_option maxRecDepth 100000 in
theorem c_X7_isSpike (l : Launch) (D : va_G) (cI cJ cZ : ClassId) (p0 : Int32) : CT l D (tys3 cI cJ cZ) yX7_isSpike cX7_isSpike 1 (some .boolean) rm_X7_isSpike [.int p0] [] (some (.int (D_X7_isSpike p0))) [] := by
  refine CT.of (by decide) (Nat.le_of_ble_eq_true rfl) ?_
  intro p e s m args below meth c A Q ls hQ hx hb hr hml hown hts hlk hK hA hW hS hl
  have hl : lv_has ls 1 [(0, .int p0)] := hl
  have hF := (D_X7_isSpike.eq_1 p0)
  refine lv_iload_n hx hb dX7_isSpike_0 rfl (lv_at hl 0 rfl) ?_
  refine lv_if_lt (tgt := 13) hx hb dX7_isSpike_1 (by decide) (fun c_1 => ?_) (fun c_1 => ?_)
  · have hF := hF.trans (if_pos c_1)
    refine lv_iconst (v := 0) hx hb dX7_isSpike_13 (by decide) ?_
    exact retZ hQ hx hb hr hlk hK hW hS (Or.inl rfl) (by rw [hF]) (rfl) dX7_isSpike_14
  · have hF := hF.trans (if_neg c_1)
    refine lv_iload_n hx hb dX7_isSpike_4 rfl (lv_at hl 0 rfl) ?_
    refine lv_iconst (v := 3) hx hb dX7_isSpike_5 (by decide) ?_
    refine lv_icmp_ge (tgt := 13) hx hb dX7_isSpike_6 (by decide) (fun c_6 => ?_) (fun c_6 => ?_)
    · have hF := hF.trans (if_pos c_6)
      refine lv_iconst (v := 0) hx hb dX7_isSpike_13 (by decide) ?_
      exact retZ hQ hx hb hr hlk hK hW hS (Or.inl rfl) (by rw [hF]) (rfl) dX7_isSpike_14
    · have hF := hF.trans (if_neg c_6)
      refine lv_iconst (v := 1) hx hb dX7_isSpike_9 (by decide) ?_
      refine lv_goto (tgt := 14) hx hb dX7_isSpike_10 (by decide) ?_
      exact retZ hQ hx hb hr hlk hK hW hS (Or.inr rfl) (by rw [hF]) (rfl) dX7_isSpike_14
abbrev rm_X7_isSlot : Room := { frames := 0, cells := 0, slots := 0, locals := 0 }
set_option maxHeartbeats 4000000 in
set_option maxRecDepth 100000 in
theorem c_X7_isSlot (l : Launch) (D : va_G) (cI cJ cZ : ClassId) (p0 : Int32) : CT l D (tys3 cI cJ cZ) yX7_isSlot cX7_isSlot 1 (some .boolean) rm_X7_isSlot [.int p0] [] (some (.int (D_X7_isSlot p0))) [] := by
  refine CT.of (by decide) (Nat.le_of_ble_eq_true rfl) ?_
  intro p e s m args below meth c A Q ls hQ hx hb hr hml hown hts hlk hK hA hW hS hl
  have hl : lv_has ls 1 [(0, .int p0)] := hl
  have hF := (D_X7_isSlot.eq_1 p0)
  refine lv_iload_n hx hb dX7_isSlot_0 rfl (lv_at hl 0 rfl) ?_
  refine lv_if_lt (tgt := 13) hx hb dX7_isSlot_1 (by decide) (fun c_1 => ?_) (fun c_1 => ?_)
  · have hF := hF.trans (if_pos c_1)
    refine lv_iconst (v := 0) hx hb dX7_isSlot_13 (by decide) ?_
    exact retZ hQ hx hb hr hlk hK hW hS (Or.inl rfl) (by rw [hF]) (rfl) dX7_isSlot_14
  · have hF := hF.trans (if_neg c_1)
    refine lv_iload_n hx hb dX7_isSlot_4 rfl (lv_at hl 0 rfl) ?_
    refine lv_iconst (v := 2) hx hb dX7_isSlot_5 (by decide) ?_
    refine lv_icmp_ge (tgt := 13) hx hb dX7_isSlot_6 (by decide) (fun c_6 => ?_) (fun c_6 => ?_)
    · have hF := hF.trans (if_pos c_6)
      refine lv_iconst (v := 0) hx hb dX7_isSlot_13 (by decide) ?_
      exact retZ hQ hx hb hr hlk hK hW hS (Or.inl rfl) (by rw [hF]) (rfl) dX7_isSlot_14
    · have hF := hF.trans (if_neg c_6)
      refine lv_iconst (v := 1) hx hb dX7_isSlot_9 (by decide) ?_
      refine lv_goto (tgt := 14) hx hb dX7_isSlot_10 (by decide) ?_
      exact retZ hQ hx hb hr hlk hK hW hS (Or.inr rfl) (by rw [hF]) (rfl) dX7_isSlot_14
abbrev rm_X7_isRefusal : Room := { frames := 0, cells := 0, slots := 0, locals := 0 }
set_option maxHeartbeats 4000000 in
set_option maxRecDepth 100000 in
theorem c_X7_isRefusal (l : Launch) (D : va_G) (cI cJ cZ : ClassId) (p0 : Int32) : CT l D (tys3 cI cJ cZ) yX7_isRefusal cX7_isRefusal 1 (some .boolean) rm_X7_isRefusal [.int p0] [] (some (.int (D_X7_isRefusal p0))) [] := by
  refine CT.of (by decide) (Nat.le_of_ble_eq_true rfl) ?_
  intro p e s m args below meth c A Q ls hQ hx hb hr hml hown hts hlk hK hA hW hS hl
  have hl : lv_has ls 1 [(0, .int p0)] := hl
  have hF := (D_X7_isRefusal.eq_1 p0)
  refine lv_iload_n hx hb dX7_isRefusal_0 rfl (lv_at hl 0 rfl) ?_
  refine lv_iconst (v := -1) hx hb dX7_isRefusal_1 (by decide) ?_
  refine lv_icmp_eq (tgt := 11) hx hb dX7_isRefusal_2 (by decide) (fun c_2 => ?_) (fun c_2 => ?_)
  · have hF := hF.trans (if_pos c_2)
    refine lv_iconst (v := 1) hx hb dX7_isRefusal_11 (by decide) ?_
    refine lv_goto (tgt := 16) hx hb dX7_isRefusal_12 (by decide) ?_
    exact retZ hQ hx hb hr hlk hK hW hS (Or.inr rfl) (by rw [hF]) (rfl) dX7_isRefusal_16
  · have hF := hF.trans (if_neg c_2)
    refine lv_iload_n hx hb dX7_isRefusal_5 rfl (lv_at hl 0 rfl) ?_
    refine lv_bipush (v := -3) hx hb dX7_isRefusal_6 (by decide) ?_
    refine lv_icmp_ne (tgt := 15) hx hb dX7_isRefusal_8 (by decide) (fun c_8 => ?_) (fun c_8 => ?_)
    · have hF := hF.trans (if_neg c_8)
      refine lv_iconst (v := 0) hx hb dX7_isRefusal_15 (by decide) ?_
      exact retZ hQ hx hb hr hlk hK hW hS (Or.inl rfl) (by rw [hF]) (rfl) dX7_isRefusal_16
    · have hF := hF.trans (if_pos c_8)
      refine lv_iconst (v := 1) hx hb dX7_isRefusal_11 (by decide) ?_
      refine lv_goto (tgt := 16) hx hb dX7_isRefusal_12 (by decide) ?_
      exact retZ hQ hx hb hr hlk hK hW hS (Or.inr rfl) (by rw [hF]) (rfl) dX7_isRefusal_16
abbrev rm_X4_slipsFrom : Room := { frames := 0, cells := 0, slots := 0, locals := 0 }
set_option maxHeartbeats 4000000 in
set_option maxRecDepth 100000 in
theorem c_X4_slipsFrom (l : Launch) (D : va_G) (cI cJ cZ : ClassId) (h h_spots : Nat) (spots : Nat → Int32) (night : Int32) (p0 : Int32) (p1 : Int32) : CT l D (tys3 cI cJ cZ) yX4_slipsFrom cX4_slipsFrom 5 (some .int) rm_X4_slipsFrom [.ref h, .int p0, .int p1] [(h, .inr (4, [.ref h_spots, .int night])), (h_spots, .inl (cI, 8, .inl spots))] (some (.int (D_X4_slipsFrom spots p0 p1))) [(h, .inr (4, [.ref h_spots, .int night])), (h_spots, .inl (cI, 8, .inl spots))] := by
  refine CT.of (by decide) (Nat.le_of_ble_eq_true rfl) ?_
  intro p e s m args below meth c A Q ls hQ hx hb hr hml hown hts hlk hK hA hW hS hl
  have hl : lv_has ls 5 [(0, .ref h), (1, .int p0), (2, .int p1)] := hl
  have hF := (D_X4_slipsFrom.eq_1 spots p0 p1)
  refine lv_iconst (v := 0) hx hb dX4_slipsFrom_0 (by decide) ?_
  refine lv_istore_n (lv' := [(3, .int (0 : Int32)), (0, .ref h), (1, .int p0), (2, .int p1)]) hx hb dX4_slipsFrom_1 rfl hl (by decide) rfl (fun ls hl => ?_)
  refine lv_iconst (v := 0) hx hb dX4_slipsFrom_2 (by decide) ?_
  refine lv_istore (lv' := [(4, .int (0 : Int32)), (3, .int (0 : Int32)), (0, .ref h), (1, .int p0), (2, .int p1)]) hx hb dX4_slipsFrom_3 hl (by decide) rfl (fun ls hl => ?_)
  have L5 : ∀ (n i5 : Nat), i5 + n = 8 → ∀ (a5_3 : Int32), (D_X4_slipsFrom_l5 p0 p1 spots (0 : Int32) i5) = a5_3 → ∀ (H : Heap) (locs : List Loc), (va_P D cls9 [(h, .inr (4, [.ref h_spots, .int night])), (h_spots, .inl (cI, 8, .inl spots))] H ∧ va_D A [(h, .inr (4, [.ref h_spots, .int night])), (h_spots, .inl (cI, 8, .inl spots))]) → va_S A s.heap H locs → ∀ (ls : Array Slot), lv_has ls 5 [(4, .int (nI i5)), (0, .ref h), (1, .int p0), (2, .int p1), (3, .int a5_3)] → W p l e rm_X4_slipsFrom s m args below meth c H locs 0 0 Q (F0 m 5 ls []) := by
    intro n
    induction n with
    | zero =>
      intro i5 hi a5_3 hacc H locs hW hS ls hl
      obtain rfl : i5 = 8 := by omega
      have hF : (D_X4_slipsFrom spots p0 p1) = (D_X4_slipsFrom_k5 a5_3) := hF.trans (by rw [hacc])
      have hF := hF.trans ((D_X4_slipsFrom_k5.eq_1 a5_3))
      refine lv_iload hx hb dX4_slipsFrom_5 (lv_at hl 0 rfl) ?_
      refine lv_bipush (v := 8) hx hb dX4_slipsFrom_7 (by decide) ?_
      refine lv_icmp_ge (tgt := 49) hx hb dX4_slipsFrom_9 (by decide) (fun c_9 => ?_) (fun c_9 => ?_)
      · refine lv_iload_n hx hb dX4_slipsFrom_49 rfl (lv_at hl 4 rfl) ?_
        exact retI hQ hx hb hr hlk hK hW hS (by rw [hF]) (rfl) dX4_slipsFrom_50
      · exact absurd (by decide) c_9
    | succ n ih =>
      intro i5 hi a5_3 hacc H locs hW hS ls hl
      have hB5 : (D_X4_slipsFrom_l5 p0 p1 spots (0 : Int32) (i5 + 1)) = (D_X4_slipsFrom_b5 p0 p1 spots i5 a5_3) := by show (D_X4_slipsFrom_b5 p0 p1 spots i5 (D_X4_slipsFrom_l5 p0 p1 spots (0 : Int32) i5)) = _; rw [hacc]
      have hB5 := hB5.trans ((D_X4_slipsFrom_b5.eq_1 p0 p1 spots i5 a5_3))
      refine lv_iload hx hb dX4_slipsFrom_5 (lv_at hl 0 rfl) ?_
      refine lv_bipush (v := 8) hx hb dX4_slipsFrom_7 (by decide) ?_
      refine lv_icmp_ge (tgt := 49) hx hb dX4_slipsFrom_9 (by decide) (fun c_9 => ?_) (fun c_9 => ?_)
      · exact absurd c_9 (cl_ltc (B := (8 : Int32)) (N := 8) (k := i5) (by decide) (by omega) (by decide))
      · refine lv_aload_n hx hb dX4_slipsFrom_12 rfl (lv_at hl 1 rfl) ?_
        refine va_get (D := D) (ci := 4) (v := .ref h_spots) (C := RX4) (T := TX4) (N := 2) hx hb hts inX4 hown hK.1 hW.1 0 rfl rfl 0 (by decide) (hts _ tw90) (fun _ h9 => h9) rfl dX4_slipsFrom_13 ?_
        refine lv_iload hx hb dX4_slipsFrom_16 (lv_at hl 0 rfl) ?_
        refine va_iald (a := h_spots) (n := 8) (f := spots) hx hb hK.1 hW.1 1 0 rfl rfl (vp_in_nI (by omega) (by decide)) dX4_slipsFrom_18 ?_
        refine lv_iload_n hx hb dX4_slipsFrom_19 rfl (lv_at hl 2 rfl) ?_
        refine lv_icmp_lt (tgt := 43) hx hb dX4_slipsFrom_20 (by decide) (fun c_20 => ?_) (fun c_20 => ?_)
        · have hB5 := hB5.trans (if_pos c_20)
          refine lv_iinc (v := (nI (i5 + 1))) (lv' := [(4, .int (nI (i5 + 1))), (0, .ref h), (1, .int p0), (2, .int p1), (3, .int a5_3)]) hx hb dX4_slipsFrom_43 hl (k := 0) rfl (nI_1 _) (by decide) rfl (fun ls hl => ?_)
          refine lv_goto (tgt := 5) hx hb dX4_slipsFrom_46 (by decide) ?_
          exact ih (i5 + 1) (by omega) a5_3 hB5 _ _ hW hS _ (lv_sub hl [0, 1, 2, 3, 4] rfl)
        · have hB5 := hB5.trans (if_neg c_20)
          refine lv_aload_n hx hb dX4_slipsFrom_23 rfl (lv_at hl 1 rfl) ?_
          refine va_get (D := D) (ci := 4) (v := .ref h_spots) (C := RX4) (T := TX4) (N := 2) hx hb hts inX4 hown hK.1 hW.1 0 rfl rfl 0 (by decide) (hts _ tw90) (fun _ h9 => h9) rfl dX4_slipsFrom_24 ?_
          refine lv_iload hx hb dX4_slipsFrom_27 (lv_at hl 0 rfl) ?_
          refine va_iald (a := h_spots) (n := 8) (f := spots) hx hb hK.1 hW.1 1 0 rfl rfl (vp_in_nI (by omega) (by decide)) dX4_slipsFrom_29 ?_
          refine lv_iload_n hx hb dX4_slipsFrom_30 rfl (lv_at hl 2 rfl) ?_
          refine lv_iload_n hx hb dX4_slipsFrom_31 rfl (lv_at hl 3 rfl) ?_
          refine lv_iadd hx hb dX4_slipsFrom_32 ?_
          refine lv_icmp_ge (tgt := 43) hx hb dX4_slipsFrom_33 (by decide) (fun c_33 => ?_) (fun c_33 => ?_)
          · have hB5 := hB5.trans (if_pos c_33)
            refine lv_iinc (v := (nI (i5 + 1))) (lv' := [(4, .int (nI (i5 + 1))), (0, .ref h), (1, .int p0), (2, .int p1), (3, .int a5_3)]) hx hb dX4_slipsFrom_43 hl (k := 0) rfl (nI_1 _) (by decide) rfl (fun ls hl => ?_)
            refine lv_goto (tgt := 5) hx hb dX4_slipsFrom_46 (by decide) ?_
            exact ih (i5 + 1) (by omega) a5_3 hB5 _ _ hW hS _ (lv_sub hl [0, 1, 2, 3, 4] rfl)
          · have hB5 := hB5.trans (if_neg c_33)
            refine lv_iload_n hx hb dX4_slipsFrom_36 rfl (lv_at hl 4 rfl) ?_
            refine lv_iconst (v := 1) hx hb dX4_slipsFrom_37 (by decide) ?_
            refine lv_iload hx hb dX4_slipsFrom_38 (lv_at hl 0 rfl) ?_
            refine lv_ishl hx hb dX4_slipsFrom_40 ?_
            refine lv_ior hx hb dX4_slipsFrom_41 ?_
            refine lv_istore_n (lv' := [(3, .int (a5_3 ||| ((1 : Int32) <<< ((nI i5) &&& 31)))), (4, .int (nI i5)), (0, .ref h), (1, .int p0), (2, .int p1)]) hx hb dX4_slipsFrom_42 rfl hl (by decide) rfl (fun ls hl => ?_)
            refine lv_iinc (v := (nI (i5 + 1))) (lv' := [(4, .int (nI (i5 + 1))), (3, .int (a5_3 ||| ((1 : Int32) <<< ((nI i5) &&& 31)))), (0, .ref h), (1, .int p0), (2, .int p1)]) hx hb dX4_slipsFrom_43 hl (k := 1) rfl (nI_1 _) (by decide) rfl (fun ls hl => ?_)
            refine lv_goto (tgt := 5) hx hb dX4_slipsFrom_46 (by decide) ?_
            exact ih (i5 + 1) (by omega) (a5_3 ||| ((1 : Int32) <<< ((nI i5) &&& 31))) hB5 _ _ hW hS _ (lv_sub hl [0, 2, 3, 4, 1] rfl)
  exact L5 8 0 (by omega) (0 : Int32) rfl _ _ hW hS _ (lv_sub hl [0, 2, 3, 4, 1] rfl)
abbrev rm_X4_allInHand : Room := { frames := 0, cells := 0, slots := 0, locals := 0 }
set_option maxHeartbeats 4000000 in
set_option maxRecDepth 100000 in
theorem c_X4_allInHand (l : Launch) (D : va_G) (cI cJ cZ : ClassId) (h h_spots : Nat) (spots : Nat → Int32) (night : Int32) : CT l D (tys3 cI cJ cZ) yX4_allInHand cX4_allInHand 2 none rm_X4_allInHand [.ref h] [(h, .inr (4, [.ref h_spots, .int night])), (h_spots, .inl (cI, 8, .inl spots))] none [(h, .inr (4, [.ref h_spots, .int (D_X4_allInHand spots).2])), (h_spots, .inl (cI, 8, .inl (D_X4_allInHand spots).1))] := by
  refine CT.of (by decide) (Nat.le_of_ble_eq_true rfl) ?_
  intro p e s m args below meth c A Q ls hQ hx hb hr hml hown hts hlk hK hA hW hS hl
  have hl : lv_has ls 2 [(0, .ref h)] := hl
  have hF := (D_X4_allInHand.eq_1 spots)
  refine lv_iconst (v := 0) hx hb dX4_allInHand_0 (by decide) ?_
  refine lv_istore_n (lv' := [(1, .int (0 : Int32)), (0, .ref h)]) hx hb dX4_allInHand_1 rfl hl (by decide) rfl (fun ls hl => ?_)
  have L2 : ∀ (n i2 : Nat), i2 + n = 8 → ∀ (spots_2 : Nat → Int32), (D_X4_allInHand_l2 spots i2) = spots_2 → ∀ (H : Heap) (locs : List Loc), (va_P D cls9 [(h, .inr (4, [.ref h_spots, .int night])), (h_spots, .inl (cI, 8, .inl spots_2))] H ∧ va_D A [(h, .inr (4, [.ref h_spots, .int night])), (h_spots, .inl (cI, 8, .inl spots_2))]) → va_S A s.heap H locs → ∀ (ls : Array Slot), lv_has ls 2 [(1, .int (nI i2)), (0, .ref h)] → W p l e rm_X4_allInHand s m args below meth c H locs 0 0 Q (F0 m 2 ls []) := by
    intro n
    induction n with
    | zero =>
      intro i2 hi spots_2 hacc H locs hW hS ls hl
      obtain rfl : i2 = 8 := by omega
      have hF : (D_X4_allInHand spots) = (D_X4_allInHand_k2 spots_2) := hF.trans (by rw [hacc])
      have hF := hF.trans ((D_X4_allInHand_k2.eq_1 spots_2))
      refine lv_iload_n hx hb dX4_allInHand_2 rfl (lv_at hl 0 rfl) ?_
      refine lv_bipush (v := 8) hx hb dX4_allInHand_3 (by decide) ?_
      refine lv_icmp_ge (tgt := 22) hx hb dX4_allInHand_5 (by decide) (fun c_5 => ?_) (fun c_5 => ?_)
      · refine lv_aload_n hx hb dX4_allInHand_22 rfl (lv_at hl 1 rfl) ?_
        refine lv_iconst (v := 0) hx hb dX4_allInHand_23 (by decide) ?_
        refine va_put (D := D) (ci := 4) (v := .int (0 : Int32)) (ty := .int) (C := RX4) (T := TX4) (N := 2) hx hb hts inX4 tyX4 tyX4_ok nmX4 hown hK.1 hW.1 hW.2 hS 0 rfl rfl 1 (by decide) (hts _ tw91) (fun _ h9 => h9) rfl (tyX4_ok 1 (by decide)) rfl rfl (Nat.le_of_ble_eq_true rfl) dX4_allInHand_24 (fun H locs hP hD hS => ?_)
        have hW : va_P D cls9 [(h, .inr (4, [.ref h_spots, .int (0 : Int32)])), (h_spots, .inl (cI, 8, .inl spots_2))] H ∧ va_D A [(h, .inr (4, [.ref h_spots, .int (0 : Int32)])), (h_spots, .inl (cI, 8, .inl spots_2))] := ⟨hP, hD⟩
        exact retV hQ hx hb hr hlk hK hW hS (rfl) (by rw [hF]) dX4_allInHand_27
      · exact absurd (by decide) c_5
    | succ n ih =>
      intro i2 hi spots_2 hacc H locs hW hS ls hl
      have hB2 : (D_X4_allInHand_l2 spots (i2 + 1)) = (D_X4_allInHand_b2 i2 spots_2) := by show (D_X4_allInHand_b2 i2 (D_X4_allInHand_l2 spots i2)) = _; rw [hacc]
      have hB2 := hB2.trans ((D_X4_allInHand_b2.eq_1 i2 spots_2))
      refine lv_iload_n hx hb dX4_allInHand_2 rfl (lv_at hl 0 rfl) ?_
      refine lv_bipush (v := 8) hx hb dX4_allInHand_3 (by decide) ?_
      refine lv_icmp_ge (tgt := 22) hx hb dX4_allInHand_5 (by decide) (fun c_5 => ?_) (fun c_5 => ?_)
      · exact absurd c_5 (cl_ltc (B := (8 : Int32)) (N := 8) (k := i2) (by decide) (by omega) (by decide))
      · refine lv_aload_n hx hb dX4_allInHand_8 rfl (lv_at hl 1 rfl) ?_
        refine va_get (D := D) (ci := 4) (v := .ref h_spots) (C := RX4) (T := TX4) (N := 2) hx hb hts inX4 hown hK.1 hW.1 0 rfl rfl 0 (by decide) (hts _ tw90) (fun _ h9 => h9) rfl dX4_allInHand_9 ?_
        refine lv_iload_n hx hb dX4_allInHand_12 rfl (lv_at hl 0 rfl) ?_
        refine lv_bipush (v := 24) hx hb dX4_allInHand_13 (by decide) ?_
        refine va_iast (a := h_spots) (n := 8) (f := spots_2) hx hb hK.1 hW.1 hW.2 hS 1 0 rfl rfl (vp_in_nI (by omega) (by decide)) dX4_allInHand_15 (fun H locs hP hD hS => ?_)
        have hW : va_P D cls9 [(h, .inr (4, [.ref h_spots, .int night])), (h_spots, .inl (cI, 8, .inl (upd spots_2 (nI i2).toNatClampNeg (24 : Int32))))] H ∧ va_D A [(h, .inr (4, [.ref h_spots, .int night])), (h_spots, .inl (cI, 8, .inl (upd spots_2 (nI i2).toNatClampNeg (24 : Int32))))] := ⟨hP, hD⟩
        refine lv_iinc (v := (nI (i2 + 1))) (lv' := [(1, .int (nI (i2 + 1))), (0, .ref h)]) hx hb dX4_allInHand_16 hl (k := 0) rfl (nI_1 _) (by decide) rfl (fun ls hl => ?_)
        refine lv_goto (tgt := 2) hx hb dX4_allInHand_19 (by decide) ?_
        exact ih (i2 + 1) (by omega) (upd spots_2 (nI i2).toNatClampNeg (24 : Int32)) hB2 _ _ hW hS _ (lv_sub hl [0, 1] rfl)
  exact L2 8 0 (by omega) spots rfl _ _ hW hS _ (lv_sub hl [0, 1] rfl)
abbrev rm_X4_copyFrom : Room := { frames := 0, cells := 0, slots := 0, locals := 0 }
set_option maxHeartbeats 4000000 in
set_option maxRecDepth 100000 in
theorem c_X4_copyFrom (l : Launch) (D : va_G) (cI cJ cZ : ClassId) (h h_spots g0 g0_spots : Nat) (spots : Nat → Int32) (night : Int32) (o_spots : Nat → Int32) (o_night : Int32) : CT l D (tys3 cI cJ cZ) yX4_copyFrom cX4_copyFrom 3 none rm_X4_copyFrom [.ref h, .ref g0] [(h, .inr (4, [.ref h_spots, .int night])), (h_spots, .inl (cI, 8, .inl spots)), (g0, .inr (4, [.ref g0_spots, .int o_night])), (g0_spots, .inl (cI, 8, .inl o_spots))] none [(h, .inr (4, [.ref h_spots, .int (D_X4_copyFrom spots o_spots o_night).2])), (h_spots, .inl (cI, 8, .inl (D_X4_copyFrom spots o_spots o_night).1)), (g0, .inr (4, [.ref g0_spots, .int o_night])), (g0_spots, .inl (cI, 8, .inl o_spots))] := by
  refine CT.of (by decide) (Nat.le_of_ble_eq_true rfl) ?_
  intro p e s m args below meth c A Q ls hQ hx hb hr hml hown hts hlk hK hA hW hS hl
  have hl : lv_has ls 3 [(0, .ref h), (1, .ref g0)] := hl
  have hF := (D_X4_copyFrom.eq_1 spots o_spots o_night)
  refine lv_iconst (v := 0) hx hb dX4_copyFrom_0 (by decide) ?_
  refine lv_istore_n (lv' := [(2, .int (0 : Int32)), (0, .ref h), (1, .ref g0)]) hx hb dX4_copyFrom_1 rfl hl (by decide) rfl (fun ls hl => ?_)
  have L2 : ∀ (n i2 : Nat), i2 + n = 8 → ∀ (spots_2 : Nat → Int32), (D_X4_copyFrom_l2 o_spots spots i2) = spots_2 → ∀ (H : Heap) (locs : List Loc), (va_P D cls9 [(h, .inr (4, [.ref h_spots, .int night])), (h_spots, .inl (cI, 8, .inl spots_2)), (g0, .inr (4, [.ref g0_spots, .int o_night])), (g0_spots, .inl (cI, 8, .inl o_spots))] H ∧ va_D A [(h, .inr (4, [.ref h_spots, .int night])), (h_spots, .inl (cI, 8, .inl spots_2)), (g0, .inr (4, [.ref g0_spots, .int o_night])), (g0_spots, .inl (cI, 8, .inl o_spots))]) → va_S A s.heap H locs → ∀ (ls : Array Slot), lv_has ls 3 [(2, .int (nI i2)), (0, .ref h), (1, .ref g0)] → W p l e rm_X4_copyFrom s m args below meth c H locs 0 0 Q (F0 m 2 ls []) := by
    intro n
    induction n with
    | zero =>
      intro i2 hi spots_2 hacc H locs hW hS ls hl
      obtain rfl : i2 = 8 := by omega
      have hF : (D_X4_copyFrom spots o_spots o_night) = (D_X4_copyFrom_k2 o_night spots_2) := hF.trans (by rw [hacc])
      have hF := hF.trans ((D_X4_copyFrom_k2.eq_1 o_night spots_2))
      refine lv_iload_n hx hb dX4_copyFrom_2 rfl (lv_at hl 0 rfl) ?_
      refine lv_bipush (v := 8) hx hb dX4_copyFrom_3 (by decide) ?_
      refine lv_icmp_ge (tgt := 26) hx hb dX4_copyFrom_5 (by decide) (fun c_5 => ?_) (fun c_5 => ?_)
      · refine lv_aload_n hx hb dX4_copyFrom_26 rfl (lv_at hl 1 rfl) ?_
        refine lv_aload_n hx hb dX4_copyFrom_27 rfl (lv_at hl 2 rfl) ?_
        refine va_get (D := D) (ci := 4) (v := .int o_night) (C := RX4) (T := TX4) (N := 2) hx hb hts inX4 hown hK.1 hW.1 2 rfl rfl 1 (by decide) (hts _ tw91) (fun _ h9 => h9) rfl dX4_copyFrom_28 ?_
        refine va_put (D := D) (ci := 4) (v := .int o_night) (ty := .int) (C := RX4) (T := TX4) (N := 2) hx hb hts inX4 tyX4 tyX4_ok nmX4 hown hK.1 hW.1 hW.2 hS 0 rfl rfl 1 (by decide) (hts _ tw91) (fun _ h9 => h9) rfl (tyX4_ok 1 (by decide)) rfl rfl (Nat.le_of_ble_eq_true rfl) dX4_copyFrom_31 (fun H locs hP hD hS => ?_)
        have hW : va_P D cls9 [(h, .inr (4, [.ref h_spots, .int o_night])), (h_spots, .inl (cI, 8, .inl spots_2)), (g0, .inr (4, [.ref g0_spots, .int o_night])), (g0_spots, .inl (cI, 8, .inl o_spots))] H ∧ va_D A [(h, .inr (4, [.ref h_spots, .int o_night])), (h_spots, .inl (cI, 8, .inl spots_2)), (g0, .inr (4, [.ref g0_spots, .int o_night])), (g0_spots, .inl (cI, 8, .inl o_spots))] := ⟨hP, hD⟩
        exact retV hQ hx hb hr hlk hK hW hS (rfl) (by rw [hF]) dX4_copyFrom_34
      · exact absurd (by decide) c_5
    | succ n ih =>
      intro i2 hi spots_2 hacc H locs hW hS ls hl
      have hB2 : (D_X4_copyFrom_l2 o_spots spots (i2 + 1)) = (D_X4_copyFrom_b2 o_spots i2 spots_2) := by show (D_X4_copyFrom_b2 o_spots i2 (D_X4_copyFrom_l2 o_spots spots i2)) = _; rw [hacc]
      have hB2 := hB2.trans ((D_X4_copyFrom_b2.eq_1 o_spots i2 spots_2))
      refine lv_iload_n hx hb dX4_copyFrom_2 rfl (lv_at hl 0 rfl) ?_
      refine lv_bipush (v := 8) hx hb dX4_copyFrom_3 (by decide) ?_
      refine lv_icmp_ge (tgt := 26) hx hb dX4_copyFrom_5 (by decide) (fun c_5 => ?_) (fun c_5 => ?_)
      · exact absurd c_5 (cl_ltc (B := (8 : Int32)) (N := 8) (k := i2) (by decide) (by omega) (by decide))
      · refine lv_aload_n hx hb dX4_copyFrom_8 rfl (lv_at hl 1 rfl) ?_
        refine va_get (D := D) (ci := 4) (v := .ref h_spots) (C := RX4) (T := TX4) (N := 2) hx hb hts inX4 hown hK.1 hW.1 0 rfl rfl 0 (by decide) (hts _ tw90) (fun _ h9 => h9) rfl dX4_copyFrom_9 ?_
        refine lv_iload_n hx hb dX4_copyFrom_12 rfl (lv_at hl 0 rfl) ?_
        refine lv_aload_n hx hb dX4_copyFrom_13 rfl (lv_at hl 2 rfl) ?_
        refine va_get (D := D) (ci := 4) (v := .ref g0_spots) (C := RX4) (T := TX4) (N := 2) hx hb hts inX4 hown hK.1 hW.1 2 rfl rfl 0 (by decide) (hts _ tw90) (fun _ h9 => h9) rfl dX4_copyFrom_14 ?_
        refine lv_iload_n hx hb dX4_copyFrom_17 rfl (lv_at hl 0 rfl) ?_
        refine va_iald (a := g0_spots) (n := 8) (f := o_spots) hx hb hK.1 hW.1 3 0 rfl rfl (vp_in_nI (by omega) (by decide)) dX4_copyFrom_18 ?_
        refine va_iast (a := h_spots) (n := 8) (f := spots_2) hx hb hK.1 hW.1 hW.2 hS 1 0 rfl rfl (vp_in_nI (by omega) (by decide)) dX4_copyFrom_19 (fun H locs hP hD hS => ?_)
        have hW : va_P D cls9 [(h, .inr (4, [.ref h_spots, .int night])), (h_spots, .inl (cI, 8, .inl (upd spots_2 (nI i2).toNatClampNeg (o_spots (nI i2).toNatClampNeg)))), (g0, .inr (4, [.ref g0_spots, .int o_night])), (g0_spots, .inl (cI, 8, .inl o_spots))] H ∧ va_D A [(h, .inr (4, [.ref h_spots, .int night])), (h_spots, .inl (cI, 8, .inl (upd spots_2 (nI i2).toNatClampNeg (o_spots (nI i2).toNatClampNeg)))), (g0, .inr (4, [.ref g0_spots, .int o_night])), (g0_spots, .inl (cI, 8, .inl o_spots))] := ⟨hP, hD⟩
        refine lv_iinc (v := (nI (i2 + 1))) (lv' := [(2, .int (nI (i2 + 1))), (0, .ref h), (1, .ref g0)]) hx hb dX4_copyFrom_20 hl (k := 0) rfl (nI_1 _) (by decide) rfl (fun ls hl => ?_)
        refine lv_goto (tgt := 2) hx hb dX4_copyFrom_23 (by decide) ?_
        exact ih (i2 + 1) (by omega) (upd spots_2 (nI i2).toNatClampNeg (o_spots (nI i2).toNatClampNeg)) hB2 _ _ hW hS _ (lv_sub hl [0, 1, 2] rfl)
  exact L2 8 0 (by omega) spots rfl _ _ hW hS _ (lv_sub hl [0, 1, 2] rfl)
abbrev rm_X4_packed : Room := { frames := 0, cells := 0, slots := 0, locals := 0 }
set_option maxHeartbeats 4000000 in
set_option maxRecDepth 100000 in
theorem c_X4_packed (l : Launch) (D : va_G) (cI cJ cZ : ClassId) (h h_spots : Nat) (spots : Nat → Int32) (night : Int32) : CT l D (tys3 cI cJ cZ) yX4_packed cX4_packed 4 (some .long) rm_X4_packed [.ref h] [(h, .inr (4, [.ref h_spots, .int night])), (h_spots, .inl (cI, 8, .inl spots))] (some (.long (D_X4_packed spots night))) [(h, .inr (4, [.ref h_spots, .int night])), (h_spots, .inl (cI, 8, .inl spots))] := by
  refine CT.of (by decide) (Nat.le_of_ble_eq_true rfl) ?_
  intro p e s m args below meth c A Q ls hQ hx hb hr hml hown hts hlk hK hA hW hS hl
  have hl : lv_has ls 4 [(0, .ref h)] := hl
  have hF := (D_X4_packed.eq_1 spots night)
  refine lv_aload_n hx hb dX4_packed_0 rfl (lv_at hl 0 rfl) ?_
  refine va_get (D := D) (ci := 4) (v := .int night) (C := RX4) (T := TX4) (N := 2) hx hb hts inX4 hown hK.1 hW.1 0 rfl rfl 1 (by decide) (hts _ tw91) (fun _ h9 => h9) rfl dX4_packed_1 ?_
  refine lv_i2l (v := (night.toInt64)) hx hb dX4_packed_4 rfl ?_
  refine lv_lstore_n (lv' := [(1, .long (night.toInt64)), (0, .ref h)]) hx hb dX4_packed_5 rfl hl (by decide) rfl (fun ls hl => ?_)
  refine lv_iconst (v := 0) hx hb dX4_packed_6 (by decide) ?_
  refine lv_istore_n (lv' := [(3, .int (0 : Int32)), (1, .long (night.toInt64)), (0, .ref h)]) hx hb dX4_packed_7 rfl hl (by decide) rfl (fun ls hl => ?_)
  have L8 : ∀ (n i8 : Nat), i8 + n = 8 → ∀ (a8_1 : Int64), (D_X4_packed_l8 spots (night.toInt64) i8) = a8_1 → ∀ (H : Heap) (locs : List Loc), (va_P D cls9 [(h, .inr (4, [.ref h_spots, .int night])), (h_spots, .inl (cI, 8, .inl spots))] H ∧ va_D A [(h, .inr (4, [.ref h_spots, .int night])), (h_spots, .inl (cI, 8, .inl spots))]) → va_S A s.heap H locs → ∀ (ls : Array Slot), lv_has ls 4 [(3, .int (nI i8)), (0, .ref h), (1, .long a8_1)] → W p l e rm_X4_packed s m args below meth c H locs 0 0 Q (F0 m 8 ls []) := by
    intro n
    induction n with
    | zero =>
      intro i8 hi a8_1 hacc H locs hW hS ls hl
      obtain rfl : i8 = 8 := by omega
      have hF : (D_X4_packed spots night) = (D_X4_packed_k8 a8_1) := hF.trans (by rw [hacc])
      have hF := hF.trans ((D_X4_packed_k8.eq_1 a8_1))
      refine lv_iload_n hx hb dX4_packed_8 rfl (lv_at hl 0 rfl) ?_
      refine lv_bipush (v := 8) hx hb dX4_packed_9 (by decide) ?_
      refine lv_icmp_ge (tgt := 32) hx hb dX4_packed_11 (by decide) (fun c_11 => ?_) (fun c_11 => ?_)
      · refine lv_lload_n hx hb dX4_packed_32 rfl (lv_at hl 2 rfl) ?_
        exact retL hQ hx hb hr hlk hK hW hS (by rw [hF]) (rfl) dX4_packed_33
      · exact absurd (by decide) c_11
    | succ n ih =>
      intro i8 hi a8_1 hacc H locs hW hS ls hl
      have hB8 : (D_X4_packed_l8 spots (night.toInt64) (i8 + 1)) = (D_X4_packed_b8 spots i8 a8_1) := by show (D_X4_packed_b8 spots i8 (D_X4_packed_l8 spots (night.toInt64) i8)) = _; rw [hacc]
      have hB8 := hB8.trans ((D_X4_packed_b8.eq_1 spots i8 a8_1))
      refine lv_iload_n hx hb dX4_packed_8 rfl (lv_at hl 0 rfl) ?_
      refine lv_bipush (v := 8) hx hb dX4_packed_9 (by decide) ?_
      refine lv_icmp_ge (tgt := 32) hx hb dX4_packed_11 (by decide) (fun c_11 => ?_) (fun c_11 => ?_)
      · exact absurd c_11 (cl_ltc (B := (8 : Int32)) (N := 8) (k := i8) (by decide) (by omega) (by decide))
      · refine lv_lload_n hx hb dX4_packed_14 rfl (lv_at hl 2 rfl) ?_
        refine lv_iconst (v := 5) hx hb dX4_packed_15 (by decide) ?_
        refine lv_lshl (v := (a8_1 <<< ((5 : Int32).toInt64 &&& 63))) hx hb dX4_packed_16 rfl ?_
        refine lv_aload_n hx hb dX4_packed_17 rfl (lv_at hl 1 rfl) ?_
        refine va_get (D := D) (ci := 4) (v := .ref h_spots) (C := RX4) (T := TX4) (N := 2) hx hb hts inX4 hown hK.1 hW.1 0 rfl rfl 0 (by decide) (hts _ tw90) (fun _ h9 => h9) rfl dX4_packed_18 ?_
        refine lv_iload_n hx hb dX4_packed_21 rfl (lv_at hl 0 rfl) ?_
        refine va_iald (a := h_spots) (n := 8) (f := spots) hx hb hK.1 hW.1 1 0 rfl rfl (vp_in_nI (by omega) (by decide)) dX4_packed_22 ?_
        refine lv_i2l (v := ((spots (nI i8).toNatClampNeg).toInt64)) hx hb dX4_packed_23 rfl ?_
        refine lv_lor hx hb dX4_packed_24 ?_
        refine lv_topl (fun c25_1 ec25_1 => ?_)
        rw [← ec25_1] at hB8
        refine lv_lstore_n (lv' := [(1, .long c25_1), (3, .int (nI i8)), (0, .ref h)]) hx hb dX4_packed_25 rfl hl (by decide) rfl (fun ls hl => ?_)
        have hB8 := hB8.trans ((D_X4_packed_c25.eq_1 c25_1))
        refine lv_iinc (v := (nI (i8 + 1))) (lv' := [(3, .int (nI (i8 + 1))), (1, .long c25_1), (0, .ref h)]) hx hb dX4_packed_26 hl (k := 1) rfl (nI_1 _) (by decide) rfl (fun ls hl => ?_)
        refine lv_goto (tgt := 8) hx hb dX4_packed_29 (by decide) ?_
        exact ih (i8 + 1) (by omega) c25_1 hB8 _ _ hW hS _ (lv_sub hl [0, 2, 1] rfl)
  exact L8 8 0 (by omega) (night.toInt64) rfl _ _ hW hS _ (lv_sub hl [0, 2, 1] rfl)
abbrev rm_X4_unpack : Room := { frames := 0, cells := 0, slots := 0, locals := 0 }
set_option maxHeartbeats 4000000 in
set_option maxRecDepth 100000 in
theorem c_X4_unpack (l : Launch) (D : va_G) (cI cJ cZ : ClassId) (h h_spots : Nat) (spots : Nat → Int32) (night : Int32) (p0 : Int64) : CT l D (tys3 cI cJ cZ) yX4_unpack cX4_unpack 6 none rm_X4_unpack [.ref h, .long p0] [(h, .inr (4, [.ref h_spots, .int night])), (h_spots, .inl (cI, 8, .inl spots))] none [(h, .inr (4, [.ref h_spots, .int (D_X4_unpack spots p0).2])), (h_spots, .inl (cI, 8, .inl (D_X4_unpack spots p0).1))] := by
  refine CT.of (by decide) (Nat.le_of_ble_eq_true rfl) ?_
  intro p e s m args below meth c A Q ls hQ hx hb hr hml hown hts hlk hK hA hW hS hl
  have hl : lv_has ls 6 [(0, .ref h), (1, .long p0)] := hl
  have hF := (D_X4_unpack.eq_1 spots p0)
  refine lv_lload_n hx hb dX4_unpack_0 rfl (lv_at hl 1 rfl) ?_
  refine lv_lstore_n (lv' := [(3, .long p0), (0, .ref h), (1, .long p0)]) hx hb dX4_unpack_1 rfl hl (by decide) rfl (fun ls hl => ?_)
  refine lv_bipush (v := 7) hx hb dX4_unpack_2 (by decide) ?_
  refine lv_istore (lv' := [(5, .int (7 : Int32)), (3, .long p0), (0, .ref h), (1, .long p0)]) hx hb dX4_unpack_4 hl (by decide) rfl (fun ls hl => ?_)
  have L6 : ∀ (n i6 : Nat), i6 + n = 8 → ∀ (a6_3 : Int64) (spots_6 : Nat → Int32), (D_X4_unpack_l6 p0 spots i6) = (a6_3, spots_6) → ∀ (H : Heap) (locs : List Loc), (va_P D cls9 [(h, .inr (4, [.ref h_spots, .int night])), (h_spots, .inl (cI, 8, .inl spots_6))] H ∧ va_D A [(h, .inr (4, [.ref h_spots, .int night])), (h_spots, .inl (cI, 8, .inl spots_6))]) → va_S A s.heap H locs → ∀ (ls : Array Slot), lv_has ls 6 [(5, .int (nI 7 - nI i6)), (0, .ref h), (3, .long a6_3)] → W p l e rm_X4_unpack s m args below meth c H locs 0 0 Q (F0 m 6 ls []) := by
    intro n
    induction n with
    | zero =>
      intro i6 hi a6_3 spots_6 hacc H locs hW hS ls hl
      obtain rfl : i6 = 8 := by omega
      have hF : (D_X4_unpack spots p0) = (D_X4_unpack_k6 a6_3 spots_6) := hF.trans (by rw [hacc])
      have hF := hF.trans ((D_X4_unpack_k6.eq_1 a6_3 spots_6))
      refine lv_iload hx hb dX4_unpack_6 (lv_at hl 0 rfl) ?_
      refine lv_if_lt (tgt := 33) hx hb dX4_unpack_8 (by decide) (fun c_8 => ?_) (fun c_8 => ?_)
      · refine lv_aload_n hx hb dX4_unpack_33 rfl (lv_at hl 1 rfl) ?_
        refine lv_lload_n hx hb dX4_unpack_34 rfl (lv_at hl 2 rfl) ?_
        refine lv_l2i (v := (a6_3.toInt32)) hx hb dX4_unpack_35 rfl ?_
        refine va_put (D := D) (ci := 4) (v := .int (a6_3.toInt32)) (ty := .int) (C := RX4) (T := TX4) (N := 2) hx hb hts inX4 tyX4 tyX4_ok nmX4 hown hK.1 hW.1 hW.2 hS 0 rfl rfl 1 (by decide) (hts _ tw91) (fun _ h9 => h9) rfl (tyX4_ok 1 (by decide)) rfl rfl (Nat.le_of_ble_eq_true rfl) dX4_unpack_36 (fun H locs hP hD hS => ?_)
        have hW : va_P D cls9 [(h, .inr (4, [.ref h_spots, .int (a6_3.toInt32)])), (h_spots, .inl (cI, 8, .inl spots_6))] H ∧ va_D A [(h, .inr (4, [.ref h_spots, .int (a6_3.toInt32)])), (h_spots, .inl (cI, 8, .inl spots_6))] := ⟨hP, hD⟩
        exact retV hQ hx hb hr hlk hK hW hS (rfl) (by rw [hF]) dX4_unpack_39
      · exact absurd (dn_end7) c_8
    | succ n ih =>
      intro i6 hi a6_3 spots_6 hacc H locs hW hS ls hl
      have hB6 : (D_X4_unpack_l6 p0 spots (i6 + 1)) = (D_X4_unpack_b6 i6 a6_3 spots_6) := by show (D_X4_unpack_b6 i6 ((D_X4_unpack_l6 p0 spots i6).1) ((D_X4_unpack_l6 p0 spots i6).2)) = _; rw [hacc]
      have hB6 := hB6.trans ((D_X4_unpack_b6.eq_1 i6 a6_3 spots_6))
      refine lv_iload hx hb dX4_unpack_6 (lv_at hl 0 rfl) ?_
      refine lv_if_lt (tgt := 33) hx hb dX4_unpack_8 (by decide) (fun c_8 => ?_) (fun c_8 => ?_)
      · exact absurd c_8 (dn_go 7 _ (by omega))
      · refine lv_aload_n hx hb dX4_unpack_11 rfl (lv_at hl 1 rfl) ?_
        refine va_get (D := D) (ci := 4) (v := .ref h_spots) (C := RX4) (T := TX4) (N := 2) hx hb hts inX4 hown hK.1 hW.1 0 rfl rfl 0 (by decide) (hts _ tw90) (fun _ h9 => h9) rfl dX4_unpack_12 ?_
        refine lv_iload hx hb dX4_unpack_15 (lv_at hl 0 rfl) ?_
        refine lv_lload_n hx hb dX4_unpack_17 rfl (lv_at hl 2 rfl) ?_
        refine lv_l2i (v := (a6_3.toInt32)) hx hb dX4_unpack_18 rfl ?_
        refine lv_bipush (v := 31) hx hb dX4_unpack_19 (by decide) ?_
        refine lv_iand hx hb dX4_unpack_21 ?_
        refine va_iast (a := h_spots) (n := 8) (f := spots_6) hx hb hK.1 hW.1 hW.2 hS 1 0 rfl rfl (dn_in 7 _ (by omega) (by decide)) dX4_unpack_22 (fun H locs hP hD hS => ?_)
        have hW : va_P D cls9 [(h, .inr (4, [.ref h_spots, .int night])), (h_spots, .inl (cI, 8, .inl (upd spots_6 (nI 7 - nI i6).toNatClampNeg ((a6_3.toInt32) &&& (31 : Int32)))))] H ∧ va_D A [(h, .inr (4, [.ref h_spots, .int night])), (h_spots, .inl (cI, 8, .inl (upd spots_6 (nI 7 - nI i6).toNatClampNeg ((a6_3.toInt32) &&& (31 : Int32)))))] := ⟨hP, hD⟩
        refine lv_lload_n hx hb dX4_unpack_23 rfl (lv_at hl 2 rfl) ?_
        refine lv_iconst (v := 5) hx hb dX4_unpack_24 (by decide) ?_
        refine lv_lshr (v := (a6_3 >>> ((5 : Int32).toInt64 &&& 63))) hx hb dX4_unpack_25 rfl ?_
        refine lv_lstore_n (lv' := [(3, .long (a6_3 >>> ((5 : Int32).toInt64 &&& 63))), (5, .int (nI 7 - nI i6)), (0, .ref h)]) hx hb dX4_unpack_26 rfl hl (by decide) rfl (fun ls hl => ?_)
        refine lv_iinc (v := (nI 7 - nI (i6 + 1))) (lv' := [(5, .int (nI 7 - nI (i6 + 1))), (3, .long (a6_3 >>> ((5 : Int32).toInt64 &&& 63))), (0, .ref h)]) hx hb dX4_unpack_27 hl (k := 1) rfl (dn_step 7 _) (by decide) rfl (fun ls hl => ?_)
        refine lv_goto (tgt := 6) hx hb dX4_unpack_30 (by decide) ?_
        exact ih (i6 + 1) (by omega) (a6_3 >>> ((5 : Int32).toInt64 &&& 63)) (upd spots_6 (nI 7 - nI i6).toNatClampNeg ((a6_3.toInt32) &&& (31 : Int32))) hB6 _ _ hW hS _ (lv_sub hl [0, 2, 1] rfl)
  exact L6 8 0 (by omega) p0 spots rfl _ _ hW hS _ (lv_sub hl [0, 2, 1] rfl)
abbrev rm_X4_onSpikes : Room := { frames := 1, cells := 0, slots := 0, locals := 24 }
set_option maxHeartbeats 4000000 in
set_option maxRecDepth 100000 in
theorem c_X4_onSpikes (l : Launch) (D : va_G) (cI cJ cZ : ClassId) (h h_spots : Nat) (spots : Nat → Int32) (night : Int32) : CT l D (tys3 cI cJ cZ) yX4_onSpikes cX4_onSpikes 1 (some .int) rm_X4_onSpikes [.ref h] [(h, .inr (4, [.ref h_spots, .int night])), (h_spots, .inl (cI, 8, .inl spots))] (some (.int (D_X4_onSpikes spots))) [(h, .inr (4, [.ref h_spots, .int night])), (h_spots, .inl (cI, 8, .inl spots))] := by
  refine CT.of (by decide) (Nat.le_of_ble_eq_true rfl) ?_
  intro p e s m args below meth c A Q ls hQ hx hb hr hml hown hts hlk hK hA hW hS hl
  have hl : lv_has ls 1 [(0, .ref h)] := hl
  have hF := (D_X4_onSpikes.eq_1 spots)
  refine lv_aload_n hx hb dX4_onSpikes_0 rfl (lv_at hl 0 rfl) ?_
  refine lv_iconst (v := 0) hx hb dX4_onSpikes_1 (by decide) ?_
  refine lv_bipush (v := 24) hx hb dX4_onSpikes_2 (by decide) ?_
  refine cVa (own := RX4) (As := [.int (0 : Int32), .int (24 : Int32)]) (rest := []) (c_X4_slipsFrom l D cI cJ cZ h h_spots spots night (0 : Int32) (24 : Int32)) 4 0 hx hb hml hown hts hK hA hW hS tw270 tw267 tw269 tw3 tw42 hv_X4_slipsFrom ⟨Nat.le_of_ble_eq_true rfl, Nat.le_of_ble_eq_true rfl⟩ ⟨rfl, rfl⟩ ⟨Nat.zero_le _, Nat.zero_le _⟩ rfl rfl hl.1 rfl (Nat.le_of_ble_eq_true rfl) dX4_onSpikes_4 (fun H locs hW hS => ?_)
  have hW : va_P D cls9 [(h, .inr (4, [.ref h_spots, .int night])), (h_spots, .inl (cI, 8, .inl spots))] H ∧ va_D A [(h, .inr (4, [.ref h_spots, .int night])), (h_spots, .inl (cI, 8, .inl spots))] := hW
  exact retI hQ hx hb hr hlk hK hW hS (by rw [hF]) (rfl) dX4_onSpikes_7
abbrev rm_X4_inHand : Room := { frames := 1, cells := 0, slots := 0, locals := 24 }
set_option maxHeartbeats 4000000 in
set_option maxRecDepth 100000 in
theorem c_X4_inHand (l : Launch) (D : va_G) (cI cJ cZ : ClassId) (h h_spots : Nat) (spots : Nat → Int32) (night : Int32) : CT l D (tys3 cI cJ cZ) yX4_inHand cX4_inHand 1 (some .int) rm_X4_inHand [.ref h] [(h, .inr (4, [.ref h_spots, .int night])), (h_spots, .inl (cI, 8, .inl spots))] (some (.int (D_X4_inHand spots))) [(h, .inr (4, [.ref h_spots, .int night])), (h_spots, .inl (cI, 8, .inl spots))] := by
  refine CT.of (by decide) (Nat.le_of_ble_eq_true rfl) ?_
  intro p e s m args below meth c A Q ls hQ hx hb hr hml hown hts hlk hK hA hW hS hl
  have hl : lv_has ls 1 [(0, .ref h)] := hl
  have hF := (D_X4_inHand.eq_1 spots)
  refine lv_aload_n hx hb dX4_inHand_0 rfl (lv_at hl 0 rfl) ?_
  refine lv_bipush (v := 24) hx hb dX4_inHand_1 (by decide) ?_
  refine lv_iconst (v := 1) hx hb dX4_inHand_3 (by decide) ?_
  refine cVa (own := RX4) (As := [.int (24 : Int32), .int (1 : Int32)]) (rest := []) (c_X4_slipsFrom l D cI cJ cZ h h_spots spots night (24 : Int32) (1 : Int32)) 4 0 hx hb hml hown hts hK hA hW hS tw270 tw267 tw269 tw3 tw42 hv_X4_slipsFrom ⟨Nat.le_of_ble_eq_true rfl, Nat.le_of_ble_eq_true rfl⟩ ⟨rfl, rfl⟩ ⟨Nat.zero_le _, Nat.zero_le _⟩ rfl rfl hl.1 rfl (Nat.le_of_ble_eq_true rfl) dX4_inHand_4 (fun H locs hW hS => ?_)
  have hW : va_P D cls9 [(h, .inr (4, [.ref h_spots, .int night])), (h_spots, .inl (cI, 8, .inl spots))] H ∧ va_D A [(h, .inr (4, [.ref h_spots, .int night])), (h_spots, .inl (cI, 8, .inl spots))] := hW
  exact retI hQ hx hb hr hlk hK hW hS (by rw [hF]) (rfl) dX4_inHand_7
abbrev rm_X4_gone : Room := { frames := 1, cells := 0, slots := 0, locals := 24 }
set_option maxHeartbeats 4000000 in
set_option maxRecDepth 100000 in
theorem c_X4_gone (l : Launch) (D : va_G) (cI cJ cZ : ClassId) (h h_spots : Nat) (spots : Nat → Int32) (night : Int32) : CT l D (tys3 cI cJ cZ) yX4_gone cX4_gone 1 (some .int) rm_X4_gone [.ref h] [(h, .inr (4, [.ref h_spots, .int night])), (h_spots, .inl (cI, 8, .inl spots))] (some (.int (D_X4_gone spots))) [(h, .inr (4, [.ref h_spots, .int night])), (h_spots, .inl (cI, 8, .inl spots))] := by
  refine CT.of (by decide) (Nat.le_of_ble_eq_true rfl) ?_
  intro p e s m args below meth c A Q ls hQ hx hb hr hml hown hts hlk hK hA hW hS hl
  have hl : lv_has ls 1 [(0, .ref h)] := hl
  have hF := (D_X4_gone.eq_1 spots)
  refine lv_aload_n hx hb dX4_gone_0 rfl (lv_at hl 0 rfl) ?_
  refine lv_bipush (v := 25) hx hb dX4_gone_1 (by decide) ?_
  refine lv_iconst (v := 1) hx hb dX4_gone_3 (by decide) ?_
  refine cVa (own := RX4) (As := [.int (25 : Int32), .int (1 : Int32)]) (rest := []) (c_X4_slipsFrom l D cI cJ cZ h h_spots spots night (25 : Int32) (1 : Int32)) 4 0 hx hb hml hown hts hK hA hW hS tw270 tw267 tw269 tw3 tw42 hv_X4_slipsFrom ⟨Nat.le_of_ble_eq_true rfl, Nat.le_of_ble_eq_true rfl⟩ ⟨rfl, rfl⟩ ⟨Nat.zero_le _, Nat.zero_le _⟩ rfl rfl hl.1 rfl (Nat.le_of_ble_eq_true rfl) dX4_gone_4 (fun H locs hW hS => ?_)
  have hW : va_P D cls9 [(h, .inr (4, [.ref h_spots, .int night])), (h_spots, .inl (cI, 8, .inl spots))] H ∧ va_D A [(h, .inr (4, [.ref h_spots, .int night])), (h_spots, .inl (cI, 8, .inl spots))] := hW
  exact retI hQ hx hb hr hlk hK hW hS (by rw [hF]) (rfl) dX4_gone_7
abbrev rm_X4_slipsOn : Room := { frames := 1, cells := 0, slots := 0, locals := 24 }
set_option maxHeartbeats 4000000 in
set_option maxRecDepth 100000 in
theorem c_X4_slipsOn (l : Launch) (D : va_G) (cI cJ cZ : ClassId) (h h_spots : Nat) (spots : Nat → Int32) (night : Int32) (p0 : Int32) : CT l D (tys3 cI cJ cZ) yX4_slipsOn cX4_slipsOn 2 (some .int) rm_X4_slipsOn [.ref h, .int p0] [(h, .inr (4, [.ref h_spots, .int night])), (h_spots, .inl (cI, 8, .inl spots))] (some (.int (D_X4_slipsOn spots p0))) [(h, .inr (4, [.ref h_spots, .int night])), (h_spots, .inl (cI, 8, .inl spots))] := by
  refine CT.of (by decide) (Nat.le_of_ble_eq_true rfl) ?_
  intro p e s m args below meth c A Q ls hQ hx hb hr hml hown hts hlk hK hA hW hS hl
  have hl : lv_has ls 2 [(0, .ref h), (1, .int p0)] := hl
  have hF := (D_X4_slipsOn.eq_1 spots p0)
  refine lv_aload_n hx hb dX4_slipsOn_0 rfl (lv_at hl 0 rfl) ?_
  refine lv_iload_n hx hb dX4_slipsOn_1 rfl (lv_at hl 1 rfl) ?_
  refine lv_bipush (v := 8) hx hb dX4_slipsOn_2 (by decide) ?_
  refine lv_imul hx hb dX4_slipsOn_4 ?_
  refine lv_bipush (v := 8) hx hb dX4_slipsOn_5 (by decide) ?_
  refine cVa (own := RX4) (As := [.int (p0 * (8 : Int32)), .int (8 : Int32)]) (rest := []) (c_X4_slipsFrom l D cI cJ cZ h h_spots spots night (p0 * (8 : Int32)) (8 : Int32)) 4 0 hx hb hml hown hts hK hA hW hS tw270 tw267 tw269 tw3 tw42 hv_X4_slipsFrom ⟨Nat.le_of_ble_eq_true rfl, Nat.le_of_ble_eq_true rfl⟩ ⟨rfl, rfl⟩ ⟨Nat.zero_le _, Nat.zero_le _⟩ rfl rfl hl.1 rfl (Nat.le_of_ble_eq_true rfl) dX4_slipsOn_7 (fun H locs hW hS => ?_)
  have hW : va_P D cls9 [(h, .inr (4, [.ref h_spots, .int night])), (h_spots, .inl (cI, 8, .inl spots))] H ∧ va_D A [(h, .inr (4, [.ref h_spots, .int night])), (h_spots, .inl (cI, 8, .inl spots))] := hW
  exact retI hQ hx hb hr hlk hK hW hS (by rw [hF]) (rfl) dX4_slipsOn_10
abbrev rm_X4_countOn : Room := { frames := 1, cells := 0, slots := 0, locals := 24 }
set_option maxHeartbeats 4000000 in
set_option maxRecDepth 100000 in
theorem c_X4_countOn (l : Launch) (D : va_G) (cI cJ cZ : ClassId) (h h_spots : Nat) (spots : Nat → Int32) (night : Int32) (p0 : Int32) : CT l D (tys3 cI cJ cZ) yX4_countOn cX4_countOn 2 (some .int) rm_X4_countOn [.ref h, .int p0] [(h, .inr (4, [.ref h_spots, .int night])), (h_spots, .inl (cI, 8, .inl spots))] (some (.int (D_X4_countOn spots p0))) [(h, .inr (4, [.ref h_spots, .int night])), (h_spots, .inl (cI, 8, .inl spots))] := by
  refine CT.of (by decide) (Nat.le_of_ble_eq_true rfl) ?_
  intro p e s m args below meth c A Q ls hQ hx hb hr hml hown hts hlk hK hA hW hS hl
  have hl : lv_has ls 2 [(0, .ref h), (1, .int p0)] := hl
  have hF := (D_X4_countOn.eq_1 spots p0)
  refine lv_aload_n hx hb dX4_countOn_0 rfl (lv_at hl 0 rfl) ?_
  refine lv_iload_n hx hb dX4_countOn_1 rfl (lv_at hl 1 rfl) ?_
  refine lv_bipush (v := 8) hx hb dX4_countOn_2 (by decide) ?_
  refine lv_imul hx hb dX4_countOn_4 ?_
  refine lv_bipush (v := 8) hx hb dX4_countOn_5 (by decide) ?_
  refine cVa (own := RX4) (As := [.int (p0 * (8 : Int32)), .int (8 : Int32)]) (rest := []) (c_X4_slipsFrom l D cI cJ cZ h h_spots spots night (p0 * (8 : Int32)) (8 : Int32)) 4 0 hx hb hml hown hts hK hA hW hS tw270 tw267 tw269 tw3 tw42 hv_X4_slipsFrom ⟨Nat.le_of_ble_eq_true rfl, Nat.le_of_ble_eq_true rfl⟩ ⟨rfl, rfl⟩ ⟨Nat.zero_le _, Nat.zero_le _⟩ rfl rfl hl.1 rfl (Nat.le_of_ble_eq_true rfl) dX4_countOn_7 (fun H locs hW hS => ?_)
  have hW : va_P D cls9 [(h, .inr (4, [.ref h_spots, .int night])), (h_spots, .inl (cI, 8, .inl spots))] H ∧ va_D A [(h, .inr (4, [.ref h_spots, .int night])), (h_spots, .inl (cI, 8, .inl spots))] := hW
  refine cS (own := RX4) (As := [.int (D_X4_slipsFrom spots (p0 * (8 : Int32)) (8 : Int32))]) (rest := []) (c_J6_bitCount_0f7a4 l D cI cJ cZ (D_X4_slipsFrom spots (p0 * (8 : Int32)) (8 : Int32))) [] hx hb hml hown hts hK hA hW hS tw296 tw294 tw295 tw48 hv_J6_bitCount_0f7a4.2 ⟨Nat.le_of_ble_eq_true rfl, Nat.le_of_ble_eq_true rfl⟩ ⟨rfl, rfl⟩ ⟨Nat.zero_le _, Nat.zero_le _⟩ rfl [] rfl rfl (by decide) hl.1 rfl (Nat.le_of_ble_eq_true rfl) dX4_countOn_10 (fun H locs hW hS => ?_)
  have hW : va_P D cls9 [(h, .inr (4, [.ref h_spots, .int night])), (h_spots, .inl (cI, 8, .inl spots))] H ∧ va_D A [(h, .inr (4, [.ref h_spots, .int night])), (h_spots, .inl (cI, 8, .inl spots))] := hW
  exact retI hQ hx hb hr hlk hK hW hS (by rw [hF]) (rfl) dX4_countOn_13
abbrev rm_X4_isInHand : Room := { frames := 1, cells := 0, slots := 0, locals := 20 }
set_option maxHeartbeats 4000000 in
set_option maxRecDepth 100000 in
theorem c_X4_isInHand (l : Launch) (D : va_G) (cI cJ cZ : ClassId) (h h_spots : Nat) (spots : Nat → Int32) (night : Int32) (p0 : Int32) : CT l D (tys3 cI cJ cZ) yX4_isInHand cX4_isInHand 2 (some .boolean) rm_X4_isInHand [.ref h, .int p0] [(h, .inr (4, [.ref h_spots, .int night])), (h_spots, .inl (cI, 8, .inl spots))] (some (.int (D_X4_isInHand spots p0))) [(h, .inr (4, [.ref h_spots, .int night])), (h_spots, .inl (cI, 8, .inl spots))] := by
  refine CT.of (by decide) (Nat.le_of_ble_eq_true rfl) ?_
  intro p e s m args below meth c A Q ls hQ hx hb hr hml hown hts hlk hK hA hW hS hl
  have hl : lv_has ls 2 [(0, .ref h), (1, .int p0)] := hl
  have hF := (D_X4_isInHand.eq_1 spots p0)
  refine lv_iload_n hx hb dX4_isInHand_0 rfl (lv_at hl 1 rfl) ?_
  refine cSN (own := RX4) (As := [.int p0]) (rest := []) (c_X7_isSlip l D cI cJ cZ p0) [] hx hb hml hown hts hK hA hW hS tw288 tw286 tw287 tw39 hv_X7_isSlip.2 ⟨Nat.le_of_ble_eq_true rfl, Nat.le_of_ble_eq_true rfl⟩ ⟨rfl, rfl⟩ ⟨Nat.zero_le _, Nat.zero_le _⟩ rfl [] rfl rfl (by decide) hl.1 rfl (Nat.le_of_ble_eq_true rfl) dX4_isInHand_1 (fun H locs hW hS => ?_)
  have hW : va_P D cls9 [(h, .inr (4, [.ref h_spots, .int night])), (h_spots, .inl (cI, 8, .inl spots))] H ∧ va_D A [(h, .inr (4, [.ref h_spots, .int night])), (h_spots, .inl (cI, 8, .inl spots))] := hW
  refine lv_if_eq (tgt := 22) hx hb dX4_isInHand_4 (by decide) (fun c_4 => ?_) (fun c_4 => ?_)
  · have hF := hF.trans (if_pos c_4)
    refine lv_iconst (v := 0) hx hb dX4_isInHand_22 (by decide) ?_
    exact retZ hQ hx hb hr hlk hK hW hS (Or.inl rfl) (by rw [hF]) (rfl) dX4_isInHand_23
  · have hF := hF.trans (if_neg c_4)
    refine lv_aload_n hx hb dX4_isInHand_7 rfl (lv_at hl 0 rfl) ?_
    refine va_get (D := D) (ci := 4) (v := .ref h_spots) (C := RX4) (T := TX4) (N := 2) hx hb hts inX4 hown hK.1 hW.1 0 rfl rfl 0 (by decide) (hts _ tw90) (fun _ h9 => h9) rfl dX4_isInHand_8 ?_
    refine lv_iload_n hx hb dX4_isInHand_11 rfl (lv_at hl 1 rfl) ?_
    refine va_iald (a := h_spots) (n := 8) (f := spots) hx hb hK.1 hW.1 1 0 rfl rfl (vin_isSlip c_4) dX4_isInHand_12 ?_
    refine lv_bipush (v := 24) hx hb dX4_isInHand_13 (by decide) ?_
    refine lv_icmp_ne (tgt := 22) hx hb dX4_isInHand_15 (by decide) (fun c_15 => ?_) (fun c_15 => ?_)
    · have hF := hF.trans (if_neg c_15)
      refine lv_iconst (v := 0) hx hb dX4_isInHand_22 (by decide) ?_
      exact retZ hQ hx hb hr hlk hK hW hS (Or.inl rfl) (by rw [hF]) (rfl) dX4_isInHand_23
    · have hF := hF.trans (if_pos c_15)
      refine lv_iconst (v := 1) hx hb dX4_isInHand_18 (by decide) ?_
      refine lv_goto (tgt := 23) hx hb dX4_isInHand_19 (by decide) ?_
      exact retZ hQ hx hb hr hlk hK hW hS (Or.inr rfl) (by rw [hF]) (rfl) dX4_isInHand_23
abbrev rm_X4_spikeOf : Room := { frames := 1, cells := 0, slots := 0, locals := 20 }
set_option maxHeartbeats 4000000 in
set_option maxRecDepth 100000 in
theorem c_X4_spikeOf (l : Launch) (D : va_G) (cI cJ cZ : ClassId) (h h_spots : Nat) (spots : Nat → Int32) (night : Int32) (p0 : Int32) : CT l D (tys3 cI cJ cZ) yX4_spikeOf cX4_spikeOf 2 (some .int) rm_X4_spikeOf [.ref h, .int p0] [(h, .inr (4, [.ref h_spots, .int night])), (h_spots, .inl (cI, 8, .inl spots))] (some (.int (D_X4_spikeOf spots p0))) [(h, .inr (4, [.ref h_spots, .int night])), (h_spots, .inl (cI, 8, .inl spots))] := by
  refine CT.of (by decide) (Nat.le_of_ble_eq_true rfl) ?_
  intro p e s m args below meth c A Q ls hQ hx hb hr hml hown hts hlk hK hA hW hS hl
  have hl : lv_has ls 2 [(0, .ref h), (1, .int p0)] := hl
  have hF := (D_X4_spikeOf.eq_1 spots p0)
  refine lv_iload_n hx hb dX4_spikeOf_0 rfl (lv_at hl 1 rfl) ?_
  refine cSN (own := RX4) (As := [.int p0]) (rest := []) (c_X7_isSlip l D cI cJ cZ p0) [] hx hb hml hown hts hK hA hW hS tw288 tw286 tw287 tw39 hv_X7_isSlip.2 ⟨Nat.le_of_ble_eq_true rfl, Nat.le_of_ble_eq_true rfl⟩ ⟨rfl, rfl⟩ ⟨Nat.zero_le _, Nat.zero_le _⟩ rfl [] rfl rfl (by decide) hl.1 rfl (Nat.le_of_ble_eq_true rfl) dX4_spikeOf_1 (fun H locs hW hS => ?_)
  have hW : va_P D cls9 [(h, .inr (4, [.ref h_spots, .int night])), (h_spots, .inl (cI, 8, .inl spots))] H ∧ va_D A [(h, .inr (4, [.ref h_spots, .int night])), (h_spots, .inl (cI, 8, .inl spots))] := hW
  refine lv_if_eq (tgt := 30) hx hb dX4_spikeOf_4 (by decide) (fun c_4 => ?_) (fun c_4 => ?_)
  · have hF := hF.trans (if_pos c_4)
    refine lv_bipush (v := -9) hx hb dX4_spikeOf_30 (by decide) ?_
    exact retI hQ hx hb hr hlk hK hW hS (by rw [hF]) (rfl) dX4_spikeOf_32
  · have hF := hF.trans (if_neg c_4)
    refine lv_aload_n hx hb dX4_spikeOf_7 rfl (lv_at hl 0 rfl) ?_
    refine va_get (D := D) (ci := 4) (v := .ref h_spots) (C := RX4) (T := TX4) (N := 2) hx hb hts inX4 hown hK.1 hW.1 0 rfl rfl 0 (by decide) (hts _ tw90) (fun _ h9 => h9) rfl dX4_spikeOf_8 ?_
    refine lv_iload_n hx hb dX4_spikeOf_11 rfl (lv_at hl 1 rfl) ?_
    refine va_iald (a := h_spots) (n := 8) (f := spots) hx hb hK.1 hW.1 1 0 rfl rfl (vin_isSlip c_4) dX4_spikeOf_12 ?_
    refine lv_bipush (v := 24) hx hb dX4_spikeOf_13 (by decide) ?_
    refine lv_icmp_ge (tgt := 30) hx hb dX4_spikeOf_15 (by decide) (fun c_15 => ?_) (fun c_15 => ?_)
    · have hF := hF.trans (if_pos c_15)
      refine lv_bipush (v := -9) hx hb dX4_spikeOf_30 (by decide) ?_
      exact retI hQ hx hb hr hlk hK hW hS (by rw [hF]) (rfl) dX4_spikeOf_32
    · have hF := hF.trans (if_neg c_15)
      refine lv_aload_n hx hb dX4_spikeOf_18 rfl (lv_at hl 0 rfl) ?_
      refine va_get (D := D) (ci := 4) (v := .ref h_spots) (C := RX4) (T := TX4) (N := 2) hx hb hts inX4 hown hK.1 hW.1 0 rfl rfl 0 (by decide) (hts _ tw90) (fun _ h9 => h9) rfl dX4_spikeOf_19 ?_
      refine lv_iload_n hx hb dX4_spikeOf_22 rfl (lv_at hl 1 rfl) ?_
      refine va_iald (a := h_spots) (n := 8) (f := spots) hx hb hK.1 hW.1 1 0 rfl rfl (vin_isSlip c_4) dX4_spikeOf_23 ?_
      refine lv_bipush (v := 8) hx hb dX4_spikeOf_24 (by decide) ?_
      refine lv_idiv hx hb dX4_spikeOf_26 (by decide) ?_
      refine lv_goto (tgt := 32) hx hb dX4_spikeOf_27 (by decide) ?_
      exact retI hQ hx hb hr hlk hK hW hS (by rw [hF]) (rfl) dX4_spikeOf_32
abbrev rm_X4_heightOf : Room := { frames := 1, cells := 0, slots := 0, locals := 20 }
set_option maxHeartbeats 4000000 in
set_option maxRecDepth 100000 in
theorem c_X4_heightOf (l : Launch) (D : va_G) (cI cJ cZ : ClassId) (h h_spots : Nat) (spots : Nat → Int32) (night : Int32) (p0 : Int32) : CT l D (tys3 cI cJ cZ) yX4_heightOf cX4_heightOf 2 (some .int) rm_X4_heightOf [.ref h, .int p0] [(h, .inr (4, [.ref h_spots, .int night])), (h_spots, .inl (cI, 8, .inl spots))] (some (.int (D_X4_heightOf spots p0))) [(h, .inr (4, [.ref h_spots, .int night])), (h_spots, .inl (cI, 8, .inl spots))] := by
  refine CT.of (by decide) (Nat.le_of_ble_eq_true rfl) ?_
  intro p e s m args below meth c A Q ls hQ hx hb hr hml hown hts hlk hK hA hW hS hl
  have hl : lv_has ls 2 [(0, .ref h), (1, .int p0)] := hl
  have hF := (D_X4_heightOf.eq_1 spots p0)
  refine lv_iload_n hx hb dX4_heightOf_0 rfl (lv_at hl 1 rfl) ?_
  refine cSN (own := RX4) (As := [.int p0]) (rest := []) (c_X7_isSlip l D cI cJ cZ p0) [] hx hb hml hown hts hK hA hW hS tw288 tw286 tw287 tw39 hv_X7_isSlip.2 ⟨Nat.le_of_ble_eq_true rfl, Nat.le_of_ble_eq_true rfl⟩ ⟨rfl, rfl⟩ ⟨Nat.zero_le _, Nat.zero_le _⟩ rfl [] rfl rfl (by decide) hl.1 rfl (Nat.le_of_ble_eq_true rfl) dX4_heightOf_1 (fun H locs hW hS => ?_)
  have hW : va_P D cls9 [(h, .inr (4, [.ref h_spots, .int night])), (h_spots, .inl (cI, 8, .inl spots))] H ∧ va_D A [(h, .inr (4, [.ref h_spots, .int night])), (h_spots, .inl (cI, 8, .inl spots))] := hW
  refine lv_if_eq (tgt := 30) hx hb dX4_heightOf_4 (by decide) (fun c_4 => ?_) (fun c_4 => ?_)
  · have hF := hF.trans (if_pos c_4)
    refine lv_bipush (v := -9) hx hb dX4_heightOf_30 (by decide) ?_
    exact retI hQ hx hb hr hlk hK hW hS (by rw [hF]) (rfl) dX4_heightOf_32
  · have hF := hF.trans (if_neg c_4)
    refine lv_aload_n hx hb dX4_heightOf_7 rfl (lv_at hl 0 rfl) ?_
    refine va_get (D := D) (ci := 4) (v := .ref h_spots) (C := RX4) (T := TX4) (N := 2) hx hb hts inX4 hown hK.1 hW.1 0 rfl rfl 0 (by decide) (hts _ tw90) (fun _ h9 => h9) rfl dX4_heightOf_8 ?_
    refine lv_iload_n hx hb dX4_heightOf_11 rfl (lv_at hl 1 rfl) ?_
    refine va_iald (a := h_spots) (n := 8) (f := spots) hx hb hK.1 hW.1 1 0 rfl rfl (vin_isSlip c_4) dX4_heightOf_12 ?_
    refine lv_bipush (v := 24) hx hb dX4_heightOf_13 (by decide) ?_
    refine lv_icmp_ge (tgt := 30) hx hb dX4_heightOf_15 (by decide) (fun c_15 => ?_) (fun c_15 => ?_)
    · have hF := hF.trans (if_pos c_15)
      refine lv_bipush (v := -9) hx hb dX4_heightOf_30 (by decide) ?_
      exact retI hQ hx hb hr hlk hK hW hS (by rw [hF]) (rfl) dX4_heightOf_32
    · have hF := hF.trans (if_neg c_15)
      refine lv_aload_n hx hb dX4_heightOf_18 rfl (lv_at hl 0 rfl) ?_
      refine va_get (D := D) (ci := 4) (v := .ref h_spots) (C := RX4) (T := TX4) (N := 2) hx hb hts inX4 hown hK.1 hW.1 0 rfl rfl 0 (by decide) (hts _ tw90) (fun _ h9 => h9) rfl dX4_heightOf_19 ?_
      refine lv_iload_n hx hb dX4_heightOf_22 rfl (lv_at hl 1 rfl) ?_
      refine va_iald (a := h_spots) (n := 8) (f := spots) hx hb hK.1 hW.1 1 0 rfl rfl (vin_isSlip c_4) dX4_heightOf_23 ?_
      refine lv_bipush (v := 8) hx hb dX4_heightOf_24 (by decide) ?_
      refine lv_irem hx hb dX4_heightOf_26 (by decide) ?_
      refine lv_goto (tgt := 32) hx hb dX4_heightOf_27 (by decide) ?_
      exact retI hQ hx hb hr hlk hK hW hS (by rw [hF]) (rfl) dX4_heightOf_32
abbrev rm_X4_stateOf : Room := { frames := 2, cells := 0, slots := 0, locals := 41 }
set_option maxHeartbeats 4000000 in
set_option maxRecDepth 100000 in
theorem c_X4_stateOf (l : Launch) (D : va_G) (cI cJ cZ : ClassId) (h h_spots : Nat) (spots : Nat → Int32) (night : Int32) (p0 : Int32) : CT l D (tys3 cI cJ cZ) yX4_stateOf cX4_stateOf 2 (some .int) rm_X4_stateOf [.ref h, .int p0] [(h, .inr (4, [.ref h_spots, .int night])), (h_spots, .inl (cI, 8, .inl spots))] (some (.int (D_X4_stateOf spots p0))) [(h, .inr (4, [.ref h_spots, .int night])), (h_spots, .inl (cI, 8, .inl spots))] := by
  refine CT.of (by decide) (Nat.le_of_ble_eq_true rfl) ?_
  intro p e s m args below meth c A Q ls hQ hx hb hr hml hown hts hlk hK hA hW hS hl
  have hl : lv_has ls 2 [(0, .ref h), (1, .int p0)] := hl
  have hF := (D_X4_stateOf.eq_1 spots p0)
  refine lv_aload_n hx hb dX4_stateOf_0 rfl (lv_at hl 0 rfl) ?_
  refine lv_iload_n hx hb dX4_stateOf_1 rfl (lv_at hl 1 rfl) ?_
  refine cVa (own := RX4) (As := [.int p0]) (rest := []) (c_X4_spikeOf l D cI cJ cZ h h_spots spots night p0) 4 0 hx hb hml hown hts hK hA hW hS tw382 tw391 tw380 tw381 tw42 hv_X4_spikeOf ⟨Nat.le_of_ble_eq_true rfl, Nat.le_of_ble_eq_true rfl⟩ ⟨rfl, rfl⟩ ⟨Nat.zero_le _, Nat.zero_le _⟩ rfl rfl hl.1 rfl (Nat.le_of_ble_eq_true rfl) dX4_stateOf_2 (fun H locs hW hS => ?_)
  have hW : va_P D cls9 [(h, .inr (4, [.ref h_spots, .int night])), (h_spots, .inl (cI, 8, .inl spots))] H ∧ va_D A [(h, .inr (4, [.ref h_spots, .int night])), (h_spots, .inl (cI, 8, .inl spots))] := hW
  refine lv_bipush (v := -9) hx hb dX4_stateOf_5 (by decide) ?_
  refine lv_icmp_eq (tgt := 12) hx hb dX4_stateOf_7 (by decide) (fun c_7 => ?_) (fun c_7 => ?_)
  · have hF := hF.trans (if_pos c_7)
    refine lv_aload_n hx hb dX4_stateOf_12 rfl (lv_at hl 0 rfl) ?_
    refine lv_iload_n hx hb dX4_stateOf_13 rfl (lv_at hl 1 rfl) ?_
    refine cVa (own := RX4) (As := [.int p0]) (rest := []) (c_X4_isInHand l D cI cJ cZ h h_spots spots night p0) 4 0 hx hb hml hown hts hK hA hW hS tw395 tw392 tw393 tw394 tw42 hv_X4_isInHand ⟨Nat.le_of_ble_eq_true rfl, Nat.le_of_ble_eq_true rfl⟩ ⟨rfl, rfl⟩ ⟨Nat.zero_le _, Nat.zero_le _⟩ rfl rfl hl.1 rfl (Nat.le_of_ble_eq_true rfl) dX4_stateOf_14 (fun H locs hW hS => ?_)
    have hW : va_P D cls9 [(h, .inr (4, [.ref h_spots, .int night])), (h_spots, .inl (cI, 8, .inl spots))] H ∧ va_D A [(h, .inr (4, [.ref h_spots, .int night])), (h_spots, .inl (cI, 8, .inl spots))] := hW
    refine lv_if_eq (tgt := 24) hx hb dX4_stateOf_17 (by decide) (fun c_17 => ?_) (fun c_17 => ?_)
    · have hF := hF.trans (if_pos c_17)
      refine lv_iconst (v := 2) hx hb dX4_stateOf_24 (by decide) ?_
      exact retI hQ hx hb hr hlk hK hW hS (by rw [hF]) (rfl) dX4_stateOf_25
    · have hF := hF.trans (if_neg c_17)
      refine lv_iconst (v := 1) hx hb dX4_stateOf_20 (by decide) ?_
      refine lv_goto (tgt := 25) hx hb dX4_stateOf_21 (by decide) ?_
      exact retI hQ hx hb hr hlk hK hW hS (by rw [hF]) (rfl) dX4_stateOf_25
  · have hF := hF.trans (if_neg c_7)
    refine lv_iconst (v := 0) hx hb dX4_stateOf_10 (by decide) ?_
    exact retI hQ hx hb hr hlk hK hW hS (by rw [hF]) (rfl) dX4_stateOf_11
abbrev rm_X4_slipAt : Room := { frames := 2, cells := 0, slots := 0, locals := 41 }
set_option maxHeartbeats 4000000 in
set_option maxRecDepth 100000 in
theorem c_X4_slipAt (l : Launch) (D : va_G) (cI cJ cZ : ClassId) (h h_spots : Nat) (spots : Nat → Int32) (night : Int32) (p0 : Int32) (p1 : Int32) : CT l D (tys3 cI cJ cZ) yX4_slipAt cX4_slipAt 4 (some .int) rm_X4_slipAt [.ref h, .int p0, .int p1] [(h, .inr (4, [.ref h_spots, .int night])), (h_spots, .inl (cI, 8, .inl spots))] (some (.int (D_X4_slipAt spots p0 p1))) [(h, .inr (4, [.ref h_spots, .int night])), (h_spots, .inl (cI, 8, .inl spots))] := by
  refine CT.of (by decide) (Nat.le_of_ble_eq_true rfl) ?_
  intro p e s m args below meth c A Q ls hQ hx hb hr hml hown hts hlk hK hA hW hS hl
  have hl : lv_has ls 4 [(0, .ref h), (1, .int p0), (2, .int p1)] := hl
  have hF := (D_X4_slipAt.eq_1 spots p0 p1)
  refine lv_iconst (v := 0) hx hb dX4_slipAt_0 (by decide) ?_
  refine lv_istore_n (lv' := [(3, .int (0 : Int32)), (0, .ref h), (1, .int p0), (2, .int p1)]) hx hb dX4_slipAt_1 rfl hl (by decide) rfl (fun ls hl => ?_)
  have L2 : ∀ (n i2 : Nat), i2 + n = 8 → (D_X4_slipAt spots p0 p1) = (D_X4_slipAt_l2 p0 p1 spots n i2) → ∀ (H : Heap) (locs : List Loc), (va_P D cls9 [(h, .inr (4, [.ref h_spots, .int night])), (h_spots, .inl (cI, 8, .inl spots))] H ∧ va_D A [(h, .inr (4, [.ref h_spots, .int night])), (h_spots, .inl (cI, 8, .inl spots))]) → va_S A s.heap H locs → ∀ (ls : Array Slot), lv_has ls 4 [(3, .int (nI i2)), (0, .ref h), (1, .int p0), (2, .int p1)] → W p l e rm_X4_slipAt s m args below meth c H locs 0 0 Q (F0 m 2 ls []) := by
    intro n
    induction n with
    | zero =>
      intro i2 hi  hF H locs hW hS ls hl
      obtain rfl : i2 = 8 := by omega
      have hF : (D_X4_slipAt spots p0 p1) = D_X4_slipAt_k2 := hF
      have hF := hF.trans (D_X4_slipAt_k2.eq_1)
      refine lv_iload_n hx hb dX4_slipAt_2 rfl (lv_at hl 0 rfl) ?_
      refine lv_bipush (v := 8) hx hb dX4_slipAt_3 (by decide) ?_
      refine lv_icmp_ge (tgt := 34) hx hb dX4_slipAt_5 (by decide) (fun c_5 => ?_) (fun c_5 => ?_)
      · refine lv_bipush (v := -9) hx hb dX4_slipAt_34 (by decide) ?_
        exact retI hQ hx hb hr hlk hK hW hS (by rw [hF]) (rfl) dX4_slipAt_36
      · exact absurd (by decide) c_5
    | succ n ih =>
      intro i2 hi  hF H locs hW hS ls hl
      have hB2 := (D_X4_slipAt_b2.eq_1 p0 p1 spots i2)
      refine lv_iload_n hx hb dX4_slipAt_2 rfl (lv_at hl 0 rfl) ?_
      refine lv_bipush (v := 8) hx hb dX4_slipAt_3 (by decide) ?_
      refine lv_icmp_ge (tgt := 34) hx hb dX4_slipAt_5 (by decide) (fun c_5 => ?_) (fun c_5 => ?_)
      · exact absurd c_5 (cl_ltc (B := (8 : Int32)) (N := 8) (k := i2) (by decide) (by omega) (by decide))
      · refine lv_aload_n hx hb dX4_slipAt_8 rfl (lv_at hl 1 rfl) ?_
        refine lv_iload_n hx hb dX4_slipAt_9 rfl (lv_at hl 0 rfl) ?_
        refine cVa (own := RX4) (As := [.int (nI i2)]) (rest := []) (c_X4_spikeOf l D cI cJ cZ h h_spots spots night (nI i2)) 4 0 hx hb hml hown hts hK hA hW hS tw382 tw391 tw380 tw381 tw42 hv_X4_spikeOf ⟨Nat.le_of_ble_eq_true rfl, Nat.le_of_ble_eq_true rfl⟩ ⟨rfl, rfl⟩ ⟨Nat.zero_le _, Nat.zero_le _⟩ rfl rfl hl.1 rfl (Nat.le_of_ble_eq_true rfl) dX4_slipAt_10 (fun H locs hW hS => ?_)
        have hW : va_P D cls9 [(h, .inr (4, [.ref h_spots, .int night])), (h_spots, .inl (cI, 8, .inl spots))] H ∧ va_D A [(h, .inr (4, [.ref h_spots, .int night])), (h_spots, .inl (cI, 8, .inl spots))] := hW
        refine lv_iload_n hx hb dX4_slipAt_13 rfl (lv_at hl 2 rfl) ?_
        refine lv_icmp_ne (tgt := 28) hx hb dX4_slipAt_14 (by decide) (fun c_14 => ?_) (fun c_14 => ?_)
        · have hB2 := hB2.trans (if_neg c_14)
          refine lv_iinc (v := (nI (i2 + 1))) (lv' := [(3, .int (nI (i2 + 1))), (0, .ref h), (1, .int p0), (2, .int p1)]) hx hb dX4_slipAt_28 hl (k := 0) rfl (nI_1 _) (by decide) rfl (fun ls hl => ?_)
          refine lv_goto (tgt := 2) hx hb dX4_slipAt_31 (by decide) ?_
          exact ih (i2 + 1) (by omega) (hF.trans ((D_X4_slipAt_l2_s p0 p1 spots n i2 hB2))) _ _ hW hS _ (lv_sub hl [0, 1, 2, 3] rfl)
        · have hB2 := hB2.trans (if_pos c_14)
          refine lv_aload_n hx hb dX4_slipAt_17 rfl (lv_at hl 1 rfl) ?_
          refine lv_iload_n hx hb dX4_slipAt_18 rfl (lv_at hl 0 rfl) ?_
          refine cVa (own := RX4) (As := [.int (nI i2)]) (rest := []) (c_X4_heightOf l D cI cJ cZ h h_spots spots night (nI i2)) 4 0 hx hb hml hown hts hK hA hW hS tw386 tw410 tw384 tw385 tw42 hv_X4_heightOf ⟨Nat.le_of_ble_eq_true rfl, Nat.le_of_ble_eq_true rfl⟩ ⟨rfl, rfl⟩ ⟨Nat.zero_le _, Nat.zero_le _⟩ rfl rfl hl.1 rfl (Nat.le_of_ble_eq_true rfl) dX4_slipAt_19 (fun H locs hW hS => ?_)
          have hW : va_P D cls9 [(h, .inr (4, [.ref h_spots, .int night])), (h_spots, .inl (cI, 8, .inl spots))] H ∧ va_D A [(h, .inr (4, [.ref h_spots, .int night])), (h_spots, .inl (cI, 8, .inl spots))] := hW
          refine lv_iload_n hx hb dX4_slipAt_22 rfl (lv_at hl 3 rfl) ?_
          refine lv_icmp_ne (tgt := 28) hx hb dX4_slipAt_23 (by decide) (fun c_23 => ?_) (fun c_23 => ?_)
          · have hB2 := hB2.trans (if_neg c_23)
            refine lv_iinc (v := (nI (i2 + 1))) (lv' := [(3, .int (nI (i2 + 1))), (0, .ref h), (1, .int p0), (2, .int p1)]) hx hb dX4_slipAt_28 hl (k := 0) rfl (nI_1 _) (by decide) rfl (fun ls hl => ?_)
            refine lv_goto (tgt := 2) hx hb dX4_slipAt_31 (by decide) ?_
            exact ih (i2 + 1) (by omega) (hF.trans ((D_X4_slipAt_l2_s p0 p1 spots n i2 hB2))) _ _ hW hS _ (lv_sub hl [0, 1, 2, 3] rfl)
          · have hB2 := hB2.trans (if_pos c_23)
            refine lv_iload_n hx hb dX4_slipAt_26 rfl (lv_at hl 0 rfl) ?_
            have hF := hF.trans ((D_X4_slipAt_l2_r p0 p1 spots n i2 _ hB2))
            exact retI hQ hx hb hr hlk hK hW hS (by rw [hF]) (rfl) dX4_slipAt_27
  exact L2 8 0 (by omega) hF _ _ hW hS _ (lv_sub hl [0, 1, 2, 3] rfl)
abbrev rm_X4_topOf : Room := { frames := 3, cells := 0, slots := 0, locals := 64 }
set_option maxHeartbeats 4000000 in
set_option maxRecDepth 100000 in
theorem c_X4_topOf (l : Launch) (D : va_G) (cI cJ cZ : ClassId) (h h_spots : Nat) (spots : Nat → Int32) (night : Int32) (p0 : Int32) : CT l D (tys3 cI cJ cZ) yX4_topOf cX4_topOf 2 (some .int) rm_X4_topOf [.ref h, .int p0] [(h, .inr (4, [.ref h_spots, .int night])), (h_spots, .inl (cI, 8, .inl spots))] (some (.int (D_X4_topOf spots p0))) [(h, .inr (4, [.ref h_spots, .int night])), (h_spots, .inl (cI, 8, .inl spots))] := by
  refine CT.of (by decide) (Nat.le_of_ble_eq_true rfl) ?_
  intro p e s m args below meth c A Q ls hQ hx hb hr hml hown hts hlk hK hA hW hS hl
  have hl : lv_has ls 2 [(0, .ref h), (1, .int p0)] := hl
  have hF := (D_X4_topOf.eq_1 spots p0)
  refine lv_aload_n hx hb dX4_topOf_0 rfl (lv_at hl 0 rfl) ?_
  refine lv_iload_n hx hb dX4_topOf_1 rfl (lv_at hl 1 rfl) ?_
  refine lv_aload_n hx hb dX4_topOf_2 rfl (lv_at hl 0 rfl) ?_
  refine lv_iload_n hx hb dX4_topOf_3 rfl (lv_at hl 1 rfl) ?_
  refine cVa (own := RX4) (As := [.int p0]) (rest := [.int p0, .ref h]) (c_X4_countOn l D cI cJ cZ h h_spots spots night p0) 4 0 hx hb hml hown hts hK hA hW hS tw293 tw290 tw291 tw292 tw42 hv_X4_countOn ⟨Nat.le_of_ble_eq_true rfl, Nat.le_of_ble_eq_true rfl⟩ ⟨rfl, rfl⟩ ⟨Nat.zero_le _, Nat.zero_le _⟩ rfl rfl hl.1 rfl (Nat.le_of_ble_eq_true rfl) dX4_topOf_4 (fun H locs hW hS => ?_)
  have hW : va_P D cls9 [(h, .inr (4, [.ref h_spots, .int night])), (h_spots, .inl (cI, 8, .inl spots))] H ∧ va_D A [(h, .inr (4, [.ref h_spots, .int night])), (h_spots, .inl (cI, 8, .inl spots))] := hW
  refine lv_iconst (v := 1) hx hb dX4_topOf_7 (by decide) ?_
  refine lv_isub hx hb dX4_topOf_8 ?_
  refine cVa (own := RX4) (As := [.int p0, .int ((D_X4_countOn spots p0) - (1 : Int32))]) (rest := []) (c_X4_slipAt l D cI cJ cZ h h_spots spots night p0 ((D_X4_countOn spots p0) - (1 : Int32))) 4 0 hx hb hml hown hts hK hA hW hS tw409 tw415 tw407 tw408 tw42 hv_X4_slipAt ⟨Nat.le_of_ble_eq_true rfl, Nat.le_of_ble_eq_true rfl⟩ ⟨rfl, rfl⟩ ⟨Nat.zero_le _, Nat.zero_le _⟩ rfl rfl hl.1 rfl (Nat.le_of_ble_eq_true rfl) dX4_topOf_9 (fun H locs hW hS => ?_)
  have hW : va_P D cls9 [(h, .inr (4, [.ref h_spots, .int night])), (h_spots, .inl (cI, 8, .inl spots))] H ∧ va_D A [(h, .inr (4, [.ref h_spots, .int night])), (h_spots, .inl (cI, 8, .inl spots))] := hW
  exact retI hQ hx hb hr hlk hK hW hS (by rw [hF]) (rfl) dX4_topOf_12
abbrev rm_X4_putOn : Room := { frames := 2, cells := 0, slots := 0, locals := 45 }
set_option maxHeartbeats 4000000 in
set_option maxRecDepth 100000 in
theorem c_X4_putOn (l : Launch) (D : va_G) (cI cJ cZ : ClassId) (h h_spots : Nat) (spots : Nat → Int32) (night : Int32) (p0 : Int32) (p1 : Int32) : CT l D (tys3 cI cJ cZ) yX4_putOn cX4_putOn 4 (some .int) rm_X4_putOn [.ref h, .int p0, .int p1] [(h, .inr (4, [.ref h_spots, .int night])), (h_spots, .inl (cI, 8, .inl spots))] (some (.int (D_X4_putOn spots p0 p1).1)) [(h, .inr (4, [.ref h_spots, .int night])), (h_spots, .inl (cI, 8, .inl (D_X4_putOn spots p0 p1).2))] := by
  refine CT.of (by decide) (Nat.le_of_ble_eq_true rfl) ?_
  intro p e s m args below meth c A Q ls hQ hx hb hr hml hown hts hlk hK hA hW hS hl
  have hl : lv_has ls 4 [(0, .ref h), (1, .int p0), (2, .int p1)] := hl
  have hF := (D_X4_putOn.eq_1 spots p0 p1)
  refine lv_iload_n hx hb dX4_putOn_0 rfl (lv_at hl 1 rfl) ?_
  refine cSN (own := RX4) (As := [.int p0]) (rest := []) (c_X7_isSlip l D cI cJ cZ p0) [] hx hb hml hown hts hK hA hW hS tw288 tw286 tw287 tw39 hv_X7_isSlip.2 ⟨Nat.le_of_ble_eq_true rfl, Nat.le_of_ble_eq_true rfl⟩ ⟨rfl, rfl⟩ ⟨Nat.zero_le _, Nat.zero_le _⟩ rfl [] rfl rfl (by decide) hl.1 rfl (Nat.le_of_ble_eq_true rfl) dX4_putOn_1 (fun H locs hW hS => ?_)
  have hW : va_P D cls9 [(h, .inr (4, [.ref h_spots, .int night])), (h_spots, .inl (cI, 8, .inl spots))] H ∧ va_D A [(h, .inr (4, [.ref h_spots, .int night])), (h_spots, .inl (cI, 8, .inl spots))] := hW
  refine lv_if_eq (tgt := 14) hx hb dX4_putOn_4 (by decide) (fun c_4 => ?_) (fun c_4 => ?_)
  · have hF := hF.trans (if_pos c_4)
    refine lv_iconst (v := -1) hx hb dX4_putOn_14 (by decide) ?_
    exact retI hQ hx hb hr hlk hK hW hS (by rw [hF]) (by rw [hF]) dX4_putOn_15
  · have hF := hF.trans (if_neg c_4)
    refine lv_iload_n hx hb dX4_putOn_7 rfl (lv_at hl 2 rfl) ?_
    refine cSN (own := RX4) (As := [.int p1]) (rest := []) (c_X7_isSpike l D cI cJ cZ p1) [] hx hb hml hown hts hK hA hW hS tw277 tw289 tw276 tw39 hv_X7_isSpike.2 ⟨Nat.le_of_ble_eq_true rfl, Nat.le_of_ble_eq_true rfl⟩ ⟨rfl, rfl⟩ ⟨Nat.zero_le _, Nat.zero_le _⟩ rfl [] rfl rfl (by decide) hl.1 rfl (Nat.le_of_ble_eq_true rfl) dX4_putOn_8 (fun H locs hW hS => ?_)
    have hW : va_P D cls9 [(h, .inr (4, [.ref h_spots, .int night])), (h_spots, .inl (cI, 8, .inl spots))] H ∧ va_D A [(h, .inr (4, [.ref h_spots, .int night])), (h_spots, .inl (cI, 8, .inl spots))] := hW
    refine lv_if_ne (tgt := 16) hx hb dX4_putOn_11 (by decide) (fun c_11 => ?_) (fun c_11 => ?_)
    · have hF := hF.trans (if_neg c_11)
      refine lv_aload_n hx hb dX4_putOn_16 rfl (lv_at hl 0 rfl) ?_
      refine va_get (D := D) (ci := 4) (v := .ref h_spots) (C := RX4) (T := TX4) (N := 2) hx hb hts inX4 hown hK.1 hW.1 0 rfl rfl 0 (by decide) (hts _ tw90) (fun _ h9 => h9) rfl dX4_putOn_17 ?_
      refine lv_iload_n hx hb dX4_putOn_20 rfl (lv_at hl 1 rfl) ?_
      refine va_iald (a := h_spots) (n := 8) (f := spots) hx hb hK.1 hW.1 1 0 rfl rfl (vin_isSlip c_4) dX4_putOn_21 ?_
      refine lv_bipush (v := 24) hx hb dX4_putOn_22 (by decide) ?_
      refine lv_icmp_eq (tgt := 30) hx hb dX4_putOn_24 (by decide) (fun c_24 => ?_) (fun c_24 => ?_)
      · have hF := hF.trans (if_pos c_24)
        refine lv_aload_n hx hb dX4_putOn_30 rfl (lv_at hl 0 rfl) ?_
        refine lv_iload_n hx hb dX4_putOn_31 rfl (lv_at hl 2 rfl) ?_
        refine cVa (own := RX4) (As := [.int p1]) (rest := []) (c_X4_countOn l D cI cJ cZ h h_spots spots night p1) 4 0 hx hb hml hown hts hK hA hW hS tw293 tw290 tw291 tw292 tw42 hv_X4_countOn ⟨Nat.le_of_ble_eq_true rfl, Nat.le_of_ble_eq_true rfl⟩ ⟨rfl, rfl⟩ ⟨Nat.zero_le _, Nat.zero_le _⟩ rfl rfl hl.1 rfl (Nat.le_of_ble_eq_true rfl) dX4_putOn_32 (fun H locs hW hS => ?_)
        have hW : va_P D cls9 [(h, .inr (4, [.ref h_spots, .int night])), (h_spots, .inl (cI, 8, .inl spots))] H ∧ va_D A [(h, .inr (4, [.ref h_spots, .int night])), (h_spots, .inl (cI, 8, .inl spots))] := hW
        refine lv_istore_n (lv' := [(3, .int (D_X4_countOn spots p1)), (0, .ref h), (1, .int p0), (2, .int p1)]) hx hb dX4_putOn_35 rfl hl (by decide) rfl (fun ls hl => ?_)
        refine lv_aload_n hx hb dX4_putOn_36 rfl (lv_at hl 1 rfl) ?_
        refine va_get (D := D) (ci := 4) (v := .ref h_spots) (C := RX4) (T := TX4) (N := 2) hx hb hts inX4 hown hK.1 hW.1 0 rfl rfl 0 (by decide) (hts _ tw90) (fun _ h9 => h9) rfl dX4_putOn_37 ?_
        refine lv_iload_n hx hb dX4_putOn_40 rfl (lv_at hl 2 rfl) ?_
        refine lv_iload_n hx hb dX4_putOn_41 rfl (lv_at hl 3 rfl) ?_
        refine lv_bipush (v := 8) hx hb dX4_putOn_42 (by decide) ?_
        refine lv_imul hx hb dX4_putOn_44 ?_
        refine lv_iload_n hx hb dX4_putOn_45 rfl (lv_at hl 0 rfl) ?_
        refine lv_iadd hx hb dX4_putOn_46 ?_
        refine va_iast (a := h_spots) (n := 8) (f := spots) hx hb hK.1 hW.1 hW.2 hS 1 0 rfl rfl (vin_isSlip c_4) dX4_putOn_47 (fun H locs hP hD hS => ?_)
        have hW : va_P D cls9 [(h, .inr (4, [.ref h_spots, .int night])), (h_spots, .inl (cI, 8, .inl (upd spots p0.toNatClampNeg ((p1 * (8 : Int32)) + (D_X4_countOn spots p1)))))] H ∧ va_D A [(h, .inr (4, [.ref h_spots, .int night])), (h_spots, .inl (cI, 8, .inl (upd spots p0.toNatClampNeg ((p1 * (8 : Int32)) + (D_X4_countOn spots p1)))))] := ⟨hP, hD⟩
        refine lv_iload_n hx hb dX4_putOn_48 rfl (lv_at hl 0 rfl) ?_
        exact retI hQ hx hb hr hlk hK hW hS (by rw [hF]) (by rw [hF]) dX4_putOn_49
      · have hF := hF.trans (if_neg c_24)
        refine lv_bipush (v := -3) hx hb dX4_putOn_27 (by decide) ?_
        exact retI hQ hx hb hr hlk hK hW hS (by rw [hF]) (by rw [hF]) dX4_putOn_29
    · have hF := hF.trans (if_pos c_11)
      refine lv_iconst (v := -1) hx hb dX4_putOn_14 (by decide) ?_
      exact retI hQ hx hb hr hlk hK hW hS (by rw [hF]) (by rw [hF]) dX4_putOn_15
abbrev rm_X4_takeTop : Room := { frames := 4, cells := 0, slots := 0, locals := 85 }
set_option maxHeartbeats 4000000 in
set_option maxRecDepth 100000 in
theorem c_X4_takeTop (l : Launch) (D : va_G) (cI cJ cZ : ClassId) (h h_spots : Nat) (spots : Nat → Int32) (night : Int32) (p0 : Int32) : CT l D (tys3 cI cJ cZ) yX4_takeTop cX4_takeTop 3 (some .int) rm_X4_takeTop [.ref h, .int p0] [(h, .inr (4, [.ref h_spots, .int night])), (h_spots, .inl (cI, 8, .inl spots))] (some (.int (D_X4_takeTop spots p0).1)) [(h, .inr (4, [.ref h_spots, .int night])), (h_spots, .inl (cI, 8, .inl (D_X4_takeTop spots p0).2))] := by
  refine CT.of (by decide) (Nat.le_of_ble_eq_true rfl) ?_
  intro p e s m args below meth c A Q ls hQ hx hb hr hml hown hts hlk hK hA hW hS hl
  have hl : lv_has ls 3 [(0, .ref h), (1, .int p0)] := hl
  have hF := (D_X4_takeTop.eq_1 spots p0)
  refine lv_iload_n hx hb dX4_takeTop_0 rfl (lv_at hl 1 rfl) ?_
  refine cSN (own := RX4) (As := [.int p0]) (rest := []) (c_X7_isSpike l D cI cJ cZ p0) [] hx hb hml hown hts hK hA hW hS tw277 tw289 tw276 tw39 hv_X7_isSpike.2 ⟨Nat.le_of_ble_eq_true rfl, Nat.le_of_ble_eq_true rfl⟩ ⟨rfl, rfl⟩ ⟨Nat.zero_le _, Nat.zero_le _⟩ rfl [] rfl rfl (by decide) hl.1 rfl (Nat.le_of_ble_eq_true rfl) dX4_takeTop_1 (fun H locs hW hS => ?_)
  have hW : va_P D cls9 [(h, .inr (4, [.ref h_spots, .int night])), (h_spots, .inl (cI, 8, .inl spots))] H ∧ va_D A [(h, .inr (4, [.ref h_spots, .int night])), (h_spots, .inl (cI, 8, .inl spots))] := hW
  refine lv_if_ne (tgt := 9) hx hb dX4_takeTop_4 (by decide) (fun c_4 => ?_) (fun c_4 => ?_)
  · have hF := hF.trans (if_neg c_4)
    refine lv_aload_n hx hb dX4_takeTop_9 rfl (lv_at hl 0 rfl) ?_
    refine lv_iload_n hx hb dX4_takeTop_10 rfl (lv_at hl 1 rfl) ?_
    refine cVa (own := RX4) (As := [.int p0]) (rest := []) (c_X4_topOf l D cI cJ cZ h h_spots spots night p0) 4 0 hx hb hml hown hts hK hA hW hS tw414 tw458 tw412 tw413 tw42 hv_X4_topOf ⟨Nat.le_of_ble_eq_true rfl, Nat.le_of_ble_eq_true rfl⟩ ⟨rfl, rfl⟩ ⟨Nat.zero_le _, Nat.zero_le _⟩ rfl rfl hl.1 rfl (Nat.le_of_ble_eq_true rfl) dX4_takeTop_11 (fun H locs hW hS => ?_)
    have hW : va_P D cls9 [(h, .inr (4, [.ref h_spots, .int night])), (h_spots, .inl (cI, 8, .inl spots))] H ∧ va_D A [(h, .inr (4, [.ref h_spots, .int night])), (h_spots, .inl (cI, 8, .inl spots))] := hW
    refine lv_istore_n (lv' := [(2, .int (D_X4_topOf spots p0)), (0, .ref h), (1, .int p0)]) hx hb dX4_takeTop_14 rfl hl (by decide) rfl (fun ls hl => ?_)
    refine lv_iload_n hx hb dX4_takeTop_15 rfl (lv_at hl 0 rfl) ?_
    refine cSN (own := RX4) (As := [.int (D_X4_topOf spots p0)]) (rest := []) (c_X7_isSlip l D cI cJ cZ (D_X4_topOf spots p0)) [] hx hb hml hown hts hK hA hW hS tw288 tw286 tw287 tw39 hv_X7_isSlip.2 ⟨Nat.le_of_ble_eq_true rfl, Nat.le_of_ble_eq_true rfl⟩ ⟨rfl, rfl⟩ ⟨Nat.zero_le _, Nat.zero_le _⟩ rfl [] rfl rfl (by decide) hl.1 rfl (Nat.le_of_ble_eq_true rfl) dX4_takeTop_16 (fun H locs hW hS => ?_)
    have hW : va_P D cls9 [(h, .inr (4, [.ref h_spots, .int night])), (h_spots, .inl (cI, 8, .inl spots))] H ∧ va_D A [(h, .inr (4, [.ref h_spots, .int night])), (h_spots, .inl (cI, 8, .inl spots))] := hW
    refine lv_if_ne (tgt := 25) hx hb dX4_takeTop_19 (by decide) (fun c_19 => ?_) (fun c_19 => ?_)
    · have hF := hF.trans (if_neg c_19)
      refine lv_aload_n hx hb dX4_takeTop_25 rfl (lv_at hl 1 rfl) ?_
      refine va_get (D := D) (ci := 4) (v := .ref h_spots) (C := RX4) (T := TX4) (N := 2) hx hb hts inX4 hown hK.1 hW.1 0 rfl rfl 0 (by decide) (hts _ tw90) (fun _ h9 => h9) rfl dX4_takeTop_26 ?_
      refine lv_iload_n hx hb dX4_takeTop_29 rfl (lv_at hl 0 rfl) ?_
      refine lv_bipush (v := 24) hx hb dX4_takeTop_30 (by decide) ?_
      refine va_iast (a := h_spots) (n := 8) (f := spots) hx hb hK.1 hW.1 hW.2 hS 1 0 rfl rfl (vin_isSlip c_19) dX4_takeTop_32 (fun H locs hP hD hS => ?_)
      have hW : va_P D cls9 [(h, .inr (4, [.ref h_spots, .int night])), (h_spots, .inl (cI, 8, .inl (upd spots (D_X4_topOf spots p0).toNatClampNeg (24 : Int32))))] H ∧ va_D A [(h, .inr (4, [.ref h_spots, .int night])), (h_spots, .inl (cI, 8, .inl (upd spots (D_X4_topOf spots p0).toNatClampNeg (24 : Int32))))] := ⟨hP, hD⟩
      refine lv_iload_n hx hb dX4_takeTop_33 rfl (lv_at hl 0 rfl) ?_
      exact retI hQ hx hb hr hlk hK hW hS (by rw [hF]) (by rw [hF]) dX4_takeTop_34
    · have hF := hF.trans (if_pos c_19)
      refine lv_bipush (v := -3) hx hb dX4_takeTop_22 (by decide) ?_
      exact retI hQ hx hb hr hlk hK hW hS (by rw [hF]) (by rw [hF]) dX4_takeTop_24
  · have hF := hF.trans (if_pos c_4)
    refine lv_iconst (v := -1) hx hb dX4_takeTop_7 (by decide) ?_
    exact retI hQ hx hb hr hlk hK hW hS (by rw [hF]) (by rw [hF]) dX4_takeTop_8
abbrev rm_X4_tearUp : Room := { frames := 2, cells := 0, slots := 0, locals := 44 }
set_option maxHeartbeats 4000000 in
set_option maxRecDepth 100000 in
theorem c_X4_tearUp (l : Launch) (D : va_G) (cI cJ cZ : ClassId) (h h_spots : Nat) (spots : Nat → Int32) (night : Int32) (p0 : Int32) : CT l D (tys3 cI cJ cZ) yX4_tearUp cX4_tearUp 2 (some .int) rm_X4_tearUp [.ref h, .int p0] [(h, .inr (4, [.ref h_spots, .int night])), (h_spots, .inl (cI, 8, .inl spots))] (some (.int (D_X4_tearUp spots p0).1)) [(h, .inr (4, [.ref h_spots, .int night])), (h_spots, .inl (cI, 8, .inl (D_X4_tearUp spots p0).2))] := by
  refine CT.of (by decide) (Nat.le_of_ble_eq_true rfl) ?_
  intro p e s m args below meth c A Q ls hQ hx hb hr hml hown hts hlk hK hA hW hS hl
  have hl : lv_has ls 2 [(0, .ref h), (1, .int p0)] := hl
  have hF := (D_X4_tearUp.eq_1 spots p0)
  refine lv_iload_n hx hb dX4_tearUp_0 rfl (lv_at hl 1 rfl) ?_
  refine cSN (own := RX4) (As := [.int p0]) (rest := []) (c_X7_isSlip l D cI cJ cZ p0) [] hx hb hml hown hts hK hA hW hS tw288 tw286 tw287 tw39 hv_X7_isSlip.2 ⟨Nat.le_of_ble_eq_true rfl, Nat.le_of_ble_eq_true rfl⟩ ⟨rfl, rfl⟩ ⟨Nat.zero_le _, Nat.zero_le _⟩ rfl [] rfl rfl (by decide) hl.1 rfl (Nat.le_of_ble_eq_true rfl) dX4_tearUp_1 (fun H locs hW hS => ?_)
  have hW : va_P D cls9 [(h, .inr (4, [.ref h_spots, .int night])), (h_spots, .inl (cI, 8, .inl spots))] H ∧ va_D A [(h, .inr (4, [.ref h_spots, .int night])), (h_spots, .inl (cI, 8, .inl spots))] := hW
  refine lv_if_ne (tgt := 9) hx hb dX4_tearUp_4 (by decide) (fun c_4 => ?_) (fun c_4 => ?_)
  · have hF := hF.trans (if_neg c_4)
    refine lv_aload_n hx hb dX4_tearUp_9 rfl (lv_at hl 0 rfl) ?_
    refine va_get (D := D) (ci := 4) (v := .ref h_spots) (C := RX4) (T := TX4) (N := 2) hx hb hts inX4 hown hK.1 hW.1 0 rfl rfl 0 (by decide) (hts _ tw90) (fun _ h9 => h9) rfl dX4_tearUp_10 ?_
    refine lv_iload_n hx hb dX4_tearUp_13 rfl (lv_at hl 1 rfl) ?_
    refine va_iald (a := h_spots) (n := 8) (f := spots) hx hb hK.1 hW.1 1 0 rfl rfl (vin_isSlip c_4) dX4_tearUp_14 ?_
    refine lv_bipush (v := 24) hx hb dX4_tearUp_15 (by decide) ?_
    refine lv_icmp_eq (tgt := 23) hx hb dX4_tearUp_17 (by decide) (fun c_17 => ?_) (fun c_17 => ?_)
    · have hF := hF.trans (if_pos c_17)
      refine lv_aload_n hx hb dX4_tearUp_23 rfl (lv_at hl 0 rfl) ?_
      refine va_get (D := D) (ci := 4) (v := .ref h_spots) (C := RX4) (T := TX4) (N := 2) hx hb hts inX4 hown hK.1 hW.1 0 rfl rfl 0 (by decide) (hts _ tw90) (fun _ h9 => h9) rfl dX4_tearUp_24 ?_
      refine lv_iload_n hx hb dX4_tearUp_27 rfl (lv_at hl 1 rfl) ?_
      refine lv_bipush (v := 25) hx hb dX4_tearUp_28 (by decide) ?_
      refine va_iast (a := h_spots) (n := 8) (f := spots) hx hb hK.1 hW.1 hW.2 hS 1 0 rfl rfl (vin_isSlip c_4) dX4_tearUp_30 (fun H locs hP hD hS => ?_)
      have hW : va_P D cls9 [(h, .inr (4, [.ref h_spots, .int night])), (h_spots, .inl (cI, 8, .inl (upd spots p0.toNatClampNeg (25 : Int32))))] H ∧ va_D A [(h, .inr (4, [.ref h_spots, .int night])), (h_spots, .inl (cI, 8, .inl (upd spots p0.toNatClampNeg (25 : Int32))))] := ⟨hP, hD⟩
      refine lv_aload_n hx hb dX4_tearUp_31 rfl (lv_at hl 0 rfl) ?_
      refine cVa (own := RX4) (As := []) (rest := []) (c_X4_gone l D cI cJ cZ h h_spots (upd spots p0.toNatClampNeg (25 : Int32)) night) 4 0 hx hb hml hown hts hK hA hW hS tw357 tw467 tw355 tw356 tw42 hv_X4_gone ⟨Nat.le_of_ble_eq_true rfl, Nat.le_of_ble_eq_true rfl⟩ ⟨rfl, rfl⟩ ⟨Nat.zero_le _, Nat.zero_le _⟩ rfl rfl hl.1 rfl (Nat.le_of_ble_eq_true rfl) dX4_tearUp_32 (fun H locs hW hS => ?_)
      have hW : va_P D cls9 [(h, .inr (4, [.ref h_spots, .int night])), (h_spots, .inl (cI, 8, .inl (upd spots p0.toNatClampNeg (25 : Int32))))] H ∧ va_D A [(h, .inr (4, [.ref h_spots, .int night])), (h_spots, .inl (cI, 8, .inl (upd spots p0.toNatClampNeg (25 : Int32))))] := hW
      refine cS (own := RX4) (As := [.int (D_X4_gone (upd spots p0.toNatClampNeg (25 : Int32)))]) (rest := []) (c_J6_bitCount_0f7a4 l D cI cJ cZ (D_X4_gone (upd spots p0.toNatClampNeg (25 : Int32)))) [] hx hb hml hown hts hK hA hW hS tw296 tw294 tw295 tw48 hv_J6_bitCount_0f7a4.2 ⟨Nat.le_of_ble_eq_true rfl, Nat.le_of_ble_eq_true rfl⟩ ⟨rfl, rfl⟩ ⟨Nat.zero_le _, Nat.zero_le _⟩ rfl [] rfl rfl (by decide) hl.1 rfl (Nat.le_of_ble_eq_true rfl) dX4_tearUp_35 (fun H locs hW hS => ?_)
      have hW : va_P D cls9 [(h, .inr (4, [.ref h_spots, .int night])), (h_spots, .inl (cI, 8, .inl (upd spots p0.toNatClampNeg (25 : Int32))))] H ∧ va_D A [(h, .inr (4, [.ref h_spots, .int night])), (h_spots, .inl (cI, 8, .inl (upd spots p0.toNatClampNeg (25 : Int32))))] := hW
      exact retI hQ hx hb hr hlk hK hW hS (by rw [hF]) (by rw [hF]) dX4_tearUp_38
    · have hF := hF.trans (if_neg c_17)
      refine lv_bipush (v := -3) hx hb dX4_tearUp_20 (by decide) ?_
      exact retI hQ hx hb hr hlk hK hW hS (by rw [hF]) (by rw [hF]) dX4_tearUp_22
  · have hF := hF.trans (if_pos c_4)
    refine lv_iconst (v := -1) hx hb dX4_tearUp_7 (by decide) ?_
    exact retI hQ hx hb hr hlk hK hW hS (by rw [hF]) (by rw [hF]) dX4_tearUp_8
abbrev rm_X4_forgeAnew : Room := { frames := 2, cells := 0, slots := 0, locals := 44 }
set_option maxHeartbeats 4000000 in
set_option maxRecDepth 100000 in
theorem c_X4_forgeAnew (l : Launch) (D : va_G) (cI cJ cZ : ClassId) (h h_spots : Nat) (spots : Nat → Int32) (night : Int32) (p0 : Int32) : CT l D (tys3 cI cJ cZ) yX4_forgeAnew cX4_forgeAnew 2 (some .int) rm_X4_forgeAnew [.ref h, .int p0] [(h, .inr (4, [.ref h_spots, .int night])), (h_spots, .inl (cI, 8, .inl spots))] (some (.int (D_X4_forgeAnew spots p0).1)) [(h, .inr (4, [.ref h_spots, .int night])), (h_spots, .inl (cI, 8, .inl (D_X4_forgeAnew spots p0).2))] := by
  refine CT.of (by decide) (Nat.le_of_ble_eq_true rfl) ?_
  intro p e s m args below meth c A Q ls hQ hx hb hr hml hown hts hlk hK hA hW hS hl
  have hl : lv_has ls 2 [(0, .ref h), (1, .int p0)] := hl
  have hF := (D_X4_forgeAnew.eq_1 spots p0)
  refine lv_iload_n hx hb dX4_forgeAnew_0 rfl (lv_at hl 1 rfl) ?_
  refine cSN (own := RX4) (As := [.int p0]) (rest := []) (c_X7_isSlip l D cI cJ cZ p0) [] hx hb hml hown hts hK hA hW hS tw288 tw286 tw287 tw39 hv_X7_isSlip.2 ⟨Nat.le_of_ble_eq_true rfl, Nat.le_of_ble_eq_true rfl⟩ ⟨rfl, rfl⟩ ⟨Nat.zero_le _, Nat.zero_le _⟩ rfl [] rfl rfl (by decide) hl.1 rfl (Nat.le_of_ble_eq_true rfl) dX4_forgeAnew_1 (fun H locs hW hS => ?_)
  have hW : va_P D cls9 [(h, .inr (4, [.ref h_spots, .int night])), (h_spots, .inl (cI, 8, .inl spots))] H ∧ va_D A [(h, .inr (4, [.ref h_spots, .int night])), (h_spots, .inl (cI, 8, .inl spots))] := hW
  refine lv_if_ne (tgt := 9) hx hb dX4_forgeAnew_4 (by decide) (fun c_4 => ?_) (fun c_4 => ?_)
  · have hF := hF.trans (if_neg c_4)
    refine lv_aload_n hx hb dX4_forgeAnew_9 rfl (lv_at hl 0 rfl) ?_
    refine va_get (D := D) (ci := 4) (v := .ref h_spots) (C := RX4) (T := TX4) (N := 2) hx hb hts inX4 hown hK.1 hW.1 0 rfl rfl 0 (by decide) (hts _ tw90) (fun _ h9 => h9) rfl dX4_forgeAnew_10 ?_
    refine lv_iload_n hx hb dX4_forgeAnew_13 rfl (lv_at hl 1 rfl) ?_
    refine va_iald (a := h_spots) (n := 8) (f := spots) hx hb hK.1 hW.1 1 0 rfl rfl (vin_isSlip c_4) dX4_forgeAnew_14 ?_
    refine lv_bipush (v := 25) hx hb dX4_forgeAnew_15 (by decide) ?_
    refine lv_icmp_eq (tgt := 23) hx hb dX4_forgeAnew_17 (by decide) (fun c_17 => ?_) (fun c_17 => ?_)
    · have hF := hF.trans (if_pos c_17)
      refine lv_aload_n hx hb dX4_forgeAnew_23 rfl (lv_at hl 0 rfl) ?_
      refine va_get (D := D) (ci := 4) (v := .ref h_spots) (C := RX4) (T := TX4) (N := 2) hx hb hts inX4 hown hK.1 hW.1 0 rfl rfl 0 (by decide) (hts _ tw90) (fun _ h9 => h9) rfl dX4_forgeAnew_24 ?_
      refine lv_iload_n hx hb dX4_forgeAnew_27 rfl (lv_at hl 1 rfl) ?_
      refine lv_bipush (v := 24) hx hb dX4_forgeAnew_28 (by decide) ?_
      refine va_iast (a := h_spots) (n := 8) (f := spots) hx hb hK.1 hW.1 hW.2 hS 1 0 rfl rfl (vin_isSlip c_4) dX4_forgeAnew_30 (fun H locs hP hD hS => ?_)
      have hW : va_P D cls9 [(h, .inr (4, [.ref h_spots, .int night])), (h_spots, .inl (cI, 8, .inl (upd spots p0.toNatClampNeg (24 : Int32))))] H ∧ va_D A [(h, .inr (4, [.ref h_spots, .int night])), (h_spots, .inl (cI, 8, .inl (upd spots p0.toNatClampNeg (24 : Int32))))] := ⟨hP, hD⟩
      refine lv_aload_n hx hb dX4_forgeAnew_31 rfl (lv_at hl 0 rfl) ?_
      refine cVa (own := RX4) (As := []) (rest := []) (c_X4_gone l D cI cJ cZ h h_spots (upd spots p0.toNatClampNeg (24 : Int32)) night) 4 0 hx hb hml hown hts hK hA hW hS tw357 tw467 tw355 tw356 tw42 hv_X4_gone ⟨Nat.le_of_ble_eq_true rfl, Nat.le_of_ble_eq_true rfl⟩ ⟨rfl, rfl⟩ ⟨Nat.zero_le _, Nat.zero_le _⟩ rfl rfl hl.1 rfl (Nat.le_of_ble_eq_true rfl) dX4_forgeAnew_32 (fun H locs hW hS => ?_)
      have hW : va_P D cls9 [(h, .inr (4, [.ref h_spots, .int night])), (h_spots, .inl (cI, 8, .inl (upd spots p0.toNatClampNeg (24 : Int32))))] H ∧ va_D A [(h, .inr (4, [.ref h_spots, .int night])), (h_spots, .inl (cI, 8, .inl (upd spots p0.toNatClampNeg (24 : Int32))))] := hW
      refine cS (own := RX4) (As := [.int (D_X4_gone (upd spots p0.toNatClampNeg (24 : Int32)))]) (rest := []) (c_J6_bitCount_0f7a4 l D cI cJ cZ (D_X4_gone (upd spots p0.toNatClampNeg (24 : Int32)))) [] hx hb hml hown hts hK hA hW hS tw296 tw294 tw295 tw48 hv_J6_bitCount_0f7a4.2 ⟨Nat.le_of_ble_eq_true rfl, Nat.le_of_ble_eq_true rfl⟩ ⟨rfl, rfl⟩ ⟨Nat.zero_le _, Nat.zero_le _⟩ rfl [] rfl rfl (by decide) hl.1 rfl (Nat.le_of_ble_eq_true rfl) dX4_forgeAnew_35 (fun H locs hW hS => ?_)
      have hW : va_P D cls9 [(h, .inr (4, [.ref h_spots, .int night])), (h_spots, .inl (cI, 8, .inl (upd spots p0.toNatClampNeg (24 : Int32))))] H ∧ va_D A [(h, .inr (4, [.ref h_spots, .int night])), (h_spots, .inl (cI, 8, .inl (upd spots p0.toNatClampNeg (24 : Int32))))] := hW
      exact retI hQ hx hb hr hlk hK hW hS (by rw [hF]) (by rw [hF]) dX4_forgeAnew_38
    · have hF := hF.trans (if_neg c_17)
      refine lv_bipush (v := -3) hx hb dX4_forgeAnew_20 (by decide) ?_
      exact retI hQ hx hb hr hlk hK hW hS (by rw [hF]) (by rw [hF]) dX4_forgeAnew_22
  · have hF := hF.trans (if_pos c_4)
    refine lv_iconst (v := -1) hx hb dX4_forgeAnew_7 (by decide) ?_
    exact retI hQ hx hb hr hlk hK hW hS (by rw [hF]) (by rw [hF]) dX4_forgeAnew_8
abbrev rm_X4_loseLowest : Room := { frames := 2, cells := 0, slots := 0, locals := 41 }
set_option maxHeartbeats 4000000 in
set_option maxRecDepth 100000 in
theorem c_X4_loseLowest (l : Launch) (D : va_G) (cI cJ cZ : ClassId) (h h_spots : Nat) (spots : Nat → Int32) (night : Int32) (p0 : Int32) : CT l D (tys3 cI cJ cZ) yX4_loseLowest cX4_loseLowest 3 none rm_X4_loseLowest [.ref h, .int p0] [(h, .inr (4, [.ref h_spots, .int night])), (h_spots, .inl (cI, 8, .inl spots))] none [(h, .inr (4, [.ref h_spots, .int night])), (h_spots, .inl (cI, 8, .inl (D_X4_loseLowest spots p0)))] := by
  refine CT.of (by decide) (Nat.le_of_ble_eq_true rfl) ?_
  intro p e s m args below meth c A Q ls hQ hx hb hr hml hown hts hlk hK hA hW hS hl
  have hl : lv_has ls 3 [(0, .ref h), (1, .int p0)] := hl
  have hF := (D_X4_loseLowest.eq_1 spots p0)
  refine lv_iconst (v := 0) hx hb dX4_loseLowest_0 (by decide) ?_
  refine lv_istore_n (lv' := [(2, .int (0 : Int32)), (0, .ref h), (1, .int p0)]) hx hb dX4_loseLowest_1 rfl hl (by decide) rfl (fun ls hl => ?_)
  have L2 : ∀ (n i2 : Nat), i2 + n = 8 → ∀ (spots_2 : Nat → Int32), (D_X4_loseLowest_l2 p0 spots i2) = spots_2 → ∀ (H : Heap) (locs : List Loc), (va_P D cls9 [(h, .inr (4, [.ref h_spots, .int night])), (h_spots, .inl (cI, 8, .inl spots_2))] H ∧ va_D A [(h, .inr (4, [.ref h_spots, .int night])), (h_spots, .inl (cI, 8, .inl spots_2))]) → va_S A s.heap H locs → ∀ (ls : Array Slot), lv_has ls 3 [(2, .int (nI i2)), (0, .ref h), (1, .int p0)] → W p l e rm_X4_loseLowest s m args below meth c H locs 0 0 Q (F0 m 2 ls []) := by
    intro n
    induction n with
    | zero =>
      intro i2 hi spots_2 hacc H locs hW hS ls hl
      obtain rfl : i2 = 8 := by omega
      have hF : (D_X4_loseLowest spots p0) = (D_X4_loseLowest_k2 spots_2) := hF.trans (by rw [hacc])
      have hF := hF.trans ((D_X4_loseLowest_k2.eq_1 spots_2))
      refine lv_iload_n hx hb dX4_loseLowest_2 rfl (lv_at hl 0 rfl) ?_
      refine lv_bipush (v := 8) hx hb dX4_loseLowest_3 (by decide) ?_
      refine lv_icmp_ge (tgt := 50) hx hb dX4_loseLowest_5 (by decide) (fun c_5 => ?_) (fun c_5 => ?_)
      · exact retV hQ hx hb hr hlk hK hW hS (rfl) (by rw [hF]) dX4_loseLowest_50
      · exact absurd (by decide) c_5
    | succ n ih =>
      intro i2 hi spots_2 hacc H locs hW hS ls hl
      have hB2 : (D_X4_loseLowest_l2 p0 spots (i2 + 1)) = (D_X4_loseLowest_b2 p0 i2 spots_2) := by show (D_X4_loseLowest_b2 p0 i2 (D_X4_loseLowest_l2 p0 spots i2)) = _; rw [hacc]
      have hB2 := hB2.trans ((D_X4_loseLowest_b2.eq_1 p0 i2 spots_2))
      refine lv_iload_n hx hb dX4_loseLowest_2 rfl (lv_at hl 0 rfl) ?_
      refine lv_bipush (v := 8) hx hb dX4_loseLowest_3 (by decide) ?_
      refine lv_icmp_ge (tgt := 50) hx hb dX4_loseLowest_5 (by decide) (fun c_5 => ?_) (fun c_5 => ?_)
      · exact absurd c_5 (cl_ltc (B := (8 : Int32)) (N := 8) (k := i2) (by decide) (by omega) (by decide))
      · refine lv_aload_n hx hb dX4_loseLowest_8 rfl (lv_at hl 1 rfl) ?_
        refine lv_iload_n hx hb dX4_loseLowest_9 rfl (lv_at hl 0 rfl) ?_
        refine cVa (own := RX4) (As := [.int (nI i2)]) (rest := []) (c_X4_spikeOf l D cI cJ cZ h h_spots spots_2 night (nI i2)) 4 0 hx hb hml hown hts hK hA hW hS tw382 tw391 tw380 tw381 tw42 hv_X4_spikeOf ⟨Nat.le_of_ble_eq_true rfl, Nat.le_of_ble_eq_true rfl⟩ ⟨rfl, rfl⟩ ⟨Nat.zero_le _, Nat.zero_le _⟩ rfl rfl hl.1 rfl (Nat.le_of_ble_eq_true rfl) dX4_loseLowest_10 (fun H locs hW hS => ?_)
        have hW : va_P D cls9 [(h, .inr (4, [.ref h_spots, .int night])), (h_spots, .inl (cI, 8, .inl spots_2))] H ∧ va_D A [(h, .inr (4, [.ref h_spots, .int night])), (h_spots, .inl (cI, 8, .inl spots_2))] := hW
        refine lv_iload_n hx hb dX4_loseLowest_13 rfl (lv_at hl 2 rfl) ?_
        refine lv_icmp_ne (tgt := 44) hx hb dX4_loseLowest_14 (by decide) (fun c_14 => ?_) (fun c_14 => ?_)
        · have hB2 := hB2.trans (if_neg c_14)
          refine lv_iinc (v := (nI (i2 + 1))) (lv' := [(2, .int (nI (i2 + 1))), (0, .ref h), (1, .int p0)]) hx hb dX4_loseLowest_44 hl (k := 0) rfl (nI_1 _) (by decide) rfl (fun ls hl => ?_)
          refine lv_goto (tgt := 2) hx hb dX4_loseLowest_47 (by decide) ?_
          exact ih (i2 + 1) (by omega) spots_2 hB2 _ _ hW hS _ (lv_sub hl [0, 1, 2] rfl)
        · have hB2 := hB2.trans (if_pos c_14)
          refine lv_aload_n hx hb dX4_loseLowest_17 rfl (lv_at hl 1 rfl) ?_
          refine va_get (D := D) (ci := 4) (v := .ref h_spots) (C := RX4) (T := TX4) (N := 2) hx hb hts inX4 hown hK.1 hW.1 0 rfl rfl 0 (by decide) (hts _ tw90) (fun _ h9 => h9) rfl dX4_loseLowest_18 ?_
          refine lv_iload_n hx hb dX4_loseLowest_21 rfl (lv_at hl 0 rfl) ?_
          refine lv_aload_n hx hb dX4_loseLowest_22 rfl (lv_at hl 1 rfl) ?_
          refine lv_iload_n hx hb dX4_loseLowest_23 rfl (lv_at hl 0 rfl) ?_
          refine cVa (own := RX4) (As := [.int (nI i2)]) (rest := [.int (nI i2), .ref h_spots]) (c_X4_heightOf l D cI cJ cZ h h_spots spots_2 night (nI i2)) 4 0 hx hb hml hown hts hK hA hW hS tw386 tw410 tw384 tw385 tw42 hv_X4_heightOf ⟨Nat.le_of_ble_eq_true rfl, Nat.le_of_ble_eq_true rfl⟩ ⟨rfl, rfl⟩ ⟨Nat.zero_le _, Nat.zero_le _⟩ rfl rfl hl.1 rfl (Nat.le_of_ble_eq_true rfl) dX4_loseLowest_24 (fun H locs hW hS => ?_)
          have hW : va_P D cls9 [(h, .inr (4, [.ref h_spots, .int night])), (h_spots, .inl (cI, 8, .inl spots_2))] H ∧ va_D A [(h, .inr (4, [.ref h_spots, .int night])), (h_spots, .inl (cI, 8, .inl spots_2))] := hW
          have J43 : ∀ (y43_0 : Int32), (D_X4_loseLowest_l2 p0 spots (i2 + 1)) = (D_X4_loseLowest_j43 spots_2 i2 y43_0) → ∀ (H : Heap) (locs : List Loc), (va_P D cls9 [(h, .inr (4, [.ref h_spots, .int night])), (h_spots, .inl (cI, 8, .inl spots_2))] H ∧ va_D A [(h, .inr (4, [.ref h_spots, .int night])), (h_spots, .inl (cI, 8, .inl spots_2))]) → va_S A s.heap H locs → ∀ (ls : Array Slot), lv_has ls 3 [(2, .int (nI i2)), (0, .ref h), (1, .int p0)] → W p l e rm_X4_loseLowest s m args below meth c H locs 0 0 Q (F0 m 43 ls [.int y43_0, .int (nI i2), .ref h_spots]) := by
            intro y43_0 hB2 H locs hW hS ls hl
            have hB2 := hB2.trans ((D_X4_loseLowest_j43.eq_1 spots_2 i2 y43_0))
            refine va_iast (a := h_spots) (n := 8) (f := spots_2) hx hb hK.1 hW.1 hW.2 hS 1 0 rfl rfl (vp_in_nI (by omega) (by decide)) dX4_loseLowest_43 (fun H locs hP hD hS => ?_)
            have hW : va_P D cls9 [(h, .inr (4, [.ref h_spots, .int night])), (h_spots, .inl (cI, 8, .inl (upd spots_2 (nI i2).toNatClampNeg y43_0)))] H ∧ va_D A [(h, .inr (4, [.ref h_spots, .int night])), (h_spots, .inl (cI, 8, .inl (upd spots_2 (nI i2).toNatClampNeg y43_0)))] := ⟨hP, hD⟩
            refine lv_iinc (v := (nI (i2 + 1))) (lv' := [(2, .int (nI (i2 + 1))), (0, .ref h), (1, .int p0)]) hx hb dX4_loseLowest_44 hl (k := 0) rfl (nI_1 _) (by decide) rfl (fun ls hl => ?_)
            refine lv_goto (tgt := 2) hx hb dX4_loseLowest_47 (by decide) ?_
            exact ih (i2 + 1) (by omega) (upd spots_2 (nI i2).toNatClampNeg y43_0) hB2 _ _ hW hS _ (lv_sub hl [0, 1, 2] rfl)
          refine lv_if_ne (tgt := 35) hx hb dX4_loseLowest_27 (by decide) (fun c_27 => ?_) (fun c_27 => ?_)
          · have hB2 := hB2.trans (if_neg c_27)
            refine lv_aload_n hx hb dX4_loseLowest_35 rfl (lv_at hl 1 rfl) ?_
            refine va_get (D := D) (ci := 4) (v := .ref h_spots) (C := RX4) (T := TX4) (N := 2) hx hb hts inX4 hown hK.1 hW.1 0 rfl rfl 0 (by decide) (hts _ tw90) (fun _ h9 => h9) rfl dX4_loseLowest_36 ?_
            refine lv_iload_n hx hb dX4_loseLowest_39 rfl (lv_at hl 0 rfl) ?_
            refine va_iald (a := h_spots) (n := 8) (f := spots_2) hx hb hK.1 hW.1 1 0 rfl rfl (vp_in_nI (by omega) (by decide)) dX4_loseLowest_40 ?_
            refine lv_iconst (v := 1) hx hb dX4_loseLowest_41 (by decide) ?_
            refine lv_isub hx hb dX4_loseLowest_42 ?_
            exact J43 ((spots_2 (nI i2).toNatClampNeg) - (1 : Int32)) hB2 _ _ hW hS _ (lv_sub hl [0, 1, 2] rfl)
          · have hB2 := hB2.trans (if_pos c_27)
            refine lv_bipush (v := 25) hx hb dX4_loseLowest_30 (by decide) ?_
            refine lv_goto (tgt := 43) hx hb dX4_loseLowest_32 (by decide) ?_
            exact J43 (25 : Int32) hB2 _ _ hW hS _ (lv_sub hl [0, 1, 2] rfl)
  exact L2 8 0 (by omega) spots rfl _ _ hW hS _ (lv_sub hl [0, 1, 2] rfl)
abbrev rm_X4_letMiceIn : Room := { frames := 3, cells := 0, slots := 0, locals := 63 }
set_option maxHeartbeats 4000000 in
set_option maxRecDepth 100000 in
theorem c_X4_letMiceIn (l : Launch) (D : va_G) (cI cJ cZ : ClassId) (h h_spots : Nat) (spots : Nat → Int32) (night : Int32) : CT l D (tys3 cI cJ cZ) yX4_letMiceIn cX4_letMiceIn 3 (some .int) rm_X4_letMiceIn [.ref h] [(h, .inr (4, [.ref h_spots, .int night])), (h_spots, .inl (cI, 8, .inl spots))] (some (.int (D_X4_letMiceIn spots night).1)) [(h, .inr (4, [.ref h_spots, .int (D_X4_letMiceIn spots night).2.2])), (h_spots, .inl (cI, 8, .inl (D_X4_letMiceIn spots night).2.1))] := by
  refine CT.of (by decide) (Nat.le_of_ble_eq_true rfl) ?_
  intro p e s m args below meth c A Q ls hQ hx hb hr hml hown hts hlk hK hA hW hS hl
  have hl : lv_has ls 3 [(0, .ref h)] := hl
  have hF := (D_X4_letMiceIn.eq_1 spots night)
  refine lv_iconst (v := 0) hx hb dX4_letMiceIn_0 (by decide) ?_
  refine lv_istore_n (lv' := [(1, .int (0 : Int32)), (0, .ref h)]) hx hb dX4_letMiceIn_1 rfl hl (by decide) rfl (fun ls hl => ?_)
  refine lv_iconst (v := 0) hx hb dX4_letMiceIn_2 (by decide) ?_
  refine lv_istore_n (lv' := [(2, .int (0 : Int32)), (1, .int (0 : Int32)), (0, .ref h)]) hx hb dX4_letMiceIn_3 rfl hl (by decide) rfl (fun ls hl => ?_)
  have L4 : ∀ (n i4 : Nat), i4 + n = 3 → ∀ (a4_1 : Int32) (spots_4 : Nat → Int32), (D_X4_letMiceIn_l4 (0 : Int32) spots i4) = (a4_1, spots_4) → ∀ (H : Heap) (locs : List Loc), (va_P D cls9 [(h, .inr (4, [.ref h_spots, .int night])), (h_spots, .inl (cI, 8, .inl spots_4))] H ∧ va_D A [(h, .inr (4, [.ref h_spots, .int night])), (h_spots, .inl (cI, 8, .inl spots_4))]) → va_S A s.heap H locs → ∀ (ls : Array Slot), lv_has ls 3 [(2, .int (nI i4)), (0, .ref h), (1, .int a4_1)] → W p l e rm_X4_letMiceIn s m args below meth c H locs 0 0 Q (F0 m 4 ls []) := by
    intro n
    induction n with
    | zero =>
      intro i4 hi a4_1 spots_4 hacc H locs hW hS ls hl
      obtain rfl : i4 = 3 := by omega
      have hF : (D_X4_letMiceIn spots night) = (D_X4_letMiceIn_k4 night a4_1 spots_4) := hF.trans (by rw [hacc])
      have hF := hF.trans ((D_X4_letMiceIn_k4.eq_1 night a4_1 spots_4))
      refine lv_iload_n hx hb dX4_letMiceIn_4 rfl (lv_at hl 0 rfl) ?_
      refine lv_iconst (v := 3) hx hb dX4_letMiceIn_5 (by decide) ?_
      refine lv_icmp_ge (tgt := 32) hx hb dX4_letMiceIn_6 (by decide) (fun c_6 => ?_) (fun c_6 => ?_)
      · refine lv_aload_n hx hb dX4_letMiceIn_32 rfl (lv_at hl 1 rfl) ?_
        refine lv_dup hx hb dX4_letMiceIn_33 rfl ?_
        refine va_get (D := D) (ci := 4) (v := .int night) (C := RX4) (T := TX4) (N := 2) hx hb hts inX4 hown hK.1 hW.1 0 rfl rfl 1 (by decide) (hts _ tw91) (fun _ h9 => h9) rfl dX4_letMiceIn_34 ?_
        refine lv_iconst (v := 1) hx hb dX4_letMiceIn_37 (by decide) ?_
        refine lv_iadd hx hb dX4_letMiceIn_38 ?_
        refine va_put (D := D) (ci := 4) (v := .int (night + (1 : Int32))) (ty := .int) (C := RX4) (T := TX4) (N := 2) hx hb hts inX4 tyX4 tyX4_ok nmX4 hown hK.1 hW.1 hW.2 hS 0 rfl rfl 1 (by decide) (hts _ tw91) (fun _ h9 => h9) rfl (tyX4_ok 1 (by decide)) rfl rfl (Nat.le_of_ble_eq_true rfl) dX4_letMiceIn_39 (fun H locs hP hD hS => ?_)
        have hW : va_P D cls9 [(h, .inr (4, [.ref h_spots, .int (night + (1 : Int32))])), (h_spots, .inl (cI, 8, .inl spots_4))] H ∧ va_D A [(h, .inr (4, [.ref h_spots, .int (night + (1 : Int32))])), (h_spots, .inl (cI, 8, .inl spots_4))] := ⟨hP, hD⟩
        refine lv_iload_n hx hb dX4_letMiceIn_42 rfl (lv_at hl 2 rfl) ?_
        exact retI hQ hx hb hr hlk hK hW hS (by rw [hF]) (by rw [hF]) dX4_letMiceIn_43
      · exact absurd (by decide) c_6
    | succ n ih =>
      intro i4 hi a4_1 spots_4 hacc H locs hW hS ls hl
      have hB4 : (D_X4_letMiceIn_l4 (0 : Int32) spots (i4 + 1)) = (D_X4_letMiceIn_b4 i4 a4_1 spots_4) := by show (D_X4_letMiceIn_b4 i4 ((D_X4_letMiceIn_l4 (0 : Int32) spots i4).1) ((D_X4_letMiceIn_l4 (0 : Int32) spots i4).2)) = _; rw [hacc]
      have hB4 := hB4.trans ((D_X4_letMiceIn_b4.eq_1 i4 a4_1 spots_4))
      refine lv_iload_n hx hb dX4_letMiceIn_4 rfl (lv_at hl 0 rfl) ?_
      refine lv_iconst (v := 3) hx hb dX4_letMiceIn_5 (by decide) ?_
      refine lv_icmp_ge (tgt := 32) hx hb dX4_letMiceIn_6 (by decide) (fun c_6 => ?_) (fun c_6 => ?_)
      · exact absurd c_6 (cl_ltc (B := (3 : Int32)) (N := 3) (k := i4) (by decide) (by omega) (by decide))
      · refine lv_aload_n hx hb dX4_letMiceIn_9 rfl (lv_at hl 1 rfl) ?_
        refine lv_iload_n hx hb dX4_letMiceIn_10 rfl (lv_at hl 0 rfl) ?_
        refine cVa (own := RX4) (As := [.int (nI i4)]) (rest := []) (c_X4_countOn l D cI cJ cZ h h_spots spots_4 night (nI i4)) 4 0 hx hb hml hown hts hK hA hW hS tw293 tw290 tw291 tw292 tw42 hv_X4_countOn ⟨Nat.le_of_ble_eq_true rfl, Nat.le_of_ble_eq_true rfl⟩ ⟨rfl, rfl⟩ ⟨Nat.zero_le _, Nat.zero_le _⟩ rfl rfl hl.1 rfl (Nat.le_of_ble_eq_true rfl) dX4_letMiceIn_11 (fun H locs hW hS => ?_)
        have hW : va_P D cls9 [(h, .inr (4, [.ref h_spots, .int night])), (h_spots, .inl (cI, 8, .inl spots_4))] H ∧ va_D A [(h, .inr (4, [.ref h_spots, .int night])), (h_spots, .inl (cI, 8, .inl spots_4))] := hW
        refine lv_iconst (v := 3) hx hb dX4_letMiceIn_14 (by decide) ?_
        refine lv_icmp_lt (tgt := 26) hx hb dX4_letMiceIn_15 (by decide) (fun c_15 => ?_) (fun c_15 => ?_)
        · have hB4 := hB4.trans (if_pos c_15)
          refine lv_iinc (v := (nI (i4 + 1))) (lv' := [(2, .int (nI (i4 + 1))), (0, .ref h), (1, .int a4_1)]) hx hb dX4_letMiceIn_26 hl (k := 0) rfl (nI_1 _) (by decide) rfl (fun ls hl => ?_)
          refine lv_goto (tgt := 4) hx hb dX4_letMiceIn_29 (by decide) ?_
          exact ih (i4 + 1) (by omega) a4_1 spots_4 hB4 _ _ hW hS _ (lv_sub hl [0, 1, 2] rfl)
        · have hB4 := hB4.trans (if_neg c_15)
          refine lv_aload_n hx hb dX4_letMiceIn_18 rfl (lv_at hl 1 rfl) ?_
          refine lv_iload_n hx hb dX4_letMiceIn_19 rfl (lv_at hl 0 rfl) ?_
          refine cVa (own := RX4) (As := [.int (nI i4)]) (rest := []) (c_X4_loseLowest l D cI cJ cZ h h_spots spots_4 night (nI i4)) 4 0 hx hb hml hown hts hK hA hW hS tw487 tw484 tw486 tw12 tw42 hv_X4_loseLowest ⟨Nat.le_of_ble_eq_true rfl, Nat.le_of_ble_eq_true rfl⟩ ⟨rfl, rfl⟩ ⟨Nat.zero_le _, Nat.zero_le _⟩ rfl rfl hl.1 rfl (Nat.le_of_ble_eq_true rfl) dX4_letMiceIn_20 (fun H locs hW hS => ?_)
          have hW : va_P D cls9 [(h, .inr (4, [.ref h_spots, .int night])), (h_spots, .inl (cI, 8, .inl (D_X4_loseLowest spots_4 (nI i4))))] H ∧ va_D A [(h, .inr (4, [.ref h_spots, .int night])), (h_spots, .inl (cI, 8, .inl (D_X4_loseLowest spots_4 (nI i4))))] := hW
          refine lv_iinc (v := (a4_1 + (1 : Int32))) (lv' := [(1, .int (a4_1 + (1 : Int32))), (2, .int (nI i4)), (0, .ref h)]) hx hb dX4_letMiceIn_23 hl (k := 2) rfl (rfl) (by decide) rfl (fun ls hl => ?_)
          refine lv_iinc (v := (nI (i4 + 1))) (lv' := [(2, .int (nI (i4 + 1))), (1, .int (a4_1 + (1 : Int32))), (0, .ref h)]) hx hb dX4_letMiceIn_26 hl (k := 1) rfl (nI_1 _) (by decide) rfl (fun ls hl => ?_)
          refine lv_goto (tgt := 4) hx hb dX4_letMiceIn_29 (by decide) ?_
          exact ih (i4 + 1) (by omega) (a4_1 + (1 : Int32)) (D_X4_loseLowest spots_4 (nI i4)) hB4 _ _ hW hS _ (lv_sub hl [0, 2, 1] rfl)
  exact L4 3 0 (by omega) (0 : Int32) spots rfl _ _ hW hS _ (lv_sub hl [0, 2, 1] rfl)
abbrev rm_X4_turnOver : Room := { frames := 4, cells := 0, slots := 0, locals := 85 }
set_option maxHeartbeats 4000000 in
set_option maxRecDepth 100000 in
theorem c_X4_turnOver (l : Launch) (D : va_G) (cI cJ cZ : ClassId) (h h_spots : Nat) (spots : Nat → Int32) (night : Int32) (p0 : Int32) : CT l D (tys3 cI cJ cZ) yX4_turnOver cX4_turnOver 4 (some .int) rm_X4_turnOver [.ref h, .int p0] [(h, .inr (4, [.ref h_spots, .int night])), (h_spots, .inl (cI, 8, .inl spots))] (some (.int (D_X4_turnOver spots p0).1)) [(h, .inr (4, [.ref h_spots, .int night])), (h_spots, .inl (cI, 8, .inl (D_X4_turnOver spots p0).2))] := by
  refine CT.of (by decide) (Nat.le_of_ble_eq_true rfl) ?_
  intro p e s m args below meth c A Q ls hQ hx hb hr hml hown hts hlk hK hA hW hS hl
  have hl : lv_has ls 4 [(0, .ref h), (1, .int p0)] := hl
  have hF := (D_X4_turnOver.eq_1 spots p0)
  refine lv_iload_n hx hb dX4_turnOver_0 rfl (lv_at hl 1 rfl) ?_
  refine cSN (own := RX4) (As := [.int p0]) (rest := []) (c_X7_isSpike l D cI cJ cZ p0) [] hx hb hml hown hts hK hA hW hS tw277 tw289 tw276 tw39 hv_X7_isSpike.2 ⟨Nat.le_of_ble_eq_true rfl, Nat.le_of_ble_eq_true rfl⟩ ⟨rfl, rfl⟩ ⟨Nat.zero_le _, Nat.zero_le _⟩ rfl [] rfl rfl (by decide) hl.1 rfl (Nat.le_of_ble_eq_true rfl) dX4_turnOver_1 (fun H locs hW hS => ?_)
  have hW : va_P D cls9 [(h, .inr (4, [.ref h_spots, .int night])), (h_spots, .inl (cI, 8, .inl spots))] H ∧ va_D A [(h, .inr (4, [.ref h_spots, .int night])), (h_spots, .inl (cI, 8, .inl spots))] := hW
  refine lv_if_ne (tgt := 9) hx hb dX4_turnOver_4 (by decide) (fun c_4 => ?_) (fun c_4 => ?_)
  · have hF := hF.trans (if_neg c_4)
    refine lv_aload_n hx hb dX4_turnOver_9 rfl (lv_at hl 0 rfl) ?_
    refine lv_iload_n hx hb dX4_turnOver_10 rfl (lv_at hl 1 rfl) ?_
    refine cVa (own := RX4) (As := [.int p0]) (rest := []) (c_X4_countOn l D cI cJ cZ h h_spots spots night p0) 4 0 hx hb hml hown hts hK hA hW hS tw293 tw290 tw291 tw292 tw42 hv_X4_countOn ⟨Nat.le_of_ble_eq_true rfl, Nat.le_of_ble_eq_true rfl⟩ ⟨rfl, rfl⟩ ⟨Nat.zero_le _, Nat.zero_le _⟩ rfl rfl hl.1 rfl (Nat.le_of_ble_eq_true rfl) dX4_turnOver_11 (fun H locs hW hS => ?_)
    have hW : va_P D cls9 [(h, .inr (4, [.ref h_spots, .int night])), (h_spots, .inl (cI, 8, .inl spots))] H ∧ va_D A [(h, .inr (4, [.ref h_spots, .int night])), (h_spots, .inl (cI, 8, .inl spots))] := hW
    refine lv_iconst (v := 1) hx hb dX4_turnOver_14 (by decide) ?_
    refine lv_isub hx hb dX4_turnOver_15 ?_
    refine lv_istore_n (lv' := [(2, .int ((D_X4_countOn spots p0) - (1 : Int32))), (0, .ref h), (1, .int p0)]) hx hb dX4_turnOver_16 rfl hl (by decide) rfl (fun ls hl => ?_)
    refine lv_iconst (v := 0) hx hb dX4_turnOver_17 (by decide) ?_
    refine lv_istore_n (lv' := [(3, .int (0 : Int32)), (2, .int ((D_X4_countOn spots p0) - (1 : Int32))), (0, .ref h), (1, .int p0)]) hx hb dX4_turnOver_18 rfl hl (by decide) rfl (fun ls hl => ?_)
    have L19 : ∀ (n i19 : Nat), i19 + n = 8 → ∀ (spots_19 : Nat → Int32), (D_X4_turnOver_l19 p0 spots spots i19) = spots_19 → ∀ (H : Heap) (locs : List Loc), (va_P D cls9 [(h, .inr (4, [.ref h_spots, .int night])), (h_spots, .inl (cI, 8, .inl spots_19))] H ∧ va_D A [(h, .inr (4, [.ref h_spots, .int night])), (h_spots, .inl (cI, 8, .inl spots_19))]) → va_S A s.heap H locs → ∀ (ls : Array Slot), lv_has ls 4 [(3, .int (nI i19)), (0, .ref h), (1, .int p0), (2, .int ((D_X4_countOn spots p0) - (1 : Int32)))] → W p l e rm_X4_turnOver s m args below meth c H locs 0 0 Q (F0 m 19 ls []) := by
      intro n
      induction n with
      | zero =>
        intro i19 hi spots_19 hacc H locs hW hS ls hl
        obtain rfl : i19 = 8 := by omega
        have hF : (D_X4_turnOver spots p0) = (D_X4_turnOver_k19 p0 spots_19) := hF.trans (by rw [hacc])
        have hF := hF.trans ((D_X4_turnOver_k19.eq_1 p0 spots_19))
        refine lv_iload_n hx hb dX4_turnOver_19 rfl (lv_at hl 0 rfl) ?_
        refine lv_bipush (v := 8) hx hb dX4_turnOver_20 (by decide) ?_
        refine lv_icmp_ge (tgt := 58) hx hb dX4_turnOver_22 (by decide) (fun c_22 => ?_) (fun c_22 => ?_)
        · refine lv_aload_n hx hb dX4_turnOver_58 rfl (lv_at hl 1 rfl) ?_
          refine lv_iload_n hx hb dX4_turnOver_59 rfl (lv_at hl 2 rfl) ?_
          refine cVa (own := RX4) (As := [.int p0]) (rest := []) (c_X4_topOf l D cI cJ cZ h h_spots spots_19 night p0) 4 0 hx hb hml hown hts hK hA hW hS tw414 tw458 tw412 tw413 tw42 hv_X4_topOf ⟨Nat.le_of_ble_eq_true rfl, Nat.le_of_ble_eq_true rfl⟩ ⟨rfl, rfl⟩ ⟨Nat.zero_le _, Nat.zero_le _⟩ rfl rfl hl.1 rfl (Nat.le_of_ble_eq_true rfl) dX4_turnOver_60 (fun H locs hW hS => ?_)
          have hW : va_P D cls9 [(h, .inr (4, [.ref h_spots, .int night])), (h_spots, .inl (cI, 8, .inl spots_19))] H ∧ va_D A [(h, .inr (4, [.ref h_spots, .int night])), (h_spots, .inl (cI, 8, .inl spots_19))] := hW
          exact retI hQ hx hb hr hlk hK hW hS (by rw [hF]) (by rw [hF]) dX4_turnOver_63
        · exact absurd (by decide) c_22
      | succ n ih =>
        intro i19 hi spots_19 hacc H locs hW hS ls hl
        have hB19 : (D_X4_turnOver_l19 p0 spots spots (i19 + 1)) = (D_X4_turnOver_b19 p0 spots i19 spots_19) := by show (D_X4_turnOver_b19 p0 spots i19 (D_X4_turnOver_l19 p0 spots spots i19)) = _; rw [hacc]
        have hB19 := hB19.trans ((D_X4_turnOver_b19.eq_1 p0 spots i19 spots_19))
        refine lv_iload_n hx hb dX4_turnOver_19 rfl (lv_at hl 0 rfl) ?_
        refine lv_bipush (v := 8) hx hb dX4_turnOver_20 (by decide) ?_
        refine lv_icmp_ge (tgt := 58) hx hb dX4_turnOver_22 (by decide) (fun c_22 => ?_) (fun c_22 => ?_)
        · exact absurd c_22 (cl_ltc (B := (8 : Int32)) (N := 8) (k := i19) (by decide) (by omega) (by decide))
        · refine lv_aload_n hx hb dX4_turnOver_25 rfl (lv_at hl 1 rfl) ?_
          refine lv_iload_n hx hb dX4_turnOver_26 rfl (lv_at hl 0 rfl) ?_
          refine cVa (own := RX4) (As := [.int (nI i19)]) (rest := []) (c_X4_spikeOf l D cI cJ cZ h h_spots spots_19 night (nI i19)) 4 0 hx hb hml hown hts hK hA hW hS tw382 tw391 tw380 tw381 tw42 hv_X4_spikeOf ⟨Nat.le_of_ble_eq_true rfl, Nat.le_of_ble_eq_true rfl⟩ ⟨rfl, rfl⟩ ⟨Nat.zero_le _, Nat.zero_le _⟩ rfl rfl hl.1 rfl (Nat.le_of_ble_eq_true rfl) dX4_turnOver_27 (fun H locs hW hS => ?_)
          have hW : va_P D cls9 [(h, .inr (4, [.ref h_spots, .int night])), (h_spots, .inl (cI, 8, .inl spots_19))] H ∧ va_D A [(h, .inr (4, [.ref h_spots, .int night])), (h_spots, .inl (cI, 8, .inl spots_19))] := hW
          refine lv_iload_n hx hb dX4_turnOver_30 rfl (lv_at hl 2 rfl) ?_
          refine lv_icmp_ne (tgt := 52) hx hb dX4_turnOver_31 (by decide) (fun c_31 => ?_) (fun c_31 => ?_)
          · have hB19 := hB19.trans (if_neg c_31)
            refine lv_iinc (v := (nI (i19 + 1))) (lv' := [(3, .int (nI (i19 + 1))), (0, .ref h), (1, .int p0), (2, .int ((D_X4_countOn spots p0) - (1 : Int32)))]) hx hb dX4_turnOver_52 hl (k := 0) rfl (nI_1 _) (by decide) rfl (fun ls hl => ?_)
            refine lv_goto (tgt := 19) hx hb dX4_turnOver_55 (by decide) ?_
            exact ih (i19 + 1) (by omega) spots_19 hB19 _ _ hW hS _ (lv_sub hl [0, 1, 2, 3] rfl)
          · have hB19 := hB19.trans (if_pos c_31)
            refine lv_aload_n hx hb dX4_turnOver_34 rfl (lv_at hl 1 rfl) ?_
            refine va_get (D := D) (ci := 4) (v := .ref h_spots) (C := RX4) (T := TX4) (N := 2) hx hb hts inX4 hown hK.1 hW.1 0 rfl rfl 0 (by decide) (hts _ tw90) (fun _ h9 => h9) rfl dX4_turnOver_35 ?_
            refine lv_iload_n hx hb dX4_turnOver_38 rfl (lv_at hl 0 rfl) ?_
            refine lv_iload_n hx hb dX4_turnOver_39 rfl (lv_at hl 2 rfl) ?_
            refine lv_bipush (v := 8) hx hb dX4_turnOver_40 (by decide) ?_
            refine lv_imul hx hb dX4_turnOver_42 ?_
            refine lv_iload_n hx hb dX4_turnOver_43 rfl (lv_at hl 3 rfl) ?_
            refine lv_iadd hx hb dX4_turnOver_44 ?_
            refine lv_aload_n hx hb dX4_turnOver_45 rfl (lv_at hl 1 rfl) ?_
            refine lv_iload_n hx hb dX4_turnOver_46 rfl (lv_at hl 0 rfl) ?_
            refine cVa (own := RX4) (As := [.int (nI i19)]) (rest := [.int ((p0 * (8 : Int32)) + ((D_X4_countOn spots p0) - (1 : Int32))), .int (nI i19), .ref h_spots]) (c_X4_heightOf l D cI cJ cZ h h_spots spots_19 night (nI i19)) 4 0 hx hb hml hown hts hK hA hW hS tw386 tw410 tw384 tw385 tw42 hv_X4_heightOf ⟨Nat.le_of_ble_eq_true rfl, Nat.le_of_ble_eq_true rfl⟩ ⟨rfl, rfl⟩ ⟨Nat.zero_le _, Nat.zero_le _⟩ rfl rfl hl.1 rfl (Nat.le_of_ble_eq_true rfl) dX4_turnOver_47 (fun H locs hW hS => ?_)
            have hW : va_P D cls9 [(h, .inr (4, [.ref h_spots, .int night])), (h_spots, .inl (cI, 8, .inl spots_19))] H ∧ va_D A [(h, .inr (4, [.ref h_spots, .int night])), (h_spots, .inl (cI, 8, .inl spots_19))] := hW
            refine lv_isub hx hb dX4_turnOver_50 ?_
            refine va_iast (a := h_spots) (n := 8) (f := spots_19) hx hb hK.1 hW.1 hW.2 hS 1 0 rfl rfl (vp_in_nI (by omega) (by decide)) dX4_turnOver_51 (fun H locs hP hD hS => ?_)
            have hW : va_P D cls9 [(h, .inr (4, [.ref h_spots, .int night])), (h_spots, .inl (cI, 8, .inl (upd spots_19 (nI i19).toNatClampNeg (((p0 * (8 : Int32)) + ((D_X4_countOn spots p0) - (1 : Int32))) - (D_X4_heightOf spots_19 (nI i19))))))] H ∧ va_D A [(h, .inr (4, [.ref h_spots, .int night])), (h_spots, .inl (cI, 8, .inl (upd spots_19 (nI i19).toNatClampNeg (((p0 * (8 : Int32)) + ((D_X4_countOn spots p0) - (1 : Int32))) - (D_X4_heightOf spots_19 (nI i19))))))] := ⟨hP, hD⟩
            refine lv_iinc (v := (nI (i19 + 1))) (lv' := [(3, .int (nI (i19 + 1))), (0, .ref h), (1, .int p0), (2, .int ((D_X4_countOn spots p0) - (1 : Int32)))]) hx hb dX4_turnOver_52 hl (k := 0) rfl (nI_1 _) (by decide) rfl (fun ls hl => ?_)
            refine lv_goto (tgt := 19) hx hb dX4_turnOver_55 (by decide) ?_
            exact ih (i19 + 1) (by omega) (upd spots_19 (nI i19).toNatClampNeg (((p0 * (8 : Int32)) + ((D_X4_countOn spots p0) - (1 : Int32))) - (D_X4_heightOf spots_19 (nI i19)))) hB19 _ _ hW hS _ (lv_sub hl [0, 1, 2, 3] rfl)
    exact L19 8 0 (by omega) spots rfl _ _ hW hS _ (lv_sub hl [0, 2, 3, 1] rfl)
  · have hF := hF.trans (if_pos c_4)
    refine lv_iconst (v := -1) hx hb dX4_turnOver_7 (by decide) ?_
    exact retI hQ hx hb hr hlk hK hW hS (by rw [hF]) (by rw [hF]) dX4_turnOver_8
