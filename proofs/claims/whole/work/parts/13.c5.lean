abbrev rm_X5_append : Room := { frames := 0, cells := 0, slots := 0, locals := 0 }
set_option maxHeartbeats 4000000 in
set_option maxRecDepth 100000 in
theorem c_X5_append (l : Launch) (D : va_G) (cI cJ cZ : ClassId) (h h_letters : Nat) (letters : Nat → Int32) (count : Int32) (p0 : Int32) (hc : inR count 48) : CT l D (tys3 cI cJ cZ) yX5_append cX5_append 2 (some .int) rm_X5_append [.ref h, .int p0] [(h, .inr (5, [.ref h_letters, .int count])), (h_letters, .inl (cI, 48, .inl letters))] (some (.int (D_X5_append letters count p0).1)) [(h, .inr (5, [.ref h_letters, .int (D_X5_append letters count p0).2.2])), (h_letters, .inl (cI, 48, .inl (D_X5_append letters count p0).2.1))] := by
  refine CT.of (by decide) (Nat.le_of_ble_eq_true rfl) ?_
  intro p e s m args below meth c A Q ls hQ hx hb hr hml hown hts hlk hK hA hW hS hl
  have hl : lv_has ls 2 [(0, .ref h), (1, .int p0)] := hl
  have hF := (D_X5_append.eq_1 letters count p0)
  refine lv_aload_n hx hb dX5_append_0 rfl (lv_at hl 0 rfl) ?_
  refine va_get (D := D) (ci := 5) (v := .int count) (C := RX5) (T := TX5) (N := 2) hx hb hts inX5 hown hK.1 hW.1 0 rfl rfl 1 (by decide) (hts _ tw65) (fun _ h9 => h9) rfl dX5_append_1 ?_
  refine lv_aload_n hx hb dX5_append_4 rfl (lv_at hl 0 rfl) ?_
  refine va_get (D := D) (ci := 5) (v := .ref h_letters) (C := RX5) (T := TX5) (N := 2) hx hb hts inX5 hown hK.1 hW.1 0 rfl rfl 0 (by decide) (hts _ tw64) (fun _ h9 => h9) rfl dX5_append_5 ?_
  refine va_alen (v := 48) hx hb hK.1 hW.1 1 0 rfl rfl rfl dX5_append_8 ?_
  refine lv_icmp_lt (tgt := 15) hx hb dX5_append_9 (by decide) (fun c_9 => ?_) (fun c_9 => ?_)
  · have hF := hF.trans (if_pos c_9)
    refine lv_aload_n hx hb dX5_append_15 rfl (lv_at hl 0 rfl) ?_
    refine va_get (D := D) (ci := 5) (v := .ref h_letters) (C := RX5) (T := TX5) (N := 2) hx hb hts inX5 hown hK.1 hW.1 0 rfl rfl 0 (by decide) (hts _ tw64) (fun _ h9 => h9) rfl dX5_append_16 ?_
    refine lv_aload_n hx hb dX5_append_19 rfl (lv_at hl 0 rfl) ?_
    refine va_get (D := D) (ci := 5) (v := .int count) (C := RX5) (T := TX5) (N := 2) hx hb hts inX5 hown hK.1 hW.1 0 rfl rfl 1 (by decide) (hts _ tw65) (fun _ h9 => h9) rfl dX5_append_20 ?_
    refine lv_iload_n hx hb dX5_append_23 rfl (lv_at hl 1 rfl) ?_
    refine va_iast (a := h_letters) (n := 48) (f := letters) hx hb hK.1 hW.1 hW.2 hS 1 0 rfl rfl (vin_ltc2 hc (by decide) c_9) dX5_append_24 (fun H locs hP hD hS => ?_)
    have hW : va_P D cls9 [(h, .inr (5, [.ref h_letters, .int count])), (h_letters, .inl (cI, 48, .inl (upd letters count.toNatClampNeg p0)))] H ∧ va_D A [(h, .inr (5, [.ref h_letters, .int count])), (h_letters, .inl (cI, 48, .inl (upd letters count.toNatClampNeg p0)))] := ⟨hP, hD⟩
    refine lv_aload_n hx hb dX5_append_25 rfl (lv_at hl 0 rfl) ?_
    refine lv_dup hx hb dX5_append_26 rfl ?_
    refine va_get (D := D) (ci := 5) (v := .int count) (C := RX5) (T := TX5) (N := 2) hx hb hts inX5 hown hK.1 hW.1 0 rfl rfl 1 (by decide) (hts _ tw65) (fun _ h9 => h9) rfl dX5_append_27 ?_
    refine lv_iconst (v := 1) hx hb dX5_append_30 (by decide) ?_
    refine lv_iadd hx hb dX5_append_31 ?_
    refine va_put (D := D) (ci := 5) (v := .int (count + (1 : Int32))) (ty := .int) (C := RX5) (T := TX5) (N := 2) hx hb hts inX5 tyX5 tyX5_ok nmX5 hown hK.1 hW.1 hW.2 hS 0 rfl rfl 1 (by decide) (hts _ tw65) (fun _ h9 => h9) rfl (tyX5_ok 1 (by decide)) rfl rfl (Nat.le_of_ble_eq_true rfl) dX5_append_32 (fun H locs hP hD hS => ?_)
    have hW : va_P D cls9 [(h, .inr (5, [.ref h_letters, .int (count + (1 : Int32))])), (h_letters, .inl (cI, 48, .inl (upd letters count.toNatClampNeg p0)))] H ∧ va_D A [(h, .inr (5, [.ref h_letters, .int (count + (1 : Int32))])), (h_letters, .inl (cI, 48, .inl (upd letters count.toNatClampNeg p0)))] := ⟨hP, hD⟩
    refine lv_aload_n hx hb dX5_append_35 rfl (lv_at hl 0 rfl) ?_
    refine va_get (D := D) (ci := 5) (v := .int (count + (1 : Int32))) (C := RX5) (T := TX5) (N := 2) hx hb hts inX5 hown hK.1 hW.1 0 rfl rfl 1 (by decide) (hts _ tw65) (fun _ h9 => h9) rfl dX5_append_36 ?_
    exact retI hQ hx hb hr hlk hK hW hS (by rw [hF]) (by rw [hF]) dX5_append_39
  · have hF := hF.trans (if_neg c_9)
    refine lv_bipush (v := -4) hx hb dX5_append_12 (by decide) ?_
    exact retI hQ hx hb hr hlk hK hW hS (by rw [hF]) (by rw [hF]) dX5_append_14
abbrev rm_X5_clear : Room := { frames := 0, cells := 0, slots := 0, locals := 0 }
set_option maxHeartbeats 4000000 in
set_option maxRecDepth 100000 in
theorem c_X5_clear (l : Launch) (D : va_G) (cI cJ cZ : ClassId) (h h_letters : Nat) (letters : Nat → Int32) (count : Int32) : CT l D (tys3 cI cJ cZ) yX5_clear cX5_clear 2 (some .int) rm_X5_clear [.ref h] [(h, .inr (5, [.ref h_letters, .int count])), (h_letters, .inl (cI, 48, .inl letters))] (some (.int (D_X5_clear count).1)) [(h, .inr (5, [.ref h_letters, .int (D_X5_clear count).2])), (h_letters, .inl (cI, 48, .inl letters))] := by
  refine CT.of (by decide) (Nat.le_of_ble_eq_true rfl) ?_
  intro p e s m args below meth c A Q ls hQ hx hb hr hml hown hts hlk hK hA hW hS hl
  have hl : lv_has ls 2 [(0, .ref h)] := hl
  have hF := (D_X5_clear.eq_1 count)
  refine lv_aload_n hx hb dX5_clear_0 rfl (lv_at hl 0 rfl) ?_
  refine va_get (D := D) (ci := 5) (v := .int count) (C := RX5) (T := TX5) (N := 2) hx hb hts inX5 hown hK.1 hW.1 0 rfl rfl 1 (by decide) (hts _ tw65) (fun _ h9 => h9) rfl dX5_clear_1 ?_
  refine lv_istore_n (lv' := [(1, .int count), (0, .ref h)]) hx hb dX5_clear_4 rfl hl (by decide) rfl (fun ls hl => ?_)
  refine lv_aload_n hx hb dX5_clear_5 rfl (lv_at hl 1 rfl) ?_
  refine lv_iconst (v := 0) hx hb dX5_clear_6 (by decide) ?_
  refine va_put (D := D) (ci := 5) (v := .int (0 : Int32)) (ty := .int) (C := RX5) (T := TX5) (N := 2) hx hb hts inX5 tyX5 tyX5_ok nmX5 hown hK.1 hW.1 hW.2 hS 0 rfl rfl 1 (by decide) (hts _ tw65) (fun _ h9 => h9) rfl (tyX5_ok 1 (by decide)) rfl rfl (Nat.le_of_ble_eq_true rfl) dX5_clear_7 (fun H locs hP hD hS => ?_)
  have hW : va_P D cls9 [(h, .inr (5, [.ref h_letters, .int (0 : Int32)])), (h_letters, .inl (cI, 48, .inl letters))] H ∧ va_D A [(h, .inr (5, [.ref h_letters, .int (0 : Int32)])), (h_letters, .inl (cI, 48, .inl letters))] := ⟨hP, hD⟩
  refine lv_iload_n hx hb dX5_clear_10 rfl (lv_at hl 0 rfl) ?_
  exact retI hQ hx hb hr hlk hK hW hS (by rw [hF]) (by rw [hF]) dX5_clear_11
abbrev rm_X5_letterAt : Room := { frames := 0, cells := 0, slots := 0, locals := 0 }
set_option maxHeartbeats 4000000 in
set_option maxRecDepth 100000 in
theorem c_X5_letterAt (l : Launch) (D : va_G) (cI cJ cZ : ClassId) (h h_letters : Nat) (letters : Nat → Int32) (count : Int32) (p0 : Int32) (hc : inR count 48) : CT l D (tys3 cI cJ cZ) yX5_letterAt cX5_letterAt 2 (some .int) rm_X5_letterAt [.ref h, .int p0] [(h, .inr (5, [.ref h_letters, .int count])), (h_letters, .inl (cI, 48, .inl letters))] (some (.int (D_X5_letterAt letters count p0))) [(h, .inr (5, [.ref h_letters, .int count])), (h_letters, .inl (cI, 48, .inl letters))] := by
  refine CT.of (by decide) (Nat.le_of_ble_eq_true rfl) ?_
  intro p e s m args below meth c A Q ls hQ hx hb hr hml hown hts hlk hK hA hW hS hl
  have hl : lv_has ls 2 [(0, .ref h), (1, .int p0)] := hl
  have hF := (D_X5_letterAt.eq_1 letters count p0)
  refine lv_iload_n hx hb dX5_letterAt_0 rfl (lv_at hl 1 rfl) ?_
  refine lv_if_lt (tgt := 21) hx hb dX5_letterAt_1 (by decide) (fun c_1 => ?_) (fun c_1 => ?_)
  · have hF := hF.trans (if_pos c_1)
    refine lv_bipush (v := -9) hx hb dX5_letterAt_21 (by decide) ?_
    exact retI hQ hx hb hr hlk hK hW hS (by rw [hF]) (rfl) dX5_letterAt_23
  · have hF := hF.trans (if_neg c_1)
    refine lv_iload_n hx hb dX5_letterAt_4 rfl (lv_at hl 1 rfl) ?_
    refine lv_aload_n hx hb dX5_letterAt_5 rfl (lv_at hl 0 rfl) ?_
    refine va_get (D := D) (ci := 5) (v := .int count) (C := RX5) (T := TX5) (N := 2) hx hb hts inX5 hown hK.1 hW.1 0 rfl rfl 1 (by decide) (hts _ tw65) (fun _ h9 => h9) rfl dX5_letterAt_6 ?_
    refine lv_icmp_ge (tgt := 21) hx hb dX5_letterAt_9 (by decide) (fun c_9 => ?_) (fun c_9 => ?_)
    · have hF := hF.trans (if_pos c_9)
      refine lv_bipush (v := -9) hx hb dX5_letterAt_21 (by decide) ?_
      exact retI hQ hx hb hr hlk hK hW hS (by rw [hF]) (rfl) dX5_letterAt_23
    · have hF := hF.trans (if_neg c_9)
      refine lv_aload_n hx hb dX5_letterAt_12 rfl (lv_at hl 0 rfl) ?_
      refine va_get (D := D) (ci := 5) (v := .ref h_letters) (C := RX5) (T := TX5) (N := 2) hx hb hts inX5 hown hK.1 hW.1 0 rfl rfl 0 (by decide) (hts _ tw64) (fun _ h9 => h9) rfl dX5_letterAt_13 ?_
      refine lv_iload_n hx hb dX5_letterAt_16 rfl (lv_at hl 1 rfl) ?_
      refine va_iald (a := h_letters) (n := 48) (f := letters) hx hb hK.1 hW.1 1 0 rfl rfl (vin_bd hc c_1 c_9) dX5_letterAt_17 ?_
      refine lv_goto (tgt := 23) hx hb dX5_letterAt_18 (by decide) ?_
      exact retI hQ hx hb hr hlk hK hW hS (by rw [hF]) (rfl) dX5_letterAt_23
abbrev rm_X6_clear : Room := { frames := 0, cells := 0, slots := 0, locals := 0 }
set_option maxHeartbeats 4000000 in
set_option maxRecDepth 100000 in
theorem c_X6_clear (l : Launch) (D : va_G) (cI cJ cZ : ClassId) (h h_kinds h_grounds : Nat) (kinds : Nat → Int32) (grounds : Nat → Int32) (count : Int32) : CT l D (tys3 cI cJ cZ) yX6_clear cX6_clear 1 none rm_X6_clear [.ref h] [(h, .inr (6, [.ref h_kinds, .ref h_grounds, .int count])), (h_kinds, .inl (cI, 6, .inl kinds)), (h_grounds, .inl (cI, 18, .inl grounds))] none [(h, .inr (6, [.ref h_kinds, .ref h_grounds, .int D_X6_clear])), (h_kinds, .inl (cI, 6, .inl kinds)), (h_grounds, .inl (cI, 18, .inl grounds))] := by
  refine CT.of (by decide) (Nat.le_of_ble_eq_true rfl) ?_
  intro p e s m args below meth c A Q ls hQ hx hb hr hml hown hts hlk hK hA hW hS hl
  have hl : lv_has ls 1 [(0, .ref h)] := hl
  have hF := D_X6_clear.eq_1
  refine lv_aload_n hx hb dX6_clear_0 rfl (lv_at hl 0 rfl) ?_
  refine lv_iconst (v := 0) hx hb dX6_clear_1 (by decide) ?_
  refine va_put (D := D) (ci := 6) (v := .int (0 : Int32)) (ty := .int) (C := RX6) (T := TX6) (N := 3) hx hb hts inX6 tyX6 tyX6_ok nmX6 hown hK.1 hW.1 hW.2 hS 0 rfl rfl 2 (by decide) (hts _ tw106) (fun _ h9 => h9) rfl (tyX6_ok 2 (by decide)) rfl rfl (Nat.le_of_ble_eq_true rfl) dX6_clear_2 (fun H locs hP hD hS => ?_)
  have hW : va_P D cls9 [(h, .inr (6, [.ref h_kinds, .ref h_grounds, .int (0 : Int32)])), (h_kinds, .inl (cI, 6, .inl kinds)), (h_grounds, .inl (cI, 18, .inl grounds))] H ∧ va_D A [(h, .inr (6, [.ref h_kinds, .ref h_grounds, .int (0 : Int32)])), (h_kinds, .inl (cI, 6, .inl kinds)), (h_grounds, .inl (cI, 18, .inl grounds))] := ⟨hP, hD⟩
  exact retV hQ hx hb hr hlk hK hW hS (rfl) (by rw [hF]) dX6_clear_5
abbrev rm_X6_copyFrom : Room := { frames := 0, cells := 0, slots := 0, locals := 0 }
set_option maxHeartbeats 4000000 in
set_option maxRecDepth 100000 in
theorem c_X6_copyFrom (l : Launch) (D : va_G) (cI cJ cZ : ClassId) (h h_kinds h_grounds g0 g0_kinds g0_grounds : Nat) (kinds : Nat → Int32) (grounds : Nat → Int32) (count : Int32) (o_kinds : Nat → Int32) (o_grounds : Nat → Int32) (o_count : Int32) : CT l D (tys3 cI cJ cZ) yX6_copyFrom cX6_copyFrom 3 none rm_X6_copyFrom [.ref h, .ref g0] [(h, .inr (6, [.ref h_kinds, .ref h_grounds, .int count])), (h_kinds, .inl (cI, 6, .inl kinds)), (h_grounds, .inl (cI, 18, .inl grounds)), (g0, .inr (6, [.ref g0_kinds, .ref g0_grounds, .int o_count])), (g0_kinds, .inl (cI, 6, .inl o_kinds)), (g0_grounds, .inl (cI, 18, .inl o_grounds))] none [(h, .inr (6, [.ref h_kinds, .ref h_grounds, .int (D_X6_copyFrom kinds grounds o_kinds o_grounds o_count).2.2])), (h_kinds, .inl (cI, 6, .inl (D_X6_copyFrom kinds grounds o_kinds o_grounds o_count).1)), (h_grounds, .inl (cI, 18, .inl (D_X6_copyFrom kinds grounds o_kinds o_grounds o_count).2.1)), (g0, .inr (6, [.ref g0_kinds, .ref g0_grounds, .int o_count])), (g0_kinds, .inl (cI, 6, .inl o_kinds)), (g0_grounds, .inl (cI, 18, .inl o_grounds))] := by
  refine CT.of (by decide) (Nat.le_of_ble_eq_true rfl) ?_
  intro p e s m args below meth c A Q ls hQ hx hb hr hml hown hts hlk hK hA hW hS hl
  have hl : lv_has ls 3 [(0, .ref h), (1, .ref g0)] := hl
  have hF := (D_X6_copyFrom.eq_1 kinds grounds o_kinds o_grounds o_count)
  refine lv_iconst (v := 0) hx hb dX6_copyFrom_0 (by decide) ?_
  refine lv_istore_n (lv' := [(2, .int (0 : Int32)), (0, .ref h), (1, .ref g0)]) hx hb dX6_copyFrom_1 rfl hl (by decide) rfl (fun ls hl => ?_)
  have L2 : ∀ (n i2 : Nat), i2 + n = 6 → ∀ (kinds_2 : Nat → Int32), (D_X6_copyFrom_l2 o_kinds kinds i2) = kinds_2 → ∀ (H : Heap) (locs : List Loc), (va_P D cls9 [(h, .inr (6, [.ref h_kinds, .ref h_grounds, .int count])), (h_kinds, .inl (cI, 6, .inl kinds_2)), (h_grounds, .inl (cI, 18, .inl grounds)), (g0, .inr (6, [.ref g0_kinds, .ref g0_grounds, .int o_count])), (g0_kinds, .inl (cI, 6, .inl o_kinds)), (g0_grounds, .inl (cI, 18, .inl o_grounds))] H ∧ va_D A [(h, .inr (6, [.ref h_kinds, .ref h_grounds, .int count])), (h_kinds, .inl (cI, 6, .inl kinds_2)), (h_grounds, .inl (cI, 18, .inl grounds)), (g0, .inr (6, [.ref g0_kinds, .ref g0_grounds, .int o_count])), (g0_kinds, .inl (cI, 6, .inl o_kinds)), (g0_grounds, .inl (cI, 18, .inl o_grounds))]) → va_S A s.heap H locs → ∀ (ls : Array Slot), lv_has ls 3 [(2, .int (nI i2)), (0, .ref h), (1, .ref g0)] → W p l e rm_X6_copyFrom s m args below meth c H locs 0 0 Q (F0 m 2 ls []) := by
    intro n
    induction n with
    | zero =>
      intro i2 hi kinds_2 hacc H locs hW hS ls hl
      obtain rfl : i2 = 6 := by omega
      have hF : (D_X6_copyFrom kinds grounds o_kinds o_grounds o_count) = (D_X6_copyFrom_k2 grounds o_grounds o_count kinds_2) := hF.trans (by rw [hacc])
      have hF := hF.trans ((D_X6_copyFrom_k2.eq_1 grounds o_grounds o_count kinds_2))
      refine lv_iload_n hx hb dX6_copyFrom_2 rfl (lv_at hl 0 rfl) ?_
      refine lv_bipush (v := 6) hx hb dX6_copyFrom_3 (by decide) ?_
      refine lv_icmp_ge (tgt := 26) hx hb dX6_copyFrom_5 (by decide) (fun c_5 => ?_) (fun c_5 => ?_)
      · refine lv_iconst (v := 0) hx hb dX6_copyFrom_26 (by decide) ?_
        refine lv_istore_n (lv' := [(2, .int (0 : Int32)), (0, .ref h), (1, .ref g0)]) hx hb dX6_copyFrom_27 rfl hl (by decide) rfl (fun ls hl => ?_)
        have L28 : ∀ (n i28 : Nat), i28 + n = 18 → ∀ (grounds_28 : Nat → Int32), (D_X6_copyFrom_l28 o_grounds grounds i28) = grounds_28 → ∀ (H : Heap) (locs : List Loc), (va_P D cls9 [(h, .inr (6, [.ref h_kinds, .ref h_grounds, .int count])), (h_kinds, .inl (cI, 6, .inl kinds_2)), (h_grounds, .inl (cI, 18, .inl grounds_28)), (g0, .inr (6, [.ref g0_kinds, .ref g0_grounds, .int o_count])), (g0_kinds, .inl (cI, 6, .inl o_kinds)), (g0_grounds, .inl (cI, 18, .inl o_grounds))] H ∧ va_D A [(h, .inr (6, [.ref h_kinds, .ref h_grounds, .int count])), (h_kinds, .inl (cI, 6, .inl kinds_2)), (h_grounds, .inl (cI, 18, .inl grounds_28)), (g0, .inr (6, [.ref g0_kinds, .ref g0_grounds, .int o_count])), (g0_kinds, .inl (cI, 6, .inl o_kinds)), (g0_grounds, .inl (cI, 18, .inl o_grounds))]) → va_S A s.heap H locs → ∀ (ls : Array Slot), lv_has ls 3 [(2, .int (nI i28)), (0, .ref h), (1, .ref g0)] → W p l e rm_X6_copyFrom s m args below meth c H locs 0 0 Q (F0 m 28 ls []) := by
          intro n
          induction n with
          | zero =>
            intro i28 hi grounds_28 hacc H locs hW hS ls hl
            obtain rfl : i28 = 18 := by omega
            have hF : (D_X6_copyFrom kinds grounds o_kinds o_grounds o_count) = (D_X6_copyFrom_k28 o_count kinds_2 grounds_28) := hF.trans (by rw [hacc])
            have hF := hF.trans ((D_X6_copyFrom_k28.eq_1 o_count kinds_2 grounds_28))
            refine lv_iload_n hx hb dX6_copyFrom_28 rfl (lv_at hl 0 rfl) ?_
            refine lv_bipush (v := 18) hx hb dX6_copyFrom_29 (by decide) ?_
            refine lv_icmp_ge (tgt := 52) hx hb dX6_copyFrom_31 (by decide) (fun c_31 => ?_) (fun c_31 => ?_)
            · refine lv_aload_n hx hb dX6_copyFrom_52 rfl (lv_at hl 1 rfl) ?_
              refine lv_aload_n hx hb dX6_copyFrom_53 rfl (lv_at hl 2 rfl) ?_
              refine va_get (D := D) (ci := 6) (v := .int o_count) (C := RX6) (T := TX6) (N := 3) hx hb hts inX6 hown hK.1 hW.1 3 rfl rfl 2 (by decide) (hts _ tw106) (fun _ h9 => h9) rfl dX6_copyFrom_54 ?_
              refine va_put (D := D) (ci := 6) (v := .int o_count) (ty := .int) (C := RX6) (T := TX6) (N := 3) hx hb hts inX6 tyX6 tyX6_ok nmX6 hown hK.1 hW.1 hW.2 hS 0 rfl rfl 2 (by decide) (hts _ tw106) (fun _ h9 => h9) rfl (tyX6_ok 2 (by decide)) rfl rfl (Nat.le_of_ble_eq_true rfl) dX6_copyFrom_57 (fun H locs hP hD hS => ?_)
              have hW : va_P D cls9 [(h, .inr (6, [.ref h_kinds, .ref h_grounds, .int o_count])), (h_kinds, .inl (cI, 6, .inl kinds_2)), (h_grounds, .inl (cI, 18, .inl grounds_28)), (g0, .inr (6, [.ref g0_kinds, .ref g0_grounds, .int o_count])), (g0_kinds, .inl (cI, 6, .inl o_kinds)), (g0_grounds, .inl (cI, 18, .inl o_grounds))] H ∧ va_D A [(h, .inr (6, [.ref h_kinds, .ref h_grounds, .int o_count])), (h_kinds, .inl (cI, 6, .inl kinds_2)), (h_grounds, .inl (cI, 18, .inl grounds_28)), (g0, .inr (6, [.ref g0_kinds, .ref g0_grounds, .int o_count])), (g0_kinds, .inl (cI, 6, .inl o_kinds)), (g0_grounds, .inl (cI, 18, .inl o_grounds))] := ⟨hP, hD⟩
              exact retV hQ hx hb hr hlk hK hW hS (rfl) (by rw [hF]) dX6_copyFrom_60
            · exact absurd (by decide) c_31
          | succ n ih =>
            intro i28 hi grounds_28 hacc H locs hW hS ls hl
            have hB28 : (D_X6_copyFrom_l28 o_grounds grounds (i28 + 1)) = (D_X6_copyFrom_b28 o_grounds i28 grounds_28) := by show (D_X6_copyFrom_b28 o_grounds i28 (D_X6_copyFrom_l28 o_grounds grounds i28)) = _; rw [hacc]
            have hB28 := hB28.trans ((D_X6_copyFrom_b28.eq_1 o_grounds i28 grounds_28))
            refine lv_iload_n hx hb dX6_copyFrom_28 rfl (lv_at hl 0 rfl) ?_
            refine lv_bipush (v := 18) hx hb dX6_copyFrom_29 (by decide) ?_
            refine lv_icmp_ge (tgt := 52) hx hb dX6_copyFrom_31 (by decide) (fun c_31 => ?_) (fun c_31 => ?_)
            · exact absurd c_31 (cl_ltc (B := (18 : Int32)) (N := 18) (k := i28) (by decide) (by omega) (by decide))
            · refine lv_aload_n hx hb dX6_copyFrom_34 rfl (lv_at hl 1 rfl) ?_
              refine va_get (D := D) (ci := 6) (v := .ref h_grounds) (C := RX6) (T := TX6) (N := 3) hx hb hts inX6 hown hK.1 hW.1 0 rfl rfl 1 (by decide) (hts _ tw105) (fun _ h9 => h9) rfl dX6_copyFrom_35 ?_
              refine lv_iload_n hx hb dX6_copyFrom_38 rfl (lv_at hl 0 rfl) ?_
              refine lv_aload_n hx hb dX6_copyFrom_39 rfl (lv_at hl 2 rfl) ?_
              refine va_get (D := D) (ci := 6) (v := .ref g0_grounds) (C := RX6) (T := TX6) (N := 3) hx hb hts inX6 hown hK.1 hW.1 3 rfl rfl 1 (by decide) (hts _ tw105) (fun _ h9 => h9) rfl dX6_copyFrom_40 ?_
              refine lv_iload_n hx hb dX6_copyFrom_43 rfl (lv_at hl 0 rfl) ?_
              refine va_iald (a := g0_grounds) (n := 18) (f := o_grounds) hx hb hK.1 hW.1 5 0 rfl rfl (vp_in_nI (by omega) (by decide)) dX6_copyFrom_44 ?_
              refine va_iast (a := h_grounds) (n := 18) (f := grounds_28) hx hb hK.1 hW.1 hW.2 hS 2 0 rfl rfl (vp_in_nI (by omega) (by decide)) dX6_copyFrom_45 (fun H locs hP hD hS => ?_)
              have hW : va_P D cls9 [(h, .inr (6, [.ref h_kinds, .ref h_grounds, .int count])), (h_kinds, .inl (cI, 6, .inl kinds_2)), (h_grounds, .inl (cI, 18, .inl (upd grounds_28 (nI i28).toNatClampNeg (o_grounds (nI i28).toNatClampNeg)))), (g0, .inr (6, [.ref g0_kinds, .ref g0_grounds, .int o_count])), (g0_kinds, .inl (cI, 6, .inl o_kinds)), (g0_grounds, .inl (cI, 18, .inl o_grounds))] H ∧ va_D A [(h, .inr (6, [.ref h_kinds, .ref h_grounds, .int count])), (h_kinds, .inl (cI, 6, .inl kinds_2)), (h_grounds, .inl (cI, 18, .inl (upd grounds_28 (nI i28).toNatClampNeg (o_grounds (nI i28).toNatClampNeg)))), (g0, .inr (6, [.ref g0_kinds, .ref g0_grounds, .int o_count])), (g0_kinds, .inl (cI, 6, .inl o_kinds)), (g0_grounds, .inl (cI, 18, .inl o_grounds))] := ⟨hP, hD⟩
              refine lv_iinc (v := (nI (i28 + 1))) (lv' := [(2, .int (nI (i28 + 1))), (0, .ref h), (1, .ref g0)]) hx hb dX6_copyFrom_46 hl (k := 0) rfl (nI_1 _) (by decide) rfl (fun ls hl => ?_)
              refine lv_goto (tgt := 28) hx hb dX6_copyFrom_49 (by decide) ?_
              exact ih (i28 + 1) (by omega) (upd grounds_28 (nI i28).toNatClampNeg (o_grounds (nI i28).toNatClampNeg)) hB28 _ _ hW hS _ (lv_sub hl [0, 1, 2] rfl)
        exact L28 18 0 (by omega) grounds rfl _ _ hW hS _ (lv_sub hl [0, 1, 2] rfl)
      · exact absurd (by decide) c_5
    | succ n ih =>
      intro i2 hi kinds_2 hacc H locs hW hS ls hl
      have hB2 : (D_X6_copyFrom_l2 o_kinds kinds (i2 + 1)) = (D_X6_copyFrom_b2 o_kinds i2 kinds_2) := by show (D_X6_copyFrom_b2 o_kinds i2 (D_X6_copyFrom_l2 o_kinds kinds i2)) = _; rw [hacc]
      have hB2 := hB2.trans ((D_X6_copyFrom_b2.eq_1 o_kinds i2 kinds_2))
      refine lv_iload_n hx hb dX6_copyFrom_2 rfl (lv_at hl 0 rfl) ?_
      refine lv_bipush (v := 6) hx hb dX6_copyFrom_3 (by decide) ?_
      refine lv_icmp_ge (tgt := 26) hx hb dX6_copyFrom_5 (by decide) (fun c_5 => ?_) (fun c_5 => ?_)
      · exact absurd c_5 (cl_ltc (B := (6 : Int32)) (N := 6) (k := i2) (by decide) (by omega) (by decide))
      · refine lv_aload_n hx hb dX6_copyFrom_8 rfl (lv_at hl 1 rfl) ?_
        refine va_get (D := D) (ci := 6) (v := .ref h_kinds) (C := RX6) (T := TX6) (N := 3) hx hb hts inX6 hown hK.1 hW.1 0 rfl rfl 0 (by decide) (hts _ tw104) (fun _ h9 => h9) rfl dX6_copyFrom_9 ?_
        refine lv_iload_n hx hb dX6_copyFrom_12 rfl (lv_at hl 0 rfl) ?_
        refine lv_aload_n hx hb dX6_copyFrom_13 rfl (lv_at hl 2 rfl) ?_
        refine va_get (D := D) (ci := 6) (v := .ref g0_kinds) (C := RX6) (T := TX6) (N := 3) hx hb hts inX6 hown hK.1 hW.1 3 rfl rfl 0 (by decide) (hts _ tw104) (fun _ h9 => h9) rfl dX6_copyFrom_14 ?_
        refine lv_iload_n hx hb dX6_copyFrom_17 rfl (lv_at hl 0 rfl) ?_
        refine va_iald (a := g0_kinds) (n := 6) (f := o_kinds) hx hb hK.1 hW.1 4 0 rfl rfl (vp_in_nI (by omega) (by decide)) dX6_copyFrom_18 ?_
        refine va_iast (a := h_kinds) (n := 6) (f := kinds_2) hx hb hK.1 hW.1 hW.2 hS 1 0 rfl rfl (vp_in_nI (by omega) (by decide)) dX6_copyFrom_19 (fun H locs hP hD hS => ?_)
        have hW : va_P D cls9 [(h, .inr (6, [.ref h_kinds, .ref h_grounds, .int count])), (h_kinds, .inl (cI, 6, .inl (upd kinds_2 (nI i2).toNatClampNeg (o_kinds (nI i2).toNatClampNeg)))), (h_grounds, .inl (cI, 18, .inl grounds)), (g0, .inr (6, [.ref g0_kinds, .ref g0_grounds, .int o_count])), (g0_kinds, .inl (cI, 6, .inl o_kinds)), (g0_grounds, .inl (cI, 18, .inl o_grounds))] H ∧ va_D A [(h, .inr (6, [.ref h_kinds, .ref h_grounds, .int count])), (h_kinds, .inl (cI, 6, .inl (upd kinds_2 (nI i2).toNatClampNeg (o_kinds (nI i2).toNatClampNeg)))), (h_grounds, .inl (cI, 18, .inl grounds)), (g0, .inr (6, [.ref g0_kinds, .ref g0_grounds, .int o_count])), (g0_kinds, .inl (cI, 6, .inl o_kinds)), (g0_grounds, .inl (cI, 18, .inl o_grounds))] := ⟨hP, hD⟩
        refine lv_iinc (v := (nI (i2 + 1))) (lv' := [(2, .int (nI (i2 + 1))), (0, .ref h), (1, .ref g0)]) hx hb dX6_copyFrom_20 hl (k := 0) rfl (nI_1 _) (by decide) rfl (fun ls hl => ?_)
        refine lv_goto (tgt := 2) hx hb dX6_copyFrom_23 (by decide) ?_
        exact ih (i2 + 1) (by omega) (upd kinds_2 (nI i2).toNatClampNeg (o_kinds (nI i2).toNatClampNeg)) hB2 _ _ hW hS _ (lv_sub hl [0, 1, 2] rfl)
  exact L2 6 0 (by omega) kinds rfl _ _ hW hS _ (lv_sub hl [0, 1, 2] rfl)
abbrev rm_X6_append : Room := { frames := 0, cells := 0, slots := 0, locals := 0 }
set_option maxHeartbeats 4000000 in
set_option maxRecDepth 100000 in
theorem c_X6_append (l : Launch) (D : va_G) (cI cJ cZ : ClassId) (h h_kinds h_grounds : Nat) (kinds : Nat → Int32) (grounds : Nat → Int32) (count : Int32) (p0 : Int32) (p1 : Int32) (p2 : Int32) (p3 : Int32) (hc : inR count 6) : CT l D (tys3 cI cJ cZ) yX6_append cX6_append 5 none rm_X6_append [.ref h, .int p0, .int p1, .int p2, .int p3] [(h, .inr (6, [.ref h_kinds, .ref h_grounds, .int count])), (h_kinds, .inl (cI, 6, .inl kinds)), (h_grounds, .inl (cI, 18, .inl grounds))] none [(h, .inr (6, [.ref h_kinds, .ref h_grounds, .int (D_X6_append kinds grounds count p0 p1 p2 p3).2.2])), (h_kinds, .inl (cI, 6, .inl (D_X6_append kinds grounds count p0 p1 p2 p3).1)), (h_grounds, .inl (cI, 18, .inl (D_X6_append kinds grounds count p0 p1 p2 p3).2.1))] := by
  refine CT.of (by decide) (Nat.le_of_ble_eq_true rfl) ?_
  intro p e s m args below meth c A Q ls hQ hx hb hr hml hown hts hlk hK hA hW hS hl
  have hl : lv_has ls 5 [(0, .ref h), (1, .int p0), (2, .int p1), (3, .int p2), (4, .int p3)] := hl
  have hF := (D_X6_append.eq_1 kinds grounds count p0 p1 p2 p3)
  refine lv_aload_n hx hb dX6_append_0 rfl (lv_at hl 0 rfl) ?_
  refine va_get (D := D) (ci := 6) (v := .int count) (C := RX6) (T := TX6) (N := 3) hx hb hts inX6 hown hK.1 hW.1 0 rfl rfl 2 (by decide) (hts _ tw106) (fun _ h9 => h9) rfl dX6_append_1 ?_
  refine lv_bipush (v := 6) hx hb dX6_append_4 (by decide) ?_
  refine lv_icmp_ge (tgt := 70) hx hb dX6_append_6 (by decide) (fun c_6 => ?_) (fun c_6 => ?_)
  · have hF := hF.trans (if_pos c_6)
    exact retV hQ hx hb hr hlk hK hW hS (rfl) (by rw [hF]) dX6_append_70
  · have hF := hF.trans (if_neg c_6)
    refine lv_aload_n hx hb dX6_append_9 rfl (lv_at hl 0 rfl) ?_
    refine va_get (D := D) (ci := 6) (v := .ref h_kinds) (C := RX6) (T := TX6) (N := 3) hx hb hts inX6 hown hK.1 hW.1 0 rfl rfl 0 (by decide) (hts _ tw104) (fun _ h9 => h9) rfl dX6_append_10 ?_
    refine lv_aload_n hx hb dX6_append_13 rfl (lv_at hl 0 rfl) ?_
    refine va_get (D := D) (ci := 6) (v := .int count) (C := RX6) (T := TX6) (N := 3) hx hb hts inX6 hown hK.1 hW.1 0 rfl rfl 2 (by decide) (hts _ tw106) (fun _ h9 => h9) rfl dX6_append_14 ?_
    refine lv_iload_n hx hb dX6_append_17 rfl (lv_at hl 1 rfl) ?_
    refine va_iast (a := h_kinds) (n := 6) (f := kinds) hx hb hK.1 hW.1 hW.2 hS 1 0 rfl rfl (vin_ltc hc (by decide) c_6) dX6_append_18 (fun H locs hP hD hS => ?_)
    have hW : va_P D cls9 [(h, .inr (6, [.ref h_kinds, .ref h_grounds, .int count])), (h_kinds, .inl (cI, 6, .inl (upd kinds count.toNatClampNeg p0))), (h_grounds, .inl (cI, 18, .inl grounds))] H ∧ va_D A [(h, .inr (6, [.ref h_kinds, .ref h_grounds, .int count])), (h_kinds, .inl (cI, 6, .inl (upd kinds count.toNatClampNeg p0))), (h_grounds, .inl (cI, 18, .inl grounds))] := ⟨hP, hD⟩
    refine lv_aload_n hx hb dX6_append_19 rfl (lv_at hl 0 rfl) ?_
    refine va_get (D := D) (ci := 6) (v := .ref h_grounds) (C := RX6) (T := TX6) (N := 3) hx hb hts inX6 hown hK.1 hW.1 0 rfl rfl 1 (by decide) (hts _ tw105) (fun _ h9 => h9) rfl dX6_append_20 ?_
    refine lv_aload_n hx hb dX6_append_23 rfl (lv_at hl 0 rfl) ?_
    refine va_get (D := D) (ci := 6) (v := .int count) (C := RX6) (T := TX6) (N := 3) hx hb hts inX6 hown hK.1 hW.1 0 rfl rfl 2 (by decide) (hts _ tw106) (fun _ h9 => h9) rfl dX6_append_24 ?_
    refine lv_iconst (v := 3) hx hb dX6_append_27 (by decide) ?_
    refine lv_imul hx hb dX6_append_28 ?_
    refine lv_iload_n hx hb dX6_append_29 rfl (lv_at hl 2 rfl) ?_
    refine va_iast (a := h_grounds) (n := 18) (f := grounds) hx hb hK.1 hW.1 hW.2 hS 2 0 rfl rfl (vin_3c0 hc c_6) dX6_append_30 (fun H locs hP hD hS => ?_)
    have hW : va_P D cls9 [(h, .inr (6, [.ref h_kinds, .ref h_grounds, .int count])), (h_kinds, .inl (cI, 6, .inl (upd kinds count.toNatClampNeg p0))), (h_grounds, .inl (cI, 18, .inl (upd grounds (count * (3 : Int32)).toNatClampNeg p1)))] H ∧ va_D A [(h, .inr (6, [.ref h_kinds, .ref h_grounds, .int count])), (h_kinds, .inl (cI, 6, .inl (upd kinds count.toNatClampNeg p0))), (h_grounds, .inl (cI, 18, .inl (upd grounds (count * (3 : Int32)).toNatClampNeg p1)))] := ⟨hP, hD⟩
    refine lv_aload_n hx hb dX6_append_31 rfl (lv_at hl 0 rfl) ?_
    refine va_get (D := D) (ci := 6) (v := .ref h_grounds) (C := RX6) (T := TX6) (N := 3) hx hb hts inX6 hown hK.1 hW.1 0 rfl rfl 1 (by decide) (hts _ tw105) (fun _ h9 => h9) rfl dX6_append_32 ?_
    refine lv_aload_n hx hb dX6_append_35 rfl (lv_at hl 0 rfl) ?_
    refine va_get (D := D) (ci := 6) (v := .int count) (C := RX6) (T := TX6) (N := 3) hx hb hts inX6 hown hK.1 hW.1 0 rfl rfl 2 (by decide) (hts _ tw106) (fun _ h9 => h9) rfl dX6_append_36 ?_
    refine lv_iconst (v := 3) hx hb dX6_append_39 (by decide) ?_
    refine lv_imul hx hb dX6_append_40 ?_
    refine lv_iconst (v := 1) hx hb dX6_append_41 (by decide) ?_
    refine lv_iadd hx hb dX6_append_42 ?_
    refine lv_iload_n hx hb dX6_append_43 rfl (lv_at hl 3 rfl) ?_
    refine va_iast (a := h_grounds) (n := 18) (f := (upd grounds (count * (3 : Int32)).toNatClampNeg p1)) hx hb hK.1 hW.1 hW.2 hS 2 0 rfl rfl (vin_3c hc c_6 1 (by decide) (by decide)) dX6_append_44 (fun H locs hP hD hS => ?_)
    have hW : va_P D cls9 [(h, .inr (6, [.ref h_kinds, .ref h_grounds, .int count])), (h_kinds, .inl (cI, 6, .inl (upd kinds count.toNatClampNeg p0))), (h_grounds, .inl (cI, 18, .inl (upd (upd grounds (count * (3 : Int32)).toNatClampNeg p1) ((count * (3 : Int32)) + (1 : Int32)).toNatClampNeg p2)))] H ∧ va_D A [(h, .inr (6, [.ref h_kinds, .ref h_grounds, .int count])), (h_kinds, .inl (cI, 6, .inl (upd kinds count.toNatClampNeg p0))), (h_grounds, .inl (cI, 18, .inl (upd (upd grounds (count * (3 : Int32)).toNatClampNeg p1) ((count * (3 : Int32)) + (1 : Int32)).toNatClampNeg p2)))] := ⟨hP, hD⟩
    refine lv_aload_n hx hb dX6_append_45 rfl (lv_at hl 0 rfl) ?_
    refine va_get (D := D) (ci := 6) (v := .ref h_grounds) (C := RX6) (T := TX6) (N := 3) hx hb hts inX6 hown hK.1 hW.1 0 rfl rfl 1 (by decide) (hts _ tw105) (fun _ h9 => h9) rfl dX6_append_46 ?_
    refine lv_aload_n hx hb dX6_append_49 rfl (lv_at hl 0 rfl) ?_
    refine va_get (D := D) (ci := 6) (v := .int count) (C := RX6) (T := TX6) (N := 3) hx hb hts inX6 hown hK.1 hW.1 0 rfl rfl 2 (by decide) (hts _ tw106) (fun _ h9 => h9) rfl dX6_append_50 ?_
    refine lv_iconst (v := 3) hx hb dX6_append_53 (by decide) ?_
    refine lv_imul hx hb dX6_append_54 ?_
    refine lv_iconst (v := 2) hx hb dX6_append_55 (by decide) ?_
    refine lv_iadd hx hb dX6_append_56 ?_
    refine lv_iload hx hb dX6_append_57 (lv_at hl 4 rfl) ?_
    refine va_iast (a := h_grounds) (n := 18) (f := (upd (upd grounds (count * (3 : Int32)).toNatClampNeg p1) ((count * (3 : Int32)) + (1 : Int32)).toNatClampNeg p2)) hx hb hK.1 hW.1 hW.2 hS 2 0 rfl rfl (vin_3c hc c_6 2 (by decide) (by decide)) dX6_append_59 (fun H locs hP hD hS => ?_)
    have hW : va_P D cls9 [(h, .inr (6, [.ref h_kinds, .ref h_grounds, .int count])), (h_kinds, .inl (cI, 6, .inl (upd kinds count.toNatClampNeg p0))), (h_grounds, .inl (cI, 18, .inl (upd (upd (upd grounds (count * (3 : Int32)).toNatClampNeg p1) ((count * (3 : Int32)) + (1 : Int32)).toNatClampNeg p2) ((count * (3 : Int32)) + (2 : Int32)).toNatClampNeg p3)))] H ∧ va_D A [(h, .inr (6, [.ref h_kinds, .ref h_grounds, .int count])), (h_kinds, .inl (cI, 6, .inl (upd kinds count.toNatClampNeg p0))), (h_grounds, .inl (cI, 18, .inl (upd (upd (upd grounds (count * (3 : Int32)).toNatClampNeg p1) ((count * (3 : Int32)) + (1 : Int32)).toNatClampNeg p2) ((count * (3 : Int32)) + (2 : Int32)).toNatClampNeg p3)))] := ⟨hP, hD⟩
    refine lv_aload_n hx hb dX6_append_60 rfl (lv_at hl 0 rfl) ?_
    refine lv_dup hx hb dX6_append_61 rfl ?_
    refine va_get (D := D) (ci := 6) (v := .int count) (C := RX6) (T := TX6) (N := 3) hx hb hts inX6 hown hK.1 hW.1 0 rfl rfl 2 (by decide) (hts _ tw106) (fun _ h9 => h9) rfl dX6_append_62 ?_
    refine lv_iconst (v := 1) hx hb dX6_append_65 (by decide) ?_
    refine lv_iadd hx hb dX6_append_66 ?_
    refine va_put (D := D) (ci := 6) (v := .int (count + (1 : Int32))) (ty := .int) (C := RX6) (T := TX6) (N := 3) hx hb hts inX6 tyX6 tyX6_ok nmX6 hown hK.1 hW.1 hW.2 hS 0 rfl rfl 2 (by decide) (hts _ tw106) (fun _ h9 => h9) rfl (tyX6_ok 2 (by decide)) rfl rfl (Nat.le_of_ble_eq_true rfl) dX6_append_67 (fun H locs hP hD hS => ?_)
    have hW : va_P D cls9 [(h, .inr (6, [.ref h_kinds, .ref h_grounds, .int (count + (1 : Int32))])), (h_kinds, .inl (cI, 6, .inl (upd kinds count.toNatClampNeg p0))), (h_grounds, .inl (cI, 18, .inl (upd (upd (upd grounds (count * (3 : Int32)).toNatClampNeg p1) ((count * (3 : Int32)) + (1 : Int32)).toNatClampNeg p2) ((count * (3 : Int32)) + (2 : Int32)).toNatClampNeg p3)))] H ∧ va_D A [(h, .inr (6, [.ref h_kinds, .ref h_grounds, .int (count + (1 : Int32))])), (h_kinds, .inl (cI, 6, .inl (upd kinds count.toNatClampNeg p0))), (h_grounds, .inl (cI, 18, .inl (upd (upd (upd grounds (count * (3 : Int32)).toNatClampNeg p1) ((count * (3 : Int32)) + (1 : Int32)).toNatClampNeg p2) ((count * (3 : Int32)) + (2 : Int32)).toNatClampNeg p3)))] := ⟨hP, hD⟩
    exact retV hQ hx hb hr hlk hK hW hS (rfl) (by rw [hF]) dX6_append_70
abbrev rm_X6_has : Room := { frames := 0, cells := 0, slots := 0, locals := 0 }
set_option maxHeartbeats 4000000 in
set_option maxRecDepth 100000 in
theorem c_X6_has (l : Launch) (D : va_G) (cI cJ cZ : ClassId) (h h_kinds h_grounds : Nat) (kinds : Nat → Int32) (grounds : Nat → Int32) (count : Int32) (p0 : Int32) : CT l D (tys3 cI cJ cZ) yX6_has cX6_has 2 (some .boolean) rm_X6_has [.ref h, .int p0] [(h, .inr (6, [.ref h_kinds, .ref h_grounds, .int count])), (h_kinds, .inl (cI, 6, .inl kinds)), (h_grounds, .inl (cI, 18, .inl grounds))] (some (.int (D_X6_has count p0))) [(h, .inr (6, [.ref h_kinds, .ref h_grounds, .int count])), (h_kinds, .inl (cI, 6, .inl kinds)), (h_grounds, .inl (cI, 18, .inl grounds))] := by
  refine CT.of (by decide) (Nat.le_of_ble_eq_true rfl) ?_
  intro p e s m args below meth c A Q ls hQ hx hb hr hml hown hts hlk hK hA hW hS hl
  have hl : lv_has ls 2 [(0, .ref h), (1, .int p0)] := hl
  have hF := (D_X6_has.eq_1 count p0)
  refine lv_iload_n hx hb dX6_has_0 rfl (lv_at hl 1 rfl) ?_
  refine lv_if_lt (tgt := 16) hx hb dX6_has_1 (by decide) (fun c_1 => ?_) (fun c_1 => ?_)
  · have hF := hF.trans (if_pos c_1)
    refine lv_iconst (v := 0) hx hb dX6_has_16 (by decide) ?_
    exact retZ hQ hx hb hr hlk hK hW hS (Or.inl rfl) (by rw [hF]) (rfl) dX6_has_17
  · have hF := hF.trans (if_neg c_1)
    refine lv_iload_n hx hb dX6_has_4 rfl (lv_at hl 1 rfl) ?_
    refine lv_aload_n hx hb dX6_has_5 rfl (lv_at hl 0 rfl) ?_
    refine va_get (D := D) (ci := 6) (v := .int count) (C := RX6) (T := TX6) (N := 3) hx hb hts inX6 hown hK.1 hW.1 0 rfl rfl 2 (by decide) (hts _ tw106) (fun _ h9 => h9) rfl dX6_has_6 ?_
    refine lv_icmp_ge (tgt := 16) hx hb dX6_has_9 (by decide) (fun c_9 => ?_) (fun c_9 => ?_)
    · have hF := hF.trans (if_pos c_9)
      refine lv_iconst (v := 0) hx hb dX6_has_16 (by decide) ?_
      exact retZ hQ hx hb hr hlk hK hW hS (Or.inl rfl) (by rw [hF]) (rfl) dX6_has_17
    · have hF := hF.trans (if_neg c_9)
      refine lv_iconst (v := 1) hx hb dX6_has_12 (by decide) ?_
      refine lv_goto (tgt := 17) hx hb dX6_has_13 (by decide) ?_
      exact retZ hQ hx hb hr hlk hK hW hS (Or.inr rfl) (by rw [hF]) (rfl) dX6_has_17
abbrev rm_X6_kindOf : Room := { frames := 1, cells := 0, slots := 0, locals := 21 }
set_option maxHeartbeats 4000000 in
set_option maxRecDepth 100000 in
theorem c_X6_kindOf (l : Launch) (D : va_G) (cI cJ cZ : ClassId) (h h_kinds h_grounds : Nat) (kinds : Nat → Int32) (grounds : Nat → Int32) (count : Int32) (p0 : Int32) (hc : inR count 6) : CT l D (tys3 cI cJ cZ) yX6_kindOf cX6_kindOf 2 (some .int) rm_X6_kindOf [.ref h, .int p0] [(h, .inr (6, [.ref h_kinds, .ref h_grounds, .int count])), (h_kinds, .inl (cI, 6, .inl kinds)), (h_grounds, .inl (cI, 18, .inl grounds))] (some (.int (D_X6_kindOf kinds count p0))) [(h, .inr (6, [.ref h_kinds, .ref h_grounds, .int count])), (h_kinds, .inl (cI, 6, .inl kinds)), (h_grounds, .inl (cI, 18, .inl grounds))] := by
  refine CT.of (by decide) (Nat.le_of_ble_eq_true rfl) ?_
  intro p e s m args below meth c A Q ls hQ hx hb hr hml hown hts hlk hK hA hW hS hl
  have hl : lv_has ls 2 [(0, .ref h), (1, .int p0)] := hl
  have hF := (D_X6_kindOf.eq_1 kinds count p0)
  refine lv_aload_n hx hb dX6_kindOf_0 rfl (lv_at hl 0 rfl) ?_
  refine lv_iload_n hx hb dX6_kindOf_1 rfl (lv_at hl 1 rfl) ?_
  refine cVa (own := RX6) (As := [.int p0]) (rest := []) (c_X6_has l D cI cJ cZ h h_kinds h_grounds kinds grounds count p0) 6 0 hx hb hml hown hts hK hA hW hS tw319 tw366 tw317 tw318 tw43 hv_X6_has ⟨Nat.le_of_ble_eq_true rfl, Nat.le_of_ble_eq_true rfl⟩ ⟨rfl, rfl⟩ ⟨Nat.zero_le _, Nat.zero_le _⟩ rfl rfl hl.1 rfl (Nat.le_of_ble_eq_true rfl) dX6_kindOf_2 (fun H locs hW hS => ?_)
  have hW : va_P D cls9 [(h, .inr (6, [.ref h_kinds, .ref h_grounds, .int count])), (h_kinds, .inl (cI, 6, .inl kinds)), (h_grounds, .inl (cI, 18, .inl grounds))] H ∧ va_D A [(h, .inr (6, [.ref h_kinds, .ref h_grounds, .int count])), (h_kinds, .inl (cI, 6, .inl kinds)), (h_grounds, .inl (cI, 18, .inl grounds))] := hW
  refine lv_if_eq (tgt := 17) hx hb dX6_kindOf_5 (by decide) (fun c_5 => ?_) (fun c_5 => ?_)
  · have hF := hF.trans (if_pos c_5)
    refine lv_bipush (v := -9) hx hb dX6_kindOf_17 (by decide) ?_
    exact retI hQ hx hb hr hlk hK hW hS (by rw [hF]) (rfl) dX6_kindOf_19
  · have hF := hF.trans (if_neg c_5)
    refine lv_aload_n hx hb dX6_kindOf_8 rfl (lv_at hl 0 rfl) ?_
    refine va_get (D := D) (ci := 6) (v := .ref h_kinds) (C := RX6) (T := TX6) (N := 3) hx hb hts inX6 hown hK.1 hW.1 0 rfl rfl 0 (by decide) (hts _ tw104) (fun _ h9 => h9) rfl dX6_kindOf_9 ?_
    refine lv_iload_n hx hb dX6_kindOf_12 rfl (lv_at hl 1 rfl) ?_
    refine va_iald (a := h_kinds) (n := 6) (f := kinds) hx hb hK.1 hW.1 1 0 rfl rfl (vin_X6_has hc c_5) dX6_kindOf_13 ?_
    refine lv_goto (tgt := 19) hx hb dX6_kindOf_14 (by decide) ?_
    exact retI hQ hx hb hr hlk hK hW hS (by rw [hF]) (rfl) dX6_kindOf_19
abbrev rm_X6_groundOf : Room := { frames := 1, cells := 0, slots := 0, locals := 21 }
set_option maxHeartbeats 4000000 in
set_option maxRecDepth 100000 in
theorem c_X6_groundOf (l : Launch) (D : va_G) (cI cJ cZ : ClassId) (h h_kinds h_grounds : Nat) (kinds : Nat → Int32) (grounds : Nat → Int32) (count : Int32) (p0 : Int32) (p1 : Int32) (hc : inR count 6) : CT l D (tys3 cI cJ cZ) yX6_groundOf cX6_groundOf 3 (some .int) rm_X6_groundOf [.ref h, .int p0, .int p1] [(h, .inr (6, [.ref h_kinds, .ref h_grounds, .int count])), (h_kinds, .inl (cI, 6, .inl kinds)), (h_grounds, .inl (cI, 18, .inl grounds))] (some (.int (D_X6_groundOf grounds count p0 p1))) [(h, .inr (6, [.ref h_kinds, .ref h_grounds, .int count])), (h_kinds, .inl (cI, 6, .inl kinds)), (h_grounds, .inl (cI, 18, .inl grounds))] := by
  refine CT.of (by decide) (Nat.le_of_ble_eq_true rfl) ?_
  intro p e s m args below meth c A Q ls hQ hx hb hr hml hown hts hlk hK hA hW hS hl
  have hl : lv_has ls 3 [(0, .ref h), (1, .int p0), (2, .int p1)] := hl
  have hF := (D_X6_groundOf.eq_1 grounds count p0 p1)
  refine lv_aload_n hx hb dX6_groundOf_0 rfl (lv_at hl 0 rfl) ?_
  refine lv_iload_n hx hb dX6_groundOf_1 rfl (lv_at hl 1 rfl) ?_
  refine cVa (own := RX6) (As := [.int p0]) (rest := []) (c_X6_has l D cI cJ cZ h h_kinds h_grounds kinds grounds count p0) 6 0 hx hb hml hown hts hK hA hW hS tw319 tw366 tw317 tw318 tw43 hv_X6_has ⟨Nat.le_of_ble_eq_true rfl, Nat.le_of_ble_eq_true rfl⟩ ⟨rfl, rfl⟩ ⟨Nat.zero_le _, Nat.zero_le _⟩ rfl rfl hl.1 rfl (Nat.le_of_ble_eq_true rfl) dX6_groundOf_2 (fun H locs hW hS => ?_)
  have hW : va_P D cls9 [(h, .inr (6, [.ref h_kinds, .ref h_grounds, .int count])), (h_kinds, .inl (cI, 6, .inl kinds)), (h_grounds, .inl (cI, 18, .inl grounds))] H ∧ va_D A [(h, .inr (6, [.ref h_kinds, .ref h_grounds, .int count])), (h_kinds, .inl (cI, 6, .inl kinds)), (h_grounds, .inl (cI, 18, .inl grounds))] := hW
  refine lv_if_eq (tgt := 30) hx hb dX6_groundOf_5 (by decide) (fun c_5 => ?_) (fun c_5 => ?_)
  · have hF := hF.trans (if_pos c_5)
    refine lv_bipush (v := -9) hx hb dX6_groundOf_30 (by decide) ?_
    exact retI hQ hx hb hr hlk hK hW hS (by rw [hF]) (rfl) dX6_groundOf_32
  · have hF := hF.trans (if_neg c_5)
    refine lv_iload_n hx hb dX6_groundOf_8 rfl (lv_at hl 2 rfl) ?_
    refine lv_if_lt (tgt := 30) hx hb dX6_groundOf_9 (by decide) (fun c_9 => ?_) (fun c_9 => ?_)
    · have hF := hF.trans (if_pos c_9)
      refine lv_bipush (v := -9) hx hb dX6_groundOf_30 (by decide) ?_
      exact retI hQ hx hb hr hlk hK hW hS (by rw [hF]) (rfl) dX6_groundOf_32
    · have hF := hF.trans (if_neg c_9)
      refine lv_iload_n hx hb dX6_groundOf_12 rfl (lv_at hl 2 rfl) ?_
      refine lv_iconst (v := 3) hx hb dX6_groundOf_13 (by decide) ?_
      refine lv_icmp_ge (tgt := 30) hx hb dX6_groundOf_14 (by decide) (fun c_14 => ?_) (fun c_14 => ?_)
      · have hF := hF.trans (if_pos c_14)
        refine lv_bipush (v := -9) hx hb dX6_groundOf_30 (by decide) ?_
        exact retI hQ hx hb hr hlk hK hW hS (by rw [hF]) (rfl) dX6_groundOf_32
      · have hF := hF.trans (if_neg c_14)
        refine lv_aload_n hx hb dX6_groundOf_17 rfl (lv_at hl 0 rfl) ?_
        refine va_get (D := D) (ci := 6) (v := .ref h_grounds) (C := RX6) (T := TX6) (N := 3) hx hb hts inX6 hown hK.1 hW.1 0 rfl rfl 1 (by decide) (hts _ tw105) (fun _ h9 => h9) rfl dX6_groundOf_18 ?_
        refine lv_iload_n hx hb dX6_groundOf_21 rfl (lv_at hl 1 rfl) ?_
        refine lv_iconst (v := 3) hx hb dX6_groundOf_22 (by decide) ?_
        refine lv_imul hx hb dX6_groundOf_23 ?_
        refine lv_iload_n hx hb dX6_groundOf_24 rfl (lv_at hl 2 rfl) ?_
        refine lv_iadd hx hb dX6_groundOf_25 ?_
        refine va_iald (a := h_grounds) (n := 18) (f := grounds) hx hb hK.1 hW.1 2 0 rfl rfl (vin_g hc c_5 c_9 c_14) dX6_groundOf_26 ?_
        refine lv_goto (tgt := 32) hx hb dX6_groundOf_27 (by decide) ?_
        exact retI hQ hx hb hr hlk hK hW hS (by rw [hF]) (rfl) dX6_groundOf_32
abbrev rm_X6_isSoByGrounds : Room := { frames := 0, cells := 0, slots := 0, locals := 0 }
set_option maxHeartbeats 4000000 in
set_option maxRecDepth 100000 in
theorem c_X6_isSoByGrounds (l : Launch) (D : va_G) (cI cJ cZ : ClassId) (p0 : Int32) (p1 : Int32) (p2 : Int32) (p3 : Int32) : CT l D (tys3 cI cJ cZ) yX6_isSoByGrounds cX6_isSoByGrounds 4 (some .boolean) rm_X6_isSoByGrounds [.int p0, .int p1, .int p2, .int p3] [] (some (.int (D_X6_isSoByGrounds p0 p1 p2 p3))) [] := by
  refine CT.of (by decide) (Nat.le_of_ble_eq_true rfl) ?_
  intro p e s m args below meth c A Q ls hQ hx hb hr hml hown hts hlk hK hA hW hS hl
  have hl : lv_has ls 4 [(0, .int p0), (1, .int p1), (2, .int p2), (3, .int p3)] := hl
  have hF := (D_X6_isSoByGrounds.eq_1 p0 p1 p2 p3)
  refine lv_iload_n hx hb dX6_isSoByGrounds_0 rfl (lv_at hl 0 rfl) ?_
  by_cases c_1_0 : p0 = (0 : Int32)
  · have hF := hF.trans (if_pos c_1_0)
    refine lv_tableIn (tgt := 32) hx hb dX6_isSoByGrounds_1 (by rw [c_1_0]; decide) (by rw [c_1_0]; decide) (by rw [c_1_0]; rfl) (by decide) ?_
    refine lv_iload_n hx hb dX6_isSoByGrounds_32 rfl (lv_at hl 1 rfl) ?_
    refine lv_if_eq (tgt := 48) hx hb dX6_isSoByGrounds_33 (by decide) (fun c_33 => ?_) (fun c_33 => ?_)
    · have hF := hF.trans (if_pos c_33)
      refine lv_iconst (v := 0) hx hb dX6_isSoByGrounds_48 (by decide) ?_
      exact retZ hQ hx hb hr hlk hK hW hS (Or.inl rfl) (by rw [hF]) (rfl) dX6_isSoByGrounds_49
    · have hF := hF.trans (if_neg c_33)
      refine lv_iload_n hx hb dX6_isSoByGrounds_36 rfl (lv_at hl 2 rfl) ?_
      refine lv_if_eq (tgt := 48) hx hb dX6_isSoByGrounds_37 (by decide) (fun c_37 => ?_) (fun c_37 => ?_)
      · have hF := hF.trans (if_pos c_37)
        refine lv_iconst (v := 0) hx hb dX6_isSoByGrounds_48 (by decide) ?_
        exact retZ hQ hx hb hr hlk hK hW hS (Or.inl rfl) (by rw [hF]) (rfl) dX6_isSoByGrounds_49
      · have hF := hF.trans (if_neg c_37)
        refine lv_iload_n hx hb dX6_isSoByGrounds_40 rfl (lv_at hl 3 rfl) ?_
        refine lv_if_eq (tgt := 48) hx hb dX6_isSoByGrounds_41 (by decide) (fun c_41 => ?_) (fun c_41 => ?_)
        · have hF := hF.trans (if_pos c_41)
          refine lv_iconst (v := 0) hx hb dX6_isSoByGrounds_48 (by decide) ?_
          exact retZ hQ hx hb hr hlk hK hW hS (Or.inl rfl) (by rw [hF]) (rfl) dX6_isSoByGrounds_49
        · have hF := hF.trans (if_neg c_41)
          refine lv_iconst (v := 1) hx hb dX6_isSoByGrounds_44 (by decide) ?_
          refine lv_goto (tgt := 49) hx hb dX6_isSoByGrounds_45 (by decide) ?_
          exact retZ hQ hx hb hr hlk hK hW hS (Or.inr rfl) (by rw [hF]) (rfl) dX6_isSoByGrounds_49
  · have hF := hF.trans (if_neg c_1_0)
    by_cases c_1_1 : p0 = (1 : Int32)
    · have hF := hF.trans (if_pos c_1_1)
      refine lv_tableIn (tgt := 50) hx hb dX6_isSoByGrounds_1 (by rw [c_1_1]; decide) (by rw [c_1_1]; decide) (by rw [c_1_1]; rfl) (by decide) ?_
      refine lv_iload_n hx hb dX6_isSoByGrounds_50 rfl (lv_at hl 1 rfl) ?_
      have J58 : (D_X6_isSoByGrounds p0 p1 p2 p3) = (D_X6_isSoByGrounds_j58 p3) → ∀ (H : Heap) (locs : List Loc), (va_P D cls9 [] H ∧ va_D A []) → va_S A s.heap H locs → ∀ (ls : Array Slot), lv_has ls 4 [(3, .int p3)] → W p l e rm_X6_isSoByGrounds s m args below meth c H locs 0 0 Q (F0 m 58 ls []) := by
        intro  hF H locs hW hS ls hl
        have hF := hF.trans ((D_X6_isSoByGrounds_j58.eq_1 p3))
        refine lv_iload_n hx hb dX6_isSoByGrounds_58 rfl (lv_at hl 0 rfl) ?_
        refine lv_if_eq (tgt := 66) hx hb dX6_isSoByGrounds_59 (by decide) (fun c_59 => ?_) (fun c_59 => ?_)
        · have hF := hF.trans (if_pos c_59)
          refine lv_iconst (v := 0) hx hb dX6_isSoByGrounds_66 (by decide) ?_
          exact retZ hQ hx hb hr hlk hK hW hS (Or.inl rfl) (by rw [hF]) (rfl) dX6_isSoByGrounds_67
        · have hF := hF.trans (if_neg c_59)
          refine lv_iconst (v := 1) hx hb dX6_isSoByGrounds_62 (by decide) ?_
          refine lv_goto (tgt := 67) hx hb dX6_isSoByGrounds_63 (by decide) ?_
          exact retZ hQ hx hb hr hlk hK hW hS (Or.inr rfl) (by rw [hF]) (rfl) dX6_isSoByGrounds_67
      refine lv_if_ne (tgt := 58) hx hb dX6_isSoByGrounds_51 (by decide) (fun c_51 => ?_) (fun c_51 => ?_)
      · have hF := hF.trans (if_neg c_51)
        exact J58 hF _ _ hW hS _ (lv_sub hl [3] rfl)
      · have hF := hF.trans (if_pos c_51)
        refine lv_iload_n hx hb dX6_isSoByGrounds_54 rfl (lv_at hl 2 rfl) ?_
        refine lv_if_eq (tgt := 66) hx hb dX6_isSoByGrounds_55 (by decide) (fun c_55 => ?_) (fun c_55 => ?_)
        · have hF := hF.trans (if_pos c_55)
          refine lv_iconst (v := 0) hx hb dX6_isSoByGrounds_66 (by decide) ?_
          exact retZ hQ hx hb hr hlk hK hW hS (Or.inl rfl) (by rw [hF]) (rfl) dX6_isSoByGrounds_67
        · have hF := hF.trans (if_neg c_55)
          exact J58 hF _ _ hW hS _ (lv_sub hl [3] rfl)
    · have hF := hF.trans (if_neg c_1_1)
      by_cases c_1_2 : p0 = (2 : Int32)
      · have hF := hF.trans (if_pos c_1_2)
        refine lv_tableIn (tgt := 68) hx hb dX6_isSoByGrounds_1 (by rw [c_1_2]; decide) (by rw [c_1_2]; decide) (by rw [c_1_2]; rfl) (by decide) ?_
        refine lv_iload_n hx hb dX6_isSoByGrounds_68 rfl (lv_at hl 1 rfl) ?_
        refine lv_if_ne (tgt := 84) hx hb dX6_isSoByGrounds_69 (by decide) (fun c_69 => ?_) (fun c_69 => ?_)
        · have hF := hF.trans (if_neg c_69)
          refine lv_iconst (v := 0) hx hb dX6_isSoByGrounds_84 (by decide) ?_
          exact retZ hQ hx hb hr hlk hK hW hS (Or.inl rfl) (by rw [hF]) (rfl) dX6_isSoByGrounds_85
        · have hF := hF.trans (if_pos c_69)
          refine lv_iload_n hx hb dX6_isSoByGrounds_72 rfl (lv_at hl 2 rfl) ?_
          refine lv_if_ne (tgt := 80) hx hb dX6_isSoByGrounds_73 (by decide) (fun c_73 => ?_) (fun c_73 => ?_)
          · have hF := hF.trans (if_neg c_73)
            refine lv_iconst (v := 1) hx hb dX6_isSoByGrounds_80 (by decide) ?_
            refine lv_goto (tgt := 85) hx hb dX6_isSoByGrounds_81 (by decide) ?_
            exact retZ hQ hx hb hr hlk hK hW hS (Or.inr rfl) (by rw [hF]) (rfl) dX6_isSoByGrounds_85
          · have hF := hF.trans (if_pos c_73)
            refine lv_iload_n hx hb dX6_isSoByGrounds_76 rfl (lv_at hl 3 rfl) ?_
            refine lv_if_eq (tgt := 84) hx hb dX6_isSoByGrounds_77 (by decide) (fun c_77 => ?_) (fun c_77 => ?_)
            · have hF := hF.trans (if_pos c_77)
              refine lv_iconst (v := 0) hx hb dX6_isSoByGrounds_84 (by decide) ?_
              exact retZ hQ hx hb hr hlk hK hW hS (Or.inl rfl) (by rw [hF]) (rfl) dX6_isSoByGrounds_85
            · have hF := hF.trans (if_neg c_77)
              refine lv_iconst (v := 1) hx hb dX6_isSoByGrounds_80 (by decide) ?_
              refine lv_goto (tgt := 85) hx hb dX6_isSoByGrounds_81 (by decide) ?_
              exact retZ hQ hx hb hr hlk hK hW hS (Or.inr rfl) (by rw [hF]) (rfl) dX6_isSoByGrounds_85
      · have hF := hF.trans (if_neg c_1_2)
        by_cases c_1_3 : p0 = (3 : Int32)
        · have hF := hF.trans (if_pos c_1_3)
          refine lv_tableIn (tgt := 86) hx hb dX6_isSoByGrounds_1 (by rw [c_1_3]; decide) (by rw [c_1_3]; decide) (by rw [c_1_3]; rfl) (by decide) ?_
          refine lv_iload_n hx hb dX6_isSoByGrounds_86 rfl (lv_at hl 1 rfl) ?_
          have J94 : (D_X6_isSoByGrounds p0 p1 p2 p3) = (D_X6_isSoByGrounds_j94 p1 p2 p3) → ∀ (H : Heap) (locs : List Loc), (va_P D cls9 [] H ∧ va_D A []) → va_S A s.heap H locs → ∀ (ls : Array Slot), lv_has ls 4 [(1, .int p1), (2, .int p2), (3, .int p3)] → W p l e rm_X6_isSoByGrounds s m args below meth c H locs 0 0 Q (F0 m 94 ls []) := by
            intro  hF H locs hW hS ls hl
            have hF := hF.trans ((D_X6_isSoByGrounds_j94.eq_1 p1 p2 p3))
            refine lv_iload_n hx hb dX6_isSoByGrounds_94 rfl (lv_at hl 0 rfl) ?_
            have J102 : (D_X6_isSoByGrounds p0 p1 p2 p3) = (D_X6_isSoByGrounds_j102 p2 p3) → ∀ (H : Heap) (locs : List Loc), (va_P D cls9 [] H ∧ va_D A []) → va_S A s.heap H locs → ∀ (ls : Array Slot), lv_has ls 4 [(2, .int p2), (3, .int p3)] → W p l e rm_X6_isSoByGrounds s m args below meth c H locs 0 0 Q (F0 m 102 ls []) := by
              intro  hF H locs hW hS ls hl
              have hF := hF.trans ((D_X6_isSoByGrounds_j102.eq_1 p2 p3))
              refine lv_iload_n hx hb dX6_isSoByGrounds_102 rfl (lv_at hl 0 rfl) ?_
              refine lv_if_eq (tgt := 114) hx hb dX6_isSoByGrounds_103 (by decide) (fun c_103 => ?_) (fun c_103 => ?_)
              · have hF := hF.trans (if_pos c_103)
                refine lv_iconst (v := 0) hx hb dX6_isSoByGrounds_114 (by decide) ?_
                exact retZ hQ hx hb hr hlk hK hW hS (Or.inl rfl) (by rw [hF]) (rfl) dX6_isSoByGrounds_115
              · have hF := hF.trans (if_neg c_103)
                refine lv_iload_n hx hb dX6_isSoByGrounds_106 rfl (lv_at hl 1 rfl) ?_
                refine lv_if_eq (tgt := 114) hx hb dX6_isSoByGrounds_107 (by decide) (fun c_107 => ?_) (fun c_107 => ?_)
                · have hF := hF.trans (if_pos c_107)
                  refine lv_iconst (v := 0) hx hb dX6_isSoByGrounds_114 (by decide) ?_
                  exact retZ hQ hx hb hr hlk hK hW hS (Or.inl rfl) (by rw [hF]) (rfl) dX6_isSoByGrounds_115
                · have hF := hF.trans (if_neg c_107)
                  refine lv_iconst (v := 1) hx hb dX6_isSoByGrounds_110 (by decide) ?_
                  refine lv_goto (tgt := 115) hx hb dX6_isSoByGrounds_111 (by decide) ?_
                  exact retZ hQ hx hb hr hlk hK hW hS (Or.inr rfl) (by rw [hF]) (rfl) dX6_isSoByGrounds_115
            refine lv_if_eq (tgt := 102) hx hb dX6_isSoByGrounds_95 (by decide) (fun c_95 => ?_) (fun c_95 => ?_)
            · have hF := hF.trans (if_pos c_95)
              exact J102 hF _ _ hW hS _ (lv_sub hl [1, 2] rfl)
            · have hF := hF.trans (if_neg c_95)
              refine lv_iload_n hx hb dX6_isSoByGrounds_98 rfl (lv_at hl 2 rfl) ?_
              refine lv_if_ne (tgt := 110) hx hb dX6_isSoByGrounds_99 (by decide) (fun c_99 => ?_) (fun c_99 => ?_)
              · have hF := hF.trans (if_neg c_99)
                refine lv_iconst (v := 1) hx hb dX6_isSoByGrounds_110 (by decide) ?_
                refine lv_goto (tgt := 115) hx hb dX6_isSoByGrounds_111 (by decide) ?_
                exact retZ hQ hx hb hr hlk hK hW hS (Or.inr rfl) (by rw [hF]) (rfl) dX6_isSoByGrounds_115
              · have hF := hF.trans (if_pos c_99)
                exact J102 hF _ _ hW hS _ (lv_sub hl [1, 2] rfl)
          refine lv_if_eq (tgt := 94) hx hb dX6_isSoByGrounds_87 (by decide) (fun c_87 => ?_) (fun c_87 => ?_)
          · have hF := hF.trans (if_pos c_87)
            exact J94 hF _ _ hW hS _ (lv_sub hl [1, 2, 3] rfl)
          · have hF := hF.trans (if_neg c_87)
            refine lv_iload_n hx hb dX6_isSoByGrounds_90 rfl (lv_at hl 2 rfl) ?_
            refine lv_if_ne (tgt := 110) hx hb dX6_isSoByGrounds_91 (by decide) (fun c_91 => ?_) (fun c_91 => ?_)
            · have hF := hF.trans (if_neg c_91)
              refine lv_iconst (v := 1) hx hb dX6_isSoByGrounds_110 (by decide) ?_
              refine lv_goto (tgt := 115) hx hb dX6_isSoByGrounds_111 (by decide) ?_
              exact retZ hQ hx hb hr hlk hK hW hS (Or.inr rfl) (by rw [hF]) (rfl) dX6_isSoByGrounds_115
            · have hF := hF.trans (if_pos c_91)
              exact J94 hF _ _ hW hS _ (lv_sub hl [1, 2, 3] rfl)
        · have hF := hF.trans (if_neg c_1_3)
          have z1_0 : ¬ (p0).toInt = 0 := fun h => c_1_0 (Int32.toInt_inj.mp (h.trans (by decide)))
          have z1_1 : ¬ (p0).toInt = 1 := fun h => c_1_1 (Int32.toInt_inj.mp (h.trans (by decide)))
          have z1_2 : ¬ (p0).toInt = 2 := fun h => c_1_2 (Int32.toInt_inj.mp (h.trans (by decide)))
          have z1_3 : ¬ (p0).toInt = 3 := fun h => c_1_3 (Int32.toInt_inj.mp (h.trans (by decide)))
          refine lv_tableOut (tgt := 116) hx hb dX6_isSoByGrounds_1 (by omega) (by decide) ?_
          refine lv_iconst (v := 0) hx hb dX6_isSoByGrounds_116 (by decide) ?_
          exact retZ hQ hx hb hr hlk hK hW hS (Or.inl rfl) (by rw [hF]) (rfl) dX6_isSoByGrounds_117
abbrev rm_X6_soBy : Room := { frames := 2, cells := 0, slots := 0, locals := 43 }
set_option maxHeartbeats 4000000 in
set_option maxRecDepth 100000 in
theorem c_X6_soBy (l : Launch) (D : va_G) (cI cJ cZ : ClassId) (h h_kinds h_grounds : Nat) (kinds : Nat → Int32) (grounds : Nat → Int32) (count : Int32) (p0 : Int32) (hc : inR count 6) : CT l D (tys3 cI cJ cZ) yX6_soBy cX6_soBy 8 (some .int) rm_X6_soBy [.ref h, .int p0] [(h, .inr (6, [.ref h_kinds, .ref h_grounds, .int count])), (h_kinds, .inl (cI, 6, .inl kinds)), (h_grounds, .inl (cI, 18, .inl grounds))] (some (.int (D_X6_soBy kinds grounds count p0))) [(h, .inr (6, [.ref h_kinds, .ref h_grounds, .int count])), (h_kinds, .inl (cI, 6, .inl kinds)), (h_grounds, .inl (cI, 18, .inl grounds))] := by
  refine CT.of (by decide) (Nat.le_of_ble_eq_true rfl) ?_
  intro p e s m args below meth c A Q ls hQ hx hb hr hml hown hts hlk hK hA hW hS hl
  have hl : lv_has ls 8 [(0, .ref h), (1, .int p0)] := hl
  have hF := (D_X6_soBy.eq_1 kinds grounds count p0)
  refine lv_iconst (v := 0) hx hb dX6_soBy_0 (by decide) ?_
  refine lv_istore_n (lv' := [(2, .int (0 : Int32)), (0, .ref h), (1, .int p0)]) hx hb dX6_soBy_1 rfl hl (by decide) rfl (fun ls hl => ?_)
  refine lv_iconst (v := 0) hx hb dX6_soBy_2 (by decide) ?_
  refine lv_istore_n (lv' := [(3, .int (0 : Int32)), (2, .int (0 : Int32)), (0, .ref h), (1, .int p0)]) hx hb dX6_soBy_3 rfl hl (by decide) rfl (fun ls hl => ?_)
  have L4 : ∀ (n i4 : Nat), i4 + n = count.toNatClampNeg → ∀ (a4_2 : Int32), (D_X6_soBy_l4 p0 kinds grounds count (0 : Int32) i4) = a4_2 → ∀ (H : Heap) (locs : List Loc), (va_P D cls9 [(h, .inr (6, [.ref h_kinds, .ref h_grounds, .int count])), (h_kinds, .inl (cI, 6, .inl kinds)), (h_grounds, .inl (cI, 18, .inl grounds))] H ∧ va_D A [(h, .inr (6, [.ref h_kinds, .ref h_grounds, .int count])), (h_kinds, .inl (cI, 6, .inl kinds)), (h_grounds, .inl (cI, 18, .inl grounds))]) → va_S A s.heap H locs → ∀ (ls : Array Slot), lv_has ls 8 [(3, .int (nI i4)), (0, .ref h), (1, .int p0), (2, .int a4_2)] → W p l e rm_X6_soBy s m args below meth c H locs 0 0 Q (F0 m 4 ls []) := by
    intro n
    induction n with
    | zero =>
      intro i4 hi a4_2 hacc H locs hW hS ls hl
      obtain rfl : i4 = count.toNatClampNeg := by omega
      have hF : (D_X6_soBy kinds grounds count p0) = (D_X6_soBy_k4 a4_2) := hF.trans (by rw [hacc])
      have hF := hF.trans ((D_X6_soBy_k4.eq_1 a4_2))
      refine lv_iload_n hx hb dX6_soBy_4 rfl (lv_at hl 0 rfl) ?_
      refine lv_aload_n hx hb dX6_soBy_5 rfl (lv_at hl 1 rfl) ?_
      refine va_get (D := D) (ci := 6) (v := .int count) (C := RX6) (T := TX6) (N := 3) hx hb hts inX6 hown hK.1 hW.1 0 rfl rfl 2 (by decide) (hts _ tw106) (fun _ h9 => h9) rfl dX6_soBy_6 ?_
      refine lv_icmp_ge (tgt := 115) hx hb dX6_soBy_9 (by decide) (fun c_9 => ?_) (fun c_9 => ?_)
      · refine lv_iload_n hx hb dX6_soBy_115 rfl (lv_at hl 3 rfl) ?_
        exact retI hQ hx hb hr hlk hK hW hS (by rw [hF]) (rfl) dX6_soBy_116
      · exact absurd (cl_ge (B := count) (k := count.toNatClampNeg) (by omega)) c_9
    | succ n ih =>
      intro i4 hi a4_2 hacc H locs hW hS ls hl
      have hB4 : (D_X6_soBy_l4 p0 kinds grounds count (0 : Int32) (i4 + 1)) = (D_X6_soBy_b4 p0 kinds grounds count i4 a4_2) := by show (D_X6_soBy_b4 p0 kinds grounds count i4 (D_X6_soBy_l4 p0 kinds grounds count (0 : Int32) i4)) = _; rw [hacc]
      have hB4 := hB4.trans ((D_X6_soBy_b4.eq_1 p0 kinds grounds count i4 a4_2))
      refine lv_iload_n hx hb dX6_soBy_4 rfl (lv_at hl 0 rfl) ?_
      refine lv_aload_n hx hb dX6_soBy_5 rfl (lv_at hl 1 rfl) ?_
      refine va_get (D := D) (ci := 6) (v := .int count) (C := RX6) (T := TX6) (N := 3) hx hb hts inX6 hown hK.1 hW.1 0 rfl rfl 2 (by decide) (hts _ tw106) (fun _ h9 => h9) rfl dX6_soBy_6 ?_
      refine lv_icmp_ge (tgt := 115) hx hb dX6_soBy_9 (by decide) (fun c_9 => ?_) (fun c_9 => ?_)
      · exact absurd c_9 (cl_lt (B := count) (k := i4) (by omega))
      · refine lv_iload_n hx hb dX6_soBy_12 rfl (lv_at hl 2 rfl) ?_
        refine lv_iload_n hx hb dX6_soBy_13 rfl (lv_at hl 3 rfl) ?_
        refine lv_bipush (v := 10) hx hb dX6_soBy_14 (by decide) ?_
        refine lv_ishl hx hb dX6_soBy_16 ?_
        refine lv_ior hx hb dX6_soBy_17 ?_
        refine lv_istore (lv' := [(4, .int (p0 ||| (a4_2 <<< ((10 : Int32) &&& 31)))), (3, .int (nI i4)), (0, .ref h), (1, .int p0), (2, .int a4_2)]) hx hb dX6_soBy_18 hl (by decide) rfl (fun ls hl => ?_)
        refine lv_iload hx hb dX6_soBy_20 (lv_at hl 0 rfl) ?_
        refine lv_aload_n hx hb dX6_soBy_22 rfl (lv_at hl 2 rfl) ?_
        refine lv_iload_n hx hb dX6_soBy_23 rfl (lv_at hl 1 rfl) ?_
        refine lv_iconst (v := 0) hx hb dX6_soBy_24 (by decide) ?_
        refine cVa (own := RX6) (As := [.int (nI i4), .int (0 : Int32)]) (rest := [.int (p0 ||| (a4_2 <<< ((10 : Int32) &&& 31)))]) (c_X6_groundOf l D cI cJ cZ h h_kinds h_grounds kinds grounds count (nI i4) (0 : Int32) hc) 6 0 hx hb hml hown hts hK hA hW hS tw365 tw362 tw363 tw364 tw43 hv_X6_groundOf ⟨Nat.le_of_ble_eq_true rfl, Nat.le_of_ble_eq_true rfl⟩ ⟨rfl, rfl⟩ ⟨Nat.zero_le _, Nat.zero_le _⟩ rfl rfl hl.1 rfl (Nat.le_of_ble_eq_true rfl) dX6_soBy_25 (fun H locs hW hS => ?_)
        have hW : va_P D cls9 [(h, .inr (6, [.ref h_kinds, .ref h_grounds, .int count])), (h_kinds, .inl (cI, 6, .inl kinds)), (h_grounds, .inl (cI, 18, .inl grounds))] H ∧ va_D A [(h, .inr (6, [.ref h_kinds, .ref h_grounds, .int count])), (h_kinds, .inl (cI, 6, .inl kinds)), (h_grounds, .inl (cI, 18, .inl grounds))] := hW
        refine lv_ishr hx hb dX6_soBy_28 ?_
        refine lv_iconst (v := 1) hx hb dX6_soBy_29 (by decide) ?_
        refine lv_iand hx hb dX6_soBy_30 ?_
        refine lv_iconst (v := 1) hx hb dX6_soBy_31 (by decide) ?_
        have J40 : ∀ (y40_0 : Int32), (D_X6_soBy_l4 p0 kinds grounds count (0 : Int32) (i4 + 1)) = (D_X6_soBy_j40 p0 kinds grounds count a4_2 i4 y40_0) → ∀ (H : Heap) (locs : List Loc), (va_P D cls9 [(h, .inr (6, [.ref h_kinds, .ref h_grounds, .int count])), (h_kinds, .inl (cI, 6, .inl kinds)), (h_grounds, .inl (cI, 18, .inl grounds))] H ∧ va_D A [(h, .inr (6, [.ref h_kinds, .ref h_grounds, .int count])), (h_kinds, .inl (cI, 6, .inl kinds)), (h_grounds, .inl (cI, 18, .inl grounds))]) → va_S A s.heap H locs → ∀ (ls : Array Slot), lv_has ls 8 [(4, .int (p0 ||| (a4_2 <<< ((10 : Int32) &&& 31)))), (3, .int (nI i4)), (0, .ref h), (1, .int p0), (2, .int a4_2)] → W p l e rm_X6_soBy s m args below meth c H locs 0 0 Q (F0 m 40 ls [.int y40_0]) := by
          intro y40_0 hB4 H locs hW hS ls hl
          have hB4 := hB4.trans ((D_X6_soBy_j40.eq_1 p0 kinds grounds count a4_2 i4 y40_0))
          refine lv_istore (lv' := [(5, .int y40_0), (4, .int (p0 ||| (a4_2 <<< ((10 : Int32) &&& 31)))), (3, .int (nI i4)), (0, .ref h), (1, .int p0), (2, .int a4_2)]) hx hb dX6_soBy_40 hl (by decide) rfl (fun ls hl => ?_)
          refine lv_iload hx hb dX6_soBy_42 (lv_at hl 1 rfl) ?_
          refine lv_aload_n hx hb dX6_soBy_44 rfl (lv_at hl 3 rfl) ?_
          refine lv_iload_n hx hb dX6_soBy_45 rfl (lv_at hl 2 rfl) ?_
          refine lv_iconst (v := 1) hx hb dX6_soBy_46 (by decide) ?_
          refine cVa (own := RX6) (As := [.int (nI i4), .int (1 : Int32)]) (rest := [.int (p0 ||| (a4_2 <<< ((10 : Int32) &&& 31)))]) (c_X6_groundOf l D cI cJ cZ h h_kinds h_grounds kinds grounds count (nI i4) (1 : Int32) hc) 6 0 hx hb hml hown hts hK hA hW hS tw365 tw362 tw363 tw364 tw43 hv_X6_groundOf ⟨Nat.le_of_ble_eq_true rfl, Nat.le_of_ble_eq_true rfl⟩ ⟨rfl, rfl⟩ ⟨Nat.zero_le _, Nat.zero_le _⟩ rfl rfl hl.1 rfl (Nat.le_of_ble_eq_true rfl) dX6_soBy_47 (fun H locs hW hS => ?_)
          have hW : va_P D cls9 [(h, .inr (6, [.ref h_kinds, .ref h_grounds, .int count])), (h_kinds, .inl (cI, 6, .inl kinds)), (h_grounds, .inl (cI, 18, .inl grounds))] H ∧ va_D A [(h, .inr (6, [.ref h_kinds, .ref h_grounds, .int count])), (h_kinds, .inl (cI, 6, .inl kinds)), (h_grounds, .inl (cI, 18, .inl grounds))] := hW
          refine lv_ishr hx hb dX6_soBy_50 ?_
          refine lv_iconst (v := 1) hx hb dX6_soBy_51 (by decide) ?_
          refine lv_iand hx hb dX6_soBy_52 ?_
          refine lv_iconst (v := 1) hx hb dX6_soBy_53 (by decide) ?_
          have J62 : ∀ (y62_0 : Int32), (D_X6_soBy_l4 p0 kinds grounds count (0 : Int32) (i4 + 1)) = (D_X6_soBy_j62 p0 kinds grounds count a4_2 i4 y40_0 y62_0) → ∀ (H : Heap) (locs : List Loc), (va_P D cls9 [(h, .inr (6, [.ref h_kinds, .ref h_grounds, .int count])), (h_kinds, .inl (cI, 6, .inl kinds)), (h_grounds, .inl (cI, 18, .inl grounds))] H ∧ va_D A [(h, .inr (6, [.ref h_kinds, .ref h_grounds, .int count])), (h_kinds, .inl (cI, 6, .inl kinds)), (h_grounds, .inl (cI, 18, .inl grounds))]) → va_S A s.heap H locs → ∀ (ls : Array Slot), lv_has ls 8 [(5, .int y40_0), (4, .int (p0 ||| (a4_2 <<< ((10 : Int32) &&& 31)))), (3, .int (nI i4)), (0, .ref h), (1, .int p0), (2, .int a4_2)] → W p l e rm_X6_soBy s m args below meth c H locs 0 0 Q (F0 m 62 ls [.int y62_0]) := by
            intro y62_0 hB4 H locs hW hS ls hl
            have hB4 := hB4.trans ((D_X6_soBy_j62.eq_1 p0 kinds grounds count a4_2 i4 y40_0 y62_0))
            refine lv_istore (lv' := [(6, .int y62_0), (5, .int y40_0), (4, .int (p0 ||| (a4_2 <<< ((10 : Int32) &&& 31)))), (3, .int (nI i4)), (0, .ref h), (1, .int p0), (2, .int a4_2)]) hx hb dX6_soBy_62 hl (by decide) rfl (fun ls hl => ?_)
            refine lv_iload hx hb dX6_soBy_64 (lv_at hl 2 rfl) ?_
            refine lv_aload_n hx hb dX6_soBy_66 rfl (lv_at hl 4 rfl) ?_
            refine lv_iload_n hx hb dX6_soBy_67 rfl (lv_at hl 3 rfl) ?_
            refine lv_iconst (v := 2) hx hb dX6_soBy_68 (by decide) ?_
            refine cVa (own := RX6) (As := [.int (nI i4), .int (2 : Int32)]) (rest := [.int (p0 ||| (a4_2 <<< ((10 : Int32) &&& 31)))]) (c_X6_groundOf l D cI cJ cZ h h_kinds h_grounds kinds grounds count (nI i4) (2 : Int32) hc) 6 0 hx hb hml hown hts hK hA hW hS tw365 tw362 tw363 tw364 tw43 hv_X6_groundOf ⟨Nat.le_of_ble_eq_true rfl, Nat.le_of_ble_eq_true rfl⟩ ⟨rfl, rfl⟩ ⟨Nat.zero_le _, Nat.zero_le _⟩ rfl rfl hl.1 rfl (Nat.le_of_ble_eq_true rfl) dX6_soBy_69 (fun H locs hW hS => ?_)
            have hW : va_P D cls9 [(h, .inr (6, [.ref h_kinds, .ref h_grounds, .int count])), (h_kinds, .inl (cI, 6, .inl kinds)), (h_grounds, .inl (cI, 18, .inl grounds))] H ∧ va_D A [(h, .inr (6, [.ref h_kinds, .ref h_grounds, .int count])), (h_kinds, .inl (cI, 6, .inl kinds)), (h_grounds, .inl (cI, 18, .inl grounds))] := hW
            refine lv_ishr hx hb dX6_soBy_72 ?_
            refine lv_iconst (v := 1) hx hb dX6_soBy_73 (by decide) ?_
            refine lv_iand hx hb dX6_soBy_74 ?_
            refine lv_iconst (v := 1) hx hb dX6_soBy_75 (by decide) ?_
            have J84 : ∀ (y84_0 : Int32), (D_X6_soBy_l4 p0 kinds grounds count (0 : Int32) (i4 + 1)) = (D_X6_soBy_j84 kinds count a4_2 i4 y40_0 y62_0 y84_0) → ∀ (H : Heap) (locs : List Loc), (va_P D cls9 [(h, .inr (6, [.ref h_kinds, .ref h_grounds, .int count])), (h_kinds, .inl (cI, 6, .inl kinds)), (h_grounds, .inl (cI, 18, .inl grounds))] H ∧ va_D A [(h, .inr (6, [.ref h_kinds, .ref h_grounds, .int count])), (h_kinds, .inl (cI, 6, .inl kinds)), (h_grounds, .inl (cI, 18, .inl grounds))]) → va_S A s.heap H locs → ∀ (ls : Array Slot), lv_has ls 8 [(6, .int y62_0), (5, .int y40_0), (3, .int (nI i4)), (0, .ref h), (1, .int p0), (2, .int a4_2)] → W p l e rm_X6_soBy s m args below meth c H locs 0 0 Q (F0 m 84 ls [.int y84_0]) := by
              intro y84_0 hB4 H locs hW hS ls hl
              have hB4 := hB4.trans ((D_X6_soBy_j84.eq_1 kinds count a4_2 i4 y40_0 y62_0 y84_0))
              refine lv_istore (lv' := [(7, .int y84_0), (6, .int y62_0), (5, .int y40_0), (3, .int (nI i4)), (0, .ref h), (1, .int p0), (2, .int a4_2)]) hx hb dX6_soBy_84 hl (by decide) rfl (fun ls hl => ?_)
              refine lv_aload_n hx hb dX6_soBy_86 rfl (lv_at hl 4 rfl) ?_
              refine lv_iload_n hx hb dX6_soBy_87 rfl (lv_at hl 3 rfl) ?_
              refine cVa (own := RX6) (As := [.int (nI i4)]) (rest := []) (c_X6_kindOf l D cI cJ cZ h h_kinds h_grounds kinds grounds count (nI i4) hc) 6 0 hx hb hml hown hts hK hA hW hS tw370 tw367 tw368 tw369 tw43 hv_X6_kindOf ⟨Nat.le_of_ble_eq_true rfl, Nat.le_of_ble_eq_true rfl⟩ ⟨rfl, rfl⟩ ⟨Nat.zero_le _, Nat.zero_le _⟩ rfl rfl hl.1 rfl (Nat.le_of_ble_eq_true rfl) dX6_soBy_88 (fun H locs hW hS => ?_)
              have hW : va_P D cls9 [(h, .inr (6, [.ref h_kinds, .ref h_grounds, .int count])), (h_kinds, .inl (cI, 6, .inl kinds)), (h_grounds, .inl (cI, 18, .inl grounds))] H ∧ va_D A [(h, .inr (6, [.ref h_kinds, .ref h_grounds, .int count])), (h_kinds, .inl (cI, 6, .inl kinds)), (h_grounds, .inl (cI, 18, .inl grounds))] := hW
              refine lv_iload hx hb dX6_soBy_91 (lv_at hl 2 rfl) ?_
              refine lv_iload hx hb dX6_soBy_93 (lv_at hl 1 rfl) ?_
              refine lv_iload hx hb dX6_soBy_95 (lv_at hl 0 rfl) ?_
              refine cS (own := RX6) (As := [.int (D_X6_kindOf kinds count (nI i4)), .int y40_0, .int y62_0, .int y84_0]) (rest := []) (c_X6_isSoByGrounds l D cI cJ cZ (D_X6_kindOf kinds count (nI i4)) y40_0 y62_0 y84_0) [] hx hb hml hown hts hK hA hW hS tw373 tw371 tw372 tw43 hv_X6_isSoByGrounds.2 ⟨Nat.le_of_ble_eq_true rfl, Nat.le_of_ble_eq_true rfl⟩ ⟨rfl, rfl⟩ ⟨Nat.zero_le _, Nat.zero_le _⟩ rfl [] rfl rfl (by decide) hl.1 rfl (Nat.le_of_ble_eq_true rfl) dX6_soBy_97 (fun H locs hW hS => ?_)
              have hW : va_P D cls9 [(h, .inr (6, [.ref h_kinds, .ref h_grounds, .int count])), (h_kinds, .inl (cI, 6, .inl kinds)), (h_grounds, .inl (cI, 18, .inl grounds))] H ∧ va_D A [(h, .inr (6, [.ref h_kinds, .ref h_grounds, .int count])), (h_kinds, .inl (cI, 6, .inl kinds)), (h_grounds, .inl (cI, 18, .inl grounds))] := hW
              refine lv_if_eq (tgt := 109) hx hb dX6_soBy_100 (by decide) (fun c_100 => ?_) (fun c_100 => ?_)
              · have hB4 := hB4.trans (if_pos c_100)
                refine lv_iinc (v := (nI (i4 + 1))) (lv' := [(3, .int (nI (i4 + 1))), (7, .int y84_0), (6, .int y62_0), (5, .int y40_0), (0, .ref h), (1, .int p0), (2, .int a4_2)]) hx hb dX6_soBy_109 hl (k := 3) rfl (nI_1 _) (by decide) rfl (fun ls hl => ?_)
                refine lv_goto (tgt := 4) hx hb dX6_soBy_112 (by decide) ?_
                exact ih (i4 + 1) (by omega) a4_2 hB4 _ _ hW hS _ (lv_sub hl [0, 4, 5, 6] rfl)
              · have hB4 := hB4.trans (if_neg c_100)
                refine lv_iload_n hx hb dX6_soBy_103 rfl (lv_at hl 6 rfl) ?_
                refine lv_iconst (v := 1) hx hb dX6_soBy_104 (by decide) ?_
                refine lv_iload_n hx hb dX6_soBy_105 rfl (lv_at hl 3 rfl) ?_
                refine lv_ishl hx hb dX6_soBy_106 ?_
                refine lv_ior hx hb dX6_soBy_107 ?_
                refine lv_istore_n (lv' := [(2, .int (a4_2 ||| ((1 : Int32) <<< ((nI i4) &&& 31)))), (7, .int y84_0), (6, .int y62_0), (5, .int y40_0), (3, .int (nI i4)), (0, .ref h), (1, .int p0)]) hx hb dX6_soBy_108 rfl hl (by decide) rfl (fun ls hl => ?_)
                refine lv_iinc (v := (nI (i4 + 1))) (lv' := [(3, .int (nI (i4 + 1))), (2, .int (a4_2 ||| ((1 : Int32) <<< ((nI i4) &&& 31)))), (7, .int y84_0), (6, .int y62_0), (5, .int y40_0), (0, .ref h), (1, .int p0)]) hx hb dX6_soBy_109 hl (k := 4) rfl (nI_1 _) (by decide) rfl (fun ls hl => ?_)
                refine lv_goto (tgt := 4) hx hb dX6_soBy_112 (by decide) ?_
                exact ih (i4 + 1) (by omega) (a4_2 ||| ((1 : Int32) <<< ((nI i4) &&& 31))) hB4 _ _ hW hS _ (lv_sub hl [0, 5, 6, 1] rfl)
            refine lv_icmp_ne (tgt := 83) hx hb dX6_soBy_76 (by decide) (fun c_76 => ?_) (fun c_76 => ?_)
            · have hB4 := hB4.trans (if_neg c_76)
              refine lv_iconst (v := 0) hx hb dX6_soBy_83 (by decide) ?_
              exact J84 (0 : Int32) hB4 _ _ hW hS _ (lv_sub hl [0, 1, 3, 4, 5, 6] rfl)
            · have hB4 := hB4.trans (if_pos c_76)
              refine lv_iconst (v := 1) hx hb dX6_soBy_79 (by decide) ?_
              refine lv_goto (tgt := 84) hx hb dX6_soBy_80 (by decide) ?_
              exact J84 (1 : Int32) hB4 _ _ hW hS _ (lv_sub hl [0, 1, 3, 4, 5, 6] rfl)
          refine lv_icmp_ne (tgt := 61) hx hb dX6_soBy_54 (by decide) (fun c_54 => ?_) (fun c_54 => ?_)
          · have hB4 := hB4.trans (if_neg c_54)
            refine lv_iconst (v := 0) hx hb dX6_soBy_61 (by decide) ?_
            exact J62 (0 : Int32) hB4 _ _ hW hS _ (lv_sub hl [0, 1, 2, 3, 4, 5] rfl)
          · have hB4 := hB4.trans (if_pos c_54)
            refine lv_iconst (v := 1) hx hb dX6_soBy_57 (by decide) ?_
            refine lv_goto (tgt := 62) hx hb dX6_soBy_58 (by decide) ?_
            exact J62 (1 : Int32) hB4 _ _ hW hS _ (lv_sub hl [0, 1, 2, 3, 4, 5] rfl)
        refine lv_icmp_ne (tgt := 39) hx hb dX6_soBy_32 (by decide) (fun c_32 => ?_) (fun c_32 => ?_)
        · have hB4 := hB4.trans (if_neg c_32)
          refine lv_iconst (v := 0) hx hb dX6_soBy_39 (by decide) ?_
          exact J40 (0 : Int32) hB4 _ _ hW hS _ (lv_sub hl [0, 1, 2, 3, 4] rfl)
        · have hB4 := hB4.trans (if_pos c_32)
          refine lv_iconst (v := 1) hx hb dX6_soBy_35 (by decide) ?_
          refine lv_goto (tgt := 40) hx hb dX6_soBy_36 (by decide) ?_
          exact J40 (1 : Int32) hB4 _ _ hW hS _ (lv_sub hl [0, 1, 2, 3, 4] rfl)
  exact L4 count.toNatClampNeg 0 (by omega) (0 : Int32) rfl _ _ hW hS _ (lv_sub hl [0, 2, 3, 1] rfl)
abbrev rm_X6_isSo : Room := { frames := 3, cells := 0, slots := 0, locals := 70 }
set_option maxHeartbeats 4000000 in
set_option maxRecDepth 100000 in
theorem c_X6_isSo (l : Launch) (D : va_G) (cI cJ cZ : ClassId) (h h_kinds h_grounds : Nat) (kinds : Nat → Int32) (grounds : Nat → Int32) (count : Int32) (p0 : Int32) (p1 : Int32) (hc : inR count 6) : CT l D (tys3 cI cJ cZ) yX6_isSo cX6_isSo 3 (some .boolean) rm_X6_isSo [.ref h, .int p0, .int p1] [(h, .inr (6, [.ref h_kinds, .ref h_grounds, .int count])), (h_kinds, .inl (cI, 6, .inl kinds)), (h_grounds, .inl (cI, 18, .inl grounds))] (some (.int (D_X6_isSo kinds grounds count p0 p1))) [(h, .inr (6, [.ref h_kinds, .ref h_grounds, .int count])), (h_kinds, .inl (cI, 6, .inl kinds)), (h_grounds, .inl (cI, 18, .inl grounds))] := by
  refine CT.of (by decide) (Nat.le_of_ble_eq_true rfl) ?_
  intro p e s m args below meth c A Q ls hQ hx hb hr hml hown hts hlk hK hA hW hS hl
  have hl : lv_has ls 3 [(0, .ref h), (1, .int p0), (2, .int p1)] := hl
  have hF := (D_X6_isSo.eq_1 kinds grounds count p0 p1)
  refine lv_aload_n hx hb dX6_isSo_0 rfl (lv_at hl 0 rfl) ?_
  refine lv_iload_n hx hb dX6_isSo_1 rfl (lv_at hl 1 rfl) ?_
  refine cVa (own := RX6) (As := [.int p0]) (rest := []) (c_X6_has l D cI cJ cZ h h_kinds h_grounds kinds grounds count p0) 6 0 hx hb hml hown hts hK hA hW hS tw319 tw366 tw317 tw318 tw43 hv_X6_has ⟨Nat.le_of_ble_eq_true rfl, Nat.le_of_ble_eq_true rfl⟩ ⟨rfl, rfl⟩ ⟨Nat.zero_le _, Nat.zero_le _⟩ rfl rfl hl.1 rfl (Nat.le_of_ble_eq_true rfl) dX6_isSo_2 (fun H locs hW hS => ?_)
  have hW : va_P D cls9 [(h, .inr (6, [.ref h_kinds, .ref h_grounds, .int count])), (h_kinds, .inl (cI, 6, .inl kinds)), (h_grounds, .inl (cI, 18, .inl grounds))] H ∧ va_D A [(h, .inr (6, [.ref h_kinds, .ref h_grounds, .int count])), (h_kinds, .inl (cI, 6, .inl kinds)), (h_grounds, .inl (cI, 18, .inl grounds))] := hW
  refine lv_if_eq (tgt := 25) hx hb dX6_isSo_5 (by decide) (fun c_5 => ?_) (fun c_5 => ?_)
  · have hF := hF.trans (if_pos c_5)
    refine lv_iconst (v := 0) hx hb dX6_isSo_25 (by decide) ?_
    exact retZ hQ hx hb hr hlk hK hW hS (Or.inl rfl) (by rw [hF]) (rfl) dX6_isSo_26
  · have hF := hF.trans (if_neg c_5)
    refine lv_aload_n hx hb dX6_isSo_8 rfl (lv_at hl 0 rfl) ?_
    refine lv_iload_n hx hb dX6_isSo_9 rfl (lv_at hl 2 rfl) ?_
    refine cVa (own := RX6) (As := [.int p1]) (rest := []) (c_X6_soBy l D cI cJ cZ h h_kinds h_grounds kinds grounds count p1 hc) 6 0 hx hb hml hown hts hK hA hW hS tw361 tw427 tw359 tw360 tw43 hv_X6_soBy ⟨Nat.le_of_ble_eq_true rfl, Nat.le_of_ble_eq_true rfl⟩ ⟨rfl, rfl⟩ ⟨Nat.zero_le _, Nat.zero_le _⟩ rfl rfl hl.1 rfl (Nat.le_of_ble_eq_true rfl) dX6_isSo_10 (fun H locs hW hS => ?_)
    have hW : va_P D cls9 [(h, .inr (6, [.ref h_kinds, .ref h_grounds, .int count])), (h_kinds, .inl (cI, 6, .inl kinds)), (h_grounds, .inl (cI, 18, .inl grounds))] H ∧ va_D A [(h, .inr (6, [.ref h_kinds, .ref h_grounds, .int count])), (h_kinds, .inl (cI, 6, .inl kinds)), (h_grounds, .inl (cI, 18, .inl grounds))] := hW
    refine lv_iload_n hx hb dX6_isSo_13 rfl (lv_at hl 1 rfl) ?_
    refine lv_ishr hx hb dX6_isSo_14 ?_
    refine lv_iconst (v := 1) hx hb dX6_isSo_15 (by decide) ?_
    refine lv_iand hx hb dX6_isSo_16 ?_
    refine lv_iconst (v := 1) hx hb dX6_isSo_17 (by decide) ?_
    refine lv_icmp_ne (tgt := 25) hx hb dX6_isSo_18 (by decide) (fun c_18 => ?_) (fun c_18 => ?_)
    · have hF := hF.trans (if_neg c_18)
      refine lv_iconst (v := 0) hx hb dX6_isSo_25 (by decide) ?_
      exact retZ hQ hx hb hr hlk hK hW hS (Or.inl rfl) (by rw [hF]) (rfl) dX6_isSo_26
    · have hF := hF.trans (if_pos c_18)
      refine lv_iconst (v := 1) hx hb dX6_isSo_21 (by decide) ?_
      refine lv_goto (tgt := 26) hx hb dX6_isSo_22 (by decide) ?_
      exact retZ hQ hx hb hr hlk hK hW hS (Or.inr rfl) (by rw [hF]) (rfl) dX6_isSo_26
abbrev rm_X0_removeFirst : Room := { frames := 0, cells := 0, slots := 0, locals := 0 }
set_option maxHeartbeats 4000000 in
set_option maxRecDepth 100000 in
theorem c_X0_removeFirst (l : Launch) (D : va_G) (cI cJ cZ : ClassId) (h h_before : Nat) (before : Nat → Int64) (count : Int32) : CT l D (tys3 cI cJ cZ) yX0_removeFirst cX0_removeFirst 2 none rm_X0_removeFirst [.ref h] [(h, .inr (0, [.ref h_before, .int count])), (h_before, .inl (cJ, 14, .inr (.inl before)))] none [(h, .inr (0, [.ref h_before, .int (D_X0_removeFirst before).2])), (h_before, .inl (cJ, 14, .inr (.inl (D_X0_removeFirst before).1)))] := by
  refine CT.of (by decide) (Nat.le_of_ble_eq_true rfl) ?_
  intro p e s m args below meth c A Q ls hQ hx hb hr hml hown hts hlk hK hA hW hS hl
  have hl : lv_has ls 2 [(0, .ref h)] := hl
  have hF := (D_X0_removeFirst.eq_1 before)
  refine lv_iconst (v := 1) hx hb dX0_removeFirst_0 (by decide) ?_
  refine lv_istore_n (lv' := [(1, .int (1 : Int32)), (0, .ref h)]) hx hb dX0_removeFirst_1 rfl hl (by decide) rfl (fun ls hl => ?_)
  have L2 : ∀ (n i2 : Nat), i2 + n = 13 → ∀ (before_2 : Nat → Int64), (D_X0_removeFirst_l2 before i2) = before_2 → ∀ (H : Heap) (locs : List Loc), (va_P D cls9 [(h, .inr (0, [.ref h_before, .int count])), (h_before, .inl (cJ, 14, .inr (.inl before_2)))] H ∧ va_D A [(h, .inr (0, [.ref h_before, .int count])), (h_before, .inl (cJ, 14, .inr (.inl before_2)))]) → va_S A s.heap H locs → ∀ (ls : Array Slot), lv_has ls 2 [(1, .int (nI (1 + i2))), (0, .ref h)] → W p l e rm_X0_removeFirst s m args below meth c H locs 0 0 Q (F0 m 2 ls []) := by
    intro n
    induction n with
    | zero =>
      intro i2 hi before_2 hacc H locs hW hS ls hl
      obtain rfl : i2 = 13 := by omega
      have hF : (D_X0_removeFirst before) = (D_X0_removeFirst_k2 before_2) := hF.trans (by rw [hacc])
      have hF := hF.trans ((D_X0_removeFirst_k2.eq_1 before_2))
      refine lv_iload_n hx hb dX0_removeFirst_2 rfl (lv_at hl 0 rfl) ?_
      refine lv_aload_n hx hb dX0_removeFirst_3 rfl (lv_at hl 1 rfl) ?_
      refine va_get (D := D) (ci := 0) (v := .ref h_before) (C := RX0) (T := TX0) (N := 2) hx hb hts inX0 hown hK.1 hW.1 0 rfl rfl 0 (by decide) (hts _ tw150) (fun _ h9 => h9) rfl dX0_removeFirst_4 ?_
      refine va_alen (v := 14) hx hb hK.1 hW.1 1 1 rfl rfl rfl dX0_removeFirst_7 ?_
      refine lv_icmp_ge (tgt := 31) hx hb dX0_removeFirst_8 (by decide) (fun c_8 => ?_) (fun c_8 => ?_)
      · refine lv_aload_n hx hb dX0_removeFirst_31 rfl (lv_at hl 1 rfl) ?_
        refine lv_aload_n hx hb dX0_removeFirst_32 rfl (lv_at hl 1 rfl) ?_
        refine va_get (D := D) (ci := 0) (v := .ref h_before) (C := RX0) (T := TX0) (N := 2) hx hb hts inX0 hown hK.1 hW.1 0 rfl rfl 0 (by decide) (hts _ tw150) (fun _ h9 => h9) rfl dX0_removeFirst_33 ?_
        refine va_alen (v := 14) hx hb hK.1 hW.1 1 1 rfl rfl rfl dX0_removeFirst_36 ?_
        refine lv_iconst (v := 1) hx hb dX0_removeFirst_37 (by decide) ?_
        refine lv_isub hx hb dX0_removeFirst_38 ?_
        refine va_put (D := D) (ci := 0) (v := .int ((14 : Int32) - (1 : Int32))) (ty := .int) (C := RX0) (T := TX0) (N := 2) hx hb hts inX0 tyX0 tyX0_ok nmX0 hown hK.1 hW.1 hW.2 hS 0 rfl rfl 1 (by decide) (hts _ tw151) (fun _ h9 => h9) rfl (tyX0_ok 1 (by decide)) rfl rfl (Nat.le_of_ble_eq_true rfl) dX0_removeFirst_39 (fun H locs hP hD hS => ?_)
        have hW : va_P D cls9 [(h, .inr (0, [.ref h_before, .int ((14 : Int32) - (1 : Int32))])), (h_before, .inl (cJ, 14, .inr (.inl before_2)))] H ∧ va_D A [(h, .inr (0, [.ref h_before, .int ((14 : Int32) - (1 : Int32))])), (h_before, .inl (cJ, 14, .inr (.inl before_2)))] := ⟨hP, hD⟩
        exact retV hQ hx hb hr hlk hK hW hS (rfl) (by rw [hF]) dX0_removeFirst_42
      · exact absurd (by decide) c_8
    | succ n ih =>
      intro i2 hi before_2 hacc H locs hW hS ls hl
      have hB2 : (D_X0_removeFirst_l2 before (i2 + 1)) = (D_X0_removeFirst_b2 i2 before_2) := by show (D_X0_removeFirst_b2 i2 (D_X0_removeFirst_l2 before i2)) = _; rw [hacc]
      have hB2 := hB2.trans ((D_X0_removeFirst_b2.eq_1 i2 before_2))
      refine lv_iload_n hx hb dX0_removeFirst_2 rfl (lv_at hl 0 rfl) ?_
      refine lv_aload_n hx hb dX0_removeFirst_3 rfl (lv_at hl 1 rfl) ?_
      refine va_get (D := D) (ci := 0) (v := .ref h_before) (C := RX0) (T := TX0) (N := 2) hx hb hts inX0 hown hK.1 hW.1 0 rfl rfl 0 (by decide) (hts _ tw150) (fun _ h9 => h9) rfl dX0_removeFirst_4 ?_
      refine va_alen (v := 14) hx hb hK.1 hW.1 1 1 rfl rfl rfl dX0_removeFirst_7 ?_
      refine lv_icmp_ge (tgt := 31) hx hb dX0_removeFirst_8 (by decide) (fun c_8 => ?_) (fun c_8 => ?_)
      · exact absurd c_8 (cl_ltc (B := (14 : Int32)) (N := 14) (k := (1 + i2)) (by decide) (by omega) (by decide))
      · refine lv_aload_n hx hb dX0_removeFirst_11 rfl (lv_at hl 1 rfl) ?_
        refine va_get (D := D) (ci := 0) (v := .ref h_before) (C := RX0) (T := TX0) (N := 2) hx hb hts inX0 hown hK.1 hW.1 0 rfl rfl 0 (by decide) (hts _ tw150) (fun _ h9 => h9) rfl dX0_removeFirst_12 ?_
        refine lv_iload_n hx hb dX0_removeFirst_15 rfl (lv_at hl 0 rfl) ?_
        refine lv_iconst (v := 1) hx hb dX0_removeFirst_16 (by decide) ?_
        refine lv_isub hx hb dX0_removeFirst_17 ?_
        refine lv_aload_n hx hb dX0_removeFirst_18 rfl (lv_at hl 1 rfl) ?_
        refine va_get (D := D) (ci := 0) (v := .ref h_before) (C := RX0) (T := TX0) (N := 2) hx hb hts inX0 hown hK.1 hW.1 0 rfl rfl 0 (by decide) (hts _ tw150) (fun _ h9 => h9) rfl dX0_removeFirst_19 ?_
        refine lv_iload_n hx hb dX0_removeFirst_22 rfl (lv_at hl 0 rfl) ?_
        refine va_lald (a := h_before) (n := 14) (f := before_2) hx hb hK.1 hW.1 1 1 rfl rfl (vp_in_nI (by omega) (by decide)) dX0_removeFirst_23 ?_
        refine va_last (a := h_before) (n := 14) (f := before_2) hx hb hK.1 hW.1 hW.2 hS 1 1 rfl rfl (vin_pm _ (by omega)) dX0_removeFirst_24 (fun H locs hP hD hS => ?_)
        have hW : va_P D cls9 [(h, .inr (0, [.ref h_before, .int count])), (h_before, .inl (cJ, 14, .inr (.inl (vp_updL before_2 ((nI (1 + i2)) - (1 : Int32)).toNatClampNeg (before_2 (nI (1 + i2)).toNatClampNeg)))))] H ∧ va_D A [(h, .inr (0, [.ref h_before, .int count])), (h_before, .inl (cJ, 14, .inr (.inl (vp_updL before_2 ((nI (1 + i2)) - (1 : Int32)).toNatClampNeg (before_2 (nI (1 + i2)).toNatClampNeg)))))] := ⟨hP, hD⟩
        refine lv_iinc (v := (nI (1 + (i2 + 1)))) (lv' := [(1, .int (nI (1 + (i2 + 1)))), (0, .ref h)]) hx hb dX0_removeFirst_25 hl (k := 0) rfl (nI_1 _) (by decide) rfl (fun ls hl => ?_)
        refine lv_goto (tgt := 2) hx hb dX0_removeFirst_28 (by decide) ?_
        exact ih (i2 + 1) (by omega) (vp_updL before_2 ((nI (1 + i2)) - (1 : Int32)).toNatClampNeg (before_2 (nI (1 + i2)).toNatClampNeg)) hB2 _ _ hW hS _ (lv_sub hl [0, 1] rfl)
  exact L2 13 0 (by omega) before rfl _ _ hW hS _ (lv_sub hl [0, 1] rfl)
abbrev rm_X0_append : Room := { frames := 1, cells := 0, slots := 0, locals := 21 }
set_option maxHeartbeats 4000000 in
set_option maxRecDepth 100000 in
theorem c_X0_append (l : Launch) (D : va_G) (cI cJ cZ : ClassId) (h h_before : Nat) (before : Nat → Int64) (count : Int32) (p0 : Int64) (hc : inR count 14) : CT l D (tys3 cI cJ cZ) yX0_append cX0_append 3 none rm_X0_append [.ref h, .long p0] [(h, .inr (0, [.ref h_before, .int count])), (h_before, .inl (cJ, 14, .inr (.inl before)))] none [(h, .inr (0, [.ref h_before, .int (D_X0_append before count p0).2])), (h_before, .inl (cJ, 14, .inr (.inl (D_X0_append before count p0).1)))] := by
  refine CT.of (by decide) (Nat.le_of_ble_eq_true rfl) ?_
  intro p e s m args below meth c A Q ls hQ hx hb hr hml hown hts hlk hK hA hW hS hl
  have hl : lv_has ls 3 [(0, .ref h), (1, .long p0)] := hl
  have hF := (D_X0_append.eq_1 before count p0)
  refine lv_aload_n hx hb dX0_append_0 rfl (lv_at hl 0 rfl) ?_
  refine va_get (D := D) (ci := 0) (v := .int count) (C := RX0) (T := TX0) (N := 2) hx hb hts inX0 hown hK.1 hW.1 0 rfl rfl 1 (by decide) (hts _ tw151) (fun _ h9 => h9) rfl dX0_append_1 ?_
  refine lv_aload_n hx hb dX0_append_4 rfl (lv_at hl 0 rfl) ?_
  refine va_get (D := D) (ci := 0) (v := .ref h_before) (C := RX0) (T := TX0) (N := 2) hx hb hts inX0 hown hK.1 hW.1 0 rfl rfl 0 (by decide) (hts _ tw150) (fun _ h9 => h9) rfl dX0_append_5 ?_
  refine va_alen (v := 14) hx hb hK.1 hW.1 1 1 rfl rfl rfl dX0_append_8 ?_
  refine lv_icmp_lt (tgt := 16) hx hb dX0_append_9 (by decide) (fun c_9 => ?_) (fun c_9 => ?_)
  · have hF := hF.trans (if_pos c_9)
    refine lv_aload_n hx hb dX0_append_16 rfl (lv_at hl 0 rfl) ?_
    refine va_get (D := D) (ci := 0) (v := .ref h_before) (C := RX0) (T := TX0) (N := 2) hx hb hts inX0 hown hK.1 hW.1 0 rfl rfl 0 (by decide) (hts _ tw150) (fun _ h9 => h9) rfl dX0_append_17 ?_
    refine lv_aload_n hx hb dX0_append_20 rfl (lv_at hl 0 rfl) ?_
    refine va_get (D := D) (ci := 0) (v := .int count) (C := RX0) (T := TX0) (N := 2) hx hb hts inX0 hown hK.1 hW.1 0 rfl rfl 1 (by decide) (hts _ tw151) (fun _ h9 => h9) rfl dX0_append_21 ?_
    refine lv_lload_n hx hb dX0_append_24 rfl (lv_at hl 1 rfl) ?_
    refine va_last (a := h_before) (n := 14) (f := before) hx hb hK.1 hW.1 hW.2 hS 1 1 rfl rfl (vin_ltc2 hc (by decide) c_9) dX0_append_25 (fun H locs hP hD hS => ?_)
    have hW : va_P D cls9 [(h, .inr (0, [.ref h_before, .int count])), (h_before, .inl (cJ, 14, .inr (.inl (vp_updL before count.toNatClampNeg p0))))] H ∧ va_D A [(h, .inr (0, [.ref h_before, .int count])), (h_before, .inl (cJ, 14, .inr (.inl (vp_updL before count.toNatClampNeg p0))))] := ⟨hP, hD⟩
    refine lv_aload_n hx hb dX0_append_26 rfl (lv_at hl 0 rfl) ?_
    refine lv_dup hx hb dX0_append_27 rfl ?_
    refine va_get (D := D) (ci := 0) (v := .int count) (C := RX0) (T := TX0) (N := 2) hx hb hts inX0 hown hK.1 hW.1 0 rfl rfl 1 (by decide) (hts _ tw151) (fun _ h9 => h9) rfl dX0_append_28 ?_
    refine lv_iconst (v := 1) hx hb dX0_append_31 (by decide) ?_
    refine lv_iadd hx hb dX0_append_32 ?_
    refine va_put (D := D) (ci := 0) (v := .int (count + (1 : Int32))) (ty := .int) (C := RX0) (T := TX0) (N := 2) hx hb hts inX0 tyX0 tyX0_ok nmX0 hown hK.1 hW.1 hW.2 hS 0 rfl rfl 1 (by decide) (hts _ tw151) (fun _ h9 => h9) rfl (tyX0_ok 1 (by decide)) rfl rfl (Nat.le_of_ble_eq_true rfl) dX0_append_33 (fun H locs hP hD hS => ?_)
    have hW : va_P D cls9 [(h, .inr (0, [.ref h_before, .int (count + (1 : Int32))])), (h_before, .inl (cJ, 14, .inr (.inl (vp_updL before count.toNatClampNeg p0))))] H ∧ va_D A [(h, .inr (0, [.ref h_before, .int (count + (1 : Int32))])), (h_before, .inl (cJ, 14, .inr (.inl (vp_updL before count.toNatClampNeg p0))))] := ⟨hP, hD⟩
    exact retV hQ hx hb hr hlk hK hW hS (rfl) (by rw [hF]) dX0_append_36
  · have hF := hF.trans (if_neg c_9)
    refine lv_aload_n hx hb dX0_append_12 rfl (lv_at hl 0 rfl) ?_
    refine cVa (own := RX0) (As := []) (rest := []) (c_X0_removeFirst l D cI cJ cZ h h_before before count) 0 0 hx hb hml hown hts hK hA hW hS tw449 tw446 tw448 tw11 tw44 hv_X0_removeFirst ⟨Nat.le_of_ble_eq_true rfl, Nat.le_of_ble_eq_true rfl⟩ ⟨rfl, rfl⟩ ⟨Nat.zero_le _, Nat.zero_le _⟩ rfl rfl hl.1 rfl (Nat.le_of_ble_eq_true rfl) dX0_append_13 (fun H locs hW hS => ?_)
    have hW : va_P D cls9 [(h, .inr (0, [.ref h_before, .int (D_X0_removeFirst before).2])), (h_before, .inl (cJ, 14, .inr (.inl (D_X0_removeFirst before).1)))] H ∧ va_D A [(h, .inr (0, [.ref h_before, .int (D_X0_removeFirst before).2])), (h_before, .inl (cJ, 14, .inr (.inl (D_X0_removeFirst before).1)))] := hW
    refine lv_aload_n hx hb dX0_append_16 rfl (lv_at hl 0 rfl) ?_
    refine va_get (D := D) (ci := 0) (v := .ref h_before) (C := RX0) (T := TX0) (N := 2) hx hb hts inX0 hown hK.1 hW.1 0 rfl rfl 0 (by decide) (hts _ tw150) (fun _ h9 => h9) rfl dX0_append_17 ?_
    refine lv_aload_n hx hb dX0_append_20 rfl (lv_at hl 0 rfl) ?_
    refine va_get (D := D) (ci := 0) (v := .int (D_X0_removeFirst before).2) (C := RX0) (T := TX0) (N := 2) hx hb hts inX0 hown hK.1 hW.1 0 rfl rfl 1 (by decide) (hts _ tw151) (fun _ h9 => h9) rfl dX0_append_21 ?_
    refine lv_lload_n hx hb dX0_append_24 rfl (lv_at hl 1 rfl) ?_
    refine va_last (a := h_before) (n := 14) (f := (D_X0_removeFirst before).1) hx hb hK.1 hW.1 hW.2 hS 1 1 rfl rfl (vin_rf _) dX0_append_25 (fun H locs hP hD hS => ?_)
    have hW : va_P D cls9 [(h, .inr (0, [.ref h_before, .int (D_X0_removeFirst before).2])), (h_before, .inl (cJ, 14, .inr (.inl (vp_updL (D_X0_removeFirst before).1 (D_X0_removeFirst before).2.toNatClampNeg p0))))] H ∧ va_D A [(h, .inr (0, [.ref h_before, .int (D_X0_removeFirst before).2])), (h_before, .inl (cJ, 14, .inr (.inl (vp_updL (D_X0_removeFirst before).1 (D_X0_removeFirst before).2.toNatClampNeg p0))))] := ⟨hP, hD⟩
    refine lv_aload_n hx hb dX0_append_26 rfl (lv_at hl 0 rfl) ?_
    refine lv_dup hx hb dX0_append_27 rfl ?_
    refine va_get (D := D) (ci := 0) (v := .int (D_X0_removeFirst before).2) (C := RX0) (T := TX0) (N := 2) hx hb hts inX0 hown hK.1 hW.1 0 rfl rfl 1 (by decide) (hts _ tw151) (fun _ h9 => h9) rfl dX0_append_28 ?_
    refine lv_iconst (v := 1) hx hb dX0_append_31 (by decide) ?_
    refine lv_iadd hx hb dX0_append_32 ?_
    refine va_put (D := D) (ci := 0) (v := .int ((D_X0_removeFirst before).2 + (1 : Int32))) (ty := .int) (C := RX0) (T := TX0) (N := 2) hx hb hts inX0 tyX0 tyX0_ok nmX0 hown hK.1 hW.1 hW.2 hS 0 rfl rfl 1 (by decide) (hts _ tw151) (fun _ h9 => h9) rfl (tyX0_ok 1 (by decide)) rfl rfl (Nat.le_of_ble_eq_true rfl) dX0_append_33 (fun H locs hP hD hS => ?_)
    have hW : va_P D cls9 [(h, .inr (0, [.ref h_before, .int ((D_X0_removeFirst before).2 + (1 : Int32))])), (h_before, .inl (cJ, 14, .inr (.inl (vp_updL (D_X0_removeFirst before).1 (D_X0_removeFirst before).2.toNatClampNeg p0))))] H ∧ va_D A [(h, .inr (0, [.ref h_before, .int ((D_X0_removeFirst before).2 + (1 : Int32))])), (h_before, .inl (cJ, 14, .inr (.inl (vp_updL (D_X0_removeFirst before).1 (D_X0_removeFirst before).2.toNatClampNeg p0))))] := ⟨hP, hD⟩
    exact retV hQ hx hb hr hlk hK hW hS (rfl) (by rw [hF]) dX0_append_36
abbrev rm_X0_removeLast : Room := { frames := 0, cells := 0, slots := 0, locals := 0 }
set_option maxHeartbeats 4000000 in
set_option maxRecDepth 100000 in
theorem c_X0_removeLast (l : Launch) (D : va_G) (cI cJ cZ : ClassId) (h h_before : Nat) (before : Nat → Int64) (count : Int32) (hc : inR count 14) : CT l D (tys3 cI cJ cZ) yX0_removeLast cX0_removeLast 1 (some .long) rm_X0_removeLast [.ref h] [(h, .inr (0, [.ref h_before, .int count])), (h_before, .inl (cJ, 14, .inr (.inl before)))] (some (.long (D_X0_removeLast before count).1)) [(h, .inr (0, [.ref h_before, .int (D_X0_removeLast before count).2])), (h_before, .inl (cJ, 14, .inr (.inl before)))] := by
  refine CT.of (by decide) (Nat.le_of_ble_eq_true rfl) ?_
  intro p e s m args below meth c A Q ls hQ hx hb hr hml hown hts hlk hK hA hW hS hl
  have hl : lv_has ls 1 [(0, .ref h)] := hl
  have hF := (D_X0_removeLast.eq_1 before count)
  refine lv_aload_n hx hb dX0_removeLast_0 rfl (lv_at hl 0 rfl) ?_
  refine va_get (D := D) (ci := 0) (v := .int count) (C := RX0) (T := TX0) (N := 2) hx hb hts inX0 hown hK.1 hW.1 0 rfl rfl 1 (by decide) (hts _ tw151) (fun _ h9 => h9) rfl dX0_removeLast_1 ?_
  refine lv_if_ne (tgt := 9) hx hb dX0_removeLast_4 (by decide) (fun c_4 => ?_) (fun c_4 => ?_)
  · have hF := hF.trans (if_neg c_4)
    refine lv_aload_n hx hb dX0_removeLast_9 rfl (lv_at hl 0 rfl) ?_
    refine lv_dup hx hb dX0_removeLast_10 rfl ?_
    refine va_get (D := D) (ci := 0) (v := .int count) (C := RX0) (T := TX0) (N := 2) hx hb hts inX0 hown hK.1 hW.1 0 rfl rfl 1 (by decide) (hts _ tw151) (fun _ h9 => h9) rfl dX0_removeLast_11 ?_
    refine lv_iconst (v := 1) hx hb dX0_removeLast_14 (by decide) ?_
    refine lv_isub hx hb dX0_removeLast_15 ?_
    refine va_put (D := D) (ci := 0) (v := .int (count - (1 : Int32))) (ty := .int) (C := RX0) (T := TX0) (N := 2) hx hb hts inX0 tyX0 tyX0_ok nmX0 hown hK.1 hW.1 hW.2 hS 0 rfl rfl 1 (by decide) (hts _ tw151) (fun _ h9 => h9) rfl (tyX0_ok 1 (by decide)) rfl rfl (Nat.le_of_ble_eq_true rfl) dX0_removeLast_16 (fun H locs hP hD hS => ?_)
    have hW : va_P D cls9 [(h, .inr (0, [.ref h_before, .int (count - (1 : Int32))])), (h_before, .inl (cJ, 14, .inr (.inl before)))] H ∧ va_D A [(h, .inr (0, [.ref h_before, .int (count - (1 : Int32))])), (h_before, .inl (cJ, 14, .inr (.inl before)))] := ⟨hP, hD⟩
    refine lv_aload_n hx hb dX0_removeLast_19 rfl (lv_at hl 0 rfl) ?_
    refine va_get (D := D) (ci := 0) (v := .ref h_before) (C := RX0) (T := TX0) (N := 2) hx hb hts inX0 hown hK.1 hW.1 0 rfl rfl 0 (by decide) (hts _ tw150) (fun _ h9 => h9) rfl dX0_removeLast_20 ?_
    refine lv_aload_n hx hb dX0_removeLast_23 rfl (lv_at hl 0 rfl) ?_
    refine va_get (D := D) (ci := 0) (v := .int (count - (1 : Int32))) (C := RX0) (T := TX0) (N := 2) hx hb hts inX0 hown hK.1 hW.1 0 rfl rfl 1 (by decide) (hts _ tw151) (fun _ h9 => h9) rfl dX0_removeLast_24 ?_
    refine va_lald (a := h_before) (n := 14) (f := before) hx hb hK.1 hW.1 1 1 rfl rfl (vin_cm1 hc c_4) dX0_removeLast_27 ?_
    exact retL hQ hx hb hr hlk hK hW hS (by rw [hF]) (by rw [hF]) dX0_removeLast_28
  · have hF := hF.trans (if_pos c_4)
    refine lv_lconst (v := 0) hx hb dX0_removeLast_7 (by decide) ?_
    exact retL hQ hx hb hr hlk hK hW hS (by rw [hF]) (by rw [hF]) dX0_removeLast_8
abbrev rm_X0_forgetAll : Room := { frames := 0, cells := 0, slots := 0, locals := 0 }
set_option maxHeartbeats 4000000 in
set_option maxRecDepth 100000 in
theorem c_X0_forgetAll (l : Launch) (D : va_G) (cI cJ cZ : ClassId) (h h_before : Nat) (before : Nat → Int64) (count : Int32) : CT l D (tys3 cI cJ cZ) yX0_forgetAll cX0_forgetAll 1 none rm_X0_forgetAll [.ref h] [(h, .inr (0, [.ref h_before, .int count])), (h_before, .inl (cJ, 14, .inr (.inl before)))] none [(h, .inr (0, [.ref h_before, .int D_X0_forgetAll])), (h_before, .inl (cJ, 14, .inr (.inl before)))] := by
  refine CT.of (by decide) (Nat.le_of_ble_eq_true rfl) ?_
  intro p e s m args below meth c A Q ls hQ hx hb hr hml hown hts hlk hK hA hW hS hl
  have hl : lv_has ls 1 [(0, .ref h)] := hl
  have hF := D_X0_forgetAll.eq_1
  refine lv_aload_n hx hb dX0_forgetAll_0 rfl (lv_at hl 0 rfl) ?_
  refine lv_iconst (v := 0) hx hb dX0_forgetAll_1 (by decide) ?_
  refine va_put (D := D) (ci := 0) (v := .int (0 : Int32)) (ty := .int) (C := RX0) (T := TX0) (N := 2) hx hb hts inX0 tyX0 tyX0_ok nmX0 hown hK.1 hW.1 hW.2 hS 0 rfl rfl 1 (by decide) (hts _ tw151) (fun _ h9 => h9) rfl (tyX0_ok 1 (by decide)) rfl rfl (Nat.le_of_ble_eq_true rfl) dX0_forgetAll_2 (fun H locs hP hD hS => ?_)
  have hW : va_P D cls9 [(h, .inr (0, [.ref h_before, .int (0 : Int32)])), (h_before, .inl (cJ, 14, .inr (.inl before)))] H ∧ va_D A [(h, .inr (0, [.ref h_before, .int (0 : Int32)])), (h_before, .inl (cJ, 14, .inr (.inl before)))] := ⟨hP, hD⟩
  exact retV hQ hx hb hr hlk hK hW hS (rfl) (by rw [hF]) dX0_forgetAll_5
abbrev rm_X1_append : Room := { frames := 0, cells := 0, slots := 0, locals := 0 }
set_option maxHeartbeats 4000000 in
set_option maxRecDepth 100000 in
theorem c_X1_append (l : Launch) (D : va_G) (cI cJ cZ : ClassId) (h h_sworn h_answers : Nat) (sworn : Nat → Int32) (answers : Nat → Int32) (count : Int32) (p0 : Int32) (p1 : Int32) (hc : inR count 6) : CT l D (tys3 cI cJ cZ) yX1_append cX1_append 3 (some .int) rm_X1_append [.ref h, .int p0, .int p1] [(h, .inr (1, [.ref h_sworn, .ref h_answers, .int count])), (h_sworn, .inl (cI, 6, .inl sworn)), (h_answers, .inl (cI, 6, .inl answers))] (some (.int (D_X1_append sworn answers count p0 p1).1)) [(h, .inr (1, [.ref h_sworn, .ref h_answers, .int (D_X1_append sworn answers count p0 p1).2.2.2])), (h_sworn, .inl (cI, 6, .inl (D_X1_append sworn answers count p0 p1).2.1)), (h_answers, .inl (cI, 6, .inl (D_X1_append sworn answers count p0 p1).2.2.1))] := by
  refine CT.of (by decide) (Nat.le_of_ble_eq_true rfl) ?_
  intro p e s m args below meth c A Q ls hQ hx hb hr hml hown hts hlk hK hA hW hS hl
  have hl : lv_has ls 3 [(0, .ref h), (1, .int p0), (2, .int p1)] := hl
  have hF := (D_X1_append.eq_1 sworn answers count p0 p1)
  refine lv_aload_n hx hb dX1_append_0 rfl (lv_at hl 0 rfl) ?_
  refine va_get (D := D) (ci := 1) (v := .int count) (C := RX1) (T := TX1) (N := 3) hx hb hts inX1 hown hK.1 hW.1 0 rfl rfl 2 (by decide) (hts _ tw167) (fun _ h9 => h9) rfl dX1_append_1 ?_
  refine lv_aload_n hx hb dX1_append_4 rfl (lv_at hl 0 rfl) ?_
  refine va_get (D := D) (ci := 1) (v := .ref h_sworn) (C := RX1) (T := TX1) (N := 3) hx hb hts inX1 hown hK.1 hW.1 0 rfl rfl 0 (by decide) (hts _ tw165) (fun _ h9 => h9) rfl dX1_append_5 ?_
  refine va_alen (v := 6) hx hb hK.1 hW.1 1 0 rfl rfl rfl dX1_append_8 ?_
  refine lv_icmp_lt (tgt := 15) hx hb dX1_append_9 (by decide) (fun c_9 => ?_) (fun c_9 => ?_)
  · have hF := hF.trans (if_pos c_9)
    refine lv_aload_n hx hb dX1_append_15 rfl (lv_at hl 0 rfl) ?_
    refine va_get (D := D) (ci := 1) (v := .ref h_sworn) (C := RX1) (T := TX1) (N := 3) hx hb hts inX1 hown hK.1 hW.1 0 rfl rfl 0 (by decide) (hts _ tw165) (fun _ h9 => h9) rfl dX1_append_16 ?_
    refine lv_aload_n hx hb dX1_append_19 rfl (lv_at hl 0 rfl) ?_
    refine va_get (D := D) (ci := 1) (v := .int count) (C := RX1) (T := TX1) (N := 3) hx hb hts inX1 hown hK.1 hW.1 0 rfl rfl 2 (by decide) (hts _ tw167) (fun _ h9 => h9) rfl dX1_append_20 ?_
    refine lv_iload_n hx hb dX1_append_23 rfl (lv_at hl 1 rfl) ?_
    refine va_iast (a := h_sworn) (n := 6) (f := sworn) hx hb hK.1 hW.1 hW.2 hS 1 0 rfl rfl (vin_ltc2 hc (by decide) c_9) dX1_append_24 (fun H locs hP hD hS => ?_)
    have hW : va_P D cls9 [(h, .inr (1, [.ref h_sworn, .ref h_answers, .int count])), (h_sworn, .inl (cI, 6, .inl (upd sworn count.toNatClampNeg p0))), (h_answers, .inl (cI, 6, .inl answers))] H ∧ va_D A [(h, .inr (1, [.ref h_sworn, .ref h_answers, .int count])), (h_sworn, .inl (cI, 6, .inl (upd sworn count.toNatClampNeg p0))), (h_answers, .inl (cI, 6, .inl answers))] := ⟨hP, hD⟩
    refine lv_aload_n hx hb dX1_append_25 rfl (lv_at hl 0 rfl) ?_
    refine va_get (D := D) (ci := 1) (v := .ref h_answers) (C := RX1) (T := TX1) (N := 3) hx hb hts inX1 hown hK.1 hW.1 0 rfl rfl 1 (by decide) (hts _ tw166) (fun _ h9 => h9) rfl dX1_append_26 ?_
    refine lv_aload_n hx hb dX1_append_29 rfl (lv_at hl 0 rfl) ?_
    refine va_get (D := D) (ci := 1) (v := .int count) (C := RX1) (T := TX1) (N := 3) hx hb hts inX1 hown hK.1 hW.1 0 rfl rfl 2 (by decide) (hts _ tw167) (fun _ h9 => h9) rfl dX1_append_30 ?_
    refine lv_iload_n hx hb dX1_append_33 rfl (lv_at hl 2 rfl) ?_
    refine va_iast (a := h_answers) (n := 6) (f := answers) hx hb hK.1 hW.1 hW.2 hS 2 0 rfl rfl (vin_ltc2 hc (by decide) c_9) dX1_append_34 (fun H locs hP hD hS => ?_)
    have hW : va_P D cls9 [(h, .inr (1, [.ref h_sworn, .ref h_answers, .int count])), (h_sworn, .inl (cI, 6, .inl (upd sworn count.toNatClampNeg p0))), (h_answers, .inl (cI, 6, .inl (upd answers count.toNatClampNeg p1)))] H ∧ va_D A [(h, .inr (1, [.ref h_sworn, .ref h_answers, .int count])), (h_sworn, .inl (cI, 6, .inl (upd sworn count.toNatClampNeg p0))), (h_answers, .inl (cI, 6, .inl (upd answers count.toNatClampNeg p1)))] := ⟨hP, hD⟩
    refine lv_aload_n hx hb dX1_append_35 rfl (lv_at hl 0 rfl) ?_
    refine lv_dup hx hb dX1_append_36 rfl ?_
    refine va_get (D := D) (ci := 1) (v := .int count) (C := RX1) (T := TX1) (N := 3) hx hb hts inX1 hown hK.1 hW.1 0 rfl rfl 2 (by decide) (hts _ tw167) (fun _ h9 => h9) rfl dX1_append_37 ?_
    refine lv_iconst (v := 1) hx hb dX1_append_40 (by decide) ?_
    refine lv_iadd hx hb dX1_append_41 ?_
    refine va_put (D := D) (ci := 1) (v := .int (count + (1 : Int32))) (ty := .int) (C := RX1) (T := TX1) (N := 3) hx hb hts inX1 tyX1 tyX1_ok nmX1 hown hK.1 hW.1 hW.2 hS 0 rfl rfl 2 (by decide) (hts _ tw167) (fun _ h9 => h9) rfl (tyX1_ok 2 (by decide)) rfl rfl (Nat.le_of_ble_eq_true rfl) dX1_append_42 (fun H locs hP hD hS => ?_)
    have hW : va_P D cls9 [(h, .inr (1, [.ref h_sworn, .ref h_answers, .int (count + (1 : Int32))])), (h_sworn, .inl (cI, 6, .inl (upd sworn count.toNatClampNeg p0))), (h_answers, .inl (cI, 6, .inl (upd answers count.toNatClampNeg p1)))] H ∧ va_D A [(h, .inr (1, [.ref h_sworn, .ref h_answers, .int (count + (1 : Int32))])), (h_sworn, .inl (cI, 6, .inl (upd sworn count.toNatClampNeg p0))), (h_answers, .inl (cI, 6, .inl (upd answers count.toNatClampNeg p1)))] := ⟨hP, hD⟩
    refine lv_aload_n hx hb dX1_append_45 rfl (lv_at hl 0 rfl) ?_
    refine va_get (D := D) (ci := 1) (v := .int (count + (1 : Int32))) (C := RX1) (T := TX1) (N := 3) hx hb hts inX1 hown hK.1 hW.1 0 rfl rfl 2 (by decide) (hts _ tw167) (fun _ h9 => h9) rfl dX1_append_46 ?_
    exact retI hQ hx hb hr hlk hK hW hS (by rw [hF]) (by rw [hF]) dX1_append_49
  · have hF := hF.trans (if_neg c_9)
    refine lv_bipush (v := -4) hx hb dX1_append_12 (by decide) ?_
    exact retI hQ hx hb hr hlk hK hW hS (by rw [hF]) (by rw [hF]) dX1_append_14
abbrev rm_X1_clear : Room := { frames := 0, cells := 0, slots := 0, locals := 0 }
set_option maxHeartbeats 4000000 in
set_option maxRecDepth 100000 in
theorem c_X1_clear (l : Launch) (D : va_G) (cI cJ cZ : ClassId) (h h_sworn h_answers : Nat) (sworn : Nat → Int32) (answers : Nat → Int32) (count : Int32) : CT l D (tys3 cI cJ cZ) yX1_clear cX1_clear 2 (some .int) rm_X1_clear [.ref h] [(h, .inr (1, [.ref h_sworn, .ref h_answers, .int count])), (h_sworn, .inl (cI, 6, .inl sworn)), (h_answers, .inl (cI, 6, .inl answers))] (some (.int (D_X1_clear count).1)) [(h, .inr (1, [.ref h_sworn, .ref h_answers, .int (D_X1_clear count).2])), (h_sworn, .inl (cI, 6, .inl sworn)), (h_answers, .inl (cI, 6, .inl answers))] := by
  refine CT.of (by decide) (Nat.le_of_ble_eq_true rfl) ?_
  intro p e s m args below meth c A Q ls hQ hx hb hr hml hown hts hlk hK hA hW hS hl
  have hl : lv_has ls 2 [(0, .ref h)] := hl
  have hF := (D_X1_clear.eq_1 count)
  refine lv_aload_n hx hb dX1_clear_0 rfl (lv_at hl 0 rfl) ?_
  refine va_get (D := D) (ci := 1) (v := .int count) (C := RX1) (T := TX1) (N := 3) hx hb hts inX1 hown hK.1 hW.1 0 rfl rfl 2 (by decide) (hts _ tw167) (fun _ h9 => h9) rfl dX1_clear_1 ?_
  refine lv_istore_n (lv' := [(1, .int count), (0, .ref h)]) hx hb dX1_clear_4 rfl hl (by decide) rfl (fun ls hl => ?_)
  refine lv_aload_n hx hb dX1_clear_5 rfl (lv_at hl 1 rfl) ?_
  refine lv_iconst (v := 0) hx hb dX1_clear_6 (by decide) ?_
  refine va_put (D := D) (ci := 1) (v := .int (0 : Int32)) (ty := .int) (C := RX1) (T := TX1) (N := 3) hx hb hts inX1 tyX1 tyX1_ok nmX1 hown hK.1 hW.1 hW.2 hS 0 rfl rfl 2 (by decide) (hts _ tw167) (fun _ h9 => h9) rfl (tyX1_ok 2 (by decide)) rfl rfl (Nat.le_of_ble_eq_true rfl) dX1_clear_7 (fun H locs hP hD hS => ?_)
  have hW : va_P D cls9 [(h, .inr (1, [.ref h_sworn, .ref h_answers, .int (0 : Int32)])), (h_sworn, .inl (cI, 6, .inl sworn)), (h_answers, .inl (cI, 6, .inl answers))] H ∧ va_D A [(h, .inr (1, [.ref h_sworn, .ref h_answers, .int (0 : Int32)])), (h_sworn, .inl (cI, 6, .inl sworn)), (h_answers, .inl (cI, 6, .inl answers))] := ⟨hP, hD⟩
  refine lv_iload_n hx hb dX1_clear_10 rfl (lv_at hl 0 rfl) ?_
  exact retI hQ hx hb hr hlk hK hW hS (by rw [hF]) (by rw [hF]) dX1_clear_11
abbrev rm_X1_allKeptBy : Room := { frames := 3, cells := 0, slots := 0, locals := 70 }
set_option maxHeartbeats 4000000 in
set_option maxRecDepth 100000 in
theorem c_X1_allKeptBy (l : Launch) (D : va_G) (cI cJ cZ : ClassId) (h h_sworn h_answers g0 g0_kinds g0_grounds : Nat) (sworn : Nat → Int32) (answers : Nat → Int32) (count : Int32) (o_kinds : Nat → Int32) (o_grounds : Nat → Int32) (o_count : Int32) (p1 : Int32) (hc : inR count 6) (hg : inR o_count 6) : CT l D (tys3 cI cJ cZ) yX1_allKeptBy cX1_allKeptBy 5 (some .boolean) rm_X1_allKeptBy [.ref h, .ref g0, .int p1] [(h, .inr (1, [.ref h_sworn, .ref h_answers, .int count])), (h_sworn, .inl (cI, 6, .inl sworn)), (h_answers, .inl (cI, 6, .inl answers)), (g0, .inr (6, [.ref g0_kinds, .ref g0_grounds, .int o_count])), (g0_kinds, .inl (cI, 6, .inl o_kinds)), (g0_grounds, .inl (cI, 18, .inl o_grounds))] (some (.int (D_X1_allKeptBy sworn answers count o_kinds o_grounds o_count p1))) [(h, .inr (1, [.ref h_sworn, .ref h_answers, .int count])), (h_sworn, .inl (cI, 6, .inl sworn)), (h_answers, .inl (cI, 6, .inl answers)), (g0, .inr (6, [.ref g0_kinds, .ref g0_grounds, .int o_count])), (g0_kinds, .inl (cI, 6, .inl o_kinds)), (g0_grounds, .inl (cI, 18, .inl o_grounds))] := by
  refine CT.of (by decide) (Nat.le_of_ble_eq_true rfl) ?_
  intro p e s m args below meth c A Q ls hQ hx hb hr hml hown hts hlk hK hA hW hS hl
  have hl : lv_has ls 5 [(0, .ref h), (1, .ref g0), (2, .int p1)] := hl
  have hF := (D_X1_allKeptBy.eq_1 sworn answers count o_kinds o_grounds o_count p1)
  refine lv_aload_n hx hb dX1_allKeptBy_0 rfl (lv_at hl 1 rfl) ?_
  refine lv_iload_n hx hb dX1_allKeptBy_1 rfl (lv_at hl 2 rfl) ?_
  refine cV (own := RX1) (As := [.int p1]) (rest := []) (c_X6_soBy l D cI cJ cZ g0 g0_kinds g0_grounds o_kinds o_grounds o_count p1 hg) [3, 4, 5] 6 0 hx hb hml hown hts hK hA hW hS tw361 tw584 tw359 tw360 tw43 hv_X6_soBy ⟨Nat.le_of_ble_eq_true rfl, Nat.le_of_ble_eq_true rfl⟩ ⟨rfl, rfl⟩ ⟨Nat.zero_le _, Nat.zero_le _⟩ rfl [g0, g0_kinds, g0_grounds] rfl rfl (by decide) rfl rfl hl.1 rfl (Nat.le_of_ble_eq_true rfl) dX1_allKeptBy_2 (fun H locs hW hS => ?_)
  have hW : va_P D cls9 [(h, .inr (1, [.ref h_sworn, .ref h_answers, .int count])), (h_sworn, .inl (cI, 6, .inl sworn)), (h_answers, .inl (cI, 6, .inl answers)), (g0, .inr (6, [.ref g0_kinds, .ref g0_grounds, .int o_count])), (g0_kinds, .inl (cI, 6, .inl o_kinds)), (g0_grounds, .inl (cI, 18, .inl o_grounds))] H ∧ va_D A [(h, .inr (1, [.ref h_sworn, .ref h_answers, .int count])), (h_sworn, .inl (cI, 6, .inl sworn)), (h_answers, .inl (cI, 6, .inl answers)), (g0, .inr (6, [.ref g0_kinds, .ref g0_grounds, .int o_count])), (g0_kinds, .inl (cI, 6, .inl o_kinds)), (g0_grounds, .inl (cI, 18, .inl o_grounds))] := hW
  refine lv_istore_n (lv' := [(3, .int (D_X6_soBy o_kinds o_grounds o_count p1)), (0, .ref h), (1, .ref g0), (2, .int p1)]) hx hb dX1_allKeptBy_5 rfl hl (by decide) rfl (fun ls hl => ?_)
  refine lv_iconst (v := 0) hx hb dX1_allKeptBy_6 (by decide) ?_
  refine lv_istore (lv' := [(4, .int (0 : Int32)), (3, .int (D_X6_soBy o_kinds o_grounds o_count p1)), (0, .ref h), (1, .ref g0), (2, .int p1)]) hx hb dX1_allKeptBy_7 hl (by decide) rfl (fun ls hl => ?_)
  have L9 : ∀ (n i9 : Nat), i9 + n = count.toNatClampNeg → (D_X1_allKeptBy sworn answers count o_kinds o_grounds o_count p1) = (D_X1_allKeptBy_l9 p1 sworn answers o_kinds o_grounds o_count n i9) → ∀ (H : Heap) (locs : List Loc), (va_P D cls9 [(h, .inr (1, [.ref h_sworn, .ref h_answers, .int count])), (h_sworn, .inl (cI, 6, .inl sworn)), (h_answers, .inl (cI, 6, .inl answers)), (g0, .inr (6, [.ref g0_kinds, .ref g0_grounds, .int o_count])), (g0_kinds, .inl (cI, 6, .inl o_kinds)), (g0_grounds, .inl (cI, 18, .inl o_grounds))] H ∧ va_D A [(h, .inr (1, [.ref h_sworn, .ref h_answers, .int count])), (h_sworn, .inl (cI, 6, .inl sworn)), (h_answers, .inl (cI, 6, .inl answers)), (g0, .inr (6, [.ref g0_kinds, .ref g0_grounds, .int o_count])), (g0_kinds, .inl (cI, 6, .inl o_kinds)), (g0_grounds, .inl (cI, 18, .inl o_grounds))]) → va_S A s.heap H locs → ∀ (ls : Array Slot), lv_has ls 5 [(4, .int (nI i9)), (0, .ref h), (1, .ref g0), (3, .int (D_X6_soBy o_kinds o_grounds o_count p1))] → W p l e rm_X1_allKeptBy s m args below meth c H locs 0 0 Q (F0 m 9 ls []) := by
    intro n
    induction n with
    | zero =>
      intro i9 hi  hF H locs hW hS ls hl
      obtain rfl : i9 = count.toNatClampNeg := by omega
      have hF : (D_X1_allKeptBy sworn answers count o_kinds o_grounds o_count p1) = D_X1_allKeptBy_k9 := hF
      have hF := hF.trans (D_X1_allKeptBy_k9.eq_1)
      refine lv_iload hx hb dX1_allKeptBy_9 (lv_at hl 0 rfl) ?_
      refine lv_aload_n hx hb dX1_allKeptBy_11 rfl (lv_at hl 1 rfl) ?_
      refine va_get (D := D) (ci := 1) (v := .int count) (C := RX1) (T := TX1) (N := 3) hx hb hts inX1 hown hK.1 hW.1 0 rfl rfl 2 (by decide) (hts _ tw167) (fun _ h9 => h9) rfl dX1_allKeptBy_12 ?_
      refine lv_icmp_ge (tgt := 61) hx hb dX1_allKeptBy_15 (by decide) (fun c_15 => ?_) (fun c_15 => ?_)
      · refine lv_iconst (v := 1) hx hb dX1_allKeptBy_61 (by decide) ?_
        exact retZ hQ hx hb hr hlk hK hW hS (Or.inr rfl) (by rw [hF]) (rfl) dX1_allKeptBy_62
      · exact absurd (cl_ge (B := count) (k := count.toNatClampNeg) (by omega)) c_15
    | succ n ih =>
      intro i9 hi  hF H locs hW hS ls hl
      have hB9 := (D_X1_allKeptBy_b9.eq_1 p1 sworn answers o_kinds o_grounds o_count i9)
      refine lv_iload hx hb dX1_allKeptBy_9 (lv_at hl 0 rfl) ?_
      refine lv_aload_n hx hb dX1_allKeptBy_11 rfl (lv_at hl 1 rfl) ?_
      refine va_get (D := D) (ci := 1) (v := .int count) (C := RX1) (T := TX1) (N := 3) hx hb hts inX1 hown hK.1 hW.1 0 rfl rfl 2 (by decide) (hts _ tw167) (fun _ h9 => h9) rfl dX1_allKeptBy_12 ?_
      refine lv_icmp_ge (tgt := 61) hx hb dX1_allKeptBy_15 (by decide) (fun c_15 => ?_) (fun c_15 => ?_)
      · exact absurd c_15 (cl_lt (B := count) (k := i9) (by omega))
      · refine lv_aload_n hx hb dX1_allKeptBy_18 rfl (lv_at hl 2 rfl) ?_
        refine lv_aload_n hx hb dX1_allKeptBy_19 rfl (lv_at hl 1 rfl) ?_
        refine va_get (D := D) (ci := 1) (v := .ref h_sworn) (C := RX1) (T := TX1) (N := 3) hx hb hts inX1 hown hK.1 hW.1 0 rfl rfl 0 (by decide) (hts _ tw165) (fun _ h9 => h9) rfl dX1_allKeptBy_20 ?_
        refine lv_iload hx hb dX1_allKeptBy_23 (lv_at hl 0 rfl) ?_
        refine va_iald (a := h_sworn) (n := 6) (f := sworn) hx hb hK.1 hW.1 1 0 rfl rfl (vin_cl hc (by omega)) dX1_allKeptBy_25 ?_
        refine cV (own := RX1) (As := [.int (sworn (nI i9).toNatClampNeg)]) (rest := []) (c_X6_has l D cI cJ cZ g0 g0_kinds g0_grounds o_kinds o_grounds o_count (sworn (nI i9).toNatClampNeg)) [3, 4, 5] 6 0 hx hb hml hown hts hK hA hW hS tw319 tw585 tw317 tw318 tw43 hv_X6_has ⟨Nat.le_of_ble_eq_true rfl, Nat.le_of_ble_eq_true rfl⟩ ⟨rfl, rfl⟩ ⟨Nat.zero_le _, Nat.zero_le _⟩ rfl [g0, g0_kinds, g0_grounds] rfl rfl (by decide) rfl rfl hl.1 rfl (Nat.le_of_ble_eq_true rfl) dX1_allKeptBy_26 (fun H locs hW hS => ?_)
        have hW : va_P D cls9 [(h, .inr (1, [.ref h_sworn, .ref h_answers, .int count])), (h_sworn, .inl (cI, 6, .inl sworn)), (h_answers, .inl (cI, 6, .inl answers)), (g0, .inr (6, [.ref g0_kinds, .ref g0_grounds, .int o_count])), (g0_kinds, .inl (cI, 6, .inl o_kinds)), (g0_grounds, .inl (cI, 18, .inl o_grounds))] H ∧ va_D A [(h, .inr (1, [.ref h_sworn, .ref h_answers, .int count])), (h_sworn, .inl (cI, 6, .inl sworn)), (h_answers, .inl (cI, 6, .inl answers)), (g0, .inr (6, [.ref g0_kinds, .ref g0_grounds, .int o_count])), (g0_kinds, .inl (cI, 6, .inl o_kinds)), (g0_grounds, .inl (cI, 18, .inl o_grounds))] := hW
        refine lv_if_eq (tgt := 55) hx hb dX1_allKeptBy_29 (by decide) (fun c_29 => ?_) (fun c_29 => ?_)
        · have hB9 := hB9.trans (if_pos c_29)
          refine lv_iinc (v := (nI (i9 + 1))) (lv' := [(4, .int (nI (i9 + 1))), (0, .ref h), (1, .ref g0), (3, .int (D_X6_soBy o_kinds o_grounds o_count p1))]) hx hb dX1_allKeptBy_55 hl (k := 0) rfl (nI_1 _) (by decide) rfl (fun ls hl => ?_)
          refine lv_goto (tgt := 9) hx hb dX1_allKeptBy_58 (by decide) ?_
          exact ih (i9 + 1) (by omega) (hF.trans ((D_X1_allKeptBy_l9_s p1 sworn answers o_kinds o_grounds o_count n i9 hB9))) _ _ hW hS _ (lv_sub hl [0, 1, 2, 3] rfl)
        · have hB9 := hB9.trans (if_neg c_29)
          refine lv_iload_n hx hb dX1_allKeptBy_32 rfl (lv_at hl 3 rfl) ?_
          refine lv_aload_n hx hb dX1_allKeptBy_33 rfl (lv_at hl 1 rfl) ?_
          refine va_get (D := D) (ci := 1) (v := .ref h_sworn) (C := RX1) (T := TX1) (N := 3) hx hb hts inX1 hown hK.1 hW.1 0 rfl rfl 0 (by decide) (hts _ tw165) (fun _ h9 => h9) rfl dX1_allKeptBy_34 ?_
          refine lv_iload hx hb dX1_allKeptBy_37 (lv_at hl 0 rfl) ?_
          refine va_iald (a := h_sworn) (n := 6) (f := sworn) hx hb hK.1 hW.1 1 0 rfl rfl (vin_cl hc (by omega)) dX1_allKeptBy_39 ?_
          refine lv_ishr hx hb dX1_allKeptBy_40 ?_
          refine lv_iconst (v := 1) hx hb dX1_allKeptBy_41 (by decide) ?_
          refine lv_iand hx hb dX1_allKeptBy_42 ?_
          refine lv_aload_n hx hb dX1_allKeptBy_43 rfl (lv_at hl 1 rfl) ?_
          refine va_get (D := D) (ci := 1) (v := .ref h_answers) (C := RX1) (T := TX1) (N := 3) hx hb hts inX1 hown hK.1 hW.1 0 rfl rfl 1 (by decide) (hts _ tw166) (fun _ h9 => h9) rfl dX1_allKeptBy_44 ?_
          refine lv_iload hx hb dX1_allKeptBy_47 (lv_at hl 0 rfl) ?_
          refine va_iald (a := h_answers) (n := 6) (f := answers) hx hb hK.1 hW.1 2 0 rfl rfl (vin_cl hc (by omega)) dX1_allKeptBy_49 ?_
          refine lv_icmp_eq (tgt := 55) hx hb dX1_allKeptBy_50 (by decide) (fun c_50 => ?_) (fun c_50 => ?_)
          · have hB9 := hB9.trans (if_pos c_50)
            refine lv_iinc (v := (nI (i9 + 1))) (lv' := [(4, .int (nI (i9 + 1))), (0, .ref h), (1, .ref g0), (3, .int (D_X6_soBy o_kinds o_grounds o_count p1))]) hx hb dX1_allKeptBy_55 hl (k := 0) rfl (nI_1 _) (by decide) rfl (fun ls hl => ?_)
            refine lv_goto (tgt := 9) hx hb dX1_allKeptBy_58 (by decide) ?_
            exact ih (i9 + 1) (by omega) (hF.trans ((D_X1_allKeptBy_l9_s p1 sworn answers o_kinds o_grounds o_count n i9 hB9))) _ _ hW hS _ (lv_sub hl [0, 1, 2, 3] rfl)
          · have hB9 := hB9.trans (if_neg c_50)
            refine lv_iconst (v := 0) hx hb dX1_allKeptBy_53 (by decide) ?_
            have hF := hF.trans ((D_X1_allKeptBy_l9_r p1 sworn answers o_kinds o_grounds o_count n i9 _ hB9))
            exact retZ hQ hx hb hr hlk hK hW hS (Or.inl rfl) (by rw [hF]) (rfl) dX1_allKeptBy_54
  exact L9 count.toNatClampNeg 0 (by omega) hF _ _ hW hS _ (lv_sub hl [0, 2, 3, 1] rfl)
abbrev rm_X3_store : Room := { frames := 1, cells := 0, slots := 0, locals := 20 }
set_option maxHeartbeats 4000000 in
set_option maxRecDepth 100000 in
theorem c_X3_store (l : Launch) (D : va_G) (cI cJ cZ : ClassId) (h h_kept h_full : Nat) (kept : Nat → Int64) (full : Nat → Int32) (p0 : Int32) (p1 : Int64) : CT l D (tys3 cI cJ cZ) yX3_store cX3_store 4 none rm_X3_store [.ref h, .int p0, .long p1] [(h, .inr (3, [.ref h_kept, .ref h_full])), (h_kept, .inl (cJ, 2, .inr (.inl kept))), (h_full, .inl (cZ, 2, .inl full))] none [(h, .inr (3, [.ref h_kept, .ref h_full])), (h_kept, .inl (cJ, 2, .inr (.inl (D_X3_store kept full p0 p1).1))), (h_full, .inl (cZ, 2, .inl (D_X3_store kept full p0 p1).2))] := by
  refine CT.of (by decide) (Nat.le_of_ble_eq_true rfl) ?_
  intro p e s m args below meth c A Q ls hQ hx hb hr hml hown hts hlk hK hA hW hS hl
  have hl : lv_has ls 4 [(0, .ref h), (1, .int p0), (2, .long p1)] := hl
  have hF := (D_X3_store.eq_1 kept full p0 p1)
  refine lv_iload_n hx hb dX3_store_0 rfl (lv_at hl 1 rfl) ?_
  refine cSN (own := RX3) (As := [.int p0]) (rest := []) (c_X7_isSlot l D cI cJ cZ p0) [] hx hb hml hown hts hK hA hW hS tw637 tw642 tw636 tw39 hv_X7_isSlot.2 ⟨Nat.le_of_ble_eq_true rfl, Nat.le_of_ble_eq_true rfl⟩ ⟨rfl, rfl⟩ ⟨Nat.zero_le _, Nat.zero_le _⟩ rfl [] rfl rfl (by decide) hl.1 rfl (Nat.le_of_ble_eq_true rfl) dX3_store_1 (fun H locs hW hS => ?_)
  have hW : va_P D cls9 [(h, .inr (3, [.ref h_kept, .ref h_full])), (h_kept, .inl (cJ, 2, .inr (.inl kept))), (h_full, .inl (cZ, 2, .inl full))] H ∧ va_D A [(h, .inr (3, [.ref h_kept, .ref h_full])), (h_kept, .inl (cJ, 2, .inr (.inl kept))), (h_full, .inl (cZ, 2, .inl full))] := hW
  refine lv_if_eq (tgt := 21) hx hb dX3_store_4 (by decide) (fun c_4 => ?_) (fun c_4 => ?_)
  · have hF := hF.trans (if_pos c_4)
    exact retV hQ hx hb hr hlk hK hW hS (rfl) (by rw [hF]) dX3_store_21
  · have hF := hF.trans (if_neg c_4)
    refine lv_aload_n hx hb dX3_store_7 rfl (lv_at hl 0 rfl) ?_
    refine va_get (D := D) (ci := 3) (v := .ref h_kept) (C := RX3) (T := TX3) (N := 2) hx hb hts inX3 hown hK.1 hW.1 0 rfl rfl 0 (by decide) (hts _ tw182) (fun _ h9 => h9) rfl dX3_store_8 ?_
    refine lv_iload_n hx hb dX3_store_11 rfl (lv_at hl 1 rfl) ?_
    refine lv_lload_n hx hb dX3_store_12 rfl (lv_at hl 2 rfl) ?_
    refine va_last (a := h_kept) (n := 2) (f := kept) hx hb hK.1 hW.1 hW.2 hS 1 1 rfl rfl (vin_isSlot c_4) dX3_store_13 (fun H locs hP hD hS => ?_)
    have hW : va_P D cls9 [(h, .inr (3, [.ref h_kept, .ref h_full])), (h_kept, .inl (cJ, 2, .inr (.inl (vp_updL kept p0.toNatClampNeg p1)))), (h_full, .inl (cZ, 2, .inl full))] H ∧ va_D A [(h, .inr (3, [.ref h_kept, .ref h_full])), (h_kept, .inl (cJ, 2, .inr (.inl (vp_updL kept p0.toNatClampNeg p1)))), (h_full, .inl (cZ, 2, .inl full))] := ⟨hP, hD⟩
    refine lv_aload_n hx hb dX3_store_14 rfl (lv_at hl 0 rfl) ?_
    refine va_get (D := D) (ci := 3) (v := .ref h_full) (C := RX3) (T := TX3) (N := 2) hx hb hts inX3 hown hK.1 hW.1 0 rfl rfl 1 (by decide) (hts _ tw183) (fun _ h9 => h9) rfl dX3_store_15 ?_
    refine lv_iload_n hx hb dX3_store_18 rfl (lv_at hl 1 rfl) ?_
    refine lv_iconst (v := 1) hx hb dX3_store_19 (by decide) ?_
    refine va_zast (a := h_full) (n := 2) (f := full) hx hb hK.1 hW.1 hW.2 hS 2 2 rfl rfl (vin_isSlot c_4) dX3_store_20 (fun H locs hP hD hS => ?_)
    have hW : va_P D cls9 [(h, .inr (3, [.ref h_kept, .ref h_full])), (h_kept, .inl (cJ, 2, .inr (.inl (vp_updL kept p0.toNatClampNeg p1)))), (h_full, .inl (cZ, 2, .inl (upd full p0.toNatClampNeg (vp_nar .boolean (1 : Int32)))))] H ∧ va_D A [(h, .inr (3, [.ref h_kept, .ref h_full])), (h_kept, .inl (cJ, 2, .inr (.inl (vp_updL kept p0.toNatClampNeg p1)))), (h_full, .inl (cZ, 2, .inl (upd full p0.toNatClampNeg (vp_nar .boolean (1 : Int32)))))] := ⟨hP, hD⟩
    exact retV hQ hx hb hr hlk hK hW hS (rfl) (by rw [hF]) dX3_store_21
abbrev rm_X3_isFull : Room := { frames := 1, cells := 0, slots := 0, locals := 20 }
set_option maxHeartbeats 4000000 in
set_option maxRecDepth 100000 in
theorem c_X3_isFull (l : Launch) (D : va_G) (cI cJ cZ : ClassId) (h h_kept h_full : Nat) (kept : Nat → Int64) (full : Nat → Int32) (p0 : Int32) : CT l D (tys3 cI cJ cZ) yX3_isFull cX3_isFull 2 (some .boolean) rm_X3_isFull [.ref h, .int p0] [(h, .inr (3, [.ref h_kept, .ref h_full])), (h_kept, .inl (cJ, 2, .inr (.inl kept))), (h_full, .inl (cZ, 2, .inl full))] (some (.int (D_X3_isFull full p0))) [(h, .inr (3, [.ref h_kept, .ref h_full])), (h_kept, .inl (cJ, 2, .inr (.inl kept))), (h_full, .inl (cZ, 2, .inl full))] := by
  refine CT.of (by decide) (Nat.le_of_ble_eq_true rfl) ?_
  intro p e s m args below meth c A Q ls hQ hx hb hr hml hown hts hlk hK hA hW hS hl
  have hl : lv_has ls 2 [(0, .ref h), (1, .int p0)] := hl
  have hF := (D_X3_isFull.eq_1 full p0)
  refine lv_iload_n hx hb dX3_isFull_0 rfl (lv_at hl 1 rfl) ?_
  refine cSN (own := RX3) (As := [.int p0]) (rest := []) (c_X7_isSlot l D cI cJ cZ p0) [] hx hb hml hown hts hK hA hW hS tw637 tw642 tw636 tw39 hv_X7_isSlot.2 ⟨Nat.le_of_ble_eq_true rfl, Nat.le_of_ble_eq_true rfl⟩ ⟨rfl, rfl⟩ ⟨Nat.zero_le _, Nat.zero_le _⟩ rfl [] rfl rfl (by decide) hl.1 rfl (Nat.le_of_ble_eq_true rfl) dX3_isFull_1 (fun H locs hW hS => ?_)
  have hW : va_P D cls9 [(h, .inr (3, [.ref h_kept, .ref h_full])), (h_kept, .inl (cJ, 2, .inr (.inl kept))), (h_full, .inl (cZ, 2, .inl full))] H ∧ va_D A [(h, .inr (3, [.ref h_kept, .ref h_full])), (h_kept, .inl (cJ, 2, .inr (.inl kept))), (h_full, .inl (cZ, 2, .inl full))] := hW
  refine lv_if_eq (tgt := 20) hx hb dX3_isFull_4 (by decide) (fun c_4 => ?_) (fun c_4 => ?_)
  · have hF := hF.trans (if_pos c_4)
    refine lv_iconst (v := 0) hx hb dX3_isFull_20 (by decide) ?_
    exact retZ hQ hx hb hr hlk hK hW hS (Or.inl rfl) (by rw [hF]) (rfl) dX3_isFull_21
  · have hF := hF.trans (if_neg c_4)
    refine lv_aload_n hx hb dX3_isFull_7 rfl (lv_at hl 0 rfl) ?_
    refine va_get (D := D) (ci := 3) (v := .ref h_full) (C := RX3) (T := TX3) (N := 2) hx hb hts inX3 hown hK.1 hW.1 0 rfl rfl 1 (by decide) (hts _ tw183) (fun _ h9 => h9) rfl dX3_isFull_8 ?_
    refine lv_iload_n hx hb dX3_isFull_11 rfl (lv_at hl 1 rfl) ?_
    refine va_zald (a := h_full) (n := 2) (f := full) hx hb hK.1 hW.1 2 2 rfl rfl (vin_isSlot c_4) dX3_isFull_12 ?_
    refine lv_if_eq (tgt := 20) hx hb dX3_isFull_13 (by decide) (fun c_13 => ?_) (fun c_13 => ?_)
    · have hF := hF.trans (if_pos c_13)
      refine lv_iconst (v := 0) hx hb dX3_isFull_20 (by decide) ?_
      exact retZ hQ hx hb hr hlk hK hW hS (Or.inl rfl) (by rw [hF]) (rfl) dX3_isFull_21
    · have hF := hF.trans (if_neg c_13)
      refine lv_iconst (v := 1) hx hb dX3_isFull_16 (by decide) ?_
      refine lv_goto (tgt := 21) hx hb dX3_isFull_17 (by decide) ?_
      exact retZ hQ hx hb hr hlk hK hW hS (Or.inr rfl) (by rw [hF]) (rfl) dX3_isFull_21
abbrev rm_X3_stored : Room := { frames := 1, cells := 0, slots := 0, locals := 20 }
set_option maxHeartbeats 4000000 in
set_option maxRecDepth 100000 in
theorem c_X3_stored (l : Launch) (D : va_G) (cI cJ cZ : ClassId) (h h_kept h_full : Nat) (kept : Nat → Int64) (full : Nat → Int32) (p0 : Int32) : CT l D (tys3 cI cJ cZ) yX3_stored cX3_stored 2 (some .long) rm_X3_stored [.ref h, .int p0] [(h, .inr (3, [.ref h_kept, .ref h_full])), (h_kept, .inl (cJ, 2, .inr (.inl kept))), (h_full, .inl (cZ, 2, .inl full))] (some (.long (D_X3_stored kept p0))) [(h, .inr (3, [.ref h_kept, .ref h_full])), (h_kept, .inl (cJ, 2, .inr (.inl kept))), (h_full, .inl (cZ, 2, .inl full))] := by
  refine CT.of (by decide) (Nat.le_of_ble_eq_true rfl) ?_
  intro p e s m args below meth c A Q ls hQ hx hb hr hml hown hts hlk hK hA hW hS hl
  have hl : lv_has ls 2 [(0, .ref h), (1, .int p0)] := hl
  have hF := (D_X3_stored.eq_1 kept p0)
  refine lv_iload_n hx hb dX3_stored_0 rfl (lv_at hl 1 rfl) ?_
  refine cSN (own := RX3) (As := [.int p0]) (rest := []) (c_X7_isSlot l D cI cJ cZ p0) [] hx hb hml hown hts hK hA hW hS tw637 tw642 tw636 tw39 hv_X7_isSlot.2 ⟨Nat.le_of_ble_eq_true rfl, Nat.le_of_ble_eq_true rfl⟩ ⟨rfl, rfl⟩ ⟨Nat.zero_le _, Nat.zero_le _⟩ rfl [] rfl rfl (by decide) hl.1 rfl (Nat.le_of_ble_eq_true rfl) dX3_stored_1 (fun H locs hW hS => ?_)
  have hW : va_P D cls9 [(h, .inr (3, [.ref h_kept, .ref h_full])), (h_kept, .inl (cJ, 2, .inr (.inl kept))), (h_full, .inl (cZ, 2, .inl full))] H ∧ va_D A [(h, .inr (3, [.ref h_kept, .ref h_full])), (h_kept, .inl (cJ, 2, .inr (.inl kept))), (h_full, .inl (cZ, 2, .inl full))] := hW
  refine lv_if_eq (tgt := 16) hx hb dX3_stored_4 (by decide) (fun c_4 => ?_) (fun c_4 => ?_)
  · have hF := hF.trans (if_pos c_4)
    refine lv_lconst (v := 0) hx hb dX3_stored_16 (by decide) ?_
    exact retL hQ hx hb hr hlk hK hW hS (by rw [hF]) (rfl) dX3_stored_17
  · have hF := hF.trans (if_neg c_4)
    refine lv_aload_n hx hb dX3_stored_7 rfl (lv_at hl 0 rfl) ?_
    refine va_get (D := D) (ci := 3) (v := .ref h_kept) (C := RX3) (T := TX3) (N := 2) hx hb hts inX3 hown hK.1 hW.1 0 rfl rfl 0 (by decide) (hts _ tw182) (fun _ h9 => h9) rfl dX3_stored_8 ?_
    refine lv_iload_n hx hb dX3_stored_11 rfl (lv_at hl 1 rfl) ?_
    refine va_lald (a := h_kept) (n := 2) (f := kept) hx hb hK.1 hW.1 1 1 rfl rfl (vin_isSlot c_4) dX3_stored_12 ?_
    refine lv_goto (tgt := 17) hx hb dX3_stored_13 (by decide) ?_
    exact retL hQ hx hb hr hlk hK hW hS (by rw [hF]) (rfl) dX3_stored_17
abbrev rm_X3_forgetAll : Room := { frames := 0, cells := 0, slots := 0, locals := 0 }
set_option maxHeartbeats 4000000 in
set_option maxRecDepth 100000 in
theorem c_X3_forgetAll (l : Launch) (D : va_G) (cI cJ cZ : ClassId) (h h_kept h_full : Nat) (kept : Nat → Int64) (full : Nat → Int32) : CT l D (tys3 cI cJ cZ) yX3_forgetAll cX3_forgetAll 2 none rm_X3_forgetAll [.ref h] [(h, .inr (3, [.ref h_kept, .ref h_full])), (h_kept, .inl (cJ, 2, .inr (.inl kept))), (h_full, .inl (cZ, 2, .inl full))] none [(h, .inr (3, [.ref h_kept, .ref h_full])), (h_kept, .inl (cJ, 2, .inr (.inl kept))), (h_full, .inl (cZ, 2, .inl (D_X3_forgetAll full)))] := by
  refine CT.of (by decide) (Nat.le_of_ble_eq_true rfl) ?_
  intro p e s m args below meth c A Q ls hQ hx hb hr hml hown hts hlk hK hA hW hS hl
  have hl : lv_has ls 2 [(0, .ref h)] := hl
  have hF := (D_X3_forgetAll.eq_1 full)
  refine lv_iconst (v := 0) hx hb dX3_forgetAll_0 (by decide) ?_
  refine lv_istore_n (lv' := [(1, .int (0 : Int32)), (0, .ref h)]) hx hb dX3_forgetAll_1 rfl hl (by decide) rfl (fun ls hl => ?_)
  have L2 : ∀ (n i2 : Nat), i2 + n = 2 → ∀ (full_2 : Nat → Int32), (D_X3_forgetAll_l2 full i2) = full_2 → ∀ (H : Heap) (locs : List Loc), (va_P D cls9 [(h, .inr (3, [.ref h_kept, .ref h_full])), (h_kept, .inl (cJ, 2, .inr (.inl kept))), (h_full, .inl (cZ, 2, .inl full_2))] H ∧ va_D A [(h, .inr (3, [.ref h_kept, .ref h_full])), (h_kept, .inl (cJ, 2, .inr (.inl kept))), (h_full, .inl (cZ, 2, .inl full_2))]) → va_S A s.heap H locs → ∀ (ls : Array Slot), lv_has ls 2 [(1, .int (nI i2)), (0, .ref h)] → W p l e rm_X3_forgetAll s m args below meth c H locs 0 0 Q (F0 m 2 ls []) := by
    intro n
    induction n with
    | zero =>
      intro i2 hi full_2 hacc H locs hW hS ls hl
      obtain rfl : i2 = 2 := by omega
      have hF : (D_X3_forgetAll full) = (D_X3_forgetAll_k2 full_2) := hF.trans (by rw [hacc])
      have hF := hF.trans ((D_X3_forgetAll_k2.eq_1 full_2))
      refine lv_iload_n hx hb dX3_forgetAll_2 rfl (lv_at hl 0 rfl) ?_
      refine lv_iconst (v := 2) hx hb dX3_forgetAll_3 (by decide) ?_
      refine lv_icmp_ge (tgt := 20) hx hb dX3_forgetAll_4 (by decide) (fun c_4 => ?_) (fun c_4 => ?_)
      · exact retV hQ hx hb hr hlk hK hW hS (rfl) (by rw [hF]) dX3_forgetAll_20
      · exact absurd (by decide) c_4
    | succ n ih =>
      intro i2 hi full_2 hacc H locs hW hS ls hl
      have hB2 : (D_X3_forgetAll_l2 full (i2 + 1)) = (D_X3_forgetAll_b2 i2 full_2) := by show (D_X3_forgetAll_b2 i2 (D_X3_forgetAll_l2 full i2)) = _; rw [hacc]
      have hB2 := hB2.trans ((D_X3_forgetAll_b2.eq_1 i2 full_2))
      refine lv_iload_n hx hb dX3_forgetAll_2 rfl (lv_at hl 0 rfl) ?_
      refine lv_iconst (v := 2) hx hb dX3_forgetAll_3 (by decide) ?_
      refine lv_icmp_ge (tgt := 20) hx hb dX3_forgetAll_4 (by decide) (fun c_4 => ?_) (fun c_4 => ?_)
      · exact absurd c_4 (cl_ltc (B := (2 : Int32)) (N := 2) (k := i2) (by decide) (by omega) (by decide))
      · refine lv_aload_n hx hb dX3_forgetAll_7 rfl (lv_at hl 1 rfl) ?_
        refine va_get (D := D) (ci := 3) (v := .ref h_full) (C := RX3) (T := TX3) (N := 2) hx hb hts inX3 hown hK.1 hW.1 0 rfl rfl 1 (by decide) (hts _ tw183) (fun _ h9 => h9) rfl dX3_forgetAll_8 ?_
        refine lv_iload_n hx hb dX3_forgetAll_11 rfl (lv_at hl 0 rfl) ?_
        refine lv_iconst (v := 0) hx hb dX3_forgetAll_12 (by decide) ?_
        refine va_zast (a := h_full) (n := 2) (f := full_2) hx hb hK.1 hW.1 hW.2 hS 2 2 rfl rfl (vp_in_nI (by omega) (by decide)) dX3_forgetAll_13 (fun H locs hP hD hS => ?_)
        have hW : va_P D cls9 [(h, .inr (3, [.ref h_kept, .ref h_full])), (h_kept, .inl (cJ, 2, .inr (.inl kept))), (h_full, .inl (cZ, 2, .inl (upd full_2 (nI i2).toNatClampNeg (vp_nar .boolean (0 : Int32)))))] H ∧ va_D A [(h, .inr (3, [.ref h_kept, .ref h_full])), (h_kept, .inl (cJ, 2, .inr (.inl kept))), (h_full, .inl (cZ, 2, .inl (upd full_2 (nI i2).toNatClampNeg (vp_nar .boolean (0 : Int32)))))] := ⟨hP, hD⟩
        refine lv_iinc (v := (nI (i2 + 1))) (lv' := [(1, .int (nI (i2 + 1))), (0, .ref h)]) hx hb dX3_forgetAll_14 hl (k := 0) rfl (nI_1 _) (by decide) rfl (fun ls hl => ?_)
        refine lv_goto (tgt := 2) hx hb dX3_forgetAll_17 (by decide) ?_
        exact ih (i2 + 1) (by omega) (upd full_2 (nI i2).toNatClampNeg (vp_nar .boolean (0 : Int32))) hB2 _ _ hW hS _ (lv_sub hl [0, 1] rfl)
  exact L2 2 0 (by omega) full rfl _ _ hW hS _ (lv_sub hl [0, 1] rfl)
