def D_J6_bitCount_0f7a4_c47 (c47_0 : Int32) : Int32 := (c47_0 &&& (63 : Int32))
def D_J6_bitCount_0f7a4_c40 (c40_0 : Int32) : Int32 := (D_J6_bitCount_0f7a4_c47 (c40_0 + ((c40_0.toUInt32 >>> ((16 : Int32).toUInt32 &&& Int32.toUInt32 31)).toInt32)))
def D_J6_bitCount_0f7a4_c33 (c33_0 : Int32) : Int32 := (D_J6_bitCount_0f7a4_c40 (c33_0 + ((c33_0.toUInt32 >>> ((8 : Int32).toUInt32 &&& Int32.toUInt32 31)).toInt32)))
def D_J6_bitCount_0f7a4_c23 (c23_0 : Int32) : Int32 := (D_J6_bitCount_0f7a4_c33 ((c23_0 + ((c23_0.toUInt32 >>> ((4 : Int32).toUInt32 &&& Int32.toUInt32 31)).toInt32)) &&& (252645135 : Int32)))
def D_J6_bitCount_0f7a4_c9 (c9_0 : Int32) : Int32 := (D_J6_bitCount_0f7a4_c23 ((c9_0 &&& (858993459 : Int32)) + (((c9_0.toUInt32 >>> ((2 : Int32).toUInt32 &&& Int32.toUInt32 31)).toInt32) &&& (858993459 : Int32))))
def D_J6_bitCount_0f7a4 (p0 : Int32) : Int32 := (D_J6_bitCount_0f7a4_c9 (p0 - (((p0.toUInt32 >>> ((1 : Int32).toUInt32 &&& Int32.toUInt32 31)).toInt32) &&& (1431655765 : Int32))))
def D_X7_isSlip (p0 : Int32) : Int32 := (if p0 < 0 then (0 : Int32) else (if (8 : Int32) ≤ p0 then (0 : Int32) else (1 : Int32)))
def D_X7_isSpike (p0 : Int32) : Int32 := (if p0 < 0 then (0 : Int32) else (if (3 : Int32) ≤ p0 then (0 : Int32) else (1 : Int32)))
def D_X7_isSlot (p0 : Int32) : Int32 := (if p0 < 0 then (0 : Int32) else (if (2 : Int32) ≤ p0 then (0 : Int32) else (1 : Int32)))
def D_X7_isRefusal (p0 : Int32) : Int32 := (if p0 = (-1 : Int32) then (1 : Int32) else (if p0 = (-3 : Int32) then (1 : Int32) else (0 : Int32)))
def D_X4_slipsFrom_k5 (a5_3 : Int32) : Int32 := a5_3
def D_X4_slipsFrom_b5 (p0 : Int32) (p1 : Int32) (spots : Nat → Int32) (i5 : Nat) (a5_3 : Int32) : Int32 := (if (spots (nI i5).toNatClampNeg) < p0 then a5_3 else (if (p0 + p1) ≤ (spots (nI i5).toNatClampNeg) then a5_3 else (a5_3 ||| ((1 : Int32) <<< ((nI i5) &&& 31)))))
def D_X4_slipsFrom_l5 (p0 : Int32) (p1 : Int32) (spots : Nat → Int32) (b5_0 : Int32) : Nat → Int32
  | 0 => b5_0
  | i + 1 => (D_X4_slipsFrom_b5 p0 p1 spots i (D_X4_slipsFrom_l5 p0 p1 spots b5_0 i))
def D_X4_slipsFrom (spots : Nat → Int32) (p0 : Int32) (p1 : Int32) : Int32 := (D_X4_slipsFrom_k5 (D_X4_slipsFrom_l5 p0 p1 spots (0 : Int32) 8))
def D_X4_allInHand_k2 (spots_2 : Nat → Int32) : (Nat → Int32) × Int32 := (spots_2, (0 : Int32))
def D_X4_allInHand_b2 (i2 : Nat) (spots_2 : Nat → Int32) : Nat → Int32 := (upd spots_2 (nI i2).toNatClampNeg (24 : Int32))
def D_X4_allInHand_l2 (b2_0 : Nat → Int32) : Nat → (Nat → Int32)
  | 0 => b2_0
  | i + 1 => (D_X4_allInHand_b2 i (D_X4_allInHand_l2 b2_0 i))
def D_X4_allInHand (spots : Nat → Int32) : (Nat → Int32) × Int32 := (D_X4_allInHand_k2 (D_X4_allInHand_l2 spots 8))
def D_X4_copyFrom_k2 (o_night : Int32) (spots_2 : Nat → Int32) : (Nat → Int32) × Int32 := (spots_2, o_night)
def D_X4_copyFrom_b2 (o_spots : Nat → Int32) (i2 : Nat) (spots_2 : Nat → Int32) : Nat → Int32 := (upd spots_2 (nI i2).toNatClampNeg (o_spots (nI i2).toNatClampNeg))
def D_X4_copyFrom_l2 (o_spots : Nat → Int32) (b2_0 : Nat → Int32) : Nat → (Nat → Int32)
  | 0 => b2_0
  | i + 1 => (D_X4_copyFrom_b2 o_spots i (D_X4_copyFrom_l2 o_spots b2_0 i))
def D_X4_copyFrom (spots : Nat → Int32) (o_spots : Nat → Int32) (o_night : Int32) : (Nat → Int32) × Int32 := (D_X4_copyFrom_k2 o_night (D_X4_copyFrom_l2 o_spots spots 8))
def D_X4_packed_k8 (a8_1 : Int64) : Int64 := a8_1
def D_X4_packed_c25 (c25_1 : Int64) : Int64 := c25_1
def D_X4_packed_b8 (spots : Nat → Int32) (i8 : Nat) (a8_1 : Int64) : Int64 := (D_X4_packed_c25 ((a8_1 <<< ((5 : Int32).toInt64 &&& 63)) ||| ((spots (nI i8).toNatClampNeg).toInt64)))
def D_X4_packed_l8 (spots : Nat → Int32) (b8_0 : Int64) : Nat → Int64
  | 0 => b8_0
  | i + 1 => (D_X4_packed_b8 spots i (D_X4_packed_l8 spots b8_0 i))
def D_X4_packed (spots : Nat → Int32) (night : Int32) : Int64 := (D_X4_packed_k8 (D_X4_packed_l8 spots (night.toInt64) 8))
def D_X4_unpack_k6 (a6_3 : Int64) (spots_6 : Nat → Int32) : (Nat → Int32) × Int32 := (spots_6, (a6_3.toInt32))
def D_X4_unpack_b6 (i6 : Nat) (a6_3 : Int64) (spots_6 : Nat → Int32) : Int64 × (Nat → Int32) := ((a6_3 >>> ((5 : Int32).toInt64 &&& 63)), (upd spots_6 (nI 7 - nI i6).toNatClampNeg ((a6_3.toInt32) &&& (31 : Int32))))
def D_X4_unpack_l6 (b6_0 : Int64) (b6_1 : Nat → Int32) : Nat → (Int64 × (Nat → Int32))
  | 0 => (b6_0, b6_1)
  | i + 1 => (D_X4_unpack_b6 i ((D_X4_unpack_l6 b6_0 b6_1 i).1) ((D_X4_unpack_l6 b6_0 b6_1 i).2))
def D_X4_unpack (spots : Nat → Int32) (p0 : Int64) : (Nat → Int32) × Int32 := (D_X4_unpack_k6 ((D_X4_unpack_l6 p0 spots 8).1) ((D_X4_unpack_l6 p0 spots 8).2))
def D_X4_onSpikes (spots : Nat → Int32) : Int32 := (D_X4_slipsFrom spots (0 : Int32) (24 : Int32))
def D_X4_inHand (spots : Nat → Int32) : Int32 := (D_X4_slipsFrom spots (24 : Int32) (1 : Int32))
def D_X4_gone (spots : Nat → Int32) : Int32 := (D_X4_slipsFrom spots (25 : Int32) (1 : Int32))
def D_X4_slipsOn (spots : Nat → Int32) (p0 : Int32) : Int32 := (D_X4_slipsFrom spots (p0 * (8 : Int32)) (8 : Int32))
def D_X4_countOn (spots : Nat → Int32) (p0 : Int32) : Int32 := (D_J6_bitCount_0f7a4 (D_X4_slipsFrom spots (p0 * (8 : Int32)) (8 : Int32)))
def D_X4_isInHand (spots : Nat → Int32) (p0 : Int32) : Int32 := (if (D_X7_isSlip p0) = 0 then (0 : Int32) else (if (spots p0.toNatClampNeg) = (24 : Int32) then (1 : Int32) else (0 : Int32)))
def D_X4_spikeOf (spots : Nat → Int32) (p0 : Int32) : Int32 := (if (D_X7_isSlip p0) = 0 then (-9 : Int32) else (if (24 : Int32) ≤ (spots p0.toNatClampNeg) then (-9 : Int32) else ((spots p0.toNatClampNeg) / (8 : Int32))))
def D_X4_heightOf (spots : Nat → Int32) (p0 : Int32) : Int32 := (if (D_X7_isSlip p0) = 0 then (-9 : Int32) else (if (24 : Int32) ≤ (spots p0.toNatClampNeg) then (-9 : Int32) else ((spots p0.toNatClampNeg) - (spots p0.toNatClampNeg) / (8 : Int32) * (8 : Int32))))
def D_X4_stateOf (spots : Nat → Int32) (p0 : Int32) : Int32 := (if (D_X4_spikeOf spots p0) = (-9 : Int32) then (if (D_X4_isInHand spots p0) = 0 then (2 : Int32) else (1 : Int32)) else (0 : Int32))
def D_X4_slipAt_k2 : Int32 := (-9 : Int32)
def D_X4_slipAt_b2 (p0 : Int32) (p1 : Int32) (spots : Nat → Int32) (i2 : Nat) : Int32 ⊕ Unit := (if (D_X4_spikeOf spots (nI i2)) = p0 then (if (D_X4_heightOf spots (nI i2)) = p1 then (Sum.inl (nI i2)) else (Sum.inr ())) else (Sum.inr ()))
def D_X4_slipAt_l2 (p0 : Int32) (p1 : Int32) (spots : Nat → Int32) : Nat → Nat → Int32
  | 0, i => D_X4_slipAt_k2
  | n + 1, i => match (D_X4_slipAt_b2 p0 p1 spots i) with
    | .inl r => r
    | .inr _ => D_X4_slipAt_l2 p0 p1 spots n (i + 1)
theorem D_X4_slipAt_l2_r (p0 : Int32) (p1 : Int32) (spots : Nat → Int32) (n i : Nat)  (r : Int32) (h : (D_X4_slipAt_b2 p0 p1 spots i) = .inl r) : D_X4_slipAt_l2 p0 p1 spots (n + 1) i  = r := by
  rw [D_X4_slipAt_l2]; simp only [h]
theorem D_X4_slipAt_l2_s (p0 : Int32) (p1 : Int32) (spots : Nat → Int32) (n i : Nat)   (h : (D_X4_slipAt_b2 p0 p1 spots i) = .inr ()) : D_X4_slipAt_l2 p0 p1 spots (n + 1) i  = D_X4_slipAt_l2 p0 p1 spots n (i + 1)  := by
  rw [D_X4_slipAt_l2]; simp only [h]
def D_X4_slipAt (spots : Nat → Int32) (p0 : Int32) (p1 : Int32) : Int32 := (D_X4_slipAt_l2 p0 p1 spots 8 0)
def D_X4_topOf (spots : Nat → Int32) (p0 : Int32) : Int32 := (D_X4_slipAt spots p0 ((D_X4_countOn spots p0) - (1 : Int32)))
def D_X4_putOn (spots : Nat → Int32) (p0 : Int32) (p1 : Int32) : Int32 × (Nat → Int32) := (if (D_X7_isSlip p0) = 0 then ((-1 : Int32), spots) else (if (D_X7_isSpike p1) = 0 then ((-1 : Int32), spots) else (if (spots p0.toNatClampNeg) = (24 : Int32) then ((D_X4_countOn spots p1), (upd spots p0.toNatClampNeg ((p1 * (8 : Int32)) + (D_X4_countOn spots p1)))) else ((-3 : Int32), spots))))
def D_X4_takeTop (spots : Nat → Int32) (p0 : Int32) : Int32 × (Nat → Int32) := (if (D_X7_isSpike p0) = 0 then ((-1 : Int32), spots) else (if (D_X7_isSlip (D_X4_topOf spots p0)) = 0 then ((-3 : Int32), spots) else ((D_X4_topOf spots p0), (upd spots (D_X4_topOf spots p0).toNatClampNeg (24 : Int32)))))
def D_X4_tearUp (spots : Nat → Int32) (p0 : Int32) : Int32 × (Nat → Int32) := (if (D_X7_isSlip p0) = 0 then ((-1 : Int32), spots) else (if (spots p0.toNatClampNeg) = (24 : Int32) then ((D_J6_bitCount_0f7a4 (D_X4_gone (upd spots p0.toNatClampNeg (25 : Int32)))), (upd spots p0.toNatClampNeg (25 : Int32))) else ((-3 : Int32), spots)))
def D_X4_forgeAnew (spots : Nat → Int32) (p0 : Int32) : Int32 × (Nat → Int32) := (if (D_X7_isSlip p0) = 0 then ((-1 : Int32), spots) else (if (spots p0.toNatClampNeg) = (25 : Int32) then ((D_J6_bitCount_0f7a4 (D_X4_gone (upd spots p0.toNatClampNeg (24 : Int32)))), (upd spots p0.toNatClampNeg (24 : Int32))) else ((-3 : Int32), spots)))
def D_X4_loseLowest_k2 (spots_2 : Nat → Int32) : Nat → Int32 := spots_2
def D_X4_loseLowest_j43 (spots_2 : Nat → Int32) (i2 : Nat) (y43_0 : Int32) : Nat → Int32 := (upd spots_2 (nI i2).toNatClampNeg y43_0)
def D_X4_loseLowest_b2 (p0 : Int32) (i2 : Nat) (spots_2 : Nat → Int32) : Nat → Int32 := (if (D_X4_spikeOf spots_2 (nI i2)) = p0 then (if (D_X4_heightOf spots_2 (nI i2)) = 0 then (D_X4_loseLowest_j43 spots_2 i2 (25 : Int32)) else (D_X4_loseLowest_j43 spots_2 i2 ((spots_2 (nI i2).toNatClampNeg) - (1 : Int32)))) else spots_2)
def D_X4_loseLowest_l2 (p0 : Int32) (b2_0 : Nat → Int32) : Nat → (Nat → Int32)
  | 0 => b2_0
  | i + 1 => (D_X4_loseLowest_b2 p0 i (D_X4_loseLowest_l2 p0 b2_0 i))
def D_X4_loseLowest (spots : Nat → Int32) (p0 : Int32) : Nat → Int32 := (D_X4_loseLowest_k2 (D_X4_loseLowest_l2 p0 spots 8))
def D_X4_letMiceIn_k4 (night : Int32) (a4_1 : Int32) (spots_4 : Nat → Int32) : Int32 × (Nat → Int32) × Int32 := (a4_1, spots_4, (night + (1 : Int32)))
def D_X4_letMiceIn_b4 (i4 : Nat) (a4_1 : Int32) (spots_4 : Nat → Int32) : Int32 × (Nat → Int32) := (if (D_X4_countOn spots_4 (nI i4)) < (3 : Int32) then (a4_1, spots_4) else ((a4_1 + (1 : Int32)), (D_X4_loseLowest spots_4 (nI i4))))
def D_X4_letMiceIn_l4 (b4_0 : Int32) (b4_1 : Nat → Int32) : Nat → (Int32 × (Nat → Int32))
  | 0 => (b4_0, b4_1)
  | i + 1 => (D_X4_letMiceIn_b4 i ((D_X4_letMiceIn_l4 b4_0 b4_1 i).1) ((D_X4_letMiceIn_l4 b4_0 b4_1 i).2))
def D_X4_letMiceIn (spots : Nat → Int32) (night : Int32) : Int32 × (Nat → Int32) × Int32 := (D_X4_letMiceIn_k4 night ((D_X4_letMiceIn_l4 (0 : Int32) spots 3).1) ((D_X4_letMiceIn_l4 (0 : Int32) spots 3).2))
def D_X4_turnOver_k19 (p0 : Int32) (spots_19 : Nat → Int32) : Int32 × (Nat → Int32) := ((D_X4_topOf spots_19 p0), spots_19)
def D_X4_turnOver_b19 (p0 : Int32) (spots : Nat → Int32) (i19 : Nat) (spots_19 : Nat → Int32) : Nat → Int32 := (if (D_X4_spikeOf spots_19 (nI i19)) = p0 then (upd spots_19 (nI i19).toNatClampNeg (((p0 * (8 : Int32)) + ((D_X4_countOn spots p0) - (1 : Int32))) - (D_X4_heightOf spots_19 (nI i19)))) else spots_19)
def D_X4_turnOver_l19 (p0 : Int32) (spots : Nat → Int32) (b19_0 : Nat → Int32) : Nat → (Nat → Int32)
  | 0 => b19_0
  | i + 1 => (D_X4_turnOver_b19 p0 spots i (D_X4_turnOver_l19 p0 spots b19_0 i))
def D_X4_turnOver (spots : Nat → Int32) (p0 : Int32) : Int32 × (Nat → Int32) := (if (D_X7_isSpike p0) = 0 then ((-1 : Int32), spots) else (D_X4_turnOver_k19 p0 (D_X4_turnOver_l19 p0 spots spots 8)))
