theorem vin_isSlip {x : Int32} (h : ¬ D_X7_isSlip x = 0) : vp_in x 8 := by
  unfold D_X7_isSlip at h
  rw [vp_in_iff]
  split at h
  · exact absurd rfl h
  · split at h
    · exact absurd rfl h
    · simp only [Int32.lt_iff_toInt_lt, Int32.le_iff_toInt_le] at *
      have h8 : (8 : Int32).toInt = 8 := by decide
      have h0 : (0 : Int32).toInt = 0 := by decide
      omega
