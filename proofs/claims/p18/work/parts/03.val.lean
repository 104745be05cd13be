/-! X's values: one long, the kind above 32 bits of data -/
def dm_val (k d : Int32) : Int64 := (k.toInt64 <<< ((32 : Int32).toInt64 &&& 63)) ||| (d.toInt64 &&& 4294967295)
def dm_kof (v : Int64) : Int32 := ((v.toUInt64 >>> ((32 : Int32).toInt64.toUInt64 &&& Int64.toUInt64 63)).toInt64).toInt32
theorem dm_mask : ∀ i, i < 64 → (4294967295 : Int64).toBitVec.getLsbD i = decide (i < 32) := by decide +kernel
theorem dm_val_b (k d : Int32) (i : Nat) (hi : i < 64) : (dm_val k d).toBitVec.getLsbD i = if i < 32 then d.toBitVec.getLsbD i else k.toBitVec.getLsbD (i - 32) := by
  unfold dm_val
  rw [Int64.toBitVec_or, BitVec.getLsbD_or, Int64.toBitVec_and, BitVec.getLsbD_and, dm_mask i hi, Int64.toBitVec_shiftLeft]
  show ((k.toInt64.toBitVec <<< (((32 : Int32).toInt64 &&& 63).toBitVec.smod 64).toNat).getLsbD i || _) = _
  rw [show (((32 : Int32).toInt64 &&& 63).toBitVec.smod 64).toNat = 32 by decide, BitVec.getLsbD_shiftLeft, Int32.toBitVec_toInt64, Int32.toBitVec_toInt64, BitVec.getLsbD_signExtend, BitVec.getLsbD_signExtend]
  by_cases h : i < 32
  · simp [h, hi]
  · have h2 : i - 32 < 32 := by omega
    have h3 : i - 32 < 64 := by omega
    simp [h, hi, h2, h3]
theorem dm_val_d (k d : Int32) : (dm_val k d).toInt32 = d := by
  apply Int32.toBitVec_inj.mp
  apply BitVec.eq_of_getLsbD_eq
  intro i hi
  rw [Int64.toBitVec_toInt32, BitVec.getLsbD_signExtend, dm_val_b k d i (by omega), if_pos hi, if_pos (show i < 64 by omega)]
  simp [hi]
theorem dm_val_k (k d : Int32) : dm_kof (dm_val k d) = k := by
  apply Int32.toBitVec_inj.mp
  apply BitVec.eq_of_getLsbD_eq
  intro i hi
  unfold dm_kof
  rw [Int64.toBitVec_toInt32, BitVec.getLsbD_signExtend, if_pos (show i < 64 by omega)]
  show (decide (i < 32) && ((dm_val k d).toUInt64 >>> ((32 : Int32).toInt64.toUInt64 &&& Int64.toUInt64 63)).toBitVec.getLsbD i) = _
  rw [UInt64.toBitVec_shiftRight]
  show (decide (i < 32) && ((dm_val k d).toBitVec >>> (((32 : Int32).toInt64.toUInt64 &&& Int64.toUInt64 63).toBitVec % 64).toNat).getLsbD i) = _
  rw [show (((32 : Int32).toInt64.toUInt64 &&& Int64.toUInt64 63).toBitVec % 64).toNat = 32 by decide, BitVec.getLsbD_ushiftRight, dm_val_b k d (32 + i) (by omega), if_neg (by omega), Nat.add_sub_cancel_left]
  simp [hi]
theorem dm_kof0 : dm_kof 0 = 0 := by decide
