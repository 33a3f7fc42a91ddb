/-! compact positions: places packed, turns taken off, LOCAL -/
def bl (x : Int64) (i : Nat) : Bool := x.toBitVec.getLsbD i
theorem sh32 : (((32 : Int32).toInt64 &&& 63).toBitVec.smod 64).toNat = 32 := by decide +kernel
theorem mask32 : ∀ i, i < 64 → (4294967295 : Int64).toBitVec.getLsbD i = decide (i < 32) := by decide +kernel
theorem sext (a : Int32) {i : Nat} (hi : i < 32) : a.toInt64.toBitVec.getLsbD i = bq a i := by
  rw [Int32.toBitVec_toInt64, BitVec.getLsbD_signExtend]
  simp [hi, bq]
  omega
theorem pack_bit (a b : Int32) {i : Nat} (hi : i < 64) : (f_X2_pack a.toInt64 b.toInt64).toBitVec.getLsbD i = if i < 32 then bq b i else bq a (i - 32) := by
  unfold f_X2_pack
  rw [Int64.toBitVec_or, Int64.toBitVec_and, Int64.toBitVec_shiftLeft, BitVec.getLsbD_or, BitVec.getLsbD_and, mask32 i hi]
  show ((a.toInt64.toBitVec <<< (((32 : Int32).toInt64 &&& 63).toBitVec.smod 64).toNat).getLsbD i || _) = _
  rw [sh32, BitVec.getLsbD_shiftLeft]
  by_cases h : i < 32
  · rw [if_pos h, sext b h]
    simp [h]
  · rw [if_neg h, sext a (i := i - 32) (by omega)]
    simp [h, hi]
theorem pack_lat (a b : Int32) : f_X2_latitudeOf (f_X2_pack a.toInt64 b.toInt64) = a := by
  apply q_ext
  intro i hi
  unfold f_X2_latitudeOf bq
  rw [Int64.toBitVec_toInt32, BitVec.signExtend_eq_setWidth_of_le _ (by decide), BitVec.getLsbD_setWidth, Int64.toBitVec_shiftRight]
  show (decide (i < 32) && ((f_X2_pack a.toInt64 b.toInt64).toBitVec.sshiftRight (((32 : Int32).toInt64 &&& 63).toBitVec.smod 64).toNat).getLsbD i) = _
  rw [sh32, BitVec.getLsbD_sshiftRight, if_pos (by omega), pack_bit a b (by omega), if_neg (by omega), show 32 + i - 32 = i by omega]
  simp [hi, bq]
  omega
theorem pack_lon (a b : Int32) : f_X2_longitudeOf (f_X2_pack a.toInt64 b.toInt64) = b := by
  apply q_ext
  intro i hi
  unfold f_X2_longitudeOf bq
  rw [Int64.toBitVec_toInt32, BitVec.signExtend_eq_setWidth_of_le _ (by decide), BitVec.getLsbD_setWidth, pack_bit a b (by omega), if_pos hi]
  simp [hi, bq]
theorem pack_no {a b : Int32} (h : ¬ a = -2147483648) : ¬ f_X2_pack a.toInt64 b.toInt64 = -9223372036854775808 := by
  intro e
  have h1 := pack_lat a b
  rw [e] at h1
  exact h (h1.symm.trans (by decide +kernel))
/-- a long that is an int -/
theorem back {v : Int64} (h1 : -2147483648 ≤ v.toInt) (h2 : v.toInt < 2147483648) : v.toInt32.toInt64 = v ∧ v.toInt32.toInt = v.toInt := by
  have e : v.toInt32.toInt = v.toInt := by rw [Int64.toInt_toInt32, fb_bmod h1 h2]
  refine ⟨?_, e⟩
  rw [fa_eq64, Int32.toInt_toInt64, e]
theorem InR_no {la lo : Int32} (h : InR la lo) : ¬ la = -2147483648 := by
  intro e
  have h1 := h.1
  rw [e] at h1
  exact absurd h1 (by decide +kernel)
