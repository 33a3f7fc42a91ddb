/-! compact positions: steps, in whole numbers without bound -/
theorem nearI {T S Y : Int} (hT : 0 < T) : S / T + (T * 131072 + 2 * (S % T) * 131072 - 2 * Y * T) / (2 * T * 131072) = (S * 131072 + T * (65536 - Y)) / (T * 131072) := by
  have h1 := Int.mul_ediv_add_emod S T
  have h2 : T * 131072 * (S / T) = 131072 * (T * (S / T)) := by rw [Int.mul_comm T 131072, Int.mul_assoc]
  have h3 : T * (65536 - Y) = T * 65536 - T * Y := Int.mul_sub T 65536 Y
  have h4 : 2 * Y * T = 2 * (T * Y) := by rw [Int.mul_assoc, Int.mul_comm Y T]
  have e1 : S * 131072 + T * (65536 - Y) = ((S % T) * 131072 + T * (65536 - Y)) + T * 131072 * (S / T) := by rw [h2]; omega
  have e2 : T * 131072 + 2 * (S % T) * 131072 - 2 * Y * T = 2 * ((S % T) * 131072 + T * (65536 - Y)) := by rw [h3, h4]; omega
  have e3 : 2 * T * 131072 = 2 * (T * 131072) := Int.mul_assoc 2 T 131072
  rw [e1, Int.add_mul_ediv_left _ _ (show T * 131072 ≠ 0 by omega), e2, e3, Int.mul_ediv_mul_of_pos _ _ (by decide), Int.add_comm]
theorem stepI {T S : Int} (hT : 0 < T) : (2 * S * 131072 + T) / (2 * T) = S / T * 131072 + (2 * (S % T) * 131072 + T) / (2 * T) := by
  have h1 := Int.mul_ediv_add_emod S T
  have h2 : 2 * T * (S / T * 131072) = 131072 * (2 * (T * (S / T))) := by rw [Int.mul_comm (S / T) 131072, Int.mul_comm (2 * T), Int.mul_assoc, Int.mul_comm (S / T) (2 * T), Int.mul_assoc 2 T]
  have e1 : 2 * S * 131072 + T = (2 * (S % T) * 131072 + T) + 2 * T * (S / T * 131072) := by rw [h2]; omega
  rw [e1, Int.add_mul_ediv_left _ _ (show 2 * T ≠ 0 by omega), Int.add_comm]
