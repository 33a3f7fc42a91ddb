/-! compact positions: the nearest step -/
theorem near_a1 {s Y : Int64} (hs1 : -11000000000 ≤ s.toInt) (hs2 : s.toInt ≤ 11000000000) (hY1 : 0 ≤ Y.toInt) (hY2 : Y.toInt < 131072) : (((131072 : Int64) * (f_X2_quotient ((s * (131072 : Int64)) + ((360000000 : Int64) * ((65536 : Int64) - Y))) ((360000000 : Int64) * (131072 : Int64)))) + Y).toInt = 131072 * ((s.toInt * 131072 + 360000000 * (65536 - Y.toInt)) / 47185920000000) + Y.toInt ∧ -200 ≤ (s.toInt * 131072 + 360000000 * (65536 - Y.toInt)) / 47185920000000 ∧ (s.toInt * 131072 + 360000000 * (65536 - Y.toInt)) / 47185920000000 ≤ 200 := by
  have z : -200 ≤ (s.toInt * 131072 + 360000000 * (65536 - Y.toInt)) / 47185920000000 ∧ (s.toInt * 131072 + 360000000 * (65536 - Y.toInt)) / 47185920000000 ≤ 200 := by constructor <;> omega
  have i1 : (s * (131072 : Int64)).toInt = s.toInt * 131072 := mR s _ 131072 rfl (by omega) (by omega)
  have i2 : ((65536 : Int64) - Y).toInt = 65536 - Y.toInt := by rw [sL] <;> rw [show (65536 : Int64).toInt = 65536 from rfl] <;> omega
  have j1 : ((360000000 : Int64) * ((65536 : Int64) - Y)).toInt = 360000000 * (65536 - Y.toInt) := by rw [mL _ _ 360000000 rfl (by rw [i2]; omega) (by rw [i2]; omega), i2]
  have j2 : (s * (131072 : Int64) + (360000000 : Int64) * ((65536 : Int64) - Y)).toInt = (s.toInt * 131072 + 360000000 * (65536 - Y.toInt)) := by rw [aL (by rw [i1, j1]; omega) (by rw [i1, j1]; omega), i1, j1]
  have j3 := quI (a := s * (131072 : Int64) + (360000000 : Int64) * ((65536 : Int64) - Y)) (b := (360000000 : Int64) * (131072 : Int64)) (k := 47185920000000) (by decide +kernel) (by decide)
  rw [j2] at j3
  obtain ⟨z1, z2⟩ := z
  refine ⟨?_, z1, z2⟩
  generalize (s.toInt * 131072 + 360000000 * (65536 - Y.toInt)) / 47185920000000 = q at *
  have j4 : ((131072 : Int64) * (f_X2_quotient ((s * (131072 : Int64)) + ((360000000 : Int64) * ((65536 : Int64) - Y))) ((360000000 : Int64) * (131072 : Int64)))).toInt = 131072 * q := by rw [mL _ _ 131072 rfl (by rw [j3]; omega) (by rw [j3]; omega), j3]
  rw [aL (by rw [j4]; omega) (by rw [j4]; omega), j4]
