theorem near_g2 {s Y : Int64} (hs1 : -11000000000 ≤ s.toInt) (hs2 : s.toInt ≤ 11000000000) (hY1 : 0 ≤ Y.toInt) (hY2 : Y.toInt < 131072) : (((f_X6_down s (90000000 : Int64)) + (f_X6_down ((((90000000 : Int64) * (131072 : Int64)) + (2 : Int64) * f_X6_rest s (90000000 : Int64) * (131072 : Int64)) - (2 : Int64) * Y * (90000000 : Int64)) (((2 : Int64) * (90000000 : Int64)) * (131072 : Int64)))) * (131072 : Int64) + Y).toInt = (s.toInt / 90000000 + (90000000 * 131072 + 2 * (s.toInt % 90000000) * 131072 - 2 * Y.toInt * 90000000) / (2 * 90000000 * 131072)) * 131072 + Y.toInt := by
  have r1 : 0 ≤ s.toInt % 90000000 ∧ s.toInt % 90000000 < 90000000 := by omega
  have r2 : -200 ≤ s.toInt / 90000000 ∧ s.toInt / 90000000 ≤ 200 := by omega
  have k1 := rsI (a := s) (b := (90000000 : Int64)) (k := 90000000) rfl (by decide)
  have k2 := dnI (a := s) (b := (90000000 : Int64)) (k := 90000000) rfl (by clear k1; omega) (by clear k1; omega) (by clear k1; omega)
  obtain ⟨r3, r4⟩ := r1
  obtain ⟨r5, r6⟩ := r2
  generalize s.toInt % 90000000 = r at *
  generalize s.toInt / 90000000 = q at *
  have u : -5 ≤ (90000000 * 131072 + 2 * r * 131072 - 2 * Y.toInt * 90000000) / (2 * 90000000 * 131072) ∧ (90000000 * 131072 + 2 * r * 131072 - 2 * Y.toInt * 90000000) / (2 * 90000000 * 131072) ≤ 5 := by clear k2 k1; constructor <;> omega
  have k3 : ((2 : Int64) * f_X6_rest s (90000000 : Int64)).toInt = 2 * r := by rw [mL _ _ 2 rfl (by rw [k1]; clear k2 k1; omega) (by rw [k1]; clear k2 k1; omega), k1]
  have k4 : ((2 : Int64) * f_X6_rest s (90000000 : Int64) * (131072 : Int64)).toInt = 2 * r * 131072 := by rw [mR _ _ 131072 rfl (by rw [k3]; clear k3 k2 k1; omega) (by rw [k3]; clear k3 k2 k1; omega), k3]
  have k5 : ((90000000 : Int64) * (131072 : Int64)).toInt = 90000000 * 131072 := by decide +kernel
  have k6 : (((90000000 : Int64) * (131072 : Int64)) + (2 : Int64) * f_X6_rest s (90000000 : Int64) * (131072 : Int64)).toInt = 90000000 * 131072 + 2 * r * 131072 := by rw [aL (by rw [k4, k5]; clear k5 k4 k3 k2 k1; omega) (by rw [k4, k5]; clear k5 k4 k3 k2 k1; omega), k5, k4]
  have i3 : ((2 : Int64) * Y).toInt = 2 * Y.toInt := mL _ Y 2 rfl (by clear k6 k5 k4 k3 k2 k1; omega) (by clear k6 k5 k4 k3 k2 k1; omega)
  have k7 : ((2 : Int64) * Y * (90000000 : Int64)).toInt = 2 * Y.toInt * 90000000 := by rw [mR _ _ 90000000 rfl (by rw [i3]; clear i3 k6 k5 k4 k3 k2 k1; omega) (by rw [i3]; clear i3 k6 k5 k4 k3 k2 k1; omega), i3]
  have k8 : ((((90000000 : Int64) * (131072 : Int64)) + (2 : Int64) * f_X6_rest s (90000000 : Int64) * (131072 : Int64)) - (2 : Int64) * Y * (90000000 : Int64)).toInt = 90000000 * 131072 + 2 * r * 131072 - 2 * Y.toInt * 90000000 := by rw [sL (by rw [k6, k7]; clear k7 i3 k6 k5 k4 k3 k2 k1; omega) (by rw [k6, k7]; clear k7 i3 k6 k5 k4 k3 k2 k1; omega), k6, k7]
  have k9 := dnI (a := (((90000000 : Int64) * (131072 : Int64)) + (2 : Int64) * f_X6_rest s (90000000 : Int64) * (131072 : Int64)) - (2 : Int64) * Y * (90000000 : Int64)) (b := ((2 : Int64) * (90000000 : Int64)) * (131072 : Int64)) (k := 2 * 90000000 * 131072) (by decide +kernel) (by clear k8 k7 i3 k6 k5 k4 k3 k2 k1; omega) (by clear k8 k7 i3 k6 k5 k4 k3 k2 k1; omega) (by rw [k8]; clear k8 k7 i3 k6 k5 k4 k3 k2 k1; omega)
  rw [k8] at k9
  obtain ⟨u1, u2⟩ := u
  generalize (90000000 * 131072 + 2 * r * 131072 - 2 * Y.toInt * 90000000) / (2 * 90000000 * 131072) = v at *
  have l1 : (f_X6_down s (90000000 : Int64) + f_X6_down ((((90000000 : Int64) * (131072 : Int64)) + (2 : Int64) * f_X6_rest s (90000000 : Int64) * (131072 : Int64)) - (2 : Int64) * Y * (90000000 : Int64)) (((2 : Int64) * (90000000 : Int64)) * (131072 : Int64))).toInt = q + v := by rw [aL (by rw [k2, k9]; clear k9 k8 k7 i3 k6 k5 k4 k3 k2 k1; omega) (by rw [k2, k9]; clear k9 k8 k7 i3 k6 k5 k4 k3 k2 k1; omega), k2, k9]
  have l2 : ((f_X6_down s (90000000 : Int64) + f_X6_down ((((90000000 : Int64) * (131072 : Int64)) + (2 : Int64) * f_X6_rest s (90000000 : Int64) * (131072 : Int64)) - (2 : Int64) * Y * (90000000 : Int64)) (((2 : Int64) * (90000000 : Int64)) * (131072 : Int64))) * (131072 : Int64)).toInt = (q + v) * 131072 := by rw [mR _ _ 131072 rfl (by rw [l1]; clear l1 k9 k8 k7 i3 k6 k5 k4 k3 k2 k1; omega) (by rw [l1]; clear l1 k9 k8 k7 i3 k6 k5 k4 k3 k2 k1; omega), l1]
  rw [aL (by rw [l2]; clear l2 l1 k9 k8 k7 i3 k6 k5 k4 k3 k2 k1; omega) (by rw [l2]; clear l2 l1 k9 k8 k7 i3 k6 k5 k4 k3 k2 k1; omega), l2]
