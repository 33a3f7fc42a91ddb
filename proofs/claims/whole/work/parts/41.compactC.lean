/-! compact positions: GLOBAL, ENCODED, zones -/
theorem half_s {s : Int64} (hs : -20000000000 ≤ s.toInt ∧ s.toInt ≤ 20000000000) : f_J9_floorDiv_f86c9 (s + (65536 : Int64)) (131072 : Int64) = f_X6_down (((2 : Int64) * s) + (131072 : Int64)) (262144 : Int64) := by
  obtain ⟨h1, h2⟩ := hs
  have i1 : (s + (65536 : Int64)).toInt = s.toInt + 65536 := by rw [aL] <;> rw [show (65536 : Int64).toInt = 65536 from rfl] <;> omega
  have i2 : ((2 : Int64) * s).toInt = 2 * s.toInt := mL _ s 2 rfl (by omega) (by omega)
  have i3 : (((2 : Int64) * s) + (131072 : Int64)).toInt = 2 * s.toInt + 131072 := by rw [aL, i2] <;> rw [show (131072 : Int64).toInt = 131072 from rfl] <;> omega
  have j1 := fdI (a := s + (65536 : Int64)) (b := (131072 : Int64)) (k := 131072) rfl (by decide)
  have j2 := dnI (a := ((2 : Int64) * s) + (131072 : Int64)) (b := (262144 : Int64)) (k := 262144) rfl (by omega) (by omega) (by omega)
  rw [fa_eq64, j1, j2, i1, i3]
  omega
def gU0 (a0 a1 : Int64) : Int64 := if ((4 : Int64) * (f_X6_globalOf_x72 a0 a1)) < (23592960 : Int64) then (f_X6_globalOf_x72 a0 a1) else ((f_X6_globalOf_x72 a0 a1) - (7864320 : Int64))
def gU1 (a0 a1 : Int64) : Int64 := if ((4 : Int64) * (f_X6_globalOf_x89 a0 a1)) < (23199744 : Int64) then (f_X6_globalOf_x89 a0 a1) else ((f_X6_globalOf_x89 a0 a1) - (7733248 : Int64))
theorem gj_eq {a0 a1 : Int64} (h1 : 0 ≤ a0.toInt) (h2 : a0.toInt < 17179869184) (h3 : 0 ≤ a1.toInt) (h4 : a1.toInt < 17179869184) : f_J9_floorDiv_f86c9 ((((59 : Int64) * (f_X2_yOf a0)) - ((60 : Int64) * (f_X2_yOf a1))) + (65536 : Int64)) (131072 : Int64) = f_X6_globalOf_x55 a0 a1 := by
  have y0 := told_y h1 h2
  have y1 := told_y h3 h4
  have i1 : ((59 : Int64) * (a0 / (131072 : Int64))).toInt = 59 * (a0 / (131072 : Int64)).toInt := mL _ _ 59 rfl (by omega) (by omega)
  have i2 : ((60 : Int64) * (a1 / (131072 : Int64))).toInt = 60 * (a1 / (131072 : Int64)).toInt := mL _ _ 60 rfl (by omega) (by omega)
  have i3 : (((59 : Int64) * (a0 / (131072 : Int64))) - ((60 : Int64) * (a1 / (131072 : Int64)))).toInt = 59 * (a0 / (131072 : Int64)).toInt - 60 * (a1 / (131072 : Int64)).toInt := by rw [sL (by omega) (by omega), i1, i2]
  have hr : -20000000000 ≤ (((59 : Int64) * (a0 / (131072 : Int64))) - ((60 : Int64) * (a1 / (131072 : Int64)))).toInt ∧ (((59 : Int64) * (a0 / (131072 : Int64))) - ((60 : Int64) * (a1 / (131072 : Int64)))).toInt ≤ 20000000000 := by rw [i3]; clear i1 i2 i3; omega
  exact half_s hr
theorem rr_eq {a b : Int64} {k : Int} (hb : b.toInt = k) (hk : 0 < k) : f_X2_remainder a b = f_X6_rest a b := by rw [fa_eq64, rmI hb hk, rsI hb hk]
theorem gu0_eq (a0 a1 : Int64) : f_X2_stepInBand (f_X6_globalOf_x55 a0 a1) (f_X2_yOf a0) (60 : Int64) = gU0 a0 a1 := by
  unfold f_X2_stepInBand gU0
  have e : ((131072 : Int64) * (f_X2_remainder (f_X6_globalOf_x55 a0 a1) (60 : Int64))) + f_X2_yOf a0 = f_X6_globalOf_x72 a0 a1 := by
    rw [rr_eq (k := 60) rfl (by decide), Int64.mul_comm]; rfl
  rw [e, show ((3 : Int64) * (60 : Int64)) * (131072 : Int64) = 23592960 by decide +kernel, show (60 : Int64) * (131072 : Int64) = 7864320 by decide +kernel]
theorem gu1_eq (a0 a1 : Int64) : f_X2_stepInBand (f_X6_globalOf_x55 a0 a1) (f_X2_yOf a1) (59 : Int64) = gU1 a0 a1 := by
  unfold f_X2_stepInBand gU1
  have e : ((131072 : Int64) * (f_X2_remainder (f_X6_globalOf_x55 a0 a1) (59 : Int64))) + f_X2_yOf a1 = f_X6_globalOf_x89 a0 a1 := by
    rw [rr_eq (k := 59) rfl (by decide), Int64.mul_comm]; rfl
  rw [e, show ((3 : Int64) * (59 : Int64)) * (131072 : Int64) = 23199744 by decide +kernel, show (59 : Int64) * (131072 : Int64) = 7733248 by decide +kernel]
theorem up_rng {j y b : Int64} {k : Int} (hb : b.toInt = k) (hk : 0 < k) (hk2 : k ≤ 60) (hy : 0 ≤ y.toInt ∧ y.toInt < 131072) : (((f_X6_rest j b) * (131072 : Int64)) + y).toInt = (j.toInt % k) * 131072 + y.toInt ∧ 0 ≤ (((f_X6_rest j b) * (131072 : Int64)) + y).toInt ∧ (((f_X6_rest j b) * (131072 : Int64)) + y).toInt < k * 131072 := by
  have h1 := rsI (a := j) hb hk
  have h2 := Int.emod_nonneg j.toInt (show k ≠ 0 by omega)
  have h3 := Int.emod_lt_of_pos j.toInt hk
  have h4 : ((f_X6_rest j b) * (131072 : Int64)).toInt = (j.toInt % k) * 131072 := by rw [← h1]; exact mR _ _ 131072 rfl (by omega) (by omega)
  have h5 : (((f_X6_rest j b) * (131072 : Int64)) + y).toInt = (j.toInt % k) * 131072 + y.toInt := by rw [aL (by omega) (by omega), h4]
  refine ⟨h5, by rw [h5]; omega, by rw [h5]; omega⟩
theorem gu0_rng {a0 a1 : Int64} (h1 : 0 ≤ a0.toInt) (h2 : a0.toInt < 17179869184) : -8000000 ≤ (gU0 a0 a1).toInt ∧ (gU0 a0 a1).toInt ≤ 8000000 := by
  have A := up_rng (j := f_X6_globalOf_x55 a0 a1) (y := a0 / (131072 : Int64)) (b := 60) (k := 60) rfl (by decide) (by decide) (told_y h1 h2)
  have e : f_X6_globalOf_x72 a0 a1 = (f_X6_rest (f_X6_globalOf_x55 a0 a1) (60 : Int64)) * (131072 : Int64) + (a0 / (131072 : Int64)) := rfl
  unfold gU0
  rw [e]
  generalize (f_X6_rest (f_X6_globalOf_x55 a0 a1) (60 : Int64)) * (131072 : Int64) + (a0 / (131072 : Int64)) = u at *
  split
  · omega
  · rw [sL] <;> rw [show (7864320 : Int64).toInt = 7864320 from rfl] <;> omega
theorem gu1_rng {a0 a1 : Int64} (h3 : 0 ≤ a1.toInt) (h4 : a1.toInt < 17179869184) : -8000000 ≤ (gU1 a0 a1).toInt ∧ (gU1 a0 a1).toInt ≤ 8000000 := by
  have A := up_rng (j := f_X6_globalOf_x55 a0 a1) (y := a1 / (131072 : Int64)) (b := 59) (k := 59) rfl (by decide) (by decide) (told_y h3 h4)
  have e : f_X6_globalOf_x89 a0 a1 = (f_X6_rest (f_X6_globalOf_x55 a0 a1) (59 : Int64)) * (131072 : Int64) + (a1 / (131072 : Int64)) := rfl
  unfold gU1
  rw [e]
  generalize (f_X6_rest (f_X6_globalOf_x55 a0 a1) (59 : Int64)) * (131072 : Int64) + (a1 / (131072 : Int64)) = u at *
  split
  · omega
  · rw [sL] <;> rw [show (7733248 : Int64).toInt = 7733248 from rfl] <;> omega
theorem pole_eq {y : Int64} (hy : -8000000 ≤ y.toInt ∧ y.toInt ≤ 8000000) : ((360000000 : Int64) * f_X6_sizeOf y ≤ (90000000 : Int64) * 60 * (131072 : Int64) ↔ f_X6_sizeOf ((4 : Int64) * y) ≤ 7864320) ∧ ((360000000 : Int64) * f_X6_sizeOf y ≤ (90000000 : Int64) * 59 * (131072 : Int64) ↔ f_X6_sizeOf ((4 : Int64) * y) ≤ 7733248) := by
  obtain ⟨h1, h2⟩ := hy
  have k4 := mL (4 : Int64) y 4 rfl (by omega) (by omega)
  have s1 := size_I (y := y) (by omega)
  have s2 := size_I (y := (4 : Int64) * y) (by omega)
  rw [k4] at s2
  have s3 : (f_X6_sizeOf ((4 : Int64) * y)).toInt = 4 * (f_X6_sizeOf y).toInt ∧ 0 ≤ (f_X6_sizeOf y).toInt ∧ (f_X6_sizeOf y).toInt ≤ 8000000 := by
    rw [s1, s2]; split <;> split <;> omega
  obtain ⟨s4, s5, s6⟩ := s3
  have k2 := mL (360000000 : Int64) (f_X6_sizeOf y) 360000000 rfl (by omega) (by omega)
  have c1 : ((90000000 : Int64) * 60 * (131072 : Int64)).toInt = 707788800000000 := by decide +kernel
  have c2 : ((90000000 : Int64) * 59 * (131072 : Int64)).toInt = 695992320000000 := by decide +kernel
  have c3 : (7864320 : Int64).toInt = 7864320 := rfl
  have c4 : (7733248 : Int64).toInt = 7733248 := rfl
  rw [fa_le64, fa_le64, fa_le64, fa_le64, k2, c1, c2, c3, c4, s4]
  omega
theorem bp_eq (y b : Int64) : f_X2_isBeyondPole y b (360000000 : Int64) = if (360000000 : Int64) * f_X6_sizeOf y ≤ (90000000 : Int64) * b * (131072 : Int64) then 0 else 1 := rfl
theorem gz0_eq {bd : Nat → Int64} (h : BD bd) (a0 a1 : Int64) : f_X2_zoneCountAt (gU0 a0 a1) (60 : Int64) (360000000 : Int64) = f_X6_globalOf_x180 bd a0 a1 := by
  unfold f_X2_zoneCountAt
  rw [zc_eq h, show (100 : Int64) * (360000000 : Int64) = 36000000000 by decide +kernel, show (60 : Int64) * (131072 : Int64) = 7864320 by decide +kernel]
  rfl
theorem gz1_eq {bd : Nat → Int64} (h : BD bd) (a0 a1 : Int64) : f_X2_zoneCountAt (gU1 a0 a1) (59 : Int64) (360000000 : Int64) = f_X6_zonesOf bd ((36000000000 : Int64) * gU1 a0 a1) (7733248 : Int64) := by
  unfold f_X2_zoneCountAt
  rw [zc_eq h, show (100 : Int64) * (360000000 : Int64) = 36000000000 by decide +kernel, show (59 : Int64) * (131072 : Int64) = 7733248 by decide +kernel]
theorem gm_eq {a0 a1 : Int64} {c : Int32} (h1 : 0 ≤ a0.toInt) (h3 : 0 ≤ a1.toInt) (c1 : 1 ≤ c.toInt) (c2 : c.toInt ≤ 59) : f_J9_floorDiv_f86c9 ((((f_X2_xOf a0) * (c - (1 : Int32)).toInt64) - ((f_X2_xOf a1) * c.toInt64)) + (65536 : Int64)) (131072 : Int64) = f_X6_down (((2 : Int64) * (((f_X2_xOf a0) * (c - (1 : Int32)).toInt64) - ((f_X2_xOf a1) * c.toInt64))) + (131072 : Int64)) (262144 : Int64) := by
  have x0 := told_x h1
  have x1 := told_x h3
  have e0 : f_X2_xOf a0 = a0 - a0 / (131072 : Int64) * (131072 : Int64) := rfl
  have e1 : f_X2_xOf a1 = a1 - a1 / (131072 : Int64) * (131072 : Int64) := rfl
  rw [← e0] at x0
  rw [← e1] at x1
  generalize f_X2_xOf a0 = p at *
  generalize f_X2_xOf a1 = q at *
  have ec : (c - (1 : Int32)).toInt64.toInt = c.toInt - 1 := by rw [Int32.toInt_toInt64, fb_subI] <;> rw [i1] <;> omega
  have ec2 : c.toInt64.toInt = c.toInt := Int32.toInt_toInt64 c
  have b1 : p.toInt * (c.toInt - 1) ≤ 131072 * (c.toInt - 1) := Int.mul_le_mul_of_nonneg_right (by omega) (by omega)
  have b2 : 0 ≤ p.toInt * (c.toInt - 1) := Int.mul_nonneg (by omega) (by omega)
  have b3 : q.toInt * c.toInt ≤ 131072 * c.toInt := Int.mul_le_mul_of_nonneg_right (by omega) (by omega)
  have b4 : 0 ≤ q.toInt * c.toInt := Int.mul_nonneg (by omega) (by omega)
  have m1 : (p * (c - (1 : Int32)).toInt64).toInt = p.toInt * (c.toInt - 1) := by rw [fb_mulL] <;> rw [ec] <;> omega
  have m2 : (q * c.toInt64).toInt = q.toInt * c.toInt := by rw [fb_mulL] <;> rw [ec2] <;> omega
  exact half_s (by rw [sL (by omega) (by omega), m1, m2]; omega)
theorem zn_g {bd : Nat → Int64} (h : BD bd) (a0 a1 : Int64) (a2 : Int32) : f_X2_zonesOf (f_X6_globalOf_x180 bd a0 a1) a2 = (f_X6_globalOf_x219 a2 bd a0 a1).toInt64 ∧ 1 ≤ (f_X6_globalOf_x219 a2 bd a0 a1).toInt ∧ (f_X6_globalOf_x219 a2 bd a0 a1).toInt ≤ 59 ∧ 1 ≤ (f_X6_globalOf_x180 bd a0 a1).toInt ∧ (f_X6_globalOf_x180 bd a0 a1).toInt ≤ 59 := by
  have e : f_X6_globalOf_x180 bd a0 a1 = f_X2_zoneCount ((36000000000 : Int64) * gU0 a0 a1) (7864320 : Int64) := by rw [zc_eq h]; rfl
  unfold f_X6_globalOf_x219
  rw [e]
  obtain ⟨t1, t2, t3⟩ := zn_eq2 ((36000000000 : Int64) * gU0 a0 a1) (7864320 : Int64) a2
  obtain ⟨m, m1, m2, m3⟩ := zc_rng ((36000000000 : Int64) * gU0 a0 a1) (7864320 : Int64)
  refine ⟨t1, t2, t3, ?_, ?_⟩ <;> rw [m3, nI_toInt (by omega)] <;> omega
/-- GLOBAL: the same on both sides -/
theorem glob_eq {bd : Nat → Int64} (h : BD bd) (lat lon : Int32) (a0 a1 : Int64) (a2 : Int32) (h1 : 0 ≤ a0.toInt) (h2 : a0.toInt < 17179869184) (h3 : 0 ≤ a1.toInt) (h4 : a1.toInt < 17179869184) :
    (f_X6_globalOf bd lat lon a0 a1 a2 = 0 ∧ f_X2_placeOfPair a0 a1 a2 = -9223372036854775808 ∧ f_X6_globalOf_lat bd lat lon a0 a1 a2 = lat ∧ f_X6_globalOf_lon bd lat lon a0 a1 a2 = lon)
    ∨ (f_X6_globalOf bd lat lon a0 a1 a2 = 1 ∧ f_X2_placeOfPair a0 a1 a2 = f_X2_pack (f_X6_globalOf_lat bd lat lon a0 a1 a2).toInt64 (f_X6_globalOf_lon bd lat lon a0 a1 a2).toInt64 ∧ InR (f_X6_globalOf_lat bd lat lon a0 a1 a2) (f_X6_globalOf_lon bd lat lon a0 a1 a2)) := by
  obtain ⟨z1, z2, z3, z4, z5⟩ := zn_g h a0 a1 a2
  have r0 := gu0_rng (a1 := a1) h1 h2
  have r1 := gu1_rng (a0 := a0) h3 h4
  have P0 := (pole_eq r0).1
  have P1 := (pole_eq r1).2
  have hA : f_X2_placeOfPair a0 a1 a2 = (if (360000000 : Int64) * f_X6_sizeOf (gU0 a0 a1) ≤ (90000000 : Int64) * 60 * (131072 : Int64) then (if (360000000 : Int64) * f_X6_sizeOf (gU1 a0 a1) ≤ (90000000 : Int64) * 59 * (131072 : Int64) then (if f_X6_globalOf_x180 bd a0 a1 = f_X6_zonesOf bd ((36000000000 : Int64) * gU1 a0 a1) (7733248 : Int64) then f_X2_placeAt (if a2 = 0 then gU0 a0 a1 else gU1 a0 a1) (f_X6_globalOf_x277 a0 bd a1 a2) (f_X6_globalOf_x219 a2 bd a0 a1).toInt64 (0 : Int32) a2 else (-9223372036854775808 : Int64)) else (-9223372036854775808 : Int64)) else (-9223372036854775808 : Int64)) := by
    have e277 : ((131072 : Int64) * (f_X2_remainder (f_J9_floorDiv_f86c9 ((((f_X2_xOf a0) * ((f_X6_globalOf_x180 bd a0 a1) - (1 : Int32)).toInt64) - ((f_X2_xOf a1) * (f_X6_globalOf_x180 bd a0 a1).toInt64)) + (65536 : Int64)) (131072 : Int64)) (f_X6_globalOf_x219 a2 bd a0 a1).toInt64)) + (f_X2_xOf (if a2 = 0 then a0 else a1)) = f_X6_globalOf_x277 a0 bd a1 a2 := by
      rw [gm_eq h1 h3 z4 z5, rr_eq (k := (f_X6_globalOf_x219 a2 bd a0 a1).toInt) (Int32.toInt_toInt64 _) (by omega), Int64.mul_comm]
      have ex : f_X2_xOf (if a2 = 0 then a0 else a1) = (if a2 = 0 then (a0 - a0 / (131072 : Int64) * (131072 : Int64)) else (a1 - a1 / (131072 : Int64) * (131072 : Int64))) := by split <;> rfl
      rw [ex]; rfl
    unfold f_X2_placeOfPair
    rw [gj_eq h1 h2 h3 h4, gu0_eq, gu1_eq, gz0_eq h, gz1_eq h, z1, e277, bp_eq, bp_eq]
    by_cases q0 : (360000000 : Int64) * f_X6_sizeOf (gU0 a0 a1) ≤ (90000000 : Int64) * 60 * (131072 : Int64)
    · rw [if_pos q0, if_pos q0, if_pos rfl]
      by_cases q1 : (360000000 : Int64) * f_X6_sizeOf (gU1 a0 a1) ≤ (90000000 : Int64) * 59 * (131072 : Int64)
      · rw [if_pos q1, if_pos q1, if_pos rfl]
      · rw [if_neg q1, if_neg q1, if_neg (by decide)]
    · rw [if_neg q0, if_neg q0, if_neg (by decide)]
  have hB : f_X6_globalOf bd lat lon a0 a1 a2 = (if (7864320 : Int64) < f_X6_sizeOf ((4 : Int64) * gU0 a0 a1) then (0 : Int32) else (if f_X6_sizeOf ((4 : Int64) * gU1 a0 a1) ≤ (7733248 : Int64) then (if f_X6_globalOf_x180 bd a0 a1 = f_X6_zonesOf bd ((36000000000 : Int64) * gU1 a0 a1) (7733248 : Int64) then (1 : Int32) else (0 : Int32)) else (0 : Int32))) := rfl
  have hC : f_X6_globalOf_lat bd lat lon a0 a1 a2 = (if (7864320 : Int64) < f_X6_sizeOf ((4 : Int64) * gU0 a0 a1) then lat else (if f_X6_sizeOf ((4 : Int64) * gU1 a0 a1) ≤ (7733248 : Int64) then (if f_X6_globalOf_x180 bd a0 a1 = f_X6_zonesOf bd ((36000000000 : Int64) * gU1 a0 a1) (7733248 : Int64) then (f_X6_down ((360000000 : Int64) * (if a2 = 0 then gU0 a0 a1 else gU1 a0 a1)) (f_X2_bandsOf a2 * (131072 : Int64))).toInt32 else lat) else lat)) := rfl
  have hD : f_X6_globalOf_lon bd lat lon a0 a1 a2 = (if (7864320 : Int64) < f_X6_sizeOf ((4 : Int64) * gU0 a0 a1) then lon else (if f_X6_sizeOf ((4 : Int64) * gU1 a0 a1) ≤ (7733248 : Int64) then (if f_X6_globalOf_x180 bd a0 a1 = f_X6_zonesOf bd ((36000000000 : Int64) * gU1 a0 a1) (7733248 : Int64) then (f_X6_down ((360000000 : Int64) * (if ((2 : Int64) * (f_X6_globalOf_x277 a0 bd a1 a2)) < ((f_X6_globalOf_x219 a2 bd a0 a1).toInt64 * (131072 : Int64)) then (f_X6_globalOf_x277 a0 bd a1 a2) else (f_X6_globalOf_x277 a0 bd a1 a2) - ((f_X6_globalOf_x219 a2 bd a0 a1).toInt64 * (131072 : Int64)))) ((f_X6_globalOf_x219 a2 bd a0 a1).toInt64 * (131072 : Int64))).toInt32 else lon) else lon)) := rfl
  rw [hA, hB, hC, hD]
  clear hA hB hC hD
  by_cases q0 : (360000000 : Int64) * f_X6_sizeOf (gU0 a0 a1) ≤ (90000000 : Int64) * 60 * (131072 : Int64)
  · have q0' : ¬ (7864320 : Int64) < f_X6_sizeOf ((4 : Int64) * gU0 a0 a1) := by
      have := P0.mp q0
      rw [fa_le64] at this
      rw [fa_lt64]; omega
    by_cases q1 : (360000000 : Int64) * f_X6_sizeOf (gU1 a0 a1) ≤ (90000000 : Int64) * 59 * (131072 : Int64)
    · have q1' := P1.mp q1
      by_cases q2 : f_X6_globalOf_x180 bd a0 a1 = f_X6_zonesOf bd ((36000000000 : Int64) * gU1 a0 a1) (7733248 : Int64)
      · right
        rw [if_pos q0, if_pos q1, if_pos q2, if_neg q0', if_pos q1', if_pos q2, if_neg q0', if_pos q1', if_pos q2, if_neg q0', if_pos q1', if_pos q2]
        have hx : 0 ≤ (if a2 = 0 then (a0 - a0 / (131072 : Int64) * (131072 : Int64)) else (a1 - a1 / (131072 : Int64) * (131072 : Int64))).toInt ∧ (if a2 = 0 then (a0 - a0 / (131072 : Int64) * (131072 : Int64)) else (a1 - a1 / (131072 : Int64) * (131072 : Int64))).toInt < 131072 := by
          split
          · exact told_x h1
          · exact told_x h3
        have hn : (f_X6_globalOf_x219 a2 bd a0 a1).toInt64.toInt = (f_X6_globalOf_x219 a2 bd a0 a1).toInt := Int32.toInt_toInt64 _
        have hU := up_rng (j := f_X6_globalOf_x250 a0 bd a1) (b := (f_X6_globalOf_x219 a2 bd a0 a1).toInt64) hn (by omega) (by omega) hx
        have e277 : ((f_X6_rest (f_X6_globalOf_x250 a0 bd a1) (f_X6_globalOf_x219 a2 bd a0 a1).toInt64) * (131072 : Int64)) + (if a2 = 0 then (a0 - a0 / (131072 : Int64) * (131072 : Int64)) else (a1 - a1 / (131072 : Int64) * (131072 : Int64))) = f_X6_globalOf_x277 a0 bd a1 a2 := rfl
        rw [e277] at hU
        obtain ⟨-, u1, u2⟩ := hU
        generalize f_X6_globalOf_x277 a0 bd a1 a2 = x at *
        generalize f_X6_globalOf_x219 a2 bd a0 a1 = n at *
        have hy : -1000000000 ≤ (if a2 = 0 then gU0 a0 a1 else gU1 a0 a1).toInt ∧ (if a2 = 0 then gU0 a0 a1 else gU1 a0 a1).toInt ≤ 1000000000 := by
          split <;> omega
        have hpole : (360000000 : Int64) * f_X6_sizeOf (if a2 = 0 then gU0 a0 a1 else gU1 a0 a1) ≤ (90000000 : Int64) * f_X2_bandsOf a2 * (131072 : Int64) := by
          unfold f_X2_bandsOf
          by_cases q : a2 = 0
          · rw [if_pos q, if_pos q]; exact q0
          · rw [if_neg q, if_neg q]; exact q1
        obtain ⟨l1, l2, l3⟩ := lat_in (band_or a2) (Or.inl rfl) hpole hy
        generalize (if a2 = 0 then gU0 a0 a1 else gU1 a0 a1) = y at *
        have hm : (n.toInt64 * (131072 : Int64)).toInt = n.toInt * 131072 := by rw [← hn]; exact mR _ _ 131072 rfl (by omega) (by omega)
        generalize hmm : n.toInt64 * (131072 : Int64) = m at *
        have hr : ((360000000 : Int64) * x).toInt = 360000000 * x.toInt := mL _ _ 360000000 rfl (by omega) (by omega)
        have hc : ((360000000 : Int64) * m).toInt = 360000000 * (n.toInt * 131072) := by rw [← hm]; exact mL _ _ 360000000 rfl (by omega) (by omega)
        obtain ⟨v, v1, v2, v3, v4⟩ := wrap (r := (360000000 : Int64) * x) (c := (360000000 : Int64) * m) (m := m) (M := n.toInt * 131072) hm (by omega) (by omega) hc (by rw [hr, hc]; omega) (by rw [hr, hc]; omega)
        have hlon : f_X6_down ((360000000 : Int64) * (if ((2 : Int64) * x) < m then x else x - m)) m = v := by
          rw [← v2]
          have t1 : ((2 : Int64) * x).toInt = 2 * x.toInt := mL _ _ 2 rfl (by omega) (by omega)
          have t2 : ((2 : Int64) * ((360000000 : Int64) * x)).toInt = 2 * (360000000 * x.toInt) := by rw [← hr]; exact mL _ _ 2 rfl (by omega) (by omega)
          have t3 : (-((360000000 : Int64) * m)).toInt = -(360000000 * (n.toInt * 131072)) := by rw [neg_c (by omega), hc]
          by_cases s1 : (2 : Int64) * x < m
          · have s2 : (2 : Int64) * ((360000000 : Int64) * x) < (360000000 : Int64) * m := by rw [fa_lt64, t2, hc]; rw [fa_lt64, t1, hm] at s1; omega
            have s3 : -((360000000 : Int64) * m) ≤ (2 : Int64) * ((360000000 : Int64) * x) := by rw [fa_le64, t2, t3]; omega
            rw [if_pos s1, if_pos s2, if_pos s3]
          · have s2 : ¬ (2 : Int64) * ((360000000 : Int64) * x) < (360000000 : Int64) * m := by rw [fa_lt64, t2, hc]; rw [fa_lt64, t1, hm] at s1; omega
            have t4 : ((360000000 : Int64) * x - (360000000 : Int64) * m).toInt = 360000000 * x.toInt - 360000000 * (n.toInt * 131072) := by rw [sL (by omega) (by omega), hr, hc]
            have t5 : ((2 : Int64) * ((360000000 : Int64) * x - (360000000 : Int64) * m)).toInt = 2 * (360000000 * x.toInt - 360000000 * (n.toInt * 131072)) := by rw [← t4]; exact mL _ _ 2 rfl (by omega) (by omega)
            have s3 : -((360000000 : Int64) * m) ≤ (2 : Int64) * ((360000000 : Int64) * x - (360000000 : Int64) * m) := by rw [fa_le64, t3, t5]; rw [fa_lt64, t1, hm] at s1; omega
            rw [if_neg s1, if_neg s2, if_pos s3, Int64.mul_sub]
        have bv := back (v := v) (by omega) (by omega)
        have bl := back (v := f_X6_down ((360000000 : Int64) * y) (f_X2_bandsOf a2 * (131072 : Int64))) (by rw [← l1]; omega) (by rw [← l1]; omega)
        rw [hlon, bv.1, bl.1]
        refine ⟨rfl, ?_, ?_⟩
        · unfold f_X2_placeAt
          rw [hmm]
          show f_X2_pack (f_X2_quotient ((360000000 : Int64) * y) (f_X2_bandsOf a2 * (131072 : Int64))) (if f_X2_quotient ((360000000 : Int64) * x) m < (180000000 : Int64) then (if (-180000000 : Int64) ≤ f_X2_quotient ((360000000 : Int64) * x) m then f_X2_quotient ((360000000 : Int64) * x) m else f_X2_quotient ((360000000 : Int64) * x) m + (360000000 : Int64)) else f_X2_quotient ((360000000 : Int64) * x) m - (360000000 : Int64)) = _
          rw [v1, l1]
        · refine ⟨?_, ?_, ?_, ?_⟩
          · rw [bl.2, ← l1]; exact l2
          · rw [bl.2, ← l1]; exact l3
          · rw [bv.2]; exact v3
          · rw [bv.2]; exact v4
      · left
        rw [if_pos q0, if_pos q1, if_neg q2, if_neg q0', if_pos q1', if_neg q2, if_neg q0', if_pos q1', if_neg q2, if_neg q0', if_pos q1', if_neg q2]
        exact ⟨rfl, rfl, rfl, rfl⟩
    · left
      have q1' : ¬ f_X6_sizeOf ((4 : Int64) * gU1 a0 a1) ≤ (7733248 : Int64) := fun z => q1 (P1.mpr z)
      rw [if_pos q0, if_neg q1, if_neg q0', if_neg q1', if_neg q0', if_neg q1', if_neg q0', if_neg q1']
      exact ⟨rfl, rfl, rfl, rfl⟩
  · left
    have q0' : (7864320 : Int64) < f_X6_sizeOf ((4 : Int64) * gU0 a0 a1) := by
      have : ¬ f_X6_sizeOf ((4 : Int64) * gU0 a0 a1) ≤ 7864320 := fun z => q0 (P0.mpr z)
      rw [fa_le64] at this
      rw [fa_lt64]; omega
    rw [if_neg q0, if_pos q0', if_pos q0', if_pos q0']
    exact ⟨rfl, rfl, rfl, rfl⟩
/-! the four methods of the face -/
theorem place_0 (a b : Int32) : f_X2_isPlace a b = 0 ↔ (f_X6_isLatitude a = 0 ∨ f_X6_isLongitude b = 0) := by
  unfold f_X2_isPlace f_X6_isLatitude f_X6_isLongitude
  have c1 : a.toInt64 < (-90000000 : Int64) ↔ a < (-90000000 : Int32) := by rw [fa_lt64, fa_lt, Int32.toInt_toInt64]; exact Iff.rfl
  have c2 : (90000000 : Int64) < a.toInt64 ↔ (90000000 : Int32) < a := by rw [fa_lt64, fa_lt, Int32.toInt_toInt64]; exact Iff.rfl
  have c3 : b.toInt64 < (-180000000 : Int64) ↔ b < (-180000000 : Int32) := by rw [fa_lt64, fa_lt, Int32.toInt_toInt64]; exact Iff.rfl
  have c4 : (180000000 : Int64) ≤ b.toInt64 ↔ (180000000 : Int32) ≤ b := by rw [fa_le64, fa_le, Int32.toInt_toInt64]; exact Iff.rfl
  simp only [c1, c2, c3, c4]
  by_cases g1 : a < (-90000000 : Int32)
  · simp [g1]
  · by_cases g2 : (90000000 : Int32) < a
    · simp [g1, g2]
    · by_cases g3 : b < (-180000000 : Int32)
      · simp [g1, g2, g3]
      · by_cases g4 : (180000000 : Int32) ≤ b
        · simp [g1, g2, g3, g4]
        · simp [g1, g2, g3, g4]
theorem lat_1 {a : Int32} (h : ¬ f_X6_isLatitude a = 0) : -90000000 ≤ a.toInt ∧ a.toInt ≤ 90000000 := by
  unfold f_X6_isLatitude at h
  by_cases g1 : a < (-90000000 : Int32)
  · rw [if_pos g1] at h; exact absurd rfl h
  · by_cases g2 : (90000000 : Int32) < a
    · rw [if_neg g1, if_pos g2] at h; exact absurd rfl h
    · rw [fa_lt, show (-90000000 : Int32).toInt = -90000000 from rfl] at g1
      rw [fa_lt, show (90000000 : Int32).toInt = 90000000 from rfl] at g2
      omega
theorem lon_1 {a : Int32} (h : ¬ f_X6_isLongitude a = 0) : -180000000 ≤ a.toInt ∧ a.toInt < 180000000 := by
  unfold f_X6_isLongitude at h
  by_cases g1 : a < (-180000000 : Int32)
  · rw [if_pos g1] at h; exact absurd rfl h
  · by_cases g2 : (180000000 : Int32) ≤ a
    · rw [if_neg g1, if_pos g2] at h; exact absurd rfl h
    · rw [fa_lt, show (-180000000 : Int32).toInt = -180000000 from rfl] at g1
      rw [fa_le, show (180000000 : Int32).toInt = 180000000 from rfl] at g2
      omega
theorem told_1 {a : Int64} (h : ¬ f_X6_isTold a = 0) : 0 ≤ a.toInt ∧ a.toInt < 17179869184 := by
  unfold f_X6_isTold at h
  by_cases g1 : a < (0 : Int64)
  · rw [if_pos g1] at h; exact absurd rfl h
  · by_cases g2 : (17179869184 : Int64) ≤ a
    · rw [if_neg g1, if_pos g2] at h; exact absurd rfl h
    · rw [fa_lt64, show (0 : Int64).toInt = 0 from rfl] at g1
      rw [fa_le64, show (17179869184 : Int64).toInt = 17179869184 from rfl] at g2
      omega
theorem code_told (a : Int64) : f_X2_isCode a = f_X6_isTold a := rfl
theorem lon0 : ¬ f_X6_isLongitude 0 = 0 := by decide +kernel
theorem zones_eq {bd : Nat → Int64} (h : BD bd) (a : Int32) : f_X5_zones a = f_X6_zones bd a := by
  unfold f_X5_zones f_X6_zones
  by_cases q : f_X6_isLatitude a = 0
  · rw [if_pos ((place_0 a 0).mpr (Or.inl q)), if_pos q]
  · rw [if_neg (fun z => ((place_0 a 0).mp z).elim q lon0), if_neg q, zc_eq h]
theorem global_eq {bd : Nat → Int64} (h : BD bd) (lat lon : Int32) (a0 a1 : Int64) (a2 : Int32) : f_X5_global a0 a1 a2 = f_X6_global bd lat lon a0 a1 a2 := by
  unfold f_X5_global f_X6_global
  rw [code_told, code_told]
  by_cases q0 : f_X6_isTold a0 = 0
  · rw [if_pos q0, if_pos q0]
  · by_cases q1 : f_X6_isTold a1 = 0
    · rw [if_neg q0, if_neg q0, if_pos q1, if_pos q1]
    · rw [if_neg q0, if_neg q0, if_neg q1, if_neg q1]
      obtain ⟨h1, h2⟩ := told_1 q0
      obtain ⟨h3, h4⟩ := told_1 q1
      rcases glob_eq h lat lon a0 a1 a2 h1 h2 h3 h4 with ⟨e1, e2, -, -⟩ | ⟨e1, e2, -⟩
      · rw [e1, e2, if_pos rfl]
      · rw [e1, e2, if_neg (by decide)]; rfl
theorem local_eq {bd : Nat → Int64} (h : BD bd) (lat lon : Int32) (a0 : Int64) (a1 a2 a3 a4 : Int32) : f_X5_local a0 a1 a2 a3 a4 = f_X6_local bd lat lon a0 a1 a2 a3 a4 := by
  unfold f_X5_local f_X6_local
  rw [code_told]
  by_cases q0 : f_X6_isTold a0 = 0
  · rw [if_pos q0, if_pos q0]
  · rw [if_neg q0, if_neg q0]
    by_cases q1 : f_X6_isLatitude a3 = 0
    · rw [if_pos ((place_0 a3 a4).mpr (Or.inl q1)), if_pos q1]
    · by_cases q2 : f_X6_isLongitude a4 = 0
      · rw [if_pos ((place_0 a3 a4).mpr (Or.inr q2)), if_neg q1, if_pos q2]
      · rw [if_neg (fun z => ((place_0 a3 a4).mp z).elim q1 q2), if_neg q1, if_neg q2]
        obtain ⟨h1, h2⟩ := told_1 q0
        have hp : InR a3 a4 := ⟨(lat_1 q1).1, (lat_1 q1).2, (lon_1 q2).1, (lon_1 q2).2⟩
        rcases loc_eq h lat lon a0 a1 a2 a3 a4 h1 h2 hp with ⟨e1, e2, -, -⟩ | ⟨e1, e2, -⟩
        · rw [e1, e2, if_pos rfl]
        · rw [e1, e2, if_neg (by decide)]; rfl
theorem encode_eq {bd : Nat → Int64} (h : BD bd) (a0 a1 a2 a3 : Int32) : f_X5_encode a0 a1 a2 a3 = f_X6_encode bd a0 a1 a2 a3 := by
  unfold f_X5_encode f_X6_encode
  by_cases q1 : f_X6_isLatitude a0 = 0
  · rw [if_pos ((place_0 a0 a1).mpr (Or.inl q1)), if_pos q1]
  · by_cases q2 : f_X6_isLongitude a1 = 0
    · rw [if_pos ((place_0 a0 a1).mpr (Or.inr q2)), if_neg q1, if_pos q2]
    · rw [if_neg (fun z => ((place_0 a0 a1).mp z).elim q1 q2), if_neg q1, if_neg q2]
      obtain ⟨p1, p2⟩ := lat_1 q1
      obtain ⟨p3, p4⟩ := lon_1 q2
      have hb : (if a3 = 0 then (60 : Int32) else (59 : Int32)).toInt64 = f_X2_bandsOf a3 := by
        unfold f_X2_bandsOf
        split <;> rfl
      have S := lat_S p1 p2 (band_or a3)
      have A := step_eq (P := a0.toInt64) (Z := f_X2_bandsOf a3) (t := f_X2_turnOf a2) (by rw [Int32.toInt_toInt64]; omega) S (turn_or a2)
      have e53 : f_X6_encode_x53 a0 a3 = a0.toInt64 * f_X2_bandsOf a3 := by unfold f_X6_encode_x53; rw [hb]
      have e62 : f_X6_encode_x62 a0 a3 a2 = f_X6_down (a0.toInt64 * f_X2_bandsOf a3) (f_X2_turnOf a2) := by unfold f_X6_encode_x62; rw [e53]; rfl
      have e76 : f_X6_encode_x76 a0 a3 a2 = f_X6_parts (f_X6_rest (a0.toInt64 * f_X2_bandsOf a3) (f_X2_turnOf a2)) (f_X2_turnOf a2) := by unfold f_X6_encode_x76; rw [e53]; rfl
      have e119 : f_X6_encode_x119 bd a2 a0 a3 = f_X6_atLeast1 (f_X2_zoneCount (((100 : Int64) * f_X2_turnOf a2) * f_X2_nearestStep a0.toInt64 (f_X2_bandsOf a3) (f_X2_turnOf a2)) (f_X2_bandsOf a3 * (131072 : Int64)) - (if a3 = 0 then (0 : Int32) else (1 : Int32))) := by
        unfold f_X6_encode_x119
        rw [zc_eq h, A.1, e62, e76, hb]; rfl
      obtain ⟨z1, z2, z3⟩ := zn_eq (((100 : Int64) * f_X2_turnOf a2) * f_X2_nearestStep a0.toInt64 (f_X2_bandsOf a3) (f_X2_turnOf a2)) (f_X2_bandsOf a3 * (131072 : Int64)) a3
      rw [← e119] at z1 z2 z3
      obtain ⟨s1, s2, s3, s4⟩ := lon_S p3 p4 z2 z3
      have Bn := step_eq (P := a1.toInt64) (Z := (f_X6_encode_x119 bd a2 a0 a3).toInt64) (t := f_X2_turnOf a2) (by rw [Int32.toInt_toInt64]; omega) ⟨s1, s2⟩ (turn_or a2)
      have e137 : f_X6_encode_x137 a1 bd a2 a0 a3 = f_X6_parts (f_X6_rest (a1.toInt64 * (f_X6_encode_x119 bd a2 a0 a3).toInt64) (f_X2_turnOf a2)) (f_X2_turnOf a2) := rfl
      unfold f_X2_code
      have ez : f_X2_zonesOf (f_X2_zoneCountAt (f_X2_nearestStep a0.toInt64 (f_X2_bandsOf a3) (f_X2_turnOf a2)) (f_X2_bandsOf a3) (f_X2_turnOf a2)) a3 = (f_X6_encode_x119 bd a2 a0 a3).toInt64 := z1
      rw [ez, A.2, Bn.2, e76, e137, Int64.mul_comm (131072 : Int64)]
