/-! compact positions: steps as they are told -/
theorem step_a1 {s : Int64} (hs1 : -11000000000 ≤ s.toInt) (hs2 : s.toInt ≤ 11000000000) : (f_X2_quotient (((2 : Int64) * s * (131072 : Int64)) + (360000000 : Int64)) ((2 : Int64) * (360000000 : Int64))).toInt = (2 * s.toInt * 131072 + 360000000) / (2 * 360000000) := by
  have i1 : ((2 : Int64) * s).toInt = 2 * s.toInt := mL _ s 2 rfl (by omega) (by omega)
  have i2 : ((2 : Int64) * s * (131072 : Int64)).toInt = 2 * s.toInt * 131072 := by rw [mR _ _ 131072 rfl (by rw [i1]; clear i1; omega) (by rw [i1]; clear i1; omega), i1]
  have tt : (360000000 : Int64).toInt = 360000000 := rfl
  have j2 : ((2 : Int64) * s * (131072 : Int64) + (360000000 : Int64)).toInt = 2 * s.toInt * 131072 + 360000000 := by rw [aL (by rw [i2, tt]; clear i2 i1; omega) (by rw [i2, tt]; clear i2 i1; omega), i2, tt]
  rw [quI (k := 2 * 360000000) (by decide +kernel) (by decide), j2]
theorem step_a2 {s : Int64} (hs1 : -11000000000 ≤ s.toInt) (hs2 : s.toInt ≤ 11000000000) : (f_X6_parts (f_X6_rest s (360000000 : Int64)) (360000000 : Int64)).toInt = (2 * (s.toInt % 360000000) * 131072 + 360000000) / (2 * 360000000) ∧ 0 ≤ (2 * (s.toInt % 360000000) * 131072 + 360000000) / (2 * 360000000) ∧ (2 * (s.toInt % 360000000) * 131072 + 360000000) / (2 * 360000000) ≤ 131072 := by
  have r1 : 0 ≤ s.toInt % 360000000 ∧ s.toInt % 360000000 < 360000000 := by omega
  have k1 := rsI (a := s) (b := (360000000 : Int64)) (k := 360000000) rfl (by decide)
  obtain ⟨r3, r4⟩ := r1
  generalize s.toInt % 360000000 = r at *
  have tt : (360000000 : Int64).toInt = 360000000 := rfl
  have k3 : ((2 : Int64) * f_X6_rest s (360000000 : Int64)).toInt = 2 * r := by rw [mL _ _ 2 rfl (by rw [k1]; clear k1; omega) (by rw [k1]; clear k1; omega), k1]
  have k4 : ((2 : Int64) * f_X6_rest s (360000000 : Int64) * (131072 : Int64)).toInt = 2 * r * 131072 := by rw [mR _ _ 131072 rfl (by rw [k3]; clear k3 k1; omega) (by rw [k3]; clear k3 k1; omega), k3]
  have k6 : ((2 : Int64) * f_X6_rest s (360000000 : Int64) * (131072 : Int64) + (360000000 : Int64)).toInt = 2 * r * 131072 + 360000000 := by rw [aL (by rw [k4, tt]; clear k4 k3 k1; omega) (by rw [k4, tt]; clear k4 k3 k1; omega), k4, tt]
  unfold f_X6_parts
  rw [dnI (k := 2 * 360000000) (by decide +kernel) (by clear k6 k4 k3 k1; omega) (by clear k6 k4 k3 k1; omega) (by rw [k6]; clear k6 k4 k3 k1; omega), k6]
  refine ⟨rfl, ?_, ?_⟩
  · clear k1 k3 k4 k6; omega
  · clear k1 k3 k4 k6; omega
theorem step_g1 {s : Int64} (hs1 : -11000000000 ≤ s.toInt) (hs2 : s.toInt ≤ 11000000000) : (f_X2_quotient (((2 : Int64) * s * (131072 : Int64)) + (90000000 : Int64)) ((2 : Int64) * (90000000 : Int64))).toInt = (2 * s.toInt * 131072 + 90000000) / (2 * 90000000) := by
  have i1 : ((2 : Int64) * s).toInt = 2 * s.toInt := mL _ s 2 rfl (by omega) (by omega)
  have i2 : ((2 : Int64) * s * (131072 : Int64)).toInt = 2 * s.toInt * 131072 := by rw [mR _ _ 131072 rfl (by rw [i1]; clear i1; omega) (by rw [i1]; clear i1; omega), i1]
  have tt : (90000000 : Int64).toInt = 90000000 := rfl
  have j2 : ((2 : Int64) * s * (131072 : Int64) + (90000000 : Int64)).toInt = 2 * s.toInt * 131072 + 90000000 := by rw [aL (by rw [i2, tt]; clear i2 i1; omega) (by rw [i2, tt]; clear i2 i1; omega), i2, tt]
  rw [quI (k := 2 * 90000000) (by decide +kernel) (by decide), j2]
theorem step_g2 {s : Int64} (hs1 : -11000000000 ≤ s.toInt) (hs2 : s.toInt ≤ 11000000000) : (f_X6_parts (f_X6_rest s (90000000 : Int64)) (90000000 : Int64)).toInt = (2 * (s.toInt % 90000000) * 131072 + 90000000) / (2 * 90000000) ∧ 0 ≤ (2 * (s.toInt % 90000000) * 131072 + 90000000) / (2 * 90000000) ∧ (2 * (s.toInt % 90000000) * 131072 + 90000000) / (2 * 90000000) ≤ 131072 := by
  have r1 : 0 ≤ s.toInt % 90000000 ∧ s.toInt % 90000000 < 90000000 := by omega
  have k1 := rsI (a := s) (b := (90000000 : Int64)) (k := 90000000) rfl (by decide)
  obtain ⟨r3, r4⟩ := r1
  generalize s.toInt % 90000000 = r at *
  have tt : (90000000 : Int64).toInt = 90000000 := rfl
  have k3 : ((2 : Int64) * f_X6_rest s (90000000 : Int64)).toInt = 2 * r := by rw [mL _ _ 2 rfl (by rw [k1]; clear k1; omega) (by rw [k1]; clear k1; omega), k1]
  have k4 : ((2 : Int64) * f_X6_rest s (90000000 : Int64) * (131072 : Int64)).toInt = 2 * r * 131072 := by rw [mR _ _ 131072 rfl (by rw [k3]; clear k3 k1; omega) (by rw [k3]; clear k3 k1; omega), k3]
  have k6 : ((2 : Int64) * f_X6_rest s (90000000 : Int64) * (131072 : Int64) + (90000000 : Int64)).toInt = 2 * r * 131072 + 90000000 := by rw [aL (by rw [k4, tt]; clear k4 k3 k1; omega) (by rw [k4, tt]; clear k4 k3 k1; omega), k4, tt]
  unfold f_X6_parts
  rw [dnI (k := 2 * 90000000) (by decide +kernel) (by clear k6 k4 k3 k1; omega) (by clear k6 k4 k3 k1; omega) (by rw [k6]; clear k6 k4 k3 k1; omega), k6]
  refine ⟨rfl, ?_, ?_⟩
  · clear k1 k3 k4 k6; omega
  · clear k1 k3 k4 k6; omega
/-- the step, as it is told: one formula on either side -/
theorem step_s {s t : Int64} (hs : -11000000000 ≤ s.toInt ∧ s.toInt ≤ 11000000000) (ht : t = 360000000 ∨ t = 90000000) :
    f_X2_quotient (((2 : Int64) * s * (131072 : Int64)) + t) ((2 : Int64) * t) = (f_X6_down s t) * (131072 : Int64) + f_X6_parts (f_X6_rest s t) t
    ∧ f_J9_floorMod_f86c9 (f_X2_quotient (((2 : Int64) * s * (131072 : Int64)) + t) ((2 : Int64) * t)) (131072 : Int64) = (f_X6_parts (f_X6_rest s t) t) - (f_X6_parts (f_X6_rest s t) t) / (131072 : Int64) * (131072 : Int64) := by
  obtain ⟨hs1, hs2⟩ := hs
  rcases ht with e | e <;> subst e
  · have A := step_a1 (s := s) hs1 hs2
    obtain ⟨B, b1, b2⟩ := step_a2 (s := s) hs1 hs2
    have E := stepI (T := 360000000) (S := s.toInt) (by decide)
    have k2 := dnI (a := s) (b := (360000000 : Int64)) (k := 360000000) rfl (by omega) (by omega) (by omega)
    have r2 : -200 ≤ s.toInt / 360000000 ∧ s.toInt / 360000000 ≤ 200 := by clear A B E b1 b2 k2; omega
    obtain ⟨r5, r6⟩ := r2
    generalize f_X6_parts (f_X6_rest s (360000000 : Int64)) (360000000 : Int64) = pz at *
    generalize f_X2_quotient (((2 : Int64) * s * (131072 : Int64)) + (360000000 : Int64)) ((2 : Int64) * (360000000 : Int64)) = qz at *
    rw [E] at A
    generalize (2 * (s.toInt % 360000000) * 131072 + 360000000) / (2 * 360000000) = v at *
    generalize s.toInt / 360000000 = q at *
    clear E
    have l2 : (f_X6_down s (360000000 : Int64) * (131072 : Int64)).toInt = q * 131072 := by rw [mR _ _ 131072 rfl (by rw [k2]; clear k2 A B; omega) (by rw [k2]; clear k2 A B; omega), k2]
    refine ⟨?_, ?_⟩
    · rw [fa_eq64, A, aL (by rw [l2, B]; clear l2 k2 A B; omega) (by rw [l2, B]; clear l2 k2 A B; omega), l2, B]
    · have m1 := fmI (a := qz) (b := (131072 : Int64)) (k := 131072) rfl (by decide)
      have m2 := (mulD (a := pz) (b := (131072 : Int64)) (by decide +kernel)).2
      rw [show (131072 : Int64).toInt = 131072 from rfl, B, Int.tmod_eq_emod_of_nonneg b1] at m2
      rw [fa_eq64, m1, m2, A]
      clear m1 m2 A B k2 l2
      omega
  · have A := step_g1 (s := s) hs1 hs2
    obtain ⟨B, b1, b2⟩ := step_g2 (s := s) hs1 hs2
    have E := stepI (T := 90000000) (S := s.toInt) (by decide)
    have k2 := dnI (a := s) (b := (90000000 : Int64)) (k := 90000000) rfl (by omega) (by omega) (by omega)
    have r2 : -200 ≤ s.toInt / 90000000 ∧ s.toInt / 90000000 ≤ 200 := by clear A B E b1 b2 k2; omega
    obtain ⟨r5, r6⟩ := r2
    generalize f_X6_parts (f_X6_rest s (90000000 : Int64)) (90000000 : Int64) = pz at *
    generalize f_X2_quotient (((2 : Int64) * s * (131072 : Int64)) + (90000000 : Int64)) ((2 : Int64) * (90000000 : Int64)) = qz at *
    rw [E] at A
    generalize (2 * (s.toInt % 90000000) * 131072 + 90000000) / (2 * 90000000) = v at *
    generalize s.toInt / 90000000 = q at *
    clear E
    have l2 : (f_X6_down s (90000000 : Int64) * (131072 : Int64)).toInt = q * 131072 := by rw [mR _ _ 131072 rfl (by rw [k2]; clear k2 A B; omega) (by rw [k2]; clear k2 A B; omega), k2]
    refine ⟨?_, ?_⟩
    · rw [fa_eq64, A, aL (by rw [l2, B]; clear l2 k2 A B; omega) (by rw [l2, B]; clear l2 k2 A B; omega), l2, B]
    · have m1 := fmI (a := qz) (b := (131072 : Int64)) (k := 131072) rfl (by decide)
      have m2 := (mulD (a := pz) (b := (131072 : Int64)) (by decide +kernel)).2
      rw [show (131072 : Int64).toInt = 131072 from rfl, B, Int.tmod_eq_emod_of_nonneg b1] at m2
      rw [fa_eq64, m1, m2, A]
      clear m1 m2 A B k2 l2
      omega
theorem step_eq {P Z t : Int64} (hP : -200000000 ≤ P.toInt ∧ P.toInt ≤ 200000000) (hs : -11000000000 ≤ P.toInt * Z.toInt ∧ P.toInt * Z.toInt ≤ 11000000000) (ht : t = 360000000 ∨ t = 90000000) :
    f_X2_nearestStep P Z t = (f_X6_down (P * Z) t) * (131072 : Int64) + f_X6_parts (f_X6_rest (P * Z) t) t
    ∧ f_J9_floorMod_f86c9 (f_X2_nearestStep P Z t) (131072 : Int64) = (f_X6_parts (f_X6_rest (P * Z) t) t) - (f_X6_parts (f_X6_rest (P * Z) t) t) / (131072 : Int64) * (131072 : Int64) := by
  have h0 : (P * Z).toInt = P.toInt * Z.toInt := fb_mulL (by omega) (by omega)
  have h1 : f_X2_nearestStep P Z t = f_X2_quotient (((2 : Int64) * (P * Z) * (131072 : Int64)) + t) ((2 : Int64) * t) := by
    unfold f_X2_nearestStep
    rw [Int64.mul_assoc 2 P Z]
  rw [h1]
  exact step_s (by rw [h0]; exact hs) ht
