/-! compact positions: the same whole numbers on both sides -/
theorem tI_div {a b : Int64} (hb : 0 < b.toInt) : (a / b).toInt = a.toInt.tdiv b.toInt :=
  Int64.toInt_div_of_ne_right a b (fun h => by rw [h] at hb; exact absurd hb (by decide +kernel))
theorem xor_sign {a b : Int64} (hb : 0 < b.toInt) : (0 : Int64) ≤ a ^^^ b ↔ 0 ≤ a.toInt := by
  rw [fa_le64]
  have e1 : (a ^^^ b).toInt = (a.toBitVec ^^^ b.toBitVec).toInt := rfl
  have m1 : (a.toBitVec ^^^ b.toBitVec).msb = (a.toBitVec.msb ^^ b.toBitVec.msb) := BitVec.msb_xor
  have m2 : b.toBitVec.msb = false := by rw [BitVec.msb_eq_toInt]; exact decide_eq_false (by have : b.toBitVec.toInt = b.toInt := rfl; omega)
  have m3 : a.toBitVec.msb = decide (a.toInt < 0) := BitVec.msb_eq_toInt
  have m4 : (a.toBitVec ^^^ b.toBitVec).msb = decide ((a.toBitVec ^^^ b.toBitVec).toInt < 0) := BitVec.msb_eq_toInt
  rw [m1, m2, m3, Bool.xor_false] at m4
  have m5 : (a.toInt < 0) ↔ ((a.toBitVec ^^^ b.toBitVec).toInt < 0) := decide_eq_decide.mp m4
  rw [e1, show (0 : Int64).toInt = 0 from rfl]
  omega
/-- quotient and rest of whole numbers, as the machine cuts them -/
theorem cut {x k : Int} (hk : 0 < k) : ∃ q r P : Int, x / k = q ∧ x % k = r ∧ P = k * q ∧ x = P + r ∧ 0 ≤ r ∧ r < k ∧ ((x.tdiv k = q ∧ x.tmod k = r ∧ (0 ≤ x ∨ r = 0)) ∨ (x.tdiv k = q + 1 ∧ x.tmod k = r - k ∧ x < 0 ∧ ¬ r = 0)) := by
  refine ⟨x / k, x % k, k * (x / k), rfl, rfl, rfl, (Int.mul_ediv_add_emod x k).symm, Int.emod_nonneg x (by omega), Int.emod_lt_of_pos x hk, ?_⟩
  by_cases h : 0 ≤ x
  · exact Or.inl ⟨Int.tdiv_eq_ediv_of_nonneg h, Int.tmod_eq_emod_of_nonneg h, Or.inl h⟩
  · by_cases hd : k ∣ x
    · have h1 := Int.tdiv_eq_ediv (a := x) (b := k)
      have h2 := Int.tmod_eq_emod (a := x) (b := k)
      rw [if_pos (Or.inr hd)] at h1 h2
      exact Or.inl ⟨by omega, by omega, Or.inr (Int.emod_eq_zero_of_dvd hd)⟩
    · have h1 := Int.tdiv_eq_ediv (a := x) (b := k)
      have h2 := Int.tmod_eq_emod (a := x) (b := k)
      rw [if_neg (fun z => z.elim h hd)] at h1 h2
      rw [Int.sign_eq_one_of_pos hk] at h1
      exact Or.inr ⟨h1, by omega, by omega, fun z => hd (Int.dvd_of_emod_eq_zero z)⟩
theorem mulD {a b : Int64} (hb : 0 < b.toInt) : (a / b * b).toInt = a.toInt.tdiv b.toInt * b.toInt ∧ (a - a / b * b).toInt = a.toInt.tmod b.toInt := by
  have e1 := tI_div (a := a) hb
  have ra := fb_rngL a
  have rb := fb_rngL b
  obtain ⟨q, r, P, h1, h2, h3, h4, h5, h6, h7⟩ := cut (x := a.toInt) hb
  have e2 : a.toInt.tdiv b.toInt * b.toInt = a.toInt - a.toInt.tmod b.toInt := by rw [Int.tmod_def, Int.mul_comm b.toInt]; omega
  have e3 : (a / b * b).toInt = a.toInt.tdiv b.toInt * b.toInt := by
    rw [fb_mulL, e1]
    · rw [e1, e2]; omega
    · rw [e1, e2]; omega
  refine ⟨e3, ?_⟩
  rw [fb_subL] <;> rw [e3, e2] <;> omega
theorem fdI {a b : Int64} {k : Int} (hb : b.toInt = k) (hk : 0 < k) : (f_J9_floorDiv_f86c9 a b).toInt = a.toInt / k := by
  subst hb
  have e1 := tI_div (a := a) hk
  have e2 := (mulD (a := a) hk).1
  have hx := xor_sign (a := a) hk
  have ra := fb_rngL a
  obtain ⟨q, r, P, h1, h2, h3, h4, h5, h6, h7⟩ := cut (x := a.toInt) hk
  have hm : ∀ z : Int, (z + 1) * b.toInt = b.toInt * z + b.toInt := fun z => by rw [Int.add_mul, Int.one_mul, Int.mul_comm]
  unfold f_J9_floorDiv_f86c9
  rw [h1]
  rcases h7 with ⟨t1, t2, t3⟩ | ⟨t1, t2, t3, t4⟩
  · by_cases hp : (0 : Int64) ≤ a ^^^ b
    · rw [if_pos hp, e1, t1]
    · have hr : r = 0 := by
        rcases t3 with z | z
        · exact absurd (hx.mpr z) hp
        · exact z
      have hq : a / b * b = a := by
        rw [fa_eq64, e2, t1, Int.mul_comm]; omega
      rw [if_neg hp, if_pos hq, e1, t1]
  · have hp : ¬ (0 : Int64) ≤ a ^^^ b := fun z => by have := hx.mp z; omega
    have hq : ¬ a / b * b = a := by
      intro z
      rw [fa_eq64, e2, t1, hm] at z
      omega
    rw [if_neg hp, if_neg hq, fb_subL, e1, t1] <;> rw [show (1 : Int64).toInt = 1 from rfl]
    · omega
    · rw [e1, t1]
      have r1 := fb_rngL (a / b)
      rw [e1, t1] at r1
      rcases Int.lt_or_le (-9223372036854775808) (q + 1) with y | y
      · omega
      · have : q = -9223372036854775809 := by omega
        subst this
        omega
    · rw [e1, t1]
      have r1 := fb_rngL (a / b)
      rw [e1, t1] at r1
      omega
theorem fmI {a b : Int64} {k : Int} (hb : b.toInt = k) (hk : 0 < k) : (f_J9_floorMod_f86c9 a b).toInt = a.toInt % k := by
  subst hb
  have e2 := (mulD (a := a) hk).2
  have hx := xor_sign (a := a) hk
  have ra := fb_rngL a
  have rb := fb_rngL b
  obtain ⟨q, r, P, h1, h2, h3, h4, h5, h6, h7⟩ := cut (x := a.toInt) hk
  unfold f_J9_floorMod_f86c9
  rw [h2]
  rcases h7 with ⟨t1, t2, t3⟩ | ⟨t1, t2, t3, t4⟩
  · by_cases hp : (0 : Int64) ≤ a ^^^ b
    · rw [if_pos hp, e2, t2]
    · have hr : r = 0 := by
        rcases t3 with z | z
        · exact absurd (hx.mpr z) hp
        · exact z
      rw [if_neg hp, if_pos (by rw [fa_eq64, e2, t2, hr]; rfl), e2, t2]
  · have hp : ¬ (0 : Int64) ≤ a ^^^ b := fun z => by have := hx.mp z; omega
    have hq : ¬ a - a / b * b = 0 := by
      intro z
      rw [fa_eq64, e2, t2, show (0 : Int64).toInt = 0 from rfl] at z
      omega
    rw [if_neg hp, if_neg hq, fb_addL, e2, t2] <;> (try rw [e2, t2]) <;> omega
theorem rsI {a b : Int64} {k : Int} (hb : b.toInt = k) (hk : 0 < k) : (f_X6_rest a b).toInt = a.toInt % k := by
  subst hb
  have e2 := (mulD (a := a) hk).2
  have rb := fb_rngL b
  obtain ⟨q, r, P, h1, h2, h3, h4, h5, h6, h7⟩ := cut (x := a.toInt) hk
  have z0 : (0 : Int64).toInt = 0 := rfl
  unfold f_X6_rest
  rw [h2]
  rcases h7 with ⟨t1, t2, t3⟩ | ⟨t1, t2, t3, t4⟩
  · rw [if_pos (by rw [fa_le64, e2, t2]; omega), e2, t2]
  · rw [if_neg (by rw [fa_le64, e2, t2]; omega), fb_addL, e2, t2] <;> (try rw [e2, t2]) <;> omega
theorem dnI {a b : Int64} {k : Int} (hb : b.toInt = k) (hk : 0 < k) (hk2 : k ≤ 4611686018427387904) (ha : -4611686018427387904 ≤ a.toInt) : (f_X6_down a b).toInt = a.toInt / k := by
  have e3 := rsI (a := a) hb hk
  have ra := fb_rngL a
  obtain ⟨q, r, P, h1, h2, h3, h4, h5, h6, h7⟩ := cut (x := a.toInt) hk
  have e4 : (a - f_X6_rest a b).toInt = P := by rw [fb_subL] <;> rw [e3, h2] <;> omega
  unfold f_X6_down
  rw [tI_div (by omega), e4, hb, h1, h3, Int.mul_comm, Int.mul_tdiv_cancel _ (by omega)]
theorem quI {a b : Int64} {k : Int} (hb : b.toInt = k) (hk : 0 < k) : (f_X2_quotient a b).toInt = a.toInt / k := by
  unfold f_X2_quotient
  rw [if_pos (by rw [fa_lt64, hb]; exact hk)]
  exact fdI hb hk
theorem rmI {a b : Int64} {k : Int} (hb : b.toInt = k) (hk : 0 < k) : (f_X2_remainder a b).toInt = a.toInt % k := by
  unfold f_X2_remainder
  rw [if_pos (by rw [fa_lt64, hb]; exact hk)]
  exact fmI hb hk
theorem mR (a c : Int64) (k : Int) (hc : c.toInt = k) (h1 : -9223372036854775808 ≤ a.toInt * k) (h2 : a.toInt * k < 9223372036854775808) : (a * c).toInt = a.toInt * k := by
  subst hc
  exact fb_mulL h1 h2
theorem mL (c a : Int64) (k : Int) (hc : c.toInt = k) (h1 : -9223372036854775808 ≤ k * a.toInt) (h2 : k * a.toInt < 9223372036854775808) : (c * a).toInt = k * a.toInt := by
  subst hc
  exact fb_mulL h1 h2
theorem aL {a b : Int64} (h1 : -9223372036854775808 ≤ a.toInt + b.toInt) (h2 : a.toInt + b.toInt < 9223372036854775808) : (a + b).toInt = a.toInt + b.toInt := fb_addL h1 h2
theorem sL {a b : Int64} (h1 : -9223372036854775808 ≤ a.toInt - b.toInt) (h2 : a.toInt - b.toInt < 9223372036854775808) : (a - b).toInt = a.toInt - b.toInt := fb_subL h1 h2
/-- the step that is nearest: one formula on either side -/
theorem near_s {s Y t : Int64} (hs : -11000000000 ≤ s.toInt ∧ s.toInt ≤ 11000000000) (ht : t = 360000000 ∨ t = 90000000) (hY : 0 ≤ Y.toInt ∧ Y.toInt < 131072) :
    ((131072 : Int64) * (f_X2_quotient ((s * (131072 : Int64)) + (t * ((65536 : Int64) - Y))) (t * (131072 : Int64)))) + Y = (((f_X6_down s t) + (f_X6_down (((t * (131072 : Int64)) + (((2 : Int64) * (f_X6_rest s t)) * (131072 : Int64))) - (((2 : Int64) * Y) * t)) (((2 : Int64) * t) * (131072 : Int64)))) * (131072 : Int64)) + Y
    ∧ 2 * s.toInt * 131072 - t.toInt * 131072 < 2 * t.toInt * (((131072 : Int64) * (f_X2_quotient ((s * (131072 : Int64)) + (t * ((65536 : Int64) - Y))) (t * (131072 : Int64)))) + Y).toInt
    ∧ 2 * t.toInt * (((131072 : Int64) * (f_X2_quotient ((s * (131072 : Int64)) + (t * ((65536 : Int64) - Y))) (t * (131072 : Int64)))) + Y).toInt ≤ 2 * s.toInt * 131072 + t.toInt * 131072 := by
  obtain ⟨hs1, hs2⟩ := hs
  obtain ⟨hY1, hY2⟩ := hY
  have i1 : (s * (131072 : Int64)).toInt = s.toInt * 131072 := mR s _ 131072 rfl (by omega) (by omega)
  have i2 : ((65536 : Int64) - Y).toInt = 65536 - Y.toInt := by rw [sL] <;> rw [show (65536 : Int64).toInt = 65536 from rfl] <;> omega
  have i3 : ((2 : Int64) * Y).toInt = 2 * Y.toInt := mL _ Y 2 rfl (by omega) (by omega)
  rcases ht with e | e <;> subst e
  · have tt : (360000000 : Int64).toInt = 360000000 := rfl
    have j1 : ((360000000 : Int64) * ((65536 : Int64) - Y)).toInt = 360000000 * (65536 - Y.toInt) := by rw [← i2]; exact mL _ _ 360000000 rfl (by omega) (by omega)
    have j2 : (s * (131072 : Int64) + (360000000 : Int64) * ((65536 : Int64) - Y)).toInt = s.toInt * 131072 + 360000000 * (65536 - Y.toInt) := by rw [aL (by omega) (by omega), i1, j1]
    have j3 := quI (a := s * (131072 : Int64) + (360000000 : Int64) * ((65536 : Int64) - Y)) (b := (360000000 : Int64) * (131072 : Int64)) (k := 47185920000000) (by decide +kernel) (by decide)
    rw [j2] at j3
    have j4 : ((131072 : Int64) * (f_X2_quotient ((s * (131072 : Int64)) + ((360000000 : Int64) * ((65536 : Int64) - Y))) ((360000000 : Int64) * (131072 : Int64)))).toInt = 131072 * ((s.toInt * 131072 + 360000000 * (65536 - Y.toInt)) / 47185920000000) := by rw [← j3]; exact mL _ _ 131072 rfl (by omega) (by omega)
    have j5 : (((131072 : Int64) * (f_X2_quotient ((s * (131072 : Int64)) + ((360000000 : Int64) * ((65536 : Int64) - Y))) ((360000000 : Int64) * (131072 : Int64)))) + Y).toInt = 131072 * ((s.toInt * 131072 + 360000000 * (65536 - Y.toInt)) / 47185920000000) + Y.toInt := by rw [aL (by omega) (by omega), j4]
    have k1 := rsI (a := s) (b := (360000000 : Int64)) (k := 360000000) rfl (by decide)
    have k2 := dnI (a := s) (b := (360000000 : Int64)) (k := 360000000) rfl (by decide) (by decide) (by omega)
    have k3 : ((2 : Int64) * f_X6_rest s (360000000 : Int64)).toInt = 2 * (s.toInt % 360000000) := by rw [← k1]; exact mL _ _ 2 rfl (by omega) (by omega)
    have k4 : ((2 : Int64) * f_X6_rest s (360000000 : Int64) * (131072 : Int64)).toInt = 2 * (s.toInt % 360000000) * 131072 := by rw [← k3]; exact mR _ _ 131072 rfl (by omega) (by omega)
    have k5 : ((360000000 : Int64) * (131072 : Int64)).toInt = 47185920000000 := by decide +kernel
    have k6 : (((360000000 : Int64) * (131072 : Int64)) + (2 : Int64) * f_X6_rest s (360000000 : Int64) * (131072 : Int64)).toInt = 47185920000000 + 2 * (s.toInt % 360000000) * 131072 := by rw [aL (by omega) (by omega), k5, k4]
    have k7 : ((2 : Int64) * Y * (360000000 : Int64)).toInt = 2 * Y.toInt * 360000000 := by rw [← i3]; exact mR _ _ 360000000 rfl (by omega) (by omega)
    have k8 : ((((360000000 : Int64) * (131072 : Int64)) + (2 : Int64) * f_X6_rest s (360000000 : Int64) * (131072 : Int64)) - (2 : Int64) * Y * (360000000 : Int64)).toInt = 47185920000000 + 2 * (s.toInt % 360000000) * 131072 - 2 * Y.toInt * 360000000 := by rw [sL (by omega) (by omega), k6, k7]
    have k9 := dnI (a := (((360000000 : Int64) * (131072 : Int64)) + (2 : Int64) * f_X6_rest s (360000000 : Int64) * (131072 : Int64)) - (2 : Int64) * Y * (360000000 : Int64)) (b := ((2 : Int64) * (360000000 : Int64)) * (131072 : Int64)) (k := 94371840000000) (by decide +kernel) (by decide) (by decide) (by omega)
    rw [k8] at k9
    have l1 : (f_X6_down s (360000000 : Int64) + f_X6_down ((((360000000 : Int64) * (131072 : Int64)) + (2 : Int64) * f_X6_rest s (360000000 : Int64) * (131072 : Int64)) - (2 : Int64) * Y * (360000000 : Int64)) (((2 : Int64) * (360000000 : Int64)) * (131072 : Int64))).toInt = s.toInt / 360000000 + (47185920000000 + 2 * (s.toInt % 360000000) * 131072 - 2 * Y.toInt * 360000000) / 94371840000000 := by rw [aL (by omega) (by omega), k2, k9]
    have l2 : ((f_X6_down s (360000000 : Int64) + f_X6_down ((((360000000 : Int64) * (131072 : Int64)) + (2 : Int64) * f_X6_rest s (360000000 : Int64) * (131072 : Int64)) - (2 : Int64) * Y * (360000000 : Int64)) (((2 : Int64) * (360000000 : Int64)) * (131072 : Int64))) * (131072 : Int64)).toInt = (s.toInt / 360000000 + (47185920000000 + 2 * (s.toInt % 360000000) * 131072 - 2 * Y.toInt * 360000000) / 94371840000000) * 131072 := by rw [← l1]; exact mR _ _ 131072 rfl (by omega) (by omega)
    refine ⟨?_, ?_, ?_⟩
    · rw [fa_eq64, j5, aL (by omega) (by omega), l2]
      omega
    · rw [j5, tt]; omega
    · rw [j5, tt]; omega
  · have tt : (90000000 : Int64).toInt = 90000000 := rfl
    have j1 : ((90000000 : Int64) * ((65536 : Int64) - Y)).toInt = 90000000 * (65536 - Y.toInt) := by rw [← i2]; exact mL _ _ 90000000 rfl (by omega) (by omega)
    have j2 : (s * (131072 : Int64) + (90000000 : Int64) * ((65536 : Int64) - Y)).toInt = s.toInt * 131072 + 90000000 * (65536 - Y.toInt) := by rw [aL (by omega) (by omega), i1, j1]
    have j3 := quI (a := s * (131072 : Int64) + (90000000 : Int64) * ((65536 : Int64) - Y)) (b := (90000000 : Int64) * (131072 : Int64)) (k := 11796480000000) (by decide +kernel) (by decide)
    rw [j2] at j3
    have j4 : ((131072 : Int64) * (f_X2_quotient ((s * (131072 : Int64)) + ((90000000 : Int64) * ((65536 : Int64) - Y))) ((90000000 : Int64) * (131072 : Int64)))).toInt = 131072 * ((s.toInt * 131072 + 90000000 * (65536 - Y.toInt)) / 11796480000000) := by rw [← j3]; exact mL _ _ 131072 rfl (by omega) (by omega)
    have j5 : (((131072 : Int64) * (f_X2_quotient ((s * (131072 : Int64)) + ((90000000 : Int64) * ((65536 : Int64) - Y))) ((90000000 : Int64) * (131072 : Int64)))) + Y).toInt = 131072 * ((s.toInt * 131072 + 90000000 * (65536 - Y.toInt)) / 11796480000000) + Y.toInt := by rw [aL (by omega) (by omega), j4]
    have k1 := rsI (a := s) (b := (90000000 : Int64)) (k := 90000000) rfl (by decide)
    have k2 := dnI (a := s) (b := (90000000 : Int64)) (k := 90000000) rfl (by decide) (by decide) (by omega)
    have k3 : ((2 : Int64) * f_X6_rest s (90000000 : Int64)).toInt = 2 * (s.toInt % 90000000) := by rw [← k1]; exact mL _ _ 2 rfl (by omega) (by omega)
    have k4 : ((2 : Int64) * f_X6_rest s (90000000 : Int64) * (131072 : Int64)).toInt = 2 * (s.toInt % 90000000) * 131072 := by rw [← k3]; exact mR _ _ 131072 rfl (by omega) (by omega)
    have k5 : ((90000000 : Int64) * (131072 : Int64)).toInt = 11796480000000 := by decide +kernel
    have k6 : (((90000000 : Int64) * (131072 : Int64)) + (2 : Int64) * f_X6_rest s (90000000 : Int64) * (131072 : Int64)).toInt = 11796480000000 + 2 * (s.toInt % 90000000) * 131072 := by rw [aL (by omega) (by omega), k5, k4]
    have k7 : ((2 : Int64) * Y * (90000000 : Int64)).toInt = 2 * Y.toInt * 90000000 := by rw [← i3]; exact mR _ _ 90000000 rfl (by omega) (by omega)
    have k8 : ((((90000000 : Int64) * (131072 : Int64)) + (2 : Int64) * f_X6_rest s (90000000 : Int64) * (131072 : Int64)) - (2 : Int64) * Y * (90000000 : Int64)).toInt = 11796480000000 + 2 * (s.toInt % 90000000) * 131072 - 2 * Y.toInt * 90000000 := by rw [sL (by omega) (by omega), k6, k7]
    have k9 := dnI (a := (((90000000 : Int64) * (131072 : Int64)) + (2 : Int64) * f_X6_rest s (90000000 : Int64) * (131072 : Int64)) - (2 : Int64) * Y * (90000000 : Int64)) (b := ((2 : Int64) * (90000000 : Int64)) * (131072 : Int64)) (k := 23592960000000) (by decide +kernel) (by decide) (by decide) (by omega)
    rw [k8] at k9
    have l1 : (f_X6_down s (90000000 : Int64) + f_X6_down ((((90000000 : Int64) * (131072 : Int64)) + (2 : Int64) * f_X6_rest s (90000000 : Int64) * (131072 : Int64)) - (2 : Int64) * Y * (90000000 : Int64)) (((2 : Int64) * (90000000 : Int64)) * (131072 : Int64))).toInt = s.toInt / 90000000 + (11796480000000 + 2 * (s.toInt % 90000000) * 131072 - 2 * Y.toInt * 90000000) / 23592960000000 := by rw [aL (by omega) (by omega), k2, k9]
    have l2 : ((f_X6_down s (90000000 : Int64) + f_X6_down ((((90000000 : Int64) * (131072 : Int64)) + (2 : Int64) * f_X6_rest s (90000000 : Int64) * (131072 : Int64)) - (2 : Int64) * Y * (90000000 : Int64)) (((2 : Int64) * (90000000 : Int64)) * (131072 : Int64))) * (131072 : Int64)).toInt = (s.toInt / 90000000 + (11796480000000 + 2 * (s.toInt % 90000000) * 131072 - 2 * Y.toInt * 90000000) / 23592960000000) * 131072 := by rw [← l1]; exact mR _ _ 131072 rfl (by omega) (by omega)
    refine ⟨?_, ?_, ?_⟩
    · rw [fa_eq64, j5, aL (by omega) (by omega), l2]
      omega
    · rw [j5, tt]; omega
    · rw [j5, tt]; omega
theorem near_eq {P Z Y t : Int64} (hs : -11000000000 ≤ P.toInt * Z.toInt ∧ P.toInt * Z.toInt ≤ 11000000000) (ht : t = 360000000 ∨ t = 90000000) (hY : 0 ≤ Y.toInt ∧ Y.toInt < 131072) :
    f_X2_stepNear P Y Z t = f_X6_nearest P Z t Y ∧ 2 * (P.toInt * Z.toInt) * 131072 - t.toInt * 131072 < 2 * t.toInt * (f_X6_nearest P Z t Y).toInt ∧ 2 * t.toInt * (f_X6_nearest P Z t Y).toInt ≤ 2 * (P.toInt * Z.toInt) * 131072 + t.toInt * 131072 := by
  have h0 : (P * Z).toInt = P.toInt * Z.toInt := fb_mulL (by omega) (by omega)
  have h := near_s (s := P * Z) (Y := Y) (t := t) (by rw [h0]; exact hs) ht hY
  rw [h0] at h
  have h1 : f_X2_stepNear P Y Z t = f_X6_nearest P Z t Y := h.1
  refine ⟨h1, ?_, ?_⟩
  · rw [← h1]; exact h.2.1
  · rw [← h1]; exact h.2.2
/-- the step, as it is told: one formula on either side -/
theorem step_s {s t : Int64} (hs : -11000000000 ≤ s.toInt ∧ s.toInt ≤ 11000000000) (ht : t = 360000000 ∨ t = 90000000) :
    f_X2_quotient (((2 : Int64) * s * (131072 : Int64)) + t) ((2 : Int64) * t) = (f_X6_down s t) * (131072 : Int64) + f_X6_parts (f_X6_rest s t) t
    ∧ f_J9_floorMod_f86c9 (f_X2_quotient (((2 : Int64) * s * (131072 : Int64)) + t) ((2 : Int64) * t)) (131072 : Int64) = (f_X6_parts (f_X6_rest s t) t) - (f_X6_parts (f_X6_rest s t) t) / (131072 : Int64) * (131072 : Int64) := by
  obtain ⟨hs1, hs2⟩ := hs
  have i1 : ((2 : Int64) * s).toInt = 2 * s.toInt := mL _ s 2 rfl (by omega) (by omega)
  have i2 : ((2 : Int64) * s * (131072 : Int64)).toInt = 2 * s.toInt * 131072 := by rw [← i1]; exact mR _ _ 131072 rfl (by omega) (by omega)
  unfold f_X6_parts
  rcases ht with e | e <;> subst e
  · have tt : (360000000 : Int64).toInt = 360000000 := rfl
    have j2 : ((2 : Int64) * s * (131072 : Int64) + (360000000 : Int64)).toInt = 2 * s.toInt * 131072 + 360000000 := by rw [aL (by omega) (by omega), i2, tt]
    have j3 := quI (a := (2 : Int64) * s * (131072 : Int64) + (360000000 : Int64)) (b := (2 : Int64) * (360000000 : Int64)) (k := 720000000) (by decide +kernel) (by decide)
    rw [j2] at j3
    have k1 := rsI (a := s) (b := (360000000 : Int64)) (k := 360000000) rfl (by decide)
    have k2 := dnI (a := s) (b := (360000000 : Int64)) (k := 360000000) rfl (by decide) (by decide) (by omega)
    have k3 : ((2 : Int64) * f_X6_rest s (360000000 : Int64)).toInt = 2 * (s.toInt % 360000000) := by rw [← k1]; exact mL _ _ 2 rfl (by omega) (by omega)
    have k4 : ((2 : Int64) * f_X6_rest s (360000000 : Int64) * (131072 : Int64)).toInt = 2 * (s.toInt % 360000000) * 131072 := by rw [← k3]; exact mR _ _ 131072 rfl (by omega) (by omega)
    have k6 : ((2 : Int64) * f_X6_rest s (360000000 : Int64) * (131072 : Int64) + (360000000 : Int64)).toInt = 2 * (s.toInt % 360000000) * 131072 + 360000000 := by rw [aL (by omega) (by omega), k4, tt]
    have k9 := dnI (a := (2 : Int64) * f_X6_rest s (360000000 : Int64) * (131072 : Int64) + (360000000 : Int64)) (b := (2 : Int64) * (360000000 : Int64)) (k := 720000000) (by decide +kernel) (by decide) (by decide) (by omega)
    rw [k6] at k9
    have l2 : (f_X6_down s (360000000 : Int64) * (131072 : Int64)).toInt = (s.toInt / 360000000) * 131072 := by rw [← k2]; exact mR _ _ 131072 rfl (by omega) (by omega)
    refine ⟨?_, ?_⟩
    · rw [fa_eq64, j3, aL (by omega) (by omega), l2, k9]
      omega
    · have m1 := fmI (a := f_X2_quotient (((2 : Int64) * s * (131072 : Int64)) + (360000000 : Int64)) ((2 : Int64) * (360000000 : Int64))) (b := (131072 : Int64)) (k := 131072) rfl (by decide)
      have m2 := (mulD (a := f_X6_down ((2 : Int64) * f_X6_rest s (360000000 : Int64) * (131072 : Int64) + (360000000 : Int64)) ((2 : Int64) * (360000000 : Int64))) (b := (131072 : Int64)) (by decide +kernel)).2
      rw [show (131072 : Int64).toInt = 131072 from rfl, k9, Int.tmod_eq_emod_of_nonneg (by omega)] at m2
      rw [fa_eq64, m1, m2, j3]
      omega
  · have tt : (90000000 : Int64).toInt = 90000000 := rfl
    have j2 : ((2 : Int64) * s * (131072 : Int64) + (90000000 : Int64)).toInt = 2 * s.toInt * 131072 + 90000000 := by rw [aL (by omega) (by omega), i2, tt]
    have j3 := quI (a := (2 : Int64) * s * (131072 : Int64) + (90000000 : Int64)) (b := (2 : Int64) * (90000000 : Int64)) (k := 180000000) (by decide +kernel) (by decide)
    rw [j2] at j3
    have k1 := rsI (a := s) (b := (90000000 : Int64)) (k := 90000000) rfl (by decide)
    have k2 := dnI (a := s) (b := (90000000 : Int64)) (k := 90000000) rfl (by decide) (by decide) (by omega)
    have k3 : ((2 : Int64) * f_X6_rest s (90000000 : Int64)).toInt = 2 * (s.toInt % 90000000) := by rw [← k1]; exact mL _ _ 2 rfl (by omega) (by omega)
    have k4 : ((2 : Int64) * f_X6_rest s (90000000 : Int64) * (131072 : Int64)).toInt = 2 * (s.toInt % 90000000) * 131072 := by rw [← k3]; exact mR _ _ 131072 rfl (by omega) (by omega)
    have k6 : ((2 : Int64) * f_X6_rest s (90000000 : Int64) * (131072 : Int64) + (90000000 : Int64)).toInt = 2 * (s.toInt % 90000000) * 131072 + 90000000 := by rw [aL (by omega) (by omega), k4, tt]
    have k9 := dnI (a := (2 : Int64) * f_X6_rest s (90000000 : Int64) * (131072 : Int64) + (90000000 : Int64)) (b := (2 : Int64) * (90000000 : Int64)) (k := 180000000) (by decide +kernel) (by decide) (by decide) (by omega)
    rw [k6] at k9
    have l2 : (f_X6_down s (90000000 : Int64) * (131072 : Int64)).toInt = (s.toInt / 90000000) * 131072 := by rw [← k2]; exact mR _ _ 131072 rfl (by omega) (by omega)
    refine ⟨?_, ?_⟩
    · rw [fa_eq64, j3, aL (by omega) (by omega), l2, k9]
      omega
    · have m1 := fmI (a := f_X2_quotient (((2 : Int64) * s * (131072 : Int64)) + (90000000 : Int64)) ((2 : Int64) * (90000000 : Int64))) (b := (131072 : Int64)) (k := 131072) rfl (by decide)
      have m2 := (mulD (a := f_X6_down ((2 : Int64) * f_X6_rest s (90000000 : Int64) * (131072 : Int64) + (90000000 : Int64)) ((2 : Int64) * (90000000 : Int64))) (b := (131072 : Int64)) (by decide +kernel)).2
      rw [show (131072 : Int64).toInt = 131072 from rfl, k9, Int.tmod_eq_emod_of_nonneg (by omega)] at m2
      rw [fa_eq64, m1, m2, j3]
      omega
theorem step_eq {P Z t : Int64} (hP : -200000000 ≤ P.toInt ∧ P.toInt ≤ 200000000) (hs : -11000000000 ≤ P.toInt * Z.toInt ∧ P.toInt * Z.toInt ≤ 11000000000) (ht : t = 360000000 ∨ t = 90000000) :
    f_X2_nearestStep P Z t = (f_X6_down (P * Z) t) * (131072 : Int64) + f_X6_parts (f_X6_rest (P * Z) t) t
    ∧ f_J9_floorMod_f86c9 (f_X2_nearestStep P Z t) (131072 : Int64) = (f_X6_parts (f_X6_rest (P * Z) t) t) - (f_X6_parts (f_X6_rest (P * Z) t) t) / (131072 : Int64) * (131072 : Int64) := by
  have h0 : (P * Z).toInt = P.toInt * Z.toInt := fb_mulL (by omega) (by omega)
  have h1 : f_X2_nearestStep P Z t = f_X2_quotient (((2 : Int64) * (P * Z) * (131072 : Int64)) + t) ((2 : Int64) * t) := by
    unfold f_X2_nearestStep
    rw [Int64.mul_assoc 2 P Z]
  rw [h1]
  exact step_s (by rw [h0]; exact hs) ht
/-! how many zones -/
def BD (bd : Nat → Int64) : Prop := (∀ j, j < 57 → bd j = bnd j) ∧ bd 57 = 8700000000
theorem abs_size (a : Int64) : f_J9_abs_067f4 a = f_X6_sizeOf a := rfl
theorem zc_lp {bd : Nat → Int64} (h : BD bd) (a b : Int64) : ∀ n i, i + n = 57 → f_X2_zoneCount_lp a b n (nI i) = f_X6_zonesOf_lp bd a b (n + 1) (nI (59 - i))
  | 0, i, hi => by
    obtain rfl : i = 57 := by omega
    show (if ((8700000000 : Int64) * b) < (f_J9_abs_067f4 a) then (1 : Int32) else (2 : Int32)) = (if (f_X6_sizeOf a) < ((bd 57) * b) then (2 : Int32) else (if (2 : Int32) = (2 : Int32) then (if (f_X6_sizeOf a) = ((bd 57) * b) then (2 : Int32) else (1 : Int32)) else _))
    rw [h.2, abs_size, if_pos rfl]
    generalize f_X6_sizeOf a = x
    generalize (8700000000 : Int64) * b = y
    by_cases h1 : y < x
    · rw [if_pos h1, if_neg (by rw [fa_lt64] at *; omega), if_neg (by rw [fa_lt64] at h1; rw [fa_eq64]; omega)]
    · rw [if_neg h1]
      by_cases h2 : x < y
      · rw [if_pos h2]
      · rw [if_neg h2, if_pos (by rw [fa_lt64] at *; rw [fa_eq64]; omega)]
  | n + 1, i, hi => by
    have e1 : (59 : Int32) - nI (59 - i) = nI i := by
      have := pk_sub (a := 59) (b := 59 - i) (by omega)
      rw [show 59 - (59 - i) = i by omega] at this
      exact this
    have e2 : (59 : Int32) - nI i = nI (59 - i) := pk_sub (a := 59) (by omega)
    have e3 : nI (59 - i) + -1 = nI (59 - (i + 1)) := by
      have := nI_pred (59 - (i + 1))
      rw [show 59 - (i + 1) + 1 = 59 - i by omega] at this
      exact (Int32.sub_eq_add_neg _ _).symm.trans this
    have e4 : ¬ nI (59 - i) = 2 := fun q => by
      have := (nI_eq (a := 59 - i) (b := 2) (by omega) (by decide)).mp q
      omega
    show (if ((bnd (nI i).toNatClampNeg) * b) ≤ (f_J9_abs_067f4 a) then (f_X2_zoneCount_lp a b n (nI i + (1 : Int32))) else ((59 : Int32) - nI i)) = (if (f_X6_sizeOf a) < ((bd ((59 : Int32) - nI (59 - i)).toNatClampNeg) * b) then nI (59 - i) else (if nI (59 - i) = (2 : Int32) then (if (f_X6_sizeOf a) = ((bd ((59 : Int32) - nI (59 - i)).toNatClampNeg) * b) then nI (59 - i) else (f_X6_zonesOf_lp bd a b (n + 1) (nI (59 - i) + (-1 : Int32)))) else (f_X6_zonesOf_lp bd a b (n + 1) (nI (59 - i) + (-1 : Int32)))))
    rw [e1, nI_clamp (by omega), h.1 i (by omega), if_neg e4, e2, e3, nI_1, abs_size, zc_lp h a b n (i + 1) (by omega)]
    by_cases h1 : bnd i * b ≤ f_X6_sizeOf a
    · rw [if_pos h1, if_neg (by rw [fa_lt64]; rw [fa_le64] at h1; omega)]
    · rw [if_neg h1, if_pos (by rw [fa_lt64]; rw [fa_le64] at h1; omega)]
theorem zc_eq {bd : Nat → Int64} (h : BD bd) (a b : Int64) : f_X2_zoneCount a b = f_X6_zonesOf bd a b := zc_lp h a b 57 0 (by decide)
theorem zc_rlp (a b : Int64) : ∀ n i, i + n = 57 → ∃ m : Nat, 1 ≤ m ∧ m ≤ 59 ∧ f_X2_zoneCount_lp a b n (nI i) = nI m
  | 0, i, hi => by
    show ∃ m : Nat, 1 ≤ m ∧ m ≤ 59 ∧ (if ((8700000000 : Int64) * b) < (f_J9_abs_067f4 a) then (1 : Int32) else (2 : Int32)) = nI m
    split
    · exact ⟨1, by decide, by decide, rfl⟩
    · exact ⟨2, by decide, by decide, rfl⟩
  | n + 1, i, hi => by
    show ∃ m : Nat, 1 ≤ m ∧ m ≤ 59 ∧ (if ((bnd (nI i).toNatClampNeg) * b) ≤ (f_J9_abs_067f4 a) then (f_X2_zoneCount_lp a b n (nI i + (1 : Int32))) else ((59 : Int32) - nI i)) = nI m
    split
    · rw [nI_1]; exact zc_rlp a b n (i + 1) (by omega)
    · exact ⟨59 - i, by omega, by omega, pk_sub (a := 59) (by omega)⟩
theorem zc_rng (a b : Int64) : ∃ m : Nat, 1 ≤ m ∧ m ≤ 59 ∧ f_X2_zoneCount a b = nI m := zc_rlp a b 57 0 (by decide)
theorem z_tab : ∀ m, m < 60 → 1 ≤ m → ((f_J9_max_7cf53 1 (nI m)).toInt64 = (f_X6_atLeast1 (nI m - 0)).toInt64 ∧ (f_J9_max_7cf53 1 (nI m)).toInt64 = (f_X6_atLeast1 (nI m)).toInt64 ∧ (f_J9_max_7cf53 1 (nI m - 1)).toInt64 = (f_X6_atLeast1 (nI m - 1)).toInt64 ∧ 1 ≤ (f_X6_atLeast1 (nI m - 0)).toInt ∧ (f_X6_atLeast1 (nI m - 0)).toInt ≤ 59 ∧ 1 ≤ (f_X6_atLeast1 (nI m)).toInt ∧ (f_X6_atLeast1 (nI m)).toInt ≤ 59 ∧ 1 ≤ (f_X6_atLeast1 (nI m - 1)).toInt ∧ (f_X6_atLeast1 (nI m - 1)).toInt ≤ 59) := by decide +kernel
theorem zn_eq (a b : Int64) (od : Int32) : f_X2_zonesOf (f_X2_zoneCount a b) od = (f_X6_atLeast1 (f_X2_zoneCount a b - (if od = 0 then (0 : Int32) else (1 : Int32)))).toInt64 ∧ 1 ≤ (f_X6_atLeast1 (f_X2_zoneCount a b - (if od = 0 then (0 : Int32) else (1 : Int32)))).toInt ∧ (f_X6_atLeast1 (f_X2_zoneCount a b - (if od = 0 then (0 : Int32) else (1 : Int32)))).toInt ≤ 59 := by
  obtain ⟨m, h1, h2, e⟩ := zc_rng a b
  obtain ⟨t1, t2, t3, t4, t5, t6, t7, t8, t9⟩ := z_tab m (by omega) h1
  rw [e]
  unfold f_X2_zonesOf
  by_cases h : od = 0
  · rw [if_pos h, if_pos h]; exact ⟨t1, t4, t5⟩
  · rw [if_neg h, if_neg h]; exact ⟨t3, t8, t9⟩
theorem zn_eq2 (a b : Int64) (od : Int32) : f_X2_zonesOf (f_X2_zoneCount a b) od = (f_X6_atLeast1 (if od = 0 then f_X2_zoneCount a b else f_X2_zoneCount a b - (1 : Int32))).toInt64 ∧ 1 ≤ (f_X6_atLeast1 (if od = 0 then f_X2_zoneCount a b else f_X2_zoneCount a b - (1 : Int32))).toInt ∧ (f_X6_atLeast1 (if od = 0 then f_X2_zoneCount a b else f_X2_zoneCount a b - (1 : Int32))).toInt ≤ 59 := by
  obtain ⟨m, h1, h2, e⟩ := zc_rng a b
  obtain ⟨t1, t2, t3, t4, t5, t6, t7, t8, t9⟩ := z_tab m (by omega) h1
  rw [e]
  unfold f_X2_zonesOf
  by_cases h : od = 0
  · rw [if_pos h]; exact ⟨t2, t6, t7⟩
  · rw [if_neg h]; exact ⟨t3, t8, t9⟩
