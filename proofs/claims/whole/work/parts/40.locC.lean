/-! LOCAL: the numbers on both sides -/
theorem turn_or (g : Int32) : f_X2_turnOf g = 360000000 ∨ f_X2_turnOf g = 90000000 := by
  unfold f_X2_turnOf
  split
  · exact Or.inl rfl
  · exact Or.inr rfl
theorem band_or (g : Int32) : f_X2_bandsOf g = 60 ∨ f_X2_bandsOf g = 59 := by
  unfold f_X2_bandsOf
  split
  · exact Or.inl rfl
  · exact Or.inr rfl
theorem told_y {a : Int64} (h1 : 0 ≤ a.toInt) (h2 : a.toInt < 17179869184) : 0 ≤ (a / (131072 : Int64)).toInt ∧ (a / (131072 : Int64)).toInt < 131072 := by
  rw [tI_div (by decide +kernel), show (131072 : Int64).toInt = 131072 from rfl, Int.tdiv_eq_ediv_of_nonneg h1]
  omega
theorem told_x {a : Int64} (h1 : 0 ≤ a.toInt) : 0 ≤ (a - a / (131072 : Int64) * (131072 : Int64)).toInt ∧ (a - a / (131072 : Int64) * (131072 : Int64)).toInt < 131072 := by
  rw [(mulD (a := a) (b := 131072) (by decide +kernel)).2, show (131072 : Int64).toInt = 131072 from rfl, Int.tmod_eq_emod_of_nonneg h1]
  omega
/-- LOCAL, in the reference's words, with the turn and the bands named -/
theorem loc_x57 (la od gr : Int32) (a : Int64) : f_X6_localOf_x57 la od gr a = f_X6_nearest la.toInt64 (f_X2_bandsOf od) (f_X2_turnOf gr) (a / (131072 : Int64)) := rfl
theorem lat_S {la : Int32} {b : Int64} (h1 : -90000000 ≤ la.toInt) (h2 : la.toInt ≤ 90000000) (hb : b = 60 ∨ b = 59) : -11000000000 ≤ la.toInt64.toInt * b.toInt ∧ la.toInt64.toInt * b.toInt ≤ 11000000000 := by
  rw [Int32.toInt_toInt64]
  rcases hb with e | e <;> subst e
  · rw [show (60 : Int64).toInt = 60 from rfl]; omega
  · rw [show (59 : Int64).toInt = 59 from rfl]; omega
theorem lon_S {lo n : Int32} (h1 : -180000000 ≤ lo.toInt) (h2 : lo.toInt < 180000000) (h3 : 1 ≤ n.toInt) (h4 : n.toInt ≤ 59) : -11000000000 ≤ lo.toInt64.toInt * n.toInt64.toInt ∧ lo.toInt64.toInt * n.toInt64.toInt ≤ 11000000000 ∧ -180000000 * n.toInt ≤ lo.toInt64.toInt * n.toInt64.toInt ∧ lo.toInt64.toInt * n.toInt64.toInt ≤ 180000000 * n.toInt := by
  rw [Int32.toInt_toInt64, Int32.toInt_toInt64]
  have g1 : -180000000 * n.toInt ≤ lo.toInt * n.toInt := Int.mul_le_mul_of_nonneg_right h1 (by omega)
  have g2 : lo.toInt * n.toInt ≤ 180000000 * n.toInt := Int.mul_le_mul_of_nonneg_right (by omega) (by omega)
  refine ⟨by omega, by omega, g1, g2⟩
theorem loc_n {bd : Nat → Int64} (h : BD bd) (gr la od : Int32) (a : Int64) : f_X2_zonesOf (f_X2_zoneCountAt (f_X6_localOf_x57 la od gr a) (f_X2_bandsOf od) (f_X2_turnOf gr)) od = (f_X6_localOf_x116 bd gr la od a).toInt64 ∧ 1 ≤ (f_X6_localOf_x116 bd gr la od a).toInt ∧ (f_X6_localOf_x116 bd gr la od a).toInt ≤ 59 := by
  have e : f_X6_localOf_x116 bd gr la od a = f_X6_atLeast1 (f_X2_zoneCount (((100 : Int64) * f_X2_turnOf gr) * f_X6_localOf_x57 la od gr a) (f_X2_bandsOf od * (131072 : Int64)) - (if od = 0 then (0 : Int32) else (1 : Int32))) := by
    rw [zc_eq h]; rfl
  rw [e]
  exact zn_eq _ _ od
