/-! LOCAL: bounds -/
theorem loc_nums {bd : Nat → Int64} (h : BD bd) (told : Int64) (gr od la lo : Int32) (h1 : 0 ≤ told.toInt) (h2 : told.toInt < 17179869184) (hp : InR la lo) :
    f_X2_stepNear la.toInt64 (f_X2_yOf told) (f_X2_bandsOf od) (f_X2_turnOf gr) = f_X6_localOf_x57 la od gr told
    ∧ f_X2_turnOf gr * f_X2_stepNear lo.toInt64 (f_X2_xOf told) (f_X6_localOf_x116 bd gr la od told).toInt64 (f_X2_turnOf gr) = f_X6_localOf_x134 gr lo bd la od told
    ∧ ((f_X6_localOf_x116 bd gr la od told).toInt64 * (131072 : Int64)).toInt = (f_X6_localOf_x116 bd gr la od told).toInt * 131072
    ∧ (f_X6_localOf_x147 bd gr la od told).toInt = 360000000 * ((f_X6_localOf_x116 bd gr la od told).toInt * 131072)
    ∧ 2 * (f_X6_localOf_x134 gr lo bd la od told).toInt < 3 * (f_X6_localOf_x147 bd gr la od told).toInt
    ∧ -3 * (f_X6_localOf_x147 bd gr la od told).toInt ≤ 2 * (f_X6_localOf_x134 gr lo bd la od told).toInt := by
  obtain ⟨p1, p2, p3, p4⟩ := hp
  obtain ⟨hz, n1, n2⟩ := loc_n h gr la od told
  have hy := told_y h1 h2
  have hx := told_x h1
  have ht := turn_or gr
  have A := near_eq (P := la.toInt64) (Z := f_X2_bandsOf od) (Y := told / (131072 : Int64)) (t := f_X2_turnOf gr) (lat_S p1 p2 (band_or od)) ht hy
  obtain ⟨s1, s2, s3, s4⟩ := lon_S p3 p4 n1 n2
  have Bn := near_eq (P := lo.toInt64) (Z := (f_X6_localOf_x116 bd gr la od told).toInt64) (Y := told - told / (131072 : Int64) * (131072 : Int64)) (t := f_X2_turnOf gr) ⟨s1, s2⟩ ht hx
  have d0 : f_X6_localOf_x134 gr lo bd la od told = f_X2_turnOf gr * f_X6_nearest lo.toInt64 (f_X6_localOf_x116 bd gr la od told).toInt64 (f_X2_turnOf gr) (told - told / (131072 : Int64) * (131072 : Int64)) := rfl
  have d1 : f_X6_localOf_x147 bd gr la od told = (360000000 : Int64) * (f_X6_localOf_x116 bd gr la od told).toInt64 * (131072 : Int64) := rfl
  rw [d0, d1]
  clear d0 d1 hz
  have A1 := A.1
  obtain ⟨B1, B2, B3⟩ := Bn
  clear A hy hx
  generalize f_X6_localOf_x116 bd gr la od told = n at *
  have en : n.toInt64.toInt = n.toInt := Int32.toInt_toInt64 n
  generalize n.toInt64 = nn at *
  have k1 : -9223372036854775808 ≤ 360000000 * n.toInt ∧ 360000000 * n.toInt < 9223372036854775808 ∧ -9223372036854775808 ≤ 360000000 * n.toInt * 131072 ∧ 360000000 * n.toInt * 131072 < 9223372036854775808 ∧ -9223372036854775808 ≤ n.toInt * 131072 ∧ n.toInt * 131072 < 9223372036854775808 := by clear B1 B2 B3 A1 s1 s2 s3 s4 p1 p2 p3 p4 h1 h2 en; omega
  obtain ⟨k1, k2, k3, k4, k5, k6⟩ := k1
  have m1 : ((360000000 : Int64) * nn).toInt = 360000000 * n.toInt := by rw [mL _ _ 360000000 rfl (by rw [en]; exact k1) (by rw [en]; exact k2), en]
  have m2 : ((360000000 : Int64) * nn * (131072 : Int64)).toInt = 360000000 * (n.toInt * 131072) := by
    rw [mR _ _ 131072 rfl (by rw [m1]; exact k3) (by rw [m1]; exact k4), m1, Int.mul_assoc]
  have m3 : (nn * (131072 : Int64)).toInt = n.toInt * 131072 := by rw [mR _ _ 131072 rfl (by rw [en]; exact k5) (by rw [en]; exact k6), en]
  refine ⟨A1, ?_, m3, m2, ?_⟩
  · rw [← B1]; rfl
  · rw [m2]
    clear A1 m1 m2 m3 B1 k1 k2 k3 k4 k5 k6 h1 h2 p1 p2 p3 p4
    generalize f_X6_nearest lo.toInt64 nn (f_X2_turnOf gr) (told - told / (131072 : Int64) * (131072 : Int64)) = w at *
    rw [Int.mul_assoc 2 (f_X2_turnOf gr).toInt w.toInt] at B2 B3
    have b3 : (f_X2_turnOf gr).toInt = 360000000 ∨ (f_X2_turnOf gr).toInt = 90000000 := by
      rcases ht with e | e <;> rw [e]
      · exact Or.inl rfl
      · exact Or.inr rfl
    generalize f_X2_turnOf gr = t at *
    have hw : (t * w).toInt = t.toInt * w.toInt := by
      generalize hX : t.toInt * w.toInt = X at *
      generalize lo.toInt64.toInt * nn.toInt = SS at *
      have q : -9223372036854775808 ≤ X ∧ X < 9223372036854775808 := by clear hX ht; omega
      rw [← hX] at q ⊢
      exact fb_mulL q.1 q.2
    rw [hw]
    generalize t.toInt * w.toInt = X at *
    generalize lo.toInt64.toInt * nn.toInt = SS at *
    clear hw ht
    generalize t.toInt = tt at *
    generalize n.toInt = nv at *
    clear en
    constructor <;> omega
theorem locH {bd : Nat → Int64} (h : BD bd) : LocH bd := by
  intro told gr od la lo h1 h2 hp
  obtain ⟨_, n1, n2⟩ := loc_n h gr la od told
  obtain ⟨-, -, -, e4, e5, e6⟩ := loc_nums h told gr od la lo h1 h2 hp
  exact ⟨Or.inr ⟨rfl, e5⟩, e6, by omega, by omega⟩
