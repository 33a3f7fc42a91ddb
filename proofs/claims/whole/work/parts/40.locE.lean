/-! the latitude that is told is one that can be -/
theorem latI {T b Y Z : Int} (hb : b = 7864320 ∨ b = 7733248) (h : T * Z ≤ 90000000 * b) (hT : T = 360000000 ∨ T = 90000000) (h1 : Y ≤ Z) (h2 : -Y ≤ Z) : -90000000 ≤ T * Y / b ∧ T * Y / b ≤ 90000000 := by
  rcases hb with e | e <;> subst e <;> rcases hT with e | e <;> subst e <;> omega
theorem size_I {y : Int64} (h1 : -9000000000000000000 ≤ y.toInt) : (f_X6_sizeOf y).toInt = if 0 ≤ y.toInt then y.toInt else -y.toInt := by
  have hr := fb_rngL y
  unfold f_X6_sizeOf
  by_cases z : (0 : Int64) ≤ y
  · have z' : 0 ≤ y.toInt := (fa_le64 _ _).mp z
    rw [if_pos z, if_pos z']
  · have z' : ¬ 0 ≤ y.toInt := fun q => z ((fa_le64 _ _).mpr q)
    rw [if_neg z, if_neg z', Int64.toInt_neg, fb_bmodL (by omega) (by omega)]
theorem lat_in {y b t : Int64} (hb : b = 60 ∨ b = 59) (ht : t = 360000000 ∨ t = 90000000) (h : t * f_X6_sizeOf y ≤ (90000000 : Int64) * b * (131072 : Int64)) (hy : -1000000000 ≤ y.toInt ∧ y.toInt ≤ 1000000000) : f_X2_quotient (t * y) (b * (131072 : Int64)) = f_X6_down (t * y) (b * (131072 : Int64)) ∧ -90000000 ≤ (f_X2_quotient (t * y) (b * (131072 : Int64))).toInt ∧ (f_X2_quotient (t * y) (b * (131072 : Int64))).toInt ≤ 90000000 := by
  obtain ⟨y1, y2⟩ := hy
  have hz := size_I (y := y) (by clear h; omega)
  have hz2 : 0 ≤ (f_X6_sizeOf y).toInt ∧ (f_X6_sizeOf y).toInt ≤ 1000000000 ∧ y.toInt ≤ (f_X6_sizeOf y).toInt ∧ -y.toInt ≤ (f_X6_sizeOf y).toInt := by
    rw [hz]; clear hz; split <;> omega
  clear hz
  obtain ⟨z1, z2, z3, z4⟩ := hz2
  generalize f_X6_sizeOf y = z at *
  have tt : t.toInt = 360000000 ∨ t.toInt = 90000000 := by
    rcases ht with e | e <;> rw [e]
    · exact Or.inl rfl
    · exact Or.inr rfl
  have bb : (b * (131072 : Int64)).toInt = 7864320 ∨ (b * (131072 : Int64)).toInt = 7733248 := by
    rcases hb with e | e <;> rw [e]
    · exact Or.inl (by decide +kernel)
    · exact Or.inr (by decide +kernel)
  have cc : ((90000000 : Int64) * b * (131072 : Int64)).toInt = 90000000 * (b * (131072 : Int64)).toInt := by
    rcases hb with e | e <;> rw [e] <;> decide +kernel
  generalize b * (131072 : Int64) = m at *
  rw [fa_le64, cc] at h
  clear cc hb
  have T1 : -9223372036854775808 ≤ t.toInt * y.toInt ∧ t.toInt * y.toInt < 9223372036854775808 ∧ -9223372036854775808 ≤ t.toInt * z.toInt ∧ t.toInt * z.toInt < 9223372036854775808 ∧ -4611686018427387904 ≤ t.toInt * y.toInt := by
    clear h ht bb
    generalize t.toInt = q at *
    generalize y.toInt = u at *
    generalize z.toInt = v at *
    rcases tt with e | e <;> subst e <;> omega
  obtain ⟨t1, t2, t3, t4, t5⟩ := T1
  have k1 : (t * y).toInt = t.toInt * y.toInt := fb_mulL t1 t2
  have k2 : (t * z).toInt = t.toInt * z.toInt := fb_mulL t3 t4
  rw [k2] at h
  have m0 : 0 < m.toInt := by rcases bb with e | e <;> rw [e] <;> decide
  have m1 : m.toInt ≤ 4611686018427387904 := by rcases bb with e | e <;> rw [e] <;> omega
  have k4 := quI (a := t * y) (b := m) rfl m0
  have k5 := dnI (a := t * y) (b := m) rfl m0 m1 (by rw [k1]; exact t5)
  obtain ⟨x1, x2⟩ := latI bb h tt z3 z4
  rw [fa_eq64, k4, k5, k1]
  exact ⟨rfl, x1, x2⟩
theorem yI {t s x : Int} (ht : t = 360000000 ∨ t = 90000000) (h1 : -11000000000 ≤ s ∧ s ≤ 11000000000) (h2 : 2 * s * 131072 - t * 131072 < 2 * t * x) (h3 : 2 * t * x ≤ 2 * s * 131072 + t * 131072) : -1000000000 ≤ x ∧ x ≤ 1000000000 := by
  rcases ht with e | e <;> subst e <;> omega
theorem y_rng {la od gr : Int32} {a : Int64} (p1 : -90000000 ≤ la.toInt) (p2 : la.toInt ≤ 90000000) (h1 : 0 ≤ a.toInt) (h2 : a.toInt < 17179869184) : -1000000000 ≤ (f_X6_localOf_x57 la od gr a).toInt ∧ (f_X6_localOf_x57 la od gr a).toInt ≤ 1000000000 := by
  have A := near_eq (P := la.toInt64) (Z := f_X2_bandsOf od) (Y := a / (131072 : Int64)) (t := f_X2_turnOf gr) (lat_S p1 p2 (band_or od)) (turn_or gr) (told_y h1 h2)
  rw [loc_x57]
  refine yI (t := (f_X2_turnOf gr).toInt) ?_ (lat_S p1 p2 (band_or od)) A.2.1 A.2.2
  rcases turn_or gr with e | e <;> rw [e]
  · exact Or.inl rfl
  · exact Or.inr rfl
