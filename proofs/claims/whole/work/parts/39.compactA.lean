/-! compact positions: the same whole numbers on both sides -/
theorem tI_div {a b : Int64} (hb : 0 < b.toInt) : (a / b).toInt = a.toInt.tdiv b.toInt :=
  Int64.toInt_div_of_ne_right a b (fun h => by rw [h] at hb; exact absurd hb (by decide +kernel))
theorem xor_sign {a b : Int64} (hb : 0 < b.toInt) : (0 : Int64) ≤ a ^^^ b ↔ 0 ≤ a.toInt := by
  rw [fa_le64]
  have e1 : (a ^^^ b).toInt = (a.toBitVec ^^^ b.toBitVec).toInt := rfl
  have m1 : (a.toBitVec ^^^ b.toBitVec).msb = (a.toBitVec.msb ^^ b.toBitVec.msb) := BitVec.msb_xor
  have m2 : b.toBitVec.msb = false := by rw [BitVec.msb_eq_toInt]; exact decide_eq_false (by have : b.toBitVec.toInt = b.toInt := rfl; omega)
  have m3 : a.toBitVec.msb = decide (a.toInt < 0) := BitVec.msb_eq_toInt
  have m4 : (a.toBitVec ^^^ b.toBitVec).msb = decide ((a.toBitVec ^^^ b.toBitVec).toInt < 0) := BitVec.msb_eq_toInt
  rw [m1, m2, m3, Bool.xor_false] at m4
  have m5 : (a.toInt < 0) ↔ ((a.toBitVec ^^^ b.toBitVec).toInt < 0) := decide_eq_decide.mp m4
  rw [e1, show (0 : Int64).toInt = 0 from rfl]
  omega
/-- quotient and rest of whole numbers, as the machine cuts them -/
theorem cut {x k : Int} (hk : 0 < k) : ∃ q r P : Int, x / k = q ∧ x % k = r ∧ P = k * q ∧ x = P + r ∧ 0 ≤ r ∧ r < k ∧ ((x.tdiv k = q ∧ x.tmod k = r ∧ (0 ≤ x ∨ r = 0)) ∨ (x.tdiv k = q + 1 ∧ x.tmod k = r - k ∧ x < 0 ∧ ¬ r = 0)) := by
  refine ⟨x / k, x % k, k * (x / k), rfl, rfl, rfl, (Int.mul_ediv_add_emod x k).symm, Int.emod_nonneg x (by omega), Int.emod_lt_of_pos x hk, ?_⟩
  by_cases h : 0 ≤ x
  · exact Or.inl ⟨Int.tdiv_eq_ediv_of_nonneg h, Int.tmod_eq_emod_of_nonneg h, Or.inl h⟩
  · by_cases hd : k ∣ x
    · have h1 := Int.tdiv_eq_ediv (a := x) (b := k)
      have h2 := Int.tmod_eq_emod (a := x) (b := k)
      rw [if_pos (Or.inr hd)] at h1 h2
      exact Or.inl ⟨by omega, by omega, Or.inr (Int.emod_eq_zero_of_dvd hd)⟩
    · have h1 := Int.tdiv_eq_ediv (a := x) (b := k)
      have h2 := Int.tmod_eq_emod (a := x) (b := k)
      rw [if_neg (fun z => z.elim h hd)] at h1 h2
      rw [Int.sign_eq_one_of_pos hk] at h1
      exact Or.inr ⟨h1, by omega, by omega, fun z => hd (Int.dvd_of_emod_eq_zero z)⟩
theorem mulD {a b : Int64} (hb : 0 < b.toInt) : (a / b * b).toInt = a.toInt.tdiv b.toInt * b.toInt ∧ (a - a / b * b).toInt = a.toInt.tmod b.toInt := by
  have e1 := tI_div (a := a) hb
  have ra := fb_rngL a
  have rb := fb_rngL b
  obtain ⟨q, r, P, h1, h2, h3, h4, h5, h6, h7⟩ := cut (x := a.toInt) hb
  have e2 : a.toInt.tdiv b.toInt * b.toInt = a.toInt - a.toInt.tmod b.toInt := by rw [Int.tmod_def, Int.mul_comm b.toInt]; omega
  have e3 : (a / b * b).toInt = a.toInt.tdiv b.toInt * b.toInt := by
    rw [fb_mulL, e1]
    · rw [e1, e2]; omega
    · rw [e1, e2]; omega
  refine ⟨e3, ?_⟩
  rw [fb_subL] <;> rw [e3, e2] <;> omega
theorem fdI {a b : Int64} {k : Int} (hb : b.toInt = k) (hk : 0 < k) : (f_J9_floorDiv_f86c9 a b).toInt = a.toInt / k := by
  subst hb
  have e1 := tI_div (a := a) hk
  have e2 := (mulD (a := a) hk).1
  have hx := xor_sign (a := a) hk
  have ra := fb_rngL a
  obtain ⟨q, r, P, h1, h2, h3, h4, h5, h6, h7⟩ := cut (x := a.toInt) hk
  have hm : ∀ z : Int, (z + 1) * b.toInt = b.toInt * z + b.toInt := fun z => by rw [Int.add_mul, Int.one_mul, Int.mul_comm]
  unfold f_J9_floorDiv_f86c9
  rw [h1]
  rcases h7 with ⟨t1, t2, t3⟩ | ⟨t1, t2, t3, t4⟩
  · by_cases hp : (0 : Int64) ≤ a ^^^ b
    · rw [if_pos hp, e1, t1]
    · have hr : r = 0 := by
        rcases t3 with z | z
        · exact absurd (hx.mpr z) hp
        · exact z
      have hq : a / b * b = a := by
        rw [fa_eq64, e2, t1, Int.mul_comm]; omega
      rw [if_neg hp, if_pos hq, e1, t1]
  · have hp : ¬ (0 : Int64) ≤ a ^^^ b := fun z => by have := hx.mp z; omega
    have hq : ¬ a / b * b = a := by
      intro z
      rw [fa_eq64, e2, t1, hm] at z
      omega
    rw [if_neg hp, if_neg hq, fb_subL, e1, t1] <;> rw [show (1 : Int64).toInt = 1 from rfl]
    · omega
    · rw [e1, t1]
      have r1 := fb_rngL (a / b)
      rw [e1, t1] at r1
      rcases Int.lt_or_le (-9223372036854775808) (q + 1) with y | y
      · omega
      · have : q = -9223372036854775809 := by omega
        subst this
        omega
    · rw [e1, t1]
      have r1 := fb_rngL (a / b)
      rw [e1, t1] at r1
      omega
theorem fmI {a b : Int64} {k : Int} (hb : b.toInt = k) (hk : 0 < k) : (f_J9_floorMod_f86c9 a b).toInt = a.toInt % k := by
  subst hb
  have e2 := (mulD (a := a) hk).2
  have hx := xor_sign (a := a) hk
  have ra := fb_rngL a
  have rb := fb_rngL b
  obtain ⟨q, r, P, h1, h2, h3, h4, h5, h6, h7⟩ := cut (x := a.toInt) hk
  unfold f_J9_floorMod_f86c9
  rw [h2]
  rcases h7 with ⟨t1, t2, t3⟩ | ⟨t1, t2, t3, t4⟩
  · by_cases hp : (0 : Int64) ≤ a ^^^ b
    · rw [if_pos hp, e2, t2]
    · have hr : r = 0 := by
        rcases t3 with z | z
        · exact absurd (hx.mpr z) hp
        · exact z
      rw [if_neg hp, if_pos (by rw [fa_eq64, e2, t2, hr]; rfl), e2, t2]
  · have hp : ¬ (0 : Int64) ≤ a ^^^ b := fun z => by have := hx.mp z; omega
    have hq : ¬ a - a / b * b = 0 := by
      intro z
      rw [fa_eq64, e2, t2, show (0 : Int64).toInt = 0 from rfl] at z
      omega
    rw [if_neg hp, if_neg hq, fb_addL, e2, t2] <;> (try rw [e2, t2]) <;> omega
theorem rsI {a b : Int64} {k : Int} (hb : b.toInt = k) (hk : 0 < k) : (f_X6_rest a b).toInt = a.toInt % k := by
  subst hb
  have e2 := (mulD (a := a) hk).2
  have rb := fb_rngL b
  obtain ⟨q, r, P, h1, h2, h3, h4, h5, h6, h7⟩ := cut (x := a.toInt) hk
  have z0 : (0 : Int64).toInt = 0 := rfl
  unfold f_X6_rest
  rw [h2]
  rcases h7 with ⟨t1, t2, t3⟩ | ⟨t1, t2, t3, t4⟩
  · rw [if_pos (by rw [fa_le64, e2, t2]; omega), e2, t2]
  · rw [if_neg (by rw [fa_le64, e2, t2]; omega), fb_addL, e2, t2] <;> (try rw [e2, t2]) <;> omega
theorem dnI {a b : Int64} {k : Int} (hb : b.toInt = k) (hk : 0 < k) (hk2 : k ≤ 4611686018427387904) (ha : -4611686018427387904 ≤ a.toInt) : (f_X6_down a b).toInt = a.toInt / k := by
  have e3 := rsI (a := a) hb hk
  have ra := fb_rngL a
  obtain ⟨q, r, P, h1, h2, h3, h4, h5, h6, h7⟩ := cut (x := a.toInt) hk
  have e4 : (a - f_X6_rest a b).toInt = P := by rw [fb_subL] <;> rw [e3, h2] <;> omega
  unfold f_X6_down
  rw [tI_div (by omega), e4, hb, h1, h3, Int.mul_comm, Int.mul_tdiv_cancel _ (by omega)]
theorem quI {a b : Int64} {k : Int} (hb : b.toInt = k) (hk : 0 < k) : (f_X2_quotient a b).toInt = a.toInt / k := by
  unfold f_X2_quotient
  rw [if_pos (by rw [fa_lt64, hb]; exact hk)]
  exact fdI hb hk
theorem rmI {a b : Int64} {k : Int} (hb : b.toInt = k) (hk : 0 < k) : (f_X2_remainder a b).toInt = a.toInt % k := by
  unfold f_X2_remainder
  rw [if_pos (by rw [fa_lt64, hb]; exact hk)]
  exact fmI hb hk
theorem mR (a c : Int64) (k : Int) (hc : c.toInt = k) (h1 : -9223372036854775808 ≤ a.toInt * k) (h2 : a.toInt * k < 9223372036854775808) : (a * c).toInt = a.toInt * k := by
  subst hc
  exact fb_mulL h1 h2
theorem mL (c a : Int64) (k : Int) (hc : c.toInt = k) (h1 : -9223372036854775808 ≤ k * a.toInt) (h2 : k * a.toInt < 9223372036854775808) : (c * a).toInt = k * a.toInt := by
  subst hc
  exact fb_mulL h1 h2
theorem aL {a b : Int64} (h1 : -9223372036854775808 ≤ a.toInt + b.toInt) (h2 : a.toInt + b.toInt < 9223372036854775808) : (a + b).toInt = a.toInt + b.toInt := fb_addL h1 h2
theorem sL {a b : Int64} (h1 : -9223372036854775808 ≤ a.toInt - b.toInt) (h2 : a.toInt - b.toInt < 9223372036854775808) : (a - b).toInt = a.toInt - b.toInt := fb_subL h1 h2
