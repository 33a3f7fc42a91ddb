/-! a whole turn off -/
theorem wrapI {R M q : Int} (hM : 0 < M) (hq : R / M = q) (h1 : 2 * R < 3 * (360000000 * M)) (h2 : -3 * (360000000 * M) ≤ 2 * R) : (-540000000 ≤ q ∧ q < 540000000) ∧ (2 * R < 360000000 * M ↔ q < 180000000) ∧ (-(360000000 * M) ≤ 2 * R ↔ -180000000 ≤ q) ∧ (¬ 2 * R < 360000000 * M → -(360000000 * M) ≤ 2 * (R - 360000000 * M)) := by
  have g1 : 180000000 ≤ q ↔ 180000000 * M ≤ R := by rw [← hq]; exact Int.le_ediv_iff_mul_le hM
  have g2 : -180000000 ≤ q ↔ -180000000 * M ≤ R := by rw [← hq]; exact Int.le_ediv_iff_mul_le hM
  have g3 : 540000000 ≤ q ↔ 540000000 * M ≤ R := by rw [← hq]; exact Int.le_ediv_iff_mul_le hM
  have g4 : -540000000 ≤ q ↔ -540000000 * M ≤ R := by rw [← hq]; exact Int.le_ediv_iff_mul_le hM
  clear hq
  omega
theorem wrap {r c m : Int64} {M : Int} (hm : m.toInt = M) (hM : 0 < M) (hM2 : M ≤ 10000000) (hc : c.toInt = 360000000 * M) (h1 : 2 * r.toInt < 3 * c.toInt) (h2 : -3 * c.toInt ≤ 2 * r.toInt) :
    ∃ v : Int64, (if f_X2_quotient r m < (180000000 : Int64) then (if (-180000000 : Int64) ≤ f_X2_quotient r m then f_X2_quotient r m else f_X2_quotient r m + (360000000 : Int64)) else f_X2_quotient r m - (360000000 : Int64)) = v
      ∧ (if (2 : Int64) * r < c then (if -c ≤ (2 : Int64) * r then f_X6_down r m else f_X6_down (r + c) m) else (if -c ≤ (2 : Int64) * (r - c) then f_X6_down (r - c) m else f_X6_down (r - c + c) m)) = v
      ∧ -180000000 ≤ v.toInt ∧ v.toInt < 180000000 := by
  have c0 : 0 < c.toInt := by omega
  have c1 : c.toInt < 288230376151711744 := by omega
  have b1 : -4611686018427387904 ≤ r.toInt - c.toInt ∧ r.toInt - c.toInt < 4611686018427387904 ∧ -4611686018427387904 ≤ r.toInt + c.toInt ∧ r.toInt + c.toInt < 4611686018427387904 ∧ -4611686018427387904 ≤ r.toInt ∧ -9223372036854775808 ≤ 2 * (r.toInt - c.toInt) ∧ 2 * (r.toInt - c.toInt) < 9223372036854775808 ∧ M ≤ 4611686018427387904 := by omega
  obtain ⟨b1, b2, b3, b4, b5, b6, b7, b8⟩ := b1
  have s1 : (r - c).toInt = r.toInt - c.toInt := fb_subL (Int.le_trans (by decide) b1) (Int.lt_of_lt_of_le b2 (by decide))
  have s2 : (r + c).toInt = r.toInt + c.toInt := fb_addL (Int.le_trans (by decide) b3) (Int.lt_of_lt_of_le b4 (by decide))
  have s3 : ((2 : Int64) * (r - c)).toInt = 2 * (r.toInt - c.toInt) := by rw [mL _ _ 2 rfl (by rw [s1]; exact b6) (by rw [s1]; exact b7), s1]
  have e2 := two_r h2 h1 c1
  have en := neg_c c0
  have a1 : (2 : Int64) * r < c ↔ 2 * r.toInt < c.toInt := by rw [fa_lt64, e2]
  have a2 : -c ≤ (2 : Int64) * r ↔ -c.toInt ≤ 2 * r.toInt := by rw [fa_le64, en, e2]
  have a3 : -c ≤ (2 : Int64) * (r - c) ↔ -c.toInt ≤ 2 * (r.toInt - c.toInt) := by rw [fa_le64, en, s3]
  have hne : M ≠ 0 := Int.ne_of_gt hM
  have hq := quI (a := r) hm hM
  have l0 : (f_X6_down r m).toInt = r.toInt / M := dnI hm hM b8 b5
  have l1 : (f_X6_down (r + c) m).toInt = r.toInt / M + 360000000 := by
    rw [dnI hm hM b8 (by rw [s2]; exact b3), s2, hc, Int.add_mul_ediv_right _ _ hne]
  have l2 : (f_X6_down (r - c) m).toInt = r.toInt / M - 360000000 := by
    rw [dnI hm hM b8 (by rw [s1]; exact b1), s1, hc, Int.sub_eq_add_neg, ← Int.neg_mul, Int.add_mul_ediv_right _ _ hne, Int.sub_eq_add_neg]
  have t1 : f_X2_quotient r m < (180000000 : Int64) ↔ r.toInt / M < 180000000 := by rw [fa_lt64, hq]; exact Iff.rfl
  have t2 : (-180000000 : Int64) ≤ f_X2_quotient r m ↔ -180000000 ≤ r.toInt / M := by rw [fa_le64, hq]; exact Iff.rfl
  rw [hc] at h1 h2 a1 a2 a3
  obtain ⟨⟨w1, w2⟩, w3, w4, w5⟩ := wrapI (q := r.toInt / M) hM rfl h1 h2
  have p3 : (360000000 : Int64).toInt = 360000000 := rfl
  have u1 : (f_X2_quotient r m + (360000000 : Int64)).toInt = r.toInt / M + 360000000 := by
    rw [fb_addL, hq, p3]
    · rw [hq, p3]; exact Int.le_trans (by decide) (Int.add_le_add_right w1 360000000)
    · rw [hq, p3]; exact Int.lt_of_lt_of_le (Int.add_lt_add_right w2 360000000) (by decide)
  have u2 : (f_X2_quotient r m - (360000000 : Int64)).toInt = r.toInt / M - 360000000 := by
    rw [fb_subL, hq, p3]
    · rw [hq, p3]; exact Int.le_trans (by decide) (Int.sub_le_sub_right w1 360000000)
    · rw [hq, p3]; exact Int.lt_of_lt_of_le (Int.sub_lt_sub_right w2 360000000) (by decide)
  clear b1 b2 b3 b4 b5 b6 b7 b8 e2 en s1 s2 s3 c0 c1 hm
  by_cases x1 : 2 * r.toInt < 360000000 * M
  · rw [if_pos (a1.mpr x1), if_pos (t1.mpr (w3.mp x1))]
    by_cases x2 : -(360000000 * M) ≤ 2 * r.toInt
    · rw [if_pos (a2.mpr x2), if_pos (t2.mpr (w4.mp x2))]
      exact ⟨f_X2_quotient r m, rfl, by rw [fa_eq64, l0, hq], by rw [hq]; exact w4.mp x2, by rw [hq]; exact w3.mp x1⟩
    · rw [if_neg (fun z => x2 (a2.mp z)), if_neg (fun z => x2 (w4.mpr (t2.mp z)))]
      have y2 : ¬ -180000000 ≤ r.toInt / M := fun z => x2 (w4.mpr z)
      refine ⟨f_X2_quotient r m + (360000000 : Int64), rfl, by rw [fa_eq64, l1, u1], ?_⟩
      rw [u1]
      clear u1 u2 hq l0 l1 l2 t1 t2 a1 a2 a3 p3
      constructor <;> omega
  · rw [if_neg (fun z => x1 (a1.mp z)), if_neg (fun z => x1 (w3.mpr (t1.mp z))), if_pos (a3.mpr (w5 x1))]
    have y1 : ¬ r.toInt / M < 180000000 := fun z => x1 (w3.mpr z)
    refine ⟨f_X2_quotient r m - (360000000 : Int64), rfl, by rw [fa_eq64, l2, u2], ?_⟩
    rw [u2]
    clear u1 u2 hq l0 l1 l2 t1 t2 a1 a2 a3 p3
    constructor <;> omega
