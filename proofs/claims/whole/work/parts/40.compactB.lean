/-! compact positions: places packed, turns taken off, LOCAL -/
def bl (x : Int64) (i : Nat) : Bool := x.toBitVec.getLsbD i
theorem sh32 : (((32 : Int32).toInt64 &&& 63).toBitVec.smod 64).toNat = 32 := by decide +kernel
theorem mask32 : ∀ i, i < 64 → (4294967295 : Int64).toBitVec.getLsbD i = decide (i < 32) := by decide +kernel
theorem sext (a : Int32) {i : Nat} (hi : i < 32) : a.toInt64.toBitVec.getLsbD i = bq a i := by
  rw [Int32.toBitVec_toInt64, BitVec.getLsbD_signExtend]
  simp [hi, bq]
  omega
theorem pack_bit (a b : Int32) {i : Nat} (hi : i < 64) : (f_X2_pack a.toInt64 b.toInt64).toBitVec.getLsbD i = if i < 32 then bq b i else bq a (i - 32) := by
  unfold f_X2_pack
  rw [Int64.toBitVec_or, Int64.toBitVec_and, Int64.toBitVec_shiftLeft, BitVec.getLsbD_or, BitVec.getLsbD_and, mask32 i hi]
  show ((a.toInt64.toBitVec <<< (((32 : Int32).toInt64 &&& 63).toBitVec.smod 64).toNat).getLsbD i || _) = _
  rw [sh32, BitVec.getLsbD_shiftLeft]
  by_cases h : i < 32
  · rw [if_pos h, sext b h]
    simp [h]
  · rw [if_neg h, sext a (i := i - 32) (by omega)]
    simp [h, hi]
theorem pack_lat (a b : Int32) : f_X2_latitudeOf (f_X2_pack a.toInt64 b.toInt64) = a := by
  apply q_ext
  intro i hi
  unfold f_X2_latitudeOf bq
  rw [Int64.toBitVec_toInt32, BitVec.signExtend_eq_setWidth_of_le _ (by decide), BitVec.getLsbD_setWidth, Int64.toBitVec_shiftRight]
  show (decide (i < 32) && ((f_X2_pack a.toInt64 b.toInt64).toBitVec.sshiftRight (((32 : Int32).toInt64 &&& 63).toBitVec.smod 64).toNat).getLsbD i) = _
  rw [sh32, BitVec.getLsbD_sshiftRight, if_pos (by omega), pack_bit a b (by omega), if_neg (by omega), show 32 + i - 32 = i by omega]
  simp [hi, bq]
  omega
theorem pack_lon (a b : Int32) : f_X2_longitudeOf (f_X2_pack a.toInt64 b.toInt64) = b := by
  apply q_ext
  intro i hi
  unfold f_X2_longitudeOf bq
  rw [Int64.toBitVec_toInt32, BitVec.signExtend_eq_setWidth_of_le _ (by decide), BitVec.getLsbD_setWidth, pack_bit a b (by omega), if_pos hi]
  simp [hi, bq]
theorem pack_no {a b : Int32} (h : ¬ a = -2147483648) : ¬ f_X2_pack a.toInt64 b.toInt64 = -9223372036854775808 := by
  intro e
  have h1 := pack_lat a b
  rw [e] at h1
  exact h (h1.symm.trans (by decide +kernel))
/-- a long that is an int -/
theorem back {v : Int64} (h1 : -2147483648 ≤ v.toInt) (h2 : v.toInt < 2147483648) : v.toInt32.toInt64 = v ∧ v.toInt32.toInt = v.toInt := by
  have e : v.toInt32.toInt = v.toInt := by rw [Int64.toInt_toInt32, fb_bmod h1 h2]
  refine ⟨?_, e⟩
  rw [fa_eq64, Int32.toInt_toInt64, e]
theorem InR_no {la lo : Int32} (h : InR la lo) : ¬ la = -2147483648 := by
  intro e
  have h1 := h.1
  rw [e] at h1
  exact absurd h1 (by decide +kernel)
/-- a whole turn off -/
theorem wrap {r c m : Int64} {M : Int} (hm : m.toInt = M) (hM : 0 < M) (hM2 : M ≤ 10000000) (hc : c.toInt = 360000000 * M) (h1 : 2 * r.toInt < 3 * c.toInt) (h2 : -3 * c.toInt ≤ 2 * r.toInt) :
    ∃ v : Int64, (if f_X2_quotient r m < (180000000 : Int64) then (if (-180000000 : Int64) ≤ f_X2_quotient r m then f_X2_quotient r m else f_X2_quotient r m + (360000000 : Int64)) else f_X2_quotient r m - (360000000 : Int64)) = v
      ∧ (if (2 : Int64) * r < c then (if -c ≤ (2 : Int64) * r then f_X6_down r m else f_X6_down (r + c) m) else (if -c ≤ (2 : Int64) * (r - c) then f_X6_down (r - c) m else f_X6_down (r - c + c) m)) = v
      ∧ -180000000 ≤ v.toInt ∧ v.toInt < 180000000 := by
  have hq := quI (a := r) hm hM
  have c0 : 0 < c.toInt := by omega
  have c1 : c.toInt < 288230376151711744 := by omega
  have e2 := two_r h2 h1 c1
  have en := neg_c c0
  have ld : (f_X6_down r m).toInt = r.toInt / M := dnI hm hM (by omega) (by omega)
  have p1 : (180000000 : Int64).toInt = 180000000 := rfl
  have p2 : (-180000000 : Int64).toInt = -180000000 := rfl
  have p3 : (360000000 : Int64).toInt = 360000000 := rfl
  have g1 : 180000000 ≤ r.toInt / M ↔ 180000000 * M ≤ r.toInt := Int.le_ediv_iff_mul_le hM
  have g2 : -180000000 ≤ r.toInt / M ↔ -180000000 * M ≤ r.toInt := Int.le_ediv_iff_mul_le hM
  have g3 : 540000000 ≤ r.toInt / M ↔ 540000000 * M ≤ r.toInt := Int.le_ediv_iff_mul_le hM
  have g4 : -540000000 ≤ r.toInt / M ↔ -540000000 * M ≤ r.toInt := Int.le_ediv_iff_mul_le hM
  have hne : M ≠ 0 := by omega
  by_cases a1 : (2 : Int64) * r < c
  · rw [if_pos a1]
    rw [fa_lt64, e2] at a1
    have b1 : f_X2_quotient r m < (180000000 : Int64) := by rw [fa_lt64, hq, p1]; omega
    rw [if_pos b1]
    by_cases a2 : -c ≤ (2 : Int64) * r
    · rw [if_pos a2]
      rw [fa_le64, en, e2] at a2
      have b2 : (-180000000 : Int64) ≤ f_X2_quotient r m := by rw [fa_le64, hq, p2]; omega
      rw [if_pos b2]
      refine ⟨f_X2_quotient r m, rfl, by rw [fa_eq64, ld, hq], by rw [hq]; omega, by rw [hq]; omega⟩
    · rw [if_neg a2]
      rw [fa_le64, en, e2] at a2
      have b2 : ¬ (-180000000 : Int64) ≤ f_X2_quotient r m := by rw [fa_le64, hq, p2]; omega
      rw [if_neg b2]
      have s1 : (r + c).toInt = r.toInt + c.toInt := fb_addL (by omega) (by omega)
      have l2 : (f_X6_down (r + c) m).toInt = r.toInt / M + 360000000 := by
        rw [dnI hm hM (by omega) (by omega), s1, hc, Int.add_mul_ediv_right _ _ hne]
      have s2 : (f_X2_quotient r m + (360000000 : Int64)).toInt = r.toInt / M + 360000000 := by
        rw [fb_addL] <;> rw [hq, p3] <;> omega
      exact ⟨f_X2_quotient r m + (360000000 : Int64), rfl, by rw [fa_eq64, l2, s2], by rw [s2]; omega, by rw [s2]; omega⟩
  · rw [if_neg a1]
    rw [fa_lt64, e2] at a1
    have b1 : ¬ f_X2_quotient r m < (180000000 : Int64) := by rw [fa_lt64, hq, p1]; omega
    rw [if_neg b1]
    have s1 : (r - c).toInt = r.toInt - c.toInt := fb_subL (by omega) (by omega)
    have s3 : ((2 : Int64) * (r - c)).toInt = 2 * (r.toInt - c.toInt) := by rw [← s1]; exact mL _ _ 2 rfl (by omega) (by omega)
    have a2 : -c ≤ (2 : Int64) * (r - c) := by rw [fa_le64, en, s3]; omega
    rw [if_pos a2]
    have l2 : (f_X6_down (r - c) m).toInt = r.toInt / M - 360000000 := by
      rw [dnI hm hM (by omega) (by omega), s1, hc, Int.sub_eq_add_neg, ← Int.neg_mul, Int.add_mul_ediv_right _ _ hne]; omega
    have s2 : (f_X2_quotient r m - (360000000 : Int64)).toInt = r.toInt / M - 360000000 := by
      rw [fb_subL] <;> rw [hq, p3] <;> omega
    exact ⟨f_X2_quotient r m - (360000000 : Int64), rfl, by rw [fa_eq64, l2, s2], by rw [s2]; omega, by rw [s2]; omega⟩
theorem turn_or (g : Int32) : f_X2_turnOf g = 360000000 ∨ f_X2_turnOf g = 90000000 := by
  unfold f_X2_turnOf
  split
  · exact Or.inl rfl
  · exact Or.inr rfl
theorem band_or (g : Int32) : f_X2_bandsOf g = 60 ∨ f_X2_bandsOf g = 59 := by
  unfold f_X2_bandsOf
  split
  · exact Or.inl rfl
  · exact Or.inr rfl
theorem told_y {a : Int64} (h1 : 0 ≤ a.toInt) (h2 : a.toInt < 17179869184) : 0 ≤ (a / (131072 : Int64)).toInt ∧ (a / (131072 : Int64)).toInt < 131072 := by
  rw [tI_div (by decide +kernel), show (131072 : Int64).toInt = 131072 from rfl, Int.tdiv_eq_ediv_of_nonneg h1]
  omega
theorem told_x {a : Int64} (h1 : 0 ≤ a.toInt) : 0 ≤ (a - a / (131072 : Int64) * (131072 : Int64)).toInt ∧ (a - a / (131072 : Int64) * (131072 : Int64)).toInt < 131072 := by
  rw [(mulD (a := a) (b := 131072) (by decide +kernel)).2, show (131072 : Int64).toInt = 131072 from rfl, Int.tmod_eq_emod_of_nonneg h1]
  omega
/-- LOCAL, in the reference's words, with the turn and the bands named -/
theorem loc_x57 (la od gr : Int32) (a : Int64) : f_X6_localOf_x57 la od gr a = f_X6_nearest la.toInt64 (f_X2_bandsOf od) (f_X2_turnOf gr) (a / (131072 : Int64)) := rfl
theorem lat_S {la : Int32} {b : Int64} (h1 : -90000000 ≤ la.toInt) (h2 : la.toInt ≤ 90000000) (hb : b = 60 ∨ b = 59) : -11000000000 ≤ la.toInt64.toInt * b.toInt ∧ la.toInt64.toInt * b.toInt ≤ 11000000000 := by
  rw [Int32.toInt_toInt64]
  rcases hb with e | e <;> subst e
  · rw [show (60 : Int64).toInt = 60 from rfl]; omega
  · rw [show (59 : Int64).toInt = 59 from rfl]; omega
theorem lon_S {lo n : Int32} (h1 : -180000000 ≤ lo.toInt) (h2 : lo.toInt < 180000000) (h3 : 1 ≤ n.toInt) (h4 : n.toInt ≤ 59) : -11000000000 ≤ lo.toInt64.toInt * n.toInt64.toInt ∧ lo.toInt64.toInt * n.toInt64.toInt ≤ 11000000000 ∧ -180000000 * n.toInt ≤ lo.toInt64.toInt * n.toInt64.toInt ∧ lo.toInt64.toInt * n.toInt64.toInt ≤ 180000000 * n.toInt := by
  rw [Int32.toInt_toInt64, Int32.toInt_toInt64]
  have g1 : -180000000 * n.toInt ≤ lo.toInt * n.toInt := Int.mul_le_mul_of_nonneg_right h1 (by omega)
  have g2 : lo.toInt * n.toInt ≤ 180000000 * n.toInt := Int.mul_le_mul_of_nonneg_right (by omega) (by omega)
  refine ⟨by omega, by omega, g1, g2⟩
theorem loc_n {bd : Nat → Int64} (h : BD bd) (gr la od : Int32) (a : Int64) : f_X2_zonesOf (f_X2_zoneCountAt (f_X6_localOf_x57 la od gr a) (f_X2_bandsOf od) (f_X2_turnOf gr)) od = (f_X6_localOf_x116 bd gr la od a).toInt64 ∧ 1 ≤ (f_X6_localOf_x116 bd gr la od a).toInt ∧ (f_X6_localOf_x116 bd gr la od a).toInt ≤ 59 := by
  have e : f_X6_localOf_x116 bd gr la od a = f_X6_atLeast1 (f_X2_zoneCount (((100 : Int64) * f_X2_turnOf gr) * f_X6_localOf_x57 la od gr a) (f_X2_bandsOf od * (131072 : Int64)) - (if od = 0 then (0 : Int32) else (1 : Int32))) := by
    rw [zc_eq h]; rfl
  rw [e]
  exact zn_eq _ _ od
theorem loc_nums {bd : Nat → Int64} (h : BD bd) (told : Int64) (gr od la lo : Int32) (h1 : 0 ≤ told.toInt) (h2 : told.toInt < 17179869184) (hp : InR la lo) :
    f_X2_stepNear la.toInt64 (f_X2_yOf told) (f_X2_bandsOf od) (f_X2_turnOf gr) = f_X6_localOf_x57 la od gr told
    ∧ f_X2_turnOf gr * f_X2_stepNear lo.toInt64 (f_X2_xOf told) (f_X6_localOf_x116 bd gr la od told).toInt64 (f_X2_turnOf gr) = f_X6_localOf_x134 gr lo bd la od told
    ∧ ((f_X6_localOf_x116 bd gr la od told).toInt64 * (131072 : Int64)).toInt = (f_X6_localOf_x116 bd gr la od told).toInt * 131072
    ∧ (f_X6_localOf_x147 bd gr la od told).toInt = 360000000 * ((f_X6_localOf_x116 bd gr la od told).toInt * 131072)
    ∧ 2 * (f_X6_localOf_x134 gr lo bd la od told).toInt < 3 * (f_X6_localOf_x147 bd gr la od told).toInt
    ∧ -3 * (f_X6_localOf_x147 bd gr la od told).toInt ≤ 2 * (f_X6_localOf_x134 gr lo bd la od told).toInt := by
  obtain ⟨p1, p2, p3, p4⟩ := hp
  obtain ⟨hz, n1, n2⟩ := loc_n h gr la od told
  have hy := told_y h1 h2
  have hx := told_x h1
  have ht := turn_or gr
  have A := near_eq (P := la.toInt64) (Z := f_X2_bandsOf od) (Y := told / (131072 : Int64)) (t := f_X2_turnOf gr) (lat_S p1 p2 (band_or od)) ht hy
  obtain ⟨s1, s2, s3, s4⟩ := lon_S p3 p4 n1 n2
  have Bn := near_eq (P := lo.toInt64) (Z := (f_X6_localOf_x116 bd gr la od told).toInt64) (Y := told - told / (131072 : Int64) * (131072 : Int64)) (t := f_X2_turnOf gr) ⟨s1, s2⟩ ht hx
  have d0 : f_X6_localOf_x134 gr lo bd la od told = f_X2_turnOf gr * f_X6_nearest lo.toInt64 (f_X6_localOf_x116 bd gr la od told).toInt64 (f_X2_turnOf gr) (told - told / (131072 : Int64) * (131072 : Int64)) := rfl
  have d1 : f_X6_localOf_x147 bd gr la od told = (360000000 : Int64) * (f_X6_localOf_x116 bd gr la od told).toInt64 * (131072 : Int64) := rfl
  rw [d0, d1]
  generalize f_X6_localOf_x116 bd gr la od told = n at *
  generalize hnn : n.toInt64 = nn at *
  have en : nn.toInt = n.toInt := by rw [← hnn, Int32.toInt_toInt64]
  generalize f_X6_nearest lo.toInt64 nn (f_X2_turnOf gr) (told - told / (131072 : Int64) * (131072 : Int64)) = w at *
  have m1 : ((360000000 : Int64) * nn).toInt = 360000000 * n.toInt := by rw [← en]; exact mL _ _ 360000000 rfl (by omega) (by omega)
  have m2 : ((360000000 : Int64) * nn * (131072 : Int64)).toInt = 360000000 * (n.toInt * 131072) := by
    rw [mR _ _ 131072 rfl (by omega) (by omega), m1]; omega
  have m3 : (nn * (131072 : Int64)).toInt = n.toInt * 131072 := by rw [← en]; exact mR _ _ 131072 rfl (by omega) (by omega)
  have hw : (f_X2_turnOf gr * w).toInt = (f_X2_turnOf gr).toInt * w.toInt ∧ 2 * ((f_X2_turnOf gr).toInt * w.toInt) ≤ 2 * (lo.toInt64.toInt * nn.toInt) * 131072 + (f_X2_turnOf gr).toInt * 131072 ∧ 2 * (lo.toInt64.toInt * nn.toInt) * 131072 - (f_X2_turnOf gr).toInt * 131072 < 2 * ((f_X2_turnOf gr).toInt * w.toInt) ∧ (f_X2_turnOf gr).toInt ≤ 360000000 := by
    have b1 := Bn.2.1
    have b2 := Bn.2.2
    rw [Int.mul_assoc 2 (f_X2_turnOf gr).toInt w.toInt] at b1 b2
    have b3 : (f_X2_turnOf gr).toInt ≤ 360000000 := by
      rcases ht with e | e <;> rw [e] <;> decide +kernel
    have b4 : 0 ≤ (f_X2_turnOf gr).toInt := by
      rcases ht with e | e <;> rw [e] <;> decide +kernel
    exact ⟨fb_mulL (by omega) (by omega), b2, b1, b3⟩
  obtain ⟨w1, w2, w3, w4⟩ := hw
  refine ⟨A.1, by rw [← Bn.1]; rfl, m3, m2, ?_, ?_⟩
  · rw [w1, m2]; omega
  · rw [w1, m2]; omega
theorem locH {bd : Nat → Int64} (h : BD bd) : LocH bd := by
  intro told gr od la lo h1 h2 hp
  obtain ⟨_, n1, n2⟩ := loc_n h gr la od told
  obtain ⟨-, -, -, e4, e5, e6⟩ := loc_nums h told gr od la lo h1 h2 hp
  exact ⟨Or.inr ⟨rfl, e5⟩, e6, by omega, by omega⟩
/-- the latitude that is told is one that can be -/
theorem lat_in {y b t : Int64} (hb : b = 60 ∨ b = 59) (ht : t = 360000000 ∨ t = 90000000) (h : t * f_X6_sizeOf y ≤ (90000000 : Int64) * b * (131072 : Int64)) (hy : -1000000000 ≤ y.toInt ∧ y.toInt ≤ 1000000000) : f_X2_quotient (t * y) (b * (131072 : Int64)) = f_X6_down (t * y) (b * (131072 : Int64)) ∧ -90000000 ≤ (f_X2_quotient (t * y) (b * (131072 : Int64))).toInt ∧ (f_X2_quotient (t * y) (b * (131072 : Int64))).toInt ≤ 90000000 := by
  obtain ⟨y1, y2⟩ := hy
  have hz : (f_X6_sizeOf y).toInt = if 0 ≤ y.toInt then y.toInt else -y.toInt := by
    unfold f_X6_sizeOf
    by_cases z : (0 : Int64) ≤ y
    · rw [if_pos z, if_pos ((fa_le64 _ _).mp z)]
    · rw [if_neg z, if_neg (fun q => z ((fa_le64 _ _).mpr q)), Int64.toInt_neg, fb_bmodL (by omega) (by omega)]
  have hz2 : 0 ≤ (f_X6_sizeOf y).toInt ∧ (f_X6_sizeOf y).toInt ≤ 1000000000 ∧ y.toInt ≤ (f_X6_sizeOf y).toInt ∧ -y.toInt ≤ (f_X6_sizeOf y).toInt := by
    rw [hz]; split <;> omega
  obtain ⟨z1, z2, z3, z4⟩ := hz2
  rw [fa_le64] at h
  rcases ht with e | e <;> subst e <;> rcases hb with e | e <;> subst e
  · have k1 := mL (360000000 : Int64) y 360000000 rfl (by omega) (by omega)
    have k2 := mL (360000000 : Int64) (f_X6_sizeOf y) 360000000 rfl (by omega) (by omega)
    have k3 : ((90000000 : Int64) * 60 * (131072 : Int64)).toInt = 707788800000000 := by decide +kernel
    have k4 := quI (a := (360000000 : Int64) * y) (b := (60 : Int64) * (131072 : Int64)) (k := 7864320) (by decide +kernel) (by decide)
    have k5 := dnI (a := (360000000 : Int64) * y) (b := (60 : Int64) * (131072 : Int64)) (k := 7864320) (by decide +kernel) (by decide) (by decide) (by omega)
    rw [fa_eq64, k4, k5]
    omega
  · have k1 := mL (360000000 : Int64) y 360000000 rfl (by omega) (by omega)
    have k2 := mL (360000000 : Int64) (f_X6_sizeOf y) 360000000 rfl (by omega) (by omega)
    have k3 : ((90000000 : Int64) * 59 * (131072 : Int64)).toInt = 695992320000000 := by decide +kernel
    have k4 := quI (a := (360000000 : Int64) * y) (b := (59 : Int64) * (131072 : Int64)) (k := 7733248) (by decide +kernel) (by decide)
    have k5 := dnI (a := (360000000 : Int64) * y) (b := (59 : Int64) * (131072 : Int64)) (k := 7733248) (by decide +kernel) (by decide) (by decide) (by omega)
    rw [fa_eq64, k4, k5]
    omega
  · have k1 := mL (90000000 : Int64) y 90000000 rfl (by omega) (by omega)
    have k2 := mL (90000000 : Int64) (f_X6_sizeOf y) 90000000 rfl (by omega) (by omega)
    have k3 : ((90000000 : Int64) * 60 * (131072 : Int64)).toInt = 707788800000000 := by decide +kernel
    have k4 := quI (a := (90000000 : Int64) * y) (b := (60 : Int64) * (131072 : Int64)) (k := 7864320) (by decide +kernel) (by decide)
    have k5 := dnI (a := (90000000 : Int64) * y) (b := (60 : Int64) * (131072 : Int64)) (k := 7864320) (by decide +kernel) (by decide) (by decide) (by omega)
    rw [fa_eq64, k4, k5]
    omega
  · have k1 := mL (90000000 : Int64) y 90000000 rfl (by omega) (by omega)
    have k2 := mL (90000000 : Int64) (f_X6_sizeOf y) 90000000 rfl (by omega) (by omega)
    have k3 : ((90000000 : Int64) * 59 * (131072 : Int64)).toInt = 695992320000000 := by decide +kernel
    have k4 := quI (a := (90000000 : Int64) * y) (b := (59 : Int64) * (131072 : Int64)) (k := 7733248) (by decide +kernel) (by decide)
    have k5 := dnI (a := (90000000 : Int64) * y) (b := (59 : Int64) * (131072 : Int64)) (k := 7733248) (by decide +kernel) (by decide) (by decide) (by omega)
    rw [fa_eq64, k4, k5]
    omega
theorem y_rng {la od gr : Int32} {a : Int64} (p1 : -90000000 ≤ la.toInt) (p2 : la.toInt ≤ 90000000) (h1 : 0 ≤ a.toInt) (h2 : a.toInt < 17179869184) : -1000000000 ≤ (f_X6_localOf_x57 la od gr a).toInt ∧ (f_X6_localOf_x57 la od gr a).toInt ≤ 1000000000 := by
  have A := near_eq (P := la.toInt64) (Z := f_X2_bandsOf od) (Y := a / (131072 : Int64)) (t := f_X2_turnOf gr) (lat_S p1 p2 (band_or od)) (turn_or gr) (told_y h1 h2)
  have S := lat_S p1 p2 (band_or od)
  rw [loc_x57]
  generalize la.toInt64.toInt * (f_X2_bandsOf od).toInt = s at *
  rcases turn_or gr with e | e <;> rw [e] at A ⊢
  · rw [show (360000000 : Int64).toInt = 360000000 from rfl] at A; omega
  · rw [show (90000000 : Int64).toInt = 90000000 from rfl] at A; omega
/-- LOCAL: the same on both sides -/
theorem loc_eq {bd : Nat → Int64} (h : BD bd) (lat lon : Int32) (told : Int64) (gr od la lo : Int32) (h1 : 0 ≤ told.toInt) (h2 : told.toInt < 17179869184) (hp : InR la lo) :
    (f_X6_localOf bd lat lon told gr od la lo = 0 ∧ f_X2_placeNear told gr od (f_X2_pack la.toInt64 lo.toInt64) = -9223372036854775808 ∧ f_X6_localOf_lat bd lat lon told gr od la lo = lat ∧ f_X6_localOf_lon bd lat lon told gr od la lo = lon)
    ∨ (f_X6_localOf bd lat lon told gr od la lo = 1 ∧ f_X2_placeNear told gr od (f_X2_pack la.toInt64 lo.toInt64) = f_X2_pack (f_X6_localOf_lat bd lat lon told gr od la lo).toInt64 (f_X6_localOf_lon bd lat lon told gr od la lo).toInt64 ∧ InR (f_X6_localOf_lat bd lat lon told gr od la lo) (f_X6_localOf_lon bd lat lon told gr od la lo)) := by
  obtain ⟨e1, e2, e3, e4, e5, e6⟩ := loc_nums h told gr od la lo h1 h2 hp
  obtain ⟨hz, n1, n2⟩ := loc_n h gr la od told
  have hyr := y_rng (od := od) (gr := gr) hp.1 hp.2.1 h1 h2
  have hbp : f_X2_isBeyondPole (f_X6_localOf_x57 la od gr told) (f_X2_bandsOf od) (f_X2_turnOf gr) = (if (f_X6_sizeOf (f_X6_localOf_x57 la od gr told)) * (f_X2_turnOf gr) ≤ ((90000000 : Int64) * f_X2_bandsOf od) * (131072 : Int64) then 0 else 1) := by
    unfold f_X2_isBeyondPole
    rw [abs_size, Int64.mul_comm]
  unfold f_X2_placeNear f_X6_localOf f_X6_localOf_lat f_X6_localOf_lon
  rw [pack_lat, pack_lon, e1, hbp, hz]
  show _ ∨ _
  by_cases hc : (f_X6_sizeOf (f_X6_localOf_x57 la od gr told)) * (f_X2_turnOf gr) ≤ ((90000000 : Int64) * f_X2_bandsOf od) * (131072 : Int64)
  · right
    have hc' : (f_X6_sizeOf (f_X6_localOf_x57 la od gr told)) * (if gr = 0 then (360000000 : Int64) else (90000000 : Int64)) ≤ ((90000000 : Int64) * (if od = 0 then (60 : Int64) else (59 : Int64))) * (131072 : Int64) := hc
    rw [if_pos hc', if_pos hc', if_pos hc', if_pos hc, if_pos rfl]
    obtain ⟨v, v1, v2, v3, v4⟩ := wrap (r := f_X6_localOf_x134 gr lo bd la od told) (c := f_X6_localOf_x147 bd gr la od told) (m := (f_X6_localOf_x116 bd gr la od told).toInt64 * (131072 : Int64)) (M := (f_X6_localOf_x116 bd gr la od told).toInt * 131072) e3 (by omega) (by omega) e4 e5 e6
    obtain ⟨l1, l2, l3⟩ := lat_in (y := f_X6_localOf_x57 la od gr told) (band_or od) (turn_or gr) (by rw [Int64.mul_comm (f_X2_turnOf gr)]; exact hc) hyr
    have hlat : f_X6_localOf_lp_lat bd told gr od la lo 1 (f_X6_localOf_x134 gr lo bd la od told) = (f_X6_down (f_X2_turnOf gr * f_X6_localOf_x57 la od gr told) (f_X2_bandsOf od * (131072 : Int64))).toInt32 := by
      show (if _ then (if _ then _ else _) else (if _ then _ else _)) = _
      split <;> split <;> rfl
    have hlon : f_X6_localOf_lp_lon bd told gr od la lo 1 (f_X6_localOf_x134 gr lo bd la od told) = v.toInt32 := by
      rw [← v2]
      show (if (2 : Int64) * _ < _ then (if _ ≤ (2 : Int64) * _ then (f_X6_down _ _).toInt32 else (f_X6_down _ _).toInt32) else (if _ ≤ (2 : Int64) * _ then (f_X6_down _ _).toInt32 else (f_X6_down _ _).toInt32)) = _
      split <;> split <;> rfl
    have hone : f_X6_localOf_lp bd told gr od la lo 1 (f_X6_localOf_x134 gr lo bd la od told) = 1 := by
      show (if _ then (if _ then _ else _) else (if _ then _ else _)) = _
      split <;> split <;> rfl
    have bv := back (v := v) (by omega) (by omega)
    have bl := back (v := f_X6_down (f_X2_turnOf gr * f_X6_localOf_x57 la od gr told) (f_X2_bandsOf od * (131072 : Int64))) (by rw [← l1]; omega) (by rw [← l1]; omega)
    rw [hlat, hlon, hone, bv.1, bl.1]
    refine ⟨rfl, ?_, ?_⟩
    · unfold f_X2_placeAt
      rw [e2, v1, l1]
    · refine ⟨?_, ?_, ?_, ?_⟩
      · rw [bl.2, ← l1]; exact l2
      · rw [bl.2, ← l1]; exact l3
      · rw [bv.2]; exact v3
      · rw [bv.2]; exact v4
  · left
    have hc' : ¬ (f_X6_sizeOf (f_X6_localOf_x57 la od gr told)) * (if gr = 0 then (360000000 : Int64) else (90000000 : Int64)) ≤ ((90000000 : Int64) * (if od = 0 then (60 : Int64) else (59 : Int64))) * (131072 : Int64) := hc
    rw [if_neg hc', if_neg hc', if_neg hc', if_neg hc, if_neg (by decide)]
    exact ⟨rfl, rfl, rfl, rfl⟩
