/-- LOCAL: the same on both sides -/
theorem loc_eq {bd : Nat → Int64} (h : BD bd) (lat lon : Int32) (told : Int64) (gr od la lo : Int32) (h1 : 0 ≤ told.toInt) (h2 : told.toInt < 17179869184) (hp : InR la lo) :
    (f_X6_localOf bd lat lon told gr od la lo = 0 ∧ f_X2_placeNear told gr od (f_X2_pack la.toInt64 lo.toInt64) = -9223372036854775808 ∧ f_X6_localOf_lat bd lat lon told gr od la lo = lat ∧ f_X6_localOf_lon bd lat lon told gr od la lo = lon)
    ∨ (f_X6_localOf bd lat lon told gr od la lo = 1 ∧ f_X2_placeNear told gr od (f_X2_pack la.toInt64 lo.toInt64) = f_X2_pack (f_X6_localOf_lat bd lat lon told gr od la lo).toInt64 (f_X6_localOf_lon bd lat lon told gr od la lo).toInt64 ∧ InR (f_X6_localOf_lat bd lat lon told gr od la lo) (f_X6_localOf_lon bd lat lon told gr od la lo)) := by
  obtain ⟨e1, e2, e3, e4, e5, e6⟩ := loc_nums h told gr od la lo h1 h2 hp
  obtain ⟨hz, n1, n2⟩ := loc_n h gr la od told
  have hyr := y_rng (od := od) (gr := gr) hp.1 hp.2.1 h1 h2
  have hbp : f_X2_isBeyondPole (f_X6_localOf_x57 la od gr told) (f_X2_bandsOf od) (f_X2_turnOf gr) = (if (f_X6_sizeOf (f_X6_localOf_x57 la od gr told)) * (f_X2_turnOf gr) ≤ ((90000000 : Int64) * f_X2_bandsOf od) * (131072 : Int64) then 0 else 1) := by
    unfold f_X2_isBeyondPole
    rw [abs_size, Int64.mul_comm]
  unfold f_X2_placeNear f_X6_localOf f_X6_localOf_lat f_X6_localOf_lon
  rw [pack_lat, pack_lon, e1, hbp, hz]
  show _ ∨ _
  by_cases hc : (f_X6_sizeOf (f_X6_localOf_x57 la od gr told)) * (f_X2_turnOf gr) ≤ ((90000000 : Int64) * f_X2_bandsOf od) * (131072 : Int64)
  · right
    have hc' : (f_X6_sizeOf (f_X6_localOf_x57 la od gr told)) * (if gr = 0 then (360000000 : Int64) else (90000000 : Int64)) ≤ ((90000000 : Int64) * (if od = 0 then (60 : Int64) else (59 : Int64))) * (131072 : Int64) := hc
    rw [if_pos hc', if_pos hc', if_pos hc', if_pos hc, if_pos rfl]
    have hM0 : 0 < (f_X6_localOf_x116 bd gr la od told).toInt * 131072 := by clear e1 e2 e3 e4 e5 e6 hc hc' hyr hbp; omega
    have hM1 : (f_X6_localOf_x116 bd gr la od told).toInt * 131072 ≤ 10000000 := by clear e1 e2 e3 e4 e5 e6 hc hc' hyr hbp; omega
    obtain ⟨v, v1, v2, v3, v4⟩ := wrap (r := f_X6_localOf_x134 gr lo bd la od told) (c := f_X6_localOf_x147 bd gr la od told) (m := (f_X6_localOf_x116 bd gr la od told).toInt64 * (131072 : Int64)) (M := (f_X6_localOf_x116 bd gr la od told).toInt * 131072) e3 hM0 hM1 e4 e5 e6
    obtain ⟨l1, l2, l3⟩ := lat_in (y := f_X6_localOf_x57 la od gr told) (band_or od) (turn_or gr) (by rw [Int64.mul_comm (f_X2_turnOf gr)]; exact hc) hyr
    have hlat : f_X6_localOf_lp_lat bd told gr od la lo 1 (f_X6_localOf_x134 gr lo bd la od told) = (f_X6_down (f_X2_turnOf gr * f_X6_localOf_x57 la od gr told) (f_X2_bandsOf od * (131072 : Int64))).toInt32 := by
      show (if _ then (if _ then _ else _) else (if _ then _ else _)) = _
      split <;> split <;> rfl
    have hlon : f_X6_localOf_lp_lon bd told gr od la lo 1 (f_X6_localOf_x134 gr lo bd la od told) = v.toInt32 := by
      rw [← v2]
      show (if (2 : Int64) * _ < _ then (if _ ≤ (2 : Int64) * _ then (f_X6_down _ _).toInt32 else (f_X6_down _ _).toInt32) else (if _ ≤ (2 : Int64) * _ then (f_X6_down _ _).toInt32 else (f_X6_down _ _).toInt32)) = _
      split <;> split <;> rfl
    have hone : f_X6_localOf_lp bd told gr od la lo 1 (f_X6_localOf_x134 gr lo bd la od told) = 1 := by
      show (if _ then (if _ then _ else _) else (if _ then _ else _)) = _
      split <;> split <;> rfl
    have bv := back (v := v) (Int.le_trans (by decide) v3) (Int.lt_trans v4 (by decide))
    have bl := back (v := f_X6_down (f_X2_turnOf gr * f_X6_localOf_x57 la od gr told) (f_X2_bandsOf od * (131072 : Int64))) (by rw [← l1]; exact Int.le_trans (by decide) l2) (by rw [← l1]; exact Int.lt_of_le_of_lt l3 (by decide))
    rw [hlat, hlon, hone, bv.1, bl.1]
    refine ⟨rfl, ?_, ?_⟩
    · unfold f_X2_placeAt
      rw [e2, v1, l1]
    · refine ⟨?_, ?_, ?_, ?_⟩
      · rw [bl.2, ← l1]; exact l2
      · rw [bl.2, ← l1]; exact l3
      · rw [bv.2]; exact v3
      · rw [bv.2]; exact v4
  · left
    have hc' : ¬ (f_X6_sizeOf (f_X6_localOf_x57 la od gr told)) * (if gr = 0 then (360000000 : Int64) else (90000000 : Int64)) ≤ ((90000000 : Int64) * (if od = 0 then (60 : Int64) else (59 : Int64))) * (131072 : Int64) := hc
    rw [if_neg hc', if_neg hc', if_neg hc', if_neg hc, if_neg (by decide)]
    exact ⟨rfl, rfl, rfl, rfl⟩
