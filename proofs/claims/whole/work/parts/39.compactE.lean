/-! compact positions: how many zones -/
/-! how many zones -/
def BD (bd : Nat → Int64) : Prop := (∀ j, j < 57 → bd j = bnd j) ∧ bd 57 = 8700000000
theorem abs_size (a : Int64) : f_J9_abs_067f4 a = f_X6_sizeOf a := rfl
theorem zc_lp {bd : Nat → Int64} (h : BD bd) (a b : Int64) : ∀ n i, i + n = 57 → f_X2_zoneCount_lp a b n (nI i) = f_X6_zonesOf_lp bd a b (n + 1) (nI (59 - i))
  | 0, i, hi => by
    obtain rfl : i = 57 := by omega
    show (if ((8700000000 : Int64) * b) < (f_J9_abs_067f4 a) then (1 : Int32) else (2 : Int32)) = (if (f_X6_sizeOf a) < ((bd 57) * b) then (2 : Int32) else (if (2 : Int32) = (2 : Int32) then (if (f_X6_sizeOf a) = ((bd 57) * b) then (2 : Int32) else (1 : Int32)) else _))
    rw [h.2, abs_size, if_pos rfl]
    generalize f_X6_sizeOf a = x
    generalize (8700000000 : Int64) * b = y
    by_cases h1 : y < x
    · rw [if_pos h1, if_neg (by rw [fa_lt64] at *; omega), if_neg (by rw [fa_lt64] at h1; rw [fa_eq64]; omega)]
    · rw [if_neg h1]
      by_cases h2 : x < y
      · rw [if_pos h2]
      · rw [if_neg h2, if_pos (by rw [fa_lt64] at *; rw [fa_eq64]; omega)]
  | n + 1, i, hi => by
    have e1 : (59 : Int32) - nI (59 - i) = nI i := by
      have := pk_sub (a := 59) (b := 59 - i) (by omega)
      rw [show 59 - (59 - i) = i by omega] at this
      exact this
    have e2 : (59 : Int32) - nI i = nI (59 - i) := pk_sub (a := 59) (by omega)
    have e3 : nI (59 - i) + -1 = nI (59 - (i + 1)) := by
      have := nI_pred (59 - (i + 1))
      rw [show 59 - (i + 1) + 1 = 59 - i by omega] at this
      exact (Int32.sub_eq_add_neg _ _).symm.trans this
    have e4 : ¬ nI (59 - i) = 2 := fun q => by
      have := (nI_eq (a := 59 - i) (b := 2) (by omega) (by decide)).mp q
      omega
    show (if ((bnd (nI i).toNatClampNeg) * b) ≤ (f_J9_abs_067f4 a) then (f_X2_zoneCount_lp a b n (nI i + (1 : Int32))) else ((59 : Int32) - nI i)) = (if (f_X6_sizeOf a) < ((bd ((59 : Int32) - nI (59 - i)).toNatClampNeg) * b) then nI (59 - i) else (if nI (59 - i) = (2 : Int32) then (if (f_X6_sizeOf a) = ((bd ((59 : Int32) - nI (59 - i)).toNatClampNeg) * b) then nI (59 - i) else (f_X6_zonesOf_lp bd a b (n + 1) (nI (59 - i) + (-1 : Int32)))) else (f_X6_zonesOf_lp bd a b (n + 1) (nI (59 - i) + (-1 : Int32)))))
    rw [e1, nI_clamp (by omega), h.1 i (by omega), if_neg e4, e2, e3, nI_1, abs_size, zc_lp h a b n (i + 1) (by omega)]
    by_cases h1 : bnd i * b ≤ f_X6_sizeOf a
    · rw [if_pos h1, if_neg (by rw [fa_lt64]; rw [fa_le64] at h1; omega)]
    · rw [if_neg h1, if_pos (by rw [fa_lt64]; rw [fa_le64] at h1; omega)]
theorem zc_eq {bd : Nat → Int64} (h : BD bd) (a b : Int64) : f_X2_zoneCount a b = f_X6_zonesOf bd a b := zc_lp h a b 57 0 (by decide)
theorem zc_rlp (a b : Int64) : ∀ n i, i + n = 57 → ∃ m : Nat, 1 ≤ m ∧ m ≤ 59 ∧ f_X2_zoneCount_lp a b n (nI i) = nI m
  | 0, i, hi => by
    show ∃ m : Nat, 1 ≤ m ∧ m ≤ 59 ∧ (if ((8700000000 : Int64) * b) < (f_J9_abs_067f4 a) then (1 : Int32) else (2 : Int32)) = nI m
    split
    · exact ⟨1, by decide, by decide, rfl⟩
    · exact ⟨2, by decide, by decide, rfl⟩
  | n + 1, i, hi => by
    show ∃ m : Nat, 1 ≤ m ∧ m ≤ 59 ∧ (if ((bnd (nI i).toNatClampNeg) * b) ≤ (f_J9_abs_067f4 a) then (f_X2_zoneCount_lp a b n (nI i + (1 : Int32))) else ((59 : Int32) - nI i)) = nI m
    split
    · rw [nI_1]; exact zc_rlp a b n (i + 1) (by omega)
    · exact ⟨59 - i, by omega, by omega, pk_sub (a := 59) (by omega)⟩
theorem zc_rng (a b : Int64) : ∃ m : Nat, 1 ≤ m ∧ m ≤ 59 ∧ f_X2_zoneCount a b = nI m := zc_rlp a b 57 0 (by decide)
theorem z_tab : ∀ m, m < 60 → 1 ≤ m → ((f_J9_max_7cf53 1 (nI m)).toInt64 = (f_X6_atLeast1 (nI m - 0)).toInt64 ∧ (f_J9_max_7cf53 1 (nI m)).toInt64 = (f_X6_atLeast1 (nI m)).toInt64 ∧ (f_J9_max_7cf53 1 (nI m - 1)).toInt64 = (f_X6_atLeast1 (nI m - 1)).toInt64 ∧ 1 ≤ (f_X6_atLeast1 (nI m - 0)).toInt ∧ (f_X6_atLeast1 (nI m - 0)).toInt ≤ 59 ∧ 1 ≤ (f_X6_atLeast1 (nI m)).toInt ∧ (f_X6_atLeast1 (nI m)).toInt ≤ 59 ∧ 1 ≤ (f_X6_atLeast1 (nI m - 1)).toInt ∧ (f_X6_atLeast1 (nI m - 1)).toInt ≤ 59) := by decide +kernel
theorem zn_eq (a b : Int64) (od : Int32) : f_X2_zonesOf (f_X2_zoneCount a b) od = (f_X6_atLeast1 (f_X2_zoneCount a b - (if od = 0 then (0 : Int32) else (1 : Int32)))).toInt64 ∧ 1 ≤ (f_X6_atLeast1 (f_X2_zoneCount a b - (if od = 0 then (0 : Int32) else (1 : Int32)))).toInt ∧ (f_X6_atLeast1 (f_X2_zoneCount a b - (if od = 0 then (0 : Int32) else (1 : Int32)))).toInt ≤ 59 := by
  obtain ⟨m, h1, h2, e⟩ := zc_rng a b
  obtain ⟨t1, t2, t3, t4, t5, t6, t7, t8, t9⟩ := z_tab m (by omega) h1
  rw [e]
  unfold f_X2_zonesOf
  by_cases h : od = 0
  · rw [if_pos h, if_pos h]; exact ⟨t1, t4, t5⟩
  · rw [if_neg h, if_neg h]; exact ⟨t3, t8, t9⟩
theorem zn_eq2 (a b : Int64) (od : Int32) : f_X2_zonesOf (f_X2_zoneCount a b) od = (f_X6_atLeast1 (if od = 0 then f_X2_zoneCount a b else f_X2_zoneCount a b - (1 : Int32))).toInt64 ∧ 1 ≤ (f_X6_atLeast1 (if od = 0 then f_X2_zoneCount a b else f_X2_zoneCount a b - (1 : Int32))).toInt ∧ (f_X6_atLeast1 (if od = 0 then f_X2_zoneCount a b else f_X2_zoneCount a b - (1 : Int32))).toInt ≤ 59 := by
  obtain ⟨m, h1, h2, e⟩ := zc_rng a b
  obtain ⟨t1, t2, t3, t4, t5, t6, t7, t8, t9⟩ := z_tab m (by omega) h1
  rw [e]
  unfold f_X2_zonesOf
  by_cases h : od = 0
  · rw [if_pos h]; exact ⟨t2, t6, t7⟩
  · rw [if_neg h]; exact ⟨t3, t8, t9⟩
