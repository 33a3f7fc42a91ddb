/-! what a message does to a row -/
theorem b27 : (27 : Int32) + 0 = nI 27 := by decide +kernel
theorem b31 : (27 : Int32) + 4 = nI 31 := by decide +kernel
def air3 (va1 : Nat → Int32) (co : Nat → Int64) (ct : Nat → Int32) (w : Nat → Int32) (t : Int32) : Nat → Int32 :=
  if (f_X3_isOdd w 112) = 0 then (if (f_X3_hasFreshPlace va1 t) = 0 then (if ((vp_updL co 0 (f_X3_codeIn w 112)) 1) = (-1 : Int64) then va1 else (if (100 : Int32) < (t - ((upd ct 0 t) 1)) then va1 else (f_X3_keepPlace_va va1 (f_X2_placeOfPair ((vp_updL co 0 (f_X3_codeIn w 112)) 0) ((vp_updL co 0 (f_X3_codeIn w 112)) 1) (f_X3_isOdd w 112)) t))) else (f_X3_keepPlace_va va1 (f_X2_placeNear (f_X3_codeIn w 112) (0 : Int32) (f_X3_isOdd w 112) (f_X3_lastPlace va1)) t))
  else (if (f_X3_hasFreshPlace va1 t) = 0 then (if ((vp_updL co 1 (f_X3_codeIn w 112)) 0) = (-1 : Int64) then va1 else (if (100 : Int32) < (t - ((upd ct 1 t) 0)) then va1 else (f_X3_keepPlace_va va1 (f_X2_placeOfPair ((vp_updL co 1 (f_X3_codeIn w 112)) 0) ((vp_updL co 1 (f_X3_codeIn w 112)) 1) (f_X3_isOdd w 112)) t))) else (f_X3_keepPlace_va va1 (f_X2_placeNear (f_X3_codeIn w 112) (0 : Int32) (f_X3_isOdd w 112) (f_X3_lastPlace va1)) t))
theorem air3_eq (va : Nat → Int32) (co : Nat → Int64) (ct w : Nat → Int32) (a1 t : Int32) : f_X3_learnInAir_va va co ct w 112 a1 t = if (18 : Int32) < a1 then air3 (upd va 14 0) co ct w t else air3 (upd (upd va 14 0) 4 (f_X1_altitude (f_X1_withM (f_X4_message w 112 9 20)))) co ct w t := rfl
theorem last_eq {va le : Nat → Int32} {co : Nat → Int64} {ct r : Nat → Int32} (h : Row va le co ct r) : f_X3_lastPlace va = f_X2_pack (r 15).toInt64 (r 16).toInt64 := by
  unfold f_X3_lastPlace
  rw [h.1 15 (by decide), h.1 16 (by decide)]
set_option maxHeartbeats 4000000 in
theorem air_row {a : Int32} {bd : Nat → Int64} (hbd : BD bd) {va1 le : Nat → Int32} {co : Nat → Int64} {ct r1 : Nat → Int32} (h : Row va1 le co ct r1) (hp : Pl a r1) (rw : Nat → Int32) {i : Nat} (hi : i < 20) {w b : Nat → Int32} (hs : Same w b) (lat lon t : Int32) :
    ∃ r', f_X6_inAir_rw bd (putR rw i r1) b lat lon (nI i) t = putR rw i r' ∧ Row (air3 va1 co ct w t) le (if (f_X3_isOdd w 112) = 0 then vp_updL co 0 (f_X3_codeIn w 112) else vp_updL co 1 (f_X3_codeIn w 112)) (if (f_X3_isOdd w 112) = 0 then upd ct 0 t else upd ct 1 t) r' ∧ Pl a r' := by
  obtain ⟨c1, c2, c3, c4, c5⟩ := told_eq hs
  have hcr := code_rng c4 c5
  rw [← c3] at hcr
  unfold f_X6_inAir_rw air3
  rw [c1, c2]
  have a15 : (f_X6_at (nI i) 15).toNatClampNeg = 40 * i + 15 := at_n (w := 15) hi (by decide)
  have a16 : (f_X6_at (nI i) 16).toNatClampNeg = 40 * i + 16 := at_n (w := 16) hi (by decide)
  have q27 : (f_X6_at (nI i) ((27 : Int32) + (0 : Int32))).toNatClampNeg = 40 * i + 27 := by rw [b27]; exact at_n (w := 27) hi (by decide)
  have q28 : ((f_X6_at (nI i) ((27 : Int32) + (0 : Int32))) + (1 : Int32)).toNatClampNeg = 40 * i + 28 := by rw [b27]; exact at_k (w := 27) (k := 1) hi (by decide)
  have q29 : ((f_X6_at (nI i) ((27 : Int32) + (0 : Int32))) + (2 : Int32)).toNatClampNeg = 40 * i + 29 := by rw [b27]; exact at_k (w := 27) (k := 2) hi (by decide)
  have q30 : ((f_X6_at (nI i) ((27 : Int32) + (0 : Int32))) + (3 : Int32)).toNatClampNeg = 40 * i + 30 := by rw [b27]; exact at_k (w := 27) (k := 3) hi (by decide)
  have q31 : (f_X6_at (nI i) ((27 : Int32) + (4 : Int32))).toNatClampNeg = 40 * i + 31 := by rw [b31]; exact at_n (w := 31) hi (by decide)
  have q32 : ((f_X6_at (nI i) ((27 : Int32) + (4 : Int32))) + (1 : Int32)).toNatClampNeg = 40 * i + 32 := by rw [b31]; exact at_k (w := 31) (k := 1) hi (by decide)
  have q33 : ((f_X6_at (nI i) ((27 : Int32) + (4 : Int32))) + (2 : Int32)).toNatClampNeg = 40 * i + 33 := by rw [b31]; exact at_k (w := 31) (k := 2) hi (by decide)
  have q34 : ((f_X6_at (nI i) ((27 : Int32) + (4 : Int32))) + (3 : Int32)).toNatClampNeg = 40 * i + 34 := by rw [b31]; exact at_k (w := 31) (k := 3) hi (by decide)
  by_cases hodd : f_X6_inAir_x17 b = 0
  · simp only [if_pos hodd]
    have hx : f_X6_inAir_x212 (putR rw i r1) (nI i) b t = (r1 32).toInt64 * (131072 : Int64) + (r1 33).toInt64 := by
      unfold f_X6_inAir_x212
      simp only [q27, q28, q29, q30, q31, q32, q33, q34]
      rw [putR_upd _ _ _ (w := 27) (by decide), putR_upd _ _ _ (w := 28) (by decide), putR_upd _ _ _ (w := 29) (by decide), putR_upd _ _ _ (w := 30) (by decide), putR_at _ _ _ (by decide), putR_at _ _ _ (by decide)]
      rw [upd_no _ _ (by decide), upd_no _ _ (by decide), upd_no _ _ (by decide), upd_no _ _ (by decide), upd_no _ _ (by decide), upd_no _ _ (by decide), upd_no _ _ (by decide), upd_no _ _ (by decide)]
    simp only [hx, q27, q28, q29, q30, q31, q32, q33, q34, a15, a16]
    rw [putR_upd _ _ _ (w := 27) (by decide), putR_upd _ _ _ (w := 28) (by decide), putR_upd _ _ _ (w := 29) (by decide), putR_upd _ _ _ (w := 30) (by decide)]
    have hr2 : Row va1 le (vp_updL co 0 (f_X6_toldNow b)) (upd ct 0 t) (upd (upd (upd (upd r1 27 1) 28 (f_X6_part b 23 39)) 29 (f_X6_part b 40 56)) 30 t) := by
      refine ⟨fun v hv => ?_, fun k hk => ?_, ?_, ?_⟩
      · rw [upd_no _ _ (by omega), upd_no _ _ (by omega), upd_no _ _ (by omega), upd_no _ _ (by omega)]; exact h.1 v hv
      · rw [upd_no _ _ (by omega), upd_no _ _ (by omega), upd_no _ _ (by omega), upd_no _ _ (by omega), upd_no _ _ (by omega), upd_no _ _ (by omega), upd_no _ _ (by omega), upd_no _ _ (by omega)]; exact h.2.1 k hk
      · have e1 : (upd (upd (upd (upd r1 27 1) 28 (f_X6_part b 23 39)) 29 (f_X6_part b 40 56)) 30 t) 27 = 1 := by rw [upd_no _ _ (by decide), upd_no _ _ (by decide), upd_no _ _ (by decide), upd_is]
        have e2 : (upd (upd (upd (upd r1 27 1) 28 (f_X6_part b 23 39)) 29 (f_X6_part b 40 56)) 30 t) 28 = f_X6_part b 23 39 := by rw [upd_no _ _ (by decide), upd_no _ _ (by decide), upd_is]
        have e3 : (upd (upd (upd (upd r1 27 1) 28 (f_X6_part b 23 39)) 29 (f_X6_part b 40 56)) 30 t) 29 = f_X6_part b 40 56 := by rw [upd_no _ _ (by decide), upd_is]
        have e4 : (upd (upd (upd (upd r1 27 1) 28 (f_X6_part b 23 39)) 29 (f_X6_part b 40 56)) 30 t) 30 = t := by rw [upd_is]
        rw [e1, e2, e3, e4, updL_is, upd_is]
        exact Or.inl ⟨rfl, c4, c5, c3, rfl⟩
      · have e1 : (upd (upd (upd (upd r1 27 1) 28 (f_X6_part b 23 39)) 29 (f_X6_part b 40 56)) 30 t) 31 = r1 31 := by rw [upd_no _ _ (by decide), upd_no _ _ (by decide), upd_no _ _ (by decide), upd_no _ _ (by decide)]
        have e2 : (upd (upd (upd (upd r1 27 1) 28 (f_X6_part b 23 39)) 29 (f_X6_part b 40 56)) 30 t) 32 = r1 32 := by rw [upd_no _ _ (by decide), upd_no _ _ (by decide), upd_no _ _ (by decide), upd_no _ _ (by decide)]
        have e3 : (upd (upd (upd (upd r1 27 1) 28 (f_X6_part b 23 39)) 29 (f_X6_part b 40 56)) 30 t) 33 = r1 33 := by rw [upd_no _ _ (by decide), upd_no _ _ (by decide), upd_no _ _ (by decide), upd_no _ _ (by decide)]
        have e4 : (upd (upd (upd (upd r1 27 1) 28 (f_X6_part b 23 39)) 29 (f_X6_part b 40 56)) 30 t) 34 = r1 34 := by rw [upd_no _ _ (by decide), upd_no _ _ (by decide), upd_no _ _ (by decide), upd_no _ _ (by decide)]
        rw [e1, e2, e3, e4, updL_no _ _ (by decide), upd_no ct _ (by decide)]
        exact h.2.2.2
    have hp2 : Pl a (upd (upd (upd (upd r1 27 1) 28 (f_X6_part b 23 39)) 29 (f_X6_part b 40 56)) 30 t) := (((hp.v 27 (Or.inr (by decide)) _).v 28 (Or.inr (by decide)) _).v 29 (Or.inr (by decide)) _).v 30 (Or.inr (by decide)) _
    have g1 : (upd (upd (upd (upd r1 27 1) 28 (f_X6_part b 23 39)) 29 (f_X6_part b 40 56)) 30 t) 31 = r1 31 := by rw [upd_no _ _ (by decide), upd_no _ _ (by decide), upd_no _ _ (by decide), upd_no _ _ (by decide)]
    have g4 : (upd (upd (upd (upd r1 27 1) 28 (f_X6_part b 23 39)) 29 (f_X6_part b 40 56)) 30 t) 34 = r1 34 := by rw [upd_no _ _ (by decide), upd_no _ _ (by decide), upd_no _ _ (by decide), upd_no _ _ (by decide)]
    have g15 : (upd (upd (upd (upd r1 27 1) 28 (f_X6_part b 23 39)) 29 (f_X6_part b 40 56)) 30 t) 15 = r1 15 := by rw [upd_no _ _ (by decide), upd_no _ _ (by decide), upd_no _ _ (by decide), upd_no _ _ (by decide)]
    have g16 : (upd (upd (upd (upd r1 27 1) 28 (f_X6_part b 23 39)) 29 (f_X6_part b 40 56)) 30 t) 16 = r1 16 := by rw [upd_no _ _ (by decide), upd_no _ _ (by decide), upd_no _ _ (by decide), upd_no _ _ (by decide)]
    have g17 : (upd (upd (upd (upd r1 27 1) 28 (f_X6_part b 23 39)) 29 (f_X6_part b 40 56)) 30 t) 17 = r1 17 := by rw [upd_no _ _ (by decide), upd_no _ _ (by decide), upd_no _ _ (by decide), upd_no _ _ (by decide)]
    generalize (upd (upd (upd (upd r1 27 1) 28 (f_X6_part b 23 39)) 29 (f_X6_part b 40 56)) 30 t) = r2 at *
    rw [putR_at rw r2 i (w := 31) (by decide), putR_at rw r2 i (w := 34) (by decide), putR_at rw r2 i (w := 15) (by decide), putR_at rw r2 i (w := 16) (by decide), g1, g4, g15, g16, ← fresh_eq hr2 rw hi t, updL_is, updL_no co _ (show 1 ≠ 0 by decide), upd_no ct _ (show 1 ≠ 0 by decide)]
    by_cases hf : f_X3_hasFreshPlace va1 t = 0
    · rw [if_pos hf, if_pos hf]
      rcases h.2.2.2 with ⟨f1, f2, f3, f4, f5⟩ | ⟨f1, f2⟩
      · rw [if_pos f1, f4, if_neg (code_m1 f2 f3), f5]
        by_cases hd : (100 : Int32) < t - r1 34
        · rw [if_pos hd, if_pos hd]
          exact ⟨r2, rfl, hr2, hp2⟩
        · rw [if_neg hd, if_neg hd]
          exact keep_eq hr2 hp2 rw hi t (glob_case hbd lat lon _ _ _ hcr (code_rng f2 f3))
      · rw [if_neg f1, if_pos f2]
        exact ⟨r2, rfl, hr2, hp2⟩
    · rw [if_neg hf, if_neg hf, last_eq h]
      have hf2 : ¬ r1 17 = -2147483648 := by
        rw [fresh_eq hr2 rw hi t] at hf
        have := fresh_1 hi hf
        rw [g17] at this
        exact this
      exact keep_eq hr2 hp2 rw hi t (loc_case hbd lat lon _ _ _ _ _ hcr.1 hcr.2 (hp.2 hf2))
  · simp only [if_neg hodd]
    have hx : f_X6_inAir_x212a (putR rw i r1) (nI i) b t = (r1 28).toInt64 * (131072 : Int64) + (r1 29).toInt64 := by
      unfold f_X6_inAir_x212a
      simp only [q27, q28, q29, q30, q31, q32, q33, q34]
      rw [putR_upd _ _ _ (w := 31) (by decide), putR_upd _ _ _ (w := 32) (by decide), putR_upd _ _ _ (w := 33) (by decide), putR_upd _ _ _ (w := 34) (by decide), putR_at _ _ _ (by decide), putR_at _ _ _ (by decide)]
      rw [upd_no _ _ (by decide), upd_no _ _ (by decide), upd_no _ _ (by decide), upd_no _ _ (by decide), upd_no _ _ (by decide), upd_no _ _ (by decide), upd_no _ _ (by decide), upd_no _ _ (by decide)]
    simp only [hx, q27, q28, q29, q30, q31, q32, q33, q34, a15, a16]
    rw [putR_upd _ _ _ (w := 31) (by decide), putR_upd _ _ _ (w := 32) (by decide), putR_upd _ _ _ (w := 33) (by decide), putR_upd _ _ _ (w := 34) (by decide)]
    have hr2 : Row va1 le (vp_updL co 1 (f_X6_toldNow b)) (upd ct 1 t) (upd (upd (upd (upd r1 31 1) 32 (f_X6_part b 23 39)) 33 (f_X6_part b 40 56)) 34 t) := by
      refine ⟨fun v hv => ?_, fun k hk => ?_, ?_, ?_⟩
      · rw [upd_no _ _ (by omega), upd_no _ _ (by omega), upd_no _ _ (by omega), upd_no _ _ (by omega)]; exact h.1 v hv
      · rw [upd_no _ _ (by omega), upd_no _ _ (by omega), upd_no _ _ (by omega), upd_no _ _ (by omega), upd_no _ _ (by omega), upd_no _ _ (by omega), upd_no _ _ (by omega), upd_no _ _ (by omega)]; exact h.2.1 k hk
      · have e1 : (upd (upd (upd (upd r1 31 1) 32 (f_X6_part b 23 39)) 33 (f_X6_part b 40 56)) 34 t) 27 = r1 27 := by rw [upd_no _ _ (by decide), upd_no _ _ (by decide), upd_no _ _ (by decide), upd_no _ _ (by decide)]
        have e2 : (upd (upd (upd (upd r1 31 1) 32 (f_X6_part b 23 39)) 33 (f_X6_part b 40 56)) 34 t) 28 = r1 28 := by rw [upd_no _ _ (by decide), upd_no _ _ (by decide), upd_no _ _ (by decide), upd_no _ _ (by decide)]
        have e3 : (upd (upd (upd (upd r1 31 1) 32 (f_X6_part b 23 39)) 33 (f_X6_part b 40 56)) 34 t) 29 = r1 29 := by rw [upd_no _ _ (by decide), upd_no _ _ (by decide), upd_no _ _ (by decide), upd_no _ _ (by decide)]
        have e4 : (upd (upd (upd (upd r1 31 1) 32 (f_X6_part b 23 39)) 33 (f_X6_part b 40 56)) 34 t) 30 = r1 30 := by rw [upd_no _ _ (by decide), upd_no _ _ (by decide), upd_no _ _ (by decide), upd_no _ _ (by decide)]
        rw [e1, e2, e3, e4, updL_no _ _ (by decide), upd_no ct _ (by decide)]
        exact h.2.2.1
      · have e1 : (upd (upd (upd (upd r1 31 1) 32 (f_X6_part b 23 39)) 33 (f_X6_part b 40 56)) 34 t) 31 = 1 := by rw [upd_no _ _ (by decide), upd_no _ _ (by decide), upd_no _ _ (by decide), upd_is]
        have e2 : (upd (upd (upd (upd r1 31 1) 32 (f_X6_part b 23 39)) 33 (f_X6_part b 40 56)) 34 t) 32 = f_X6_part b 23 39 := by rw [upd_no _ _ (by decide), upd_no _ _ (by decide), upd_is]
        have e3 : (upd (upd (upd (upd r1 31 1) 32 (f_X6_part b 23 39)) 33 (f_X6_part b 40 56)) 34 t) 33 = f_X6_part b 40 56 := by rw [upd_no _ _ (by decide), upd_is]
        have e4 : (upd (upd (upd (upd r1 31 1) 32 (f_X6_part b 23 39)) 33 (f_X6_part b 40 56)) 34 t) 34 = t := by rw [upd_is]
        rw [e1, e2, e3, e4, updL_is, upd_is]
        exact Or.inl ⟨rfl, c4, c5, c3, rfl⟩
    have hp2 : Pl a (upd (upd (upd (upd r1 31 1) 32 (f_X6_part b 23 39)) 33 (f_X6_part b 40 56)) 34 t) := (((hp.v 31 (Or.inr (by decide)) _).v 32 (Or.inr (by decide)) _).v 33 (Or.inr (by decide)) _).v 34 (Or.inr (by decide)) _
    have g1 : (upd (upd (upd (upd r1 31 1) 32 (f_X6_part b 23 39)) 33 (f_X6_part b 40 56)) 34 t) 27 = r1 27 := by rw [upd_no _ _ (by decide), upd_no _ _ (by decide), upd_no _ _ (by decide), upd_no _ _ (by decide)]
    have g4 : (upd (upd (upd (upd r1 31 1) 32 (f_X6_part b 23 39)) 33 (f_X6_part b 40 56)) 34 t) 30 = r1 30 := by rw [upd_no _ _ (by decide), upd_no _ _ (by decide), upd_no _ _ (by decide), upd_no _ _ (by decide)]
    have g15 : (upd (upd (upd (upd r1 31 1) 32 (f_X6_part b 23 39)) 33 (f_X6_part b 40 56)) 34 t) 15 = r1 15 := by rw [upd_no _ _ (by decide), upd_no _ _ (by decide), upd_no _ _ (by decide), upd_no _ _ (by decide)]
    have g16 : (upd (upd (upd (upd r1 31 1) 32 (f_X6_part b 23 39)) 33 (f_X6_part b 40 56)) 34 t) 16 = r1 16 := by rw [upd_no _ _ (by decide), upd_no _ _ (by decide), upd_no _ _ (by decide), upd_no _ _ (by decide)]
    have g17 : (upd (upd (upd (upd r1 31 1) 32 (f_X6_part b 23 39)) 33 (f_X6_part b 40 56)) 34 t) 17 = r1 17 := by rw [upd_no _ _ (by decide), upd_no _ _ (by decide), upd_no _ _ (by decide), upd_no _ _ (by decide)]
    generalize (upd (upd (upd (upd r1 31 1) 32 (f_X6_part b 23 39)) 33 (f_X6_part b 40 56)) 34 t) = r2 at *
    rw [putR_at rw r2 i (w := 27) (by decide), putR_at rw r2 i (w := 30) (by decide), putR_at rw r2 i (w := 15) (by decide), putR_at rw r2 i (w := 16) (by decide), g1, g4, g15, g16, ← fresh_eq hr2 rw hi t, updL_is, updL_no co _ (show 0 ≠ 1 by decide), upd_no ct _ (show 0 ≠ 1 by decide)]
    by_cases hf : f_X3_hasFreshPlace va1 t = 0
    · rw [if_pos hf, if_pos hf]
      rcases h.2.2.1 with ⟨f1, f2, f3, f4, f5⟩ | ⟨f1, f2⟩
      · rw [if_pos f1, f4, if_neg (code_m1 f2 f3), f5]
        by_cases hd : (100 : Int32) < t - r1 30
        · rw [if_pos hd, if_pos hd]
          exact ⟨r2, rfl, hr2, hp2⟩
        · rw [if_neg hd, if_neg hd]
          exact keep_eq hr2 hp2 rw hi t (glob_case hbd lat lon _ _ _ (code_rng f2 f3) hcr)
      · rw [if_neg f1, if_pos f2]
        exact ⟨r2, rfl, hr2, hp2⟩
    · rw [if_neg hf, if_neg hf, last_eq h]
      have hf2 : ¬ r1 17 = -2147483648 := by
        rw [fresh_eq hr2 rw hi t] at hf
        have := fresh_1 hi hf
        rw [g17] at this
        exact this
      exact keep_eq hr2 hp2 rw hi t (loc_case hbd lat lon _ _ _ _ _ hcr.1 hcr.2 (hp.2 hf2))
theorem fill2 (co : Nat → Int64) (v : Int64) : f_J7_fill_d0a16_f co v 0 = v ∧ f_J7_fill_d0a16_f co v 1 = v := ⟨rfl, rfl⟩
def gnd3 (va1 : Nat → Int32) (w : Nat → Int32) (t : Int32) (own : Int64) : Nat → Int32 :=
  if (if (f_X3_hasFreshPlace va1 t) = 0 then own else (f_X3_lastPlace va1)) = (-9223372036854775808 : Int64) then va1 else (f_X3_keepPlace_va va1 (f_X2_placeNear (f_X3_codeIn w 112) (1 : Int32) (f_X3_isOdd w 112) (if (f_X3_hasFreshPlace va1 t) = 0 then own else (f_X3_lastPlace va1))) t)
theorem gnd3_eq (va : Nat → Int32) (co : Nat → Int64) (w : Nat → Int32) (t : Int32) (own : Int64) : f_X3_learnOnGround_va va co w 112 t own = gnd3 (upd (upd (upd va 14 (1 : Int32)) 9 (f_X1_groundSpeed (f_X4_message w 112 (6 : Int32) (12 : Int32)))) 10 (if (f_X4_message w 112 (13 : Int32) (13 : Int32)) = 0 then (-2147483648 : Int32) else (((360000 : Int32) * (f_X4_message w 112 (14 : Int32) (20 : Int32))) / (128 : Int32)))) w t own := rfl
def OwnR (own : Int64) (hpl ola olo : Int32) : Prop := (hpl = 0 ∧ own = -9223372036854775808) ∨ (¬ hpl = 0 ∧ own = f_X2_pack ola.toInt64 olo.toInt64 ∧ InR ola olo)
theorem gnd_row {a : Int32} {bd : Nat → Int64} (hbd : BD bd) {va1 le : Nat → Int32} {co : Nat → Int64} {ct r1 : Nat → Int32} (h : Row va1 le co ct r1) (hp : Pl a r1) (rw : Nat → Int32) {i : Nat} (hi : i < 20) {w b : Nat → Int32} (hs : Same w b) (lat lon t : Int32) {own : Int64} {hpl ola olo : Int32} (ho : OwnR own hpl ola olo) :
    ∃ r', f_X6_onGround_rw bd (putR rw i r1) b hpl ola olo lat lon (nI i) t = putR rw i r' ∧ Row (gnd3 va1 w t own) le co ct r' ∧ Pl a r' := by
  obtain ⟨c1, c2, c3, c4, c5⟩ := told_eq hs
  have hcr := code_rng c4 c5
  rw [← c3] at hcr
  have c2' : f_X3_isOdd w 112 = f_X6_onGround_x17 b := c2
  unfold f_X6_onGround_rw gnd3
  rw [c1, c2']
  have a15 : (f_X6_at (nI i) 15).toNatClampNeg = 40 * i + 15 := at_n (w := 15) hi (by decide)
  have a16 : (f_X6_at (nI i) 16).toNatClampNeg = 40 * i + 16 := at_n (w := 16) hi (by decide)
  rw [a15, a16, putR_at rw r1 i (w := 15) (by decide), putR_at rw r1 i (w := 16) (by decide), ← fresh_eq h rw hi t]
  by_cases hf : f_X3_hasFreshPlace va1 t = 0
  · rw [if_pos hf, if_pos hf]
    rcases ho with ⟨o1, o2⟩ | ⟨o1, o2, o3⟩
    · rw [if_pos o1, if_pos o2]
      exact ⟨r1, rfl, h, hp⟩
    · rw [if_neg o1, o2, if_neg (pack_no (InR_no o3))]
      exact keep_eq h hp rw hi t (loc_case hbd lat lon _ _ _ _ _ hcr.1 hcr.2 o3)
  · have hf2 : ¬ r1 17 = -2147483648 := by
      rw [fresh_eq h rw hi t] at hf
      exact fresh_1 hi hf
    have o3 := hp.2 hf2
    rw [if_neg hf, if_neg hf, last_eq h, if_neg (pack_no (InR_no o3))]
    exact keep_eq h hp rw hi t (loc_case hbd lat lon _ _ _ _ _ hcr.1 hcr.2 o3)
theorem gnd_codes {va le : Nat → Int32} {co : Nat → Int64} {ct r : Nat → Int32} (h : Row va le co ct r) : Row va le (f_J7_fill_d0a16_f co (-1)) ct (upd (upd r 27 0) 31 0) := by
  obtain ⟨h1, h2, h3, h4⟩ := h
  obtain ⟨f1, f2⟩ := fill2 co (-1)
  refine ⟨fun v hv => ?_, fun k hk => ?_, Or.inr ⟨?_, f1⟩, Or.inr ⟨?_, f2⟩⟩
  · rw [upd_no _ _ (by omega), upd_no _ _ (by omega)]; exact h1 v hv
  · rw [upd_no _ _ (by omega), upd_no _ _ (by omega), upd_no _ _ (by omega), upd_no _ _ (by omega)]; exact h2 k hk
  · rw [upd_no _ _ (by decide), upd_is]; decide
  · rw [upd_is]; decide
/-! the eight signs -/
theorem le_lp (va w : Nat → Int32) (len a1 : Int32) : ∀ (n s : Nat) (g : Nat → Int32), s + n = 8 → ∀ m, f_X3_learnName_lp_le va w len a1 n (nI s) g m = if s ≤ m ∧ m < 8 then f_X1_letter (f_X4_message w len (nI (9 + 6 * m)) (nI (14 + 6 * m))) else g m
  | 0, s, g, h, m => by rw [if_neg (by omega)]; rfl
  | n + 1, s, g, h, m => by
    show f_X3_learnName_lp_le va w len a1 n (nI s + 1) (upd g (nI s).toNatClampNeg (f_X1_letter (f_X4_message w len ((9 : Int32) + ((6 : Int32) * nI s)) ((14 : Int32) + ((6 : Int32) * nI s))))) m = _
    have e6 : (6 : Int32) * nI s = nI (6 * s) := pk_mul 6 s
    have e9 : (9 : Int32) + nI (6 * s) = nI (9 + 6 * s) := nI_add 9 (6 * s)
    have e14 : (14 : Int32) + nI (6 * s) = nI (14 + 6 * s) := nI_add 14 (6 * s)
    rw [e6, e9, e14, nI_1, nI_clamp (by omega), le_lp va w len a1 n (s + 1) _ (by omega) m]
    by_cases h1 : m = s
    · subst h1
      rw [if_neg (by omega), upd_is, if_pos (by omega)]
    · rw [upd_no _ _ h1]
      by_cases h2 : s ≤ m ∧ m < 8
      · rw [if_pos h2, if_pos (by omega)]
      · rw [if_neg h2, if_neg (by omega)]
def lett (v : Int32) : Int32 := (if v < (1 : Int32) then (if v = (32 : Int32) then v else (if v < (48 : Int32) then (63 : Int32) else (if (57 : Int32) < v then (63 : Int32) else v))) else (if (26 : Int32) < v then (if v = (32 : Int32) then v else (if v < (48 : Int32) then (63 : Int32) else (if (57 : Int32) < v then (63 : Int32) else v))) else ((64 : Int32) + v)))
theorem sl_lp (b rw : Nat → Int32) {i : Nat} (hi : i < 20) : ∀ (n s : Nat) (r : Nat → Int32), s + n = 8 → f_X6_tells_sl b (nI i) n (nI s) (putR rw i r) = putR rw i (fun m => if 19 + s ≤ m ∧ m < 27 then lett (f_X6_part b (nI (9 + 6 * (m - 19))) (nI (14 + 6 * (m - 19)))) else r m)
  | 0, s, r, h => by
    show putR rw i r = _
    congr 1
    funext m
    rw [if_neg (by omega)]
  | n + 1, s, r, h => by
    have e6 : (6 : Int32) * nI s = nI (6 * s) := pk_mul 6 s
    have e9 : (9 : Int32) + nI (6 * s) = nI (9 + 6 * s) := nI_add 9 (6 * s)
    have e14 : (14 : Int32) + nI (6 * s) = nI (14 + 6 * s) := nI_add 14 (6 * s)
    have e19 : (19 : Int32) + nI s = nI (19 + s) := nI_add 19 s
    have ex : f_X6_tells_x91 b (nI s) = f_X6_part b (nI (9 + 6 * s)) (nI (14 + 6 * s)) := by
      unfold f_X6_tells_x91
      rw [e6, e9, e14]
    show f_X6_tells_sl b (nI i) n (nI s + 1) (upd (putR rw i r) (f_X6_at (nI i) ((19 : Int32) + nI s)).toNatClampNeg (lett (f_X6_tells_x91 b (nI s)))) = _
    rw [ex, e19, at_n hi (by omega), putR_upd _ _ _ (by omega), nI_1, sl_lp b rw hi n (s + 1) _ (by omega)]
    congr 1
    funext m
    by_cases h1 : m = 19 + s
    · subst h1
      rw [if_neg (by omega), upd_is, if_pos (by omega), show 19 + s - 19 = s by omega]
    · rw [upd_no _ _ h1]
      by_cases h2 : 19 + s ≤ m ∧ m < 27
      · rw [if_pos h2, if_pos (by omega)]
      · rw [if_neg h2, if_neg (by omega)]
def nameR (b r : Nat → Int32) (cat : Int32) : Nat → Int32 := fun m => if 19 + 0 ≤ m ∧ m < 27 then lett (f_X6_part b (nI (9 + 6 * (m - 19))) (nI (14 + 6 * (m - 19)))) else upd (upd r 6 cat) 18 1 m
theorem nameR_out (b r : Nat → Int32) (cat : Int32) {v : Nat} (h : v < 19 ∨ 27 ≤ v) : nameR b r cat v = upd (upd r 6 cat) 18 1 v := if_neg (by omega)
theorem nameR_in (b r : Nat → Int32) (cat : Int32) {k : Nat} (h : k < 8) : nameR b r cat (19 + k) = lett (f_X6_part b (nI (9 + 6 * k)) (nI (14 + 6 * k))) := by
  have e : nameR b r cat (19 + k) = lett (f_X6_part b (nI (9 + 6 * (19 + k - 19))) (nI (14 + 6 * (19 + k - 19)))) := if_pos (by omega)
  rw [e, show 19 + k - 19 = k by omega]
theorem nameR_far (b r : Nat → Int32) (cat : Int32) {v : Nat} (h : (v < 18 ∧ v ≠ 6) ∨ 27 ≤ v) : nameR b r cat v = r v := by
  rw [nameR_out b r cat (by omega), upd_no _ _ (by omega), upd_no _ _ (by omega)]
theorem name_row {a : Int32} {va le : Nat → Int32} {co : Nat → Int64} {ct r : Nat → Int32} (h : Row va le co ct r) (hp : Pl a r) (rw : Nat → Int32) {i : Nat} (hi : i < 20) {w b : Nat → Int32} (hs : Same w b) (cat : Int32) :
    ∃ r', f_X6_tells_sl b (nI i) 8 (0 : Int32) (upd (upd (putR rw i r) (f_X6_at (nI i) (6 : Int32)).toNatClampNeg cat) (f_X6_at (nI i) (18 : Int32)).toNatClampNeg (1 : Int32)) = putR rw i r' ∧ Row (f_X3_learnName_va va le w 112 cat) (f_X3_learnName_le va le w 112 cat) co ct r' ∧ Pl a r' := by
  have a6 : (f_X6_at (nI i) 6).toNatClampNeg = 40 * i + 6 := at_n (w := 6) hi (by decide)
  have a18 : (f_X6_at (nI i) 18).toNatClampNeg = 40 * i + 18 := at_n (w := 18) hi (by decide)
  have hb := same_bits hs
  rw [a6, a18, putR_upd _ _ _ (by decide), putR_upd _ _ _ (by decide)]
  have hsl : f_X6_tells_sl b (nI i) 8 (0 : Int32) (putR rw i (upd (upd r 6 cat) 18 1)) = putR rw i (nameR b r cat) := sl_lp b rw hi 8 0 (upd (upd r 6 cat) 18 1) (by decide)
  refine ⟨nameR b r cat, hsl, ⟨fun v hv => ?_, fun k hk => ?_, ?_, ?_⟩, ?_⟩
  · have e : f_X3_learnName_va va le w 112 cat = upd va 6 cat := rfl
    rw [e]
    by_cases hv6 : v = 6
    · subst hv6
      rw [nameR_out b r cat (Or.inl (by decide)), upd_no (upd r 6 cat) _ (show 6 ≠ 18 by decide), upd_is, upd_is]
    · rw [nameR_far b r cat (Or.inl ⟨hv, hv6⟩), upd_no _ _ hv6, h.1 v hv]
  · have e := le_lp va w 112 cat 8 0 le (by decide) k
    rw [if_pos (by omega)] at e
    have e2 : f_X3_learnName_le va le w 112 cat k = f_X1_letter (f_X4_message w 112 (nI (9 + 6 * k)) (nI (14 + 6 * k))) := e
    have e18 : nameR b r cat 18 = 1 := by rw [nameR_out b r cat (Or.inl (by decide)), upd_is]
    rw [e2, e18, if_pos rfl, nameR_in b r cat hk, msg_eq hs (by omega) (by omega) (by omega) (by omega)]
    obtain ⟨m, hm, em⟩ := part_rng hb (x := 9 + 6 * k) (y := 14 + 6 * k) 6 (by omega) (by omega) (by omega) (by decide)
    rw [em]
    exact letter_eq m hm
  · rw [nameR_far b r cat (Or.inr (show 27 ≤ 27 by decide)), nameR_far b r cat (Or.inr (show 27 ≤ 28 by decide)), nameR_far b r cat (Or.inr (show 27 ≤ 29 by decide)), nameR_far b r cat (Or.inr (show 27 ≤ 30 by decide))]
    exact h.2.2.1
  · rw [nameR_far b r cat (Or.inr (show 27 ≤ 31 by decide)), nameR_far b r cat (Or.inr (show 27 ≤ 32 by decide)), nameR_far b r cat (Or.inr (show 27 ≤ 33 by decide)), nameR_far b r cat (Or.inr (show 27 ≤ 34 by decide))]
    exact h.2.2.2
  · unfold Pl
    rw [nameR_far b r cat (v := 0) (Or.inl ⟨by decide, by decide⟩), nameR_far b r cat (v := 17) (Or.inl ⟨by decide, by decide⟩), nameR_far b r cat (v := 15) (Or.inl ⟨by decide, by decide⟩), nameR_far b r cat (v := 16) (Or.inl ⟨by decide, by decide⟩)]
    exact hp
