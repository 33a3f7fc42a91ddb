/-- the step that is nearest: one formula on either side -/
theorem near_s {s Y t : Int64} (hs : -11000000000 ≤ s.toInt ∧ s.toInt ≤ 11000000000) (ht : t = 360000000 ∨ t = 90000000) (hY : 0 ≤ Y.toInt ∧ Y.toInt < 131072) :
    ((131072 : Int64) * (f_X2_quotient ((s * (131072 : Int64)) + (t * ((65536 : Int64) - Y))) (t * (131072 : Int64)))) + Y = (((f_X6_down s t) + (f_X6_down (((t * (131072 : Int64)) + (((2 : Int64) * (f_X6_rest s t)) * (131072 : Int64))) - (((2 : Int64) * Y) * t)) (((2 : Int64) * t) * (131072 : Int64)))) * (131072 : Int64)) + Y
    ∧ 2 * s.toInt * 131072 - t.toInt * 131072 < 2 * t.toInt * (((131072 : Int64) * (f_X2_quotient ((s * (131072 : Int64)) + (t * ((65536 : Int64) - Y))) (t * (131072 : Int64)))) + Y).toInt
    ∧ 2 * t.toInt * (((131072 : Int64) * (f_X2_quotient ((s * (131072 : Int64)) + (t * ((65536 : Int64) - Y))) (t * (131072 : Int64)))) + Y).toInt ≤ 2 * s.toInt * 131072 + t.toInt * 131072 := by
  obtain ⟨hs1, hs2⟩ := hs
  obtain ⟨hY1, hY2⟩ := hY
  rcases ht with e | e <;> subst e
  · obtain ⟨A, -, -⟩ := near_a1 (s := s) (Y := Y) hs1 hs2 hY1 hY2
    have B := near_a2 (s := s) (Y := Y) hs1 hs2 hY1 hY2
    have E := nearI (T := 360000000) (S := s.toInt) (Y := Y.toInt) (by decide)
    rw [show (360000000 : Int) * 131072 = 47185920000000 by decide] at E
    refine ⟨?_, ?_, ?_⟩
    · rw [fa_eq64, A, B, ← E, Int.mul_comm 131072, show (360000000 : Int) * 131072 = 47185920000000 by decide]
    · rw [A, show (360000000 : Int64).toInt = 360000000 from rfl]; clear A B E; omega
    · rw [A, show (360000000 : Int64).toInt = 360000000 from rfl]; clear A B E; omega
  · obtain ⟨A, -, -⟩ := near_g1 (s := s) (Y := Y) hs1 hs2 hY1 hY2
    have B := near_g2 (s := s) (Y := Y) hs1 hs2 hY1 hY2
    have E := nearI (T := 90000000) (S := s.toInt) (Y := Y.toInt) (by decide)
    rw [show (90000000 : Int) * 131072 = 11796480000000 by decide] at E
    refine ⟨?_, ?_, ?_⟩
    · rw [fa_eq64, A, B, ← E, Int.mul_comm 131072, show (90000000 : Int) * 131072 = 11796480000000 by decide]
    · rw [A, show (90000000 : Int64).toInt = 90000000 from rfl]; clear A B E; omega
    · rw [A, show (90000000 : Int64).toInt = 90000000 from rfl]; clear A B E; omega
