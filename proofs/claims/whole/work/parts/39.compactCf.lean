theorem near_eq {P Z Y t : Int64} (hs : -11000000000 ≤ P.toInt * Z.toInt ∧ P.toInt * Z.toInt ≤ 11000000000) (ht : t = 360000000 ∨ t = 90000000) (hY : 0 ≤ Y.toInt ∧ Y.toInt < 131072) :
    f_X2_stepNear P Y Z t = f_X6_nearest P Z t Y ∧ 2 * (P.toInt * Z.toInt) * 131072 - t.toInt * 131072 < 2 * t.toInt * (f_X6_nearest P Z t Y).toInt ∧ 2 * t.toInt * (f_X6_nearest P Z t Y).toInt ≤ 2 * (P.toInt * Z.toInt) * 131072 + t.toInt * 131072 := by
  have h0 : (P * Z).toInt = P.toInt * Z.toInt := fb_mulL (by omega) (by omega)
  have h := near_s (s := P * Z) (Y := Y) (t := t) (by rw [h0]; exact hs) ht hY
  rw [h0] at h
  have h1 : f_X2_stepNear P Y Z t = f_X6_nearest P Z t Y := h.1
  refine ⟨h1, ?_, ?_⟩
  · rw [← h1]; exact h.2.1
  · rw [← h1]; exact h.2.2
