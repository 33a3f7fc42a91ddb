/-! a whole message -/
theorem su_tab : ∀ m, m < 8 → (nI m < (1 : Int32) ↔ m < 1) ∧ (nI m ≤ (4 : Int32) ↔ m ≤ 4) ∧ ((4 : Int32) < nI m ↔ 4 < m) ∧ ((2 : Int32) < nI m ↔ 2 < m) ∧ ((3 : Int32) ≤ nI m ↔ 2 < m) ∧ (nI m = (1 : Int32) ↔ m = 1) := by decide +kernel
theorem un_tab : ∀ m, m < 8 → 1 ≤ m → m ≤ 4 → ((if nI m = (2 : Int32) then (4 : Int32) else (if nI m = (4 : Int32) then (4 : Int32) else (1 : Int32))) = f_X6_moves_x11 (nI m) ∧ (f_X6_moves_x11 (nI m) = nI 1 ∨ f_X6_moves_x11 (nI m) = nI 4)) := by decide +kernel
theorem neg1 (x : Int32) : x * (1 : Int32) = x := Int32.mul_one x
theorem mot_row {a : Int32} {va le : Nat → Int32} {co : Nat → Int64} {ct r : Nat → Int32} (h : Row va le co ct r) (hp : Pl a r) (rw : Nat → Int32) {i : Nat} (hi : i < 20) {w b : Nat → Int32} (hs : Same w b) {m : Nat} (h1 : 1 ≤ m) (h4 : m ≤ 4) :
    ∃ r', f_X6_moves_rw (putR rw i r) b (nI i) (nI m) = putR rw i r' ∧ Row (f_X3_learnMotion_va va w 112 (nI m)) le co ct r' ∧ Pl a r' := by
  have hb := same_bits hs
  obtain ⟨s1, s2, s3, s4, s5, s6⟩ := su_tab m (by omega)
  obtain ⟨u1, u2⟩ := un_tab m (by omega) h1 h4
  have a7 : (f_X6_at (nI i) 7).toNatClampNeg = 40 * i + 7 := at_n (w := 7) hi (by decide)
  have a8 : (f_X6_at (nI i) 8).toNatClampNeg = 40 * i + 8 := at_n (w := 8) hi (by decide)
  have a9 : (f_X6_at (nI i) 9).toNatClampNeg = 40 * i + 9 := at_n (w := 9) hi (by decide)
  have a10 : (f_X6_at (nI i) 10).toNatClampNeg = 40 * i + 10 := at_n (w := 10) hi (by decide)
  have a11 : (f_X6_at (nI i) 11).toNatClampNeg = 40 * i + 11 := at_n (w := 11) hi (by decide)
  have m14 : f_X4_message w 112 14 14 = f_X6_part b 14 14 := msg_eq hs (x := 14) (y := 14) (by decide) (by decide) (by decide) (by decide)
  have m15 : f_X4_message w 112 15 24 = f_X6_part b 15 24 := msg_eq hs (x := 15) (y := 24) (by decide) (by decide) (by decide) (by decide)
  have m25 : f_X4_message w 112 25 25 = f_X6_part b 25 25 := msg_eq hs (x := 25) (y := 25) (by decide) (by decide) (by decide) (by decide)
  have m26 : f_X4_message w 112 26 35 = f_X6_part b 26 35 := msg_eq hs (x := 26) (y := 35) (by decide) (by decide) (by decide) (by decide)
  have m37 : f_X4_message w 112 37 37 = f_X6_part b 37 37 := msg_eq hs (x := 37) (y := 37) (by decide) (by decide) (by decide) (by decide)
  have m38 : f_X4_message w 112 38 46 = f_X6_part b 38 46 := msg_eq hs (x := 38) (y := 46) (by decide) (by decide) (by decide) (by decide)
  have hcl : f_X1_lessOne (f_X6_part b 38 46) (64 : Int32) (f_X6_part b 37 37) = (if (f_X6_part b (38 : Int32) (46 : Int32)) = 0 then (-2147483648 : Int32) else (if (f_X6_part b (37 : Int32) (37 : Int32)) = (1 : Int32) then (((64 : Int32) * ((f_X6_part b (38 : Int32) (46 : Int32)) - (1 : Int32))) * (-1 : Int32)) else (((64 : Int32) * ((f_X6_part b (38 : Int32) (46 : Int32)) - (1 : Int32))) * (1 : Int32)))) := less_eq _ _ _
  unfold f_X6_moves_rw f_X3_learnMotion_va
  have n1 : ¬ nI m < (1 : Int32) := fun q => by have := s1.mp q; omega
  rw [if_neg n1, if_pos (s2.mpr h4), u1, m14, m15, m25, m26, m37, m38, hcl]
  by_cases h2 : 2 < m
  · rw [if_pos (s5.mpr h2), if_pos (s4.mpr h2), a9, a10, a11, putR_upd _ _ _ (by decide), putR_upd _ _ _ (by decide), putR_upd _ _ _ (by decide)]
    have hsp : f_X1_lessOne (f_X6_part b 26 35) ((8 : Int32) * f_X6_moves_x11 (nI m)) (0 : Int32) = (if (f_X6_part b (26 : Int32) (35 : Int32)) = 0 then (-2147483648 : Int32) else (((8 : Int32) * (f_X6_moves_x11 (nI m))) * ((f_X6_part b (26 : Int32) (35 : Int32)) - (1 : Int32)))) := by
      rw [less_eq, if_neg (show ¬ (0 : Int32) = 1 by decide), neg1]
    rw [hsp]
    exact ⟨_, rfl, ((h.v 10 (by decide) _).v 9 (by decide) _).v 11 (by decide) _, ((hp.v 10 (Or.inl (by decide)) _).v 9 (Or.inl (by decide)) _).v 11 (Or.inl (by decide)) _⟩
  · rw [if_neg (fun q => h2 (s5.mp q)), if_neg (fun q => h2 (s4.mp q)), a7, a8, a9, a11, putR_upd _ _ _ (by decide), putR_upd _ _ _ (by decide), putR_upd _ _ _ (by decide), putR_upd _ _ _ (by decide)]
    have he : f_X1_lessOne (f_X6_part b 15 24) (f_X6_moves_x11 (nI m)) (f_X6_part b 14 14) = f_X6_moves_x71b b (nI m) := less_eq _ _ _
    have hn : f_X1_lessOne (f_X6_part b 26 35) (f_X6_moves_x11 (nI m)) (f_X6_part b 25 25) = f_X6_moves_x107b b (nI m) := less_eq _ _ _
    have hsp : f_X1_speedOf (f_X6_moves_x71b b (nI m)) (f_X6_moves_x107b b (nI m)) = (if (f_X6_part b (15 : Int32) (24 : Int32)) = 0 then (-2147483648 : Int32) else (if (f_X6_part b (26 : Int32) (35 : Int32)) = 0 then (-2147483648 : Int32) else (f_X6_root ((64 : Int32) * (((f_X6_moves_x71b b (nI m)) * (f_X6_moves_x71b b (nI m))) + ((f_X6_moves_x107b b (nI m)) * (f_X6_moves_x107b b (nI m)))))))) := by
      by_cases g1 : f_X6_part b (15 : Int32) (24 : Int32) = 0
      · rw [if_pos g1]
        have e : f_X6_moves_x71b b (nI m) = -2147483648 := by unfold f_X6_moves_x71b; rw [if_pos g1]
        unfold f_X1_speedOf
        rw [if_pos e]
      · by_cases g2 : f_X6_part b (26 : Int32) (35 : Int32) = 0
        · rw [if_neg g1, if_pos g2]
          have e : f_X6_moves_x107b b (nI m) = -2147483648 := by unfold f_X6_moves_x107b; rw [if_pos g2]
          unfold f_X1_speedOf
          rw [if_pos e]
          split <;> rfl
        · rw [if_neg g1, if_neg g2, ← he, ← hn]
          obtain ⟨p, hp1, ep⟩ : ∃ p : Nat, p < 2 ^ 10 ∧ f_X6_part b 15 24 = nI p := part_rng hb (x := 15) (y := 24) 10 (by decide) (by decide) (by decide) (by decide)
          obtain ⟨q, hq1, eq⟩ : ∃ p : Nat, p < 2 ^ 10 ∧ f_X6_part b 26 35 = nI p := part_rng hb (x := 26) (y := 35) 10 (by decide) (by decide) (by decide) (by decide)
          rw [ep] at g1 ⊢
          rw [eq] at g2 ⊢
          have p0 : ¬ p = 0 := fun z => g1 (by rw [z]; rfl)
          have q0 : ¬ q = 0 := fun z => g2 (by rw [z]; rfl)
          rcases u2 with u | u <;> rw [u]
          · exact speedOf_eq (less_rng hp1 p0 (Or.inl rfl)) (less_rng hq1 q0 (Or.inl rfl))
          · exact speedOf_eq (less_rng hp1 p0 (Or.inr rfl)) (less_rng hq1 q0 (Or.inr rfl))
    rw [he, hn, hsp]
    exact ⟨_, rfl, (((h.v 7 (by decide) _).v 8 (by decide) _).v 9 (by decide) _).v 11 (by decide) _, (((hp.v 7 (Or.inl (by decide)) _).v 8 (Or.inl (by decide)) _).v 9 (Or.inl (by decide)) _).v 11 (Or.inl (by decide)) _⟩
theorem ty_tab : ∀ m, m < 32 → (nI m < (1 : Int32) ↔ m < 1) ∧ ((4 : Int32) < nI m ↔ 4 < m) ∧ (nI m < (5 : Int32) ↔ m < 5) ∧ ((8 : Int32) < nI m ↔ 8 < m) ∧ (nI m = (19 : Int32) ↔ m = 19) ∧ (nI m < (9 : Int32) ↔ m < 9) ∧ ((22 : Int32) < nI m ↔ 22 < m) ∧ (nI m = (28 : Int32) ↔ m = 28) ∧ (nI m = (31 : Int32) ↔ m = 31) ∧ ((18 : Int32) < nI m ↔ 18 < m) ∧ ((19 : Int32) ≤ nI m ↔ 18 < m) := by decide +kernel
set_option maxHeartbeats 4000000 in
theorem tells_row {a : Int32} {bd : Nat → Int64} (hbd : BD bd) {va le : Nat → Int32} {co : Nat → Int64} {ct r : Nat → Int32} (h : Row va le co ct r) (hp : Pl a r) (rw : Nat → Int32) {i : Nat} (hi : i < 20) {w b : Nat → Int32} (hs : Same w b) (hof : ¬ f_X4_isOf w 112 393216 = 0) (lat lon t : Int32) {own : Int64} {hpl ola olo : Int32} (ho : OwnR own hpl ola olo) :
    ∃ r', f_X6_tells_rw bd (putR rw i r) b hpl ola olo lat lon (nI i) t = putR rw i r' ∧ Row (f_X3_learnMessage_va va le co ct w 112 t own) (f_X3_learnMessage_le va le co ct w 112 t own) (f_X3_learnMessage_co va le co ct w 112 t own) (f_X3_learnMessage_ct va le co ct w 112 t own) r' ∧ Pl a r' := by
  have hb := same_bits hs
  have mTY : f_X4_message w 112 1 5 = f_X6_part b 1 5 := msg_eq hs (x := 1) (y := 5) (by decide) (by decide) (by decide) (by decide)
  have mSU : f_X4_message w 112 6 8 = f_X6_part b 6 8 := msg_eq hs (x := 6) (y := 8) (by decide) (by decide) (by decide) (by decide)
  obtain ⟨m, hm, em⟩ : ∃ m : Nat, m < 2 ^ 5 ∧ f_X6_part b 1 5 = nI m := part_rng hb (x := 1) (y := 5) 5 (by decide) (by decide) (by decide) (by decide)
  obtain ⟨k, hk, ek⟩ : ∃ m : Nat, m < 2 ^ 3 ∧ f_X6_part b 6 8 = nI m := part_rng hb (x := 6) (y := 8) 3 (by decide) (by decide) (by decide) (by decide)
  obtain ⟨t1, t2, t3, t4, t5, t6, t7, t8, t9, t10, t11⟩ := ty_tab m (by omega)
  obtain ⟨s1, s2, s3, s4, s5, s6⟩ := su_tab k (by omega)
  unfold f_X6_tells_rw f_X6_tells_c166_rw f_X6_tells_c293_rw f_X6_tells_c379_rw f_X6_tells_c407_rw f_X6_tells_c465_rw
  unfold f_X3_learnMessage_va f_X3_learnMessage_le f_X3_learnMessage_co f_X3_learnMessage_ct
  rw [mTY, mSU, em, ek]
  simp only [if_neg hof]
  by_cases g0 : m < 1
  · -- nothing
    have c1 : nI m < (1 : Int32) := t1.mpr (by omega)
    have c3 : nI m < (5 : Int32) := t3.mpr (by omega)
    have c6 : nI m < (9 : Int32) := t6.mpr (by omega)
    have c5 : ¬ nI m = (19 : Int32) := fun q => by have := t5.mp q; omega
    have c8 : ¬ nI m = (28 : Int32) := fun q => by have := t8.mp q; omega
    have c9 : ¬ nI m = (31 : Int32) := fun q => by have := t9.mp q; omega
    simp only [if_pos c1, if_pos c3, if_pos c6, if_neg c5, if_neg c8, if_neg c9]
    exact ⟨r, rfl, h, hp⟩
  by_cases gA : m < 5
  · -- 1 .. 4
    have c1 : ¬ nI m < (1 : Int32) := fun q => by have := t1.mp q; omega
    have c2 : ¬ (4 : Int32) < nI m := fun q => by have := t2.mp q; omega
    simp only [if_neg c1, if_neg c2]
    exact name_row h hp rw hi hs _
  by_cases gB : m < 9
  · -- 5 .. 8
    have c2 : (4 : Int32) < nI m := t2.mpr (by omega)
    have c1 : ¬ nI m < (1 : Int32) := fun q => by have := t1.mp q; omega
    have c3 : ¬ nI m < (5 : Int32) := fun q => by have := t3.mp q; omega
    have c4 : ¬ (8 : Int32) < nI m := fun q => by have := t4.mp q; omega
    simp only [if_pos c2, if_neg c1, if_neg c3, if_neg c4]
    have a9 : (f_X6_at (nI i) 9).toNatClampNeg = 40 * i + 9 := at_n (w := 9) hi (by decide)
    have a10 : (f_X6_at (nI i) 10).toNatClampNeg = 40 * i + 10 := at_n (w := 10) hi (by decide)
    have a14 : (f_X6_at (nI i) 14).toNatClampNeg = 40 * i + 14 := at_n (w := 14) hi (by decide)
    have a27 : (f_X6_at (nI i) 27).toNatClampNeg = 40 * i + 27 := at_n (w := 27) hi (by decide)
    have a31 : (f_X6_at (nI i) 31).toNatClampNeg = 40 * i + 31 := at_n (w := 31) hi (by decide)
    have m6 : f_X4_message w 112 6 12 = f_X6_part b 6 12 := msg_eq hs (x := 6) (y := 12) (by decide) (by decide) (by decide) (by decide)
    have m13 : f_X4_message w 112 13 13 = f_X6_part b 13 13 := msg_eq hs (x := 13) (y := 13) (by decide) (by decide) (by decide) (by decide)
    have m14 : f_X4_message w 112 14 20 = f_X6_part b 14 20 := msg_eq hs (x := 14) (y := 20) (by decide) (by decide) (by decide) (by decide)
    obtain ⟨v, hv, ev⟩ : ∃ m : Nat, m < 2 ^ 7 ∧ f_X6_part b 6 12 = nI m := part_rng hb (x := 6) (y := 12) 7 (by decide) (by decide) (by decide) (by decide)
    rw [a9, a10, a14, a27, a31, putR_upd _ _ _ (by decide), putR_upd _ _ _ (by decide), putR_upd _ _ _ (by decide), putR_upd _ _ _ (by decide), putR_upd _ _ _ (by decide), gnd3_eq, m6, m13, m14, ev, speed_eq v hv]
    have R1 := gnd_codes (((h.v 9 (by decide) (f_X6_speed (nI v))).v 10 (by decide) (if (f_X6_part b (13 : Int32) (13 : Int32)) = 0 then (-2147483648 : Int32) else (((360000 : Int32) * (f_X6_part b (14 : Int32) (20 : Int32))) / (128 : Int32)))).v 14 (by decide) (1 : Int32))
    rw [upd_comm (upd va 9 (f_X6_speed (nI v))) (show 10 ≠ 14 by decide), upd_comm va (show 9 ≠ 14 by decide)] at R1
    exact gnd_row hbd R1 (((((hp.v 9 (Or.inl (by decide)) _).v 10 (Or.inl (by decide)) _).v 14 (Or.inl (by decide)) _).v 27 (Or.inr (by decide)) _).v 31 (Or.inr (by decide)) _) rw hi hs lat lon t ho
  by_cases gC : m = 19
  · -- 19
    have c2 : (4 : Int32) < nI m := t2.mpr (by omega)
    have c4 : (8 : Int32) < nI m := t4.mpr (by omega)
    have c5 : nI m = (19 : Int32) := t5.mpr (by omega)
    have c1 : ¬ nI m < (1 : Int32) := fun q => by have := t1.mp q; omega
    have c3 : ¬ nI m < (5 : Int32) := fun q => by have := t3.mp q; omega
    have c6 : ¬ nI m < (9 : Int32) := fun q => by have := t6.mp q; omega
    have c7 : ¬ (22 : Int32) < nI m := fun q => by have := t7.mp q; omega
    have c8 : ¬ nI m = (28 : Int32) := fun q => by have := t8.mp q; omega
    have c9 : ¬ nI m = (31 : Int32) := fun q => by have := t9.mp q; omega
    simp only [if_pos c2, if_pos c4, if_pos c5, if_neg c1, if_neg c3, if_neg c6, if_neg c7, if_neg c8, if_neg c9]
    by_cases u1 : k < 1
    · simp only [if_pos (s1.mpr u1)]
      have e : f_X3_learnMotion_va va w 112 (nI k) = va := by unfold f_X3_learnMotion_va; rw [if_pos (s1.mpr u1)]
      rw [e]
      exact ⟨r, rfl, h, hp⟩
    · have v1 : ¬ nI k < (1 : Int32) := fun q => u1 (s1.mp q)
      by_cases u4 : 4 < k
      · simp only [if_neg v1, if_pos (s3.mpr u4)]
        have e : f_X3_learnMotion_va va w 112 (nI k) = va := by unfold f_X3_learnMotion_va; rw [if_neg v1, if_neg (fun q => by have := s2.mp q; omega)]
        rw [e]
        exact ⟨r, rfl, h, hp⟩
      · have v4 : ¬ (4 : Int32) < nI k := fun q => u4 (s3.mp q)
        simp only [if_neg v1, if_neg v4]
        exact mot_row h hp rw hi hs (by omega) (by omega)
  by_cases gD : m ≤ 22
  · -- 9 .. 18, 20 .. 22
    have c2 : (4 : Int32) < nI m := t2.mpr (by omega)
    have c4 : (8 : Int32) < nI m := t4.mpr (by omega)
    have c1 : ¬ nI m < (1 : Int32) := fun q => by have := t1.mp q; omega
    have c3 : ¬ nI m < (5 : Int32) := fun q => by have := t3.mp q; omega
    have c5 : ¬ nI m = (19 : Int32) := fun q => by have := t5.mp q; omega
    have c6 : ¬ nI m < (9 : Int32) := fun q => by have := t6.mp q; omega
    have c7 : ¬ (22 : Int32) < nI m := fun q => by have := t7.mp q; omega
    simp only [if_pos c2, if_pos c4, if_neg c1, if_neg c3, if_neg c5, if_neg c6, if_neg c7]
    have a4 : (f_X6_at (nI i) 4).toNatClampNeg = 40 * i + 4 := at_n (w := 4) hi (by decide)
    have a14 : (f_X6_at (nI i) 14).toNatClampNeg = 40 * i + 14 := at_n (w := 14) hi (by decide)
    have m9 : f_X4_message w 112 9 20 = f_X6_part b 9 20 := msg_eq hs (x := 9) (y := 20) (by decide) (by decide) (by decide) (by decide)
    obtain ⟨v, hv, ev⟩ : ∃ m : Nat, m < 2 ^ 12 ∧ f_X6_part b 9 20 = nI m := part_rng hb (x := 9) (y := 20) 12 (by decide) (by decide) (by decide) (by decide)
    rw [air3_eq]
    unfold f_X3_learnInAir_co f_X3_learnInAir_ct
    by_cases g18 : 18 < m
    · have c10 : (18 : Int32) < nI m := t10.mpr g18
      have c11 : (19 : Int32) ≤ nI m := t11.mpr g18
      simp only [if_pos c10, if_pos c11]
      rw [a14, putR_upd _ _ _ (by decide)]
      exact air_row hbd (h.v 14 (by decide) 0) (hp.v 14 (Or.inl (by decide)) _) rw hi hs lat lon t
    · have c10 : ¬ (18 : Int32) < nI m := fun q => g18 (t10.mp q)
      have c11 : ¬ (19 : Int32) ≤ nI m := fun q => g18 (t11.mp q)
      simp only [if_neg c10, if_neg c11]
      obtain ⟨w1, w2, w3⟩ := withM_eq v hv
      rw [a4, a14, putR_upd _ _ _ (by decide), putR_upd _ _ _ (by decide), m9, ev, ← w1]
      obtain ⟨z, hz, ez⟩ := nat_of w3
      have halt : f_X1_altitude (f_X1_withM (nI v)) = f_X6_altitude (f_X1_withM (nI v)) := by
        rw [ez]; exact altitude_eq (by omega)
      rw [halt]
      have R1 := (h.v 4 (by decide) (f_X6_altitude (f_X1_withM (nI v)))).v 14 (by decide) 0
      rw [upd_comm va (show 4 ≠ 14 by decide)] at R1
      exact air_row hbd R1 ((hp.v 4 (Or.inl (by decide)) _).v 14 (Or.inl (by decide)) _) rw hi hs lat lon t
  have gE : 22 < m := by omega
  have c2 : (4 : Int32) < nI m := t2.mpr (by omega)
  have c4 : (8 : Int32) < nI m := t4.mpr (by omega)
  have c7 : (22 : Int32) < nI m := t7.mpr (by omega)
  have c1 : ¬ nI m < (1 : Int32) := fun q => by have := t1.mp q; omega
  have c3 : ¬ nI m < (5 : Int32) := fun q => by have := t3.mp q; omega
  have c5 : ¬ nI m = (19 : Int32) := fun q => by have := t5.mp q; omega
  have c6 : ¬ nI m < (9 : Int32) := fun q => by have := t6.mp q; omega
  simp only [if_pos c2, if_pos c4, if_pos c7, if_neg c1, if_neg c3, if_neg c5, if_neg c6]
  have a5 : (f_X6_at (nI i) 5).toNatClampNeg = 40 * i + 5 := at_n (w := 5) hi (by decide)
  have a12 : (f_X6_at (nI i) 12).toNatClampNeg = 40 * i + 12 := at_n (w := 12) hi (by decide)
  have a13 : (f_X6_at (nI i) 13).toNatClampNeg = 40 * i + 13 := at_n (w := 13) hi (by decide)
  have m9 : f_X4_message w 112 9 11 = f_X6_part b 9 11 := msg_eq hs (x := 9) (y := 11) (by decide) (by decide) (by decide) (by decide)
  have m12 : f_X4_message w 112 12 24 = f_X6_part b 12 24 := msg_eq hs (x := 12) (y := 24) (by decide) (by decide) (by decide) (by decide)
  have m41 : f_X4_message w 112 41 43 = f_X6_part b 41 43 := msg_eq hs (x := 41) (y := 43) (by decide) (by decide) (by decide) (by decide)
  obtain ⟨v, hv, ev⟩ : ∃ m : Nat, m < 2 ^ 13 ∧ f_X6_part b 12 24 = nI m := part_rng hb (x := 12) (y := 24) 13 (by decide) (by decide) (by decide) (by decide)
  rw [a5, a12, a13, m9, m12, m41, ev, squawk_eq (m := v) (by omega), putR_upd _ _ _ (by decide), putR_upd _ _ _ (by decide), putR_upd _ _ _ (by decide)]
  by_cases gF : m = 28
  · have c8 : nI m = (28 : Int32) := t8.mpr gF
    have c9 : ¬ nI m = (31 : Int32) := fun q => by have := t9.mp q; omega
    by_cases gG : k = 1
    · simp only [if_pos c8, if_pos (s6.mpr gG)]
      exact ⟨_, rfl, (h.v 12 (by decide) _).v 5 (by decide) _, (hp.v 12 (Or.inl (by decide)) _).v 5 (Or.inl (by decide)) _⟩
    · have v6 : ¬ nI k = (1 : Int32) := fun q => gG (s6.mp q)
      simp only [if_pos c8, if_neg c9, if_neg v6]
      exact ⟨r, rfl, h, hp⟩
  · have c8 : ¬ nI m = (28 : Int32) := fun q => gF (t8.mp q)
    by_cases gH : m = 31
    · simp only [if_neg c8, if_pos (t9.mpr gH)]
      exact ⟨_, rfl, h.v 13 (by decide) _, hp.v 13 (Or.inl (by decide)) _⟩
    · have c9 : ¬ nI m = (31 : Int32) := fun q => gH (t9.mp q)
      simp only [if_neg c8, if_neg c9]
      exact ⟨r, rfl, h, hp⟩
