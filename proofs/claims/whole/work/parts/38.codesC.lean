/-! codes: altitudes -/
theorem bits13 {m : Nat} (hm : m < 8192) : 32 * (m / 2 ^ 2 / 32) + 16 * (m / 2 ^ 1 / 16 % 2) + m % 2 ^ 4 = (2 * (2 * (2 * (2 * (2 * (2 * (2 * (2 * (2 * (2 * (2 * 0 + m / 2 ^ 12 % 2) + m / 2 ^ 11 % 2) + m / 2 ^ 10 % 2) + m / 2 ^ 9 % 2) + m / 2 ^ 8 % 2) + m / 2 ^ 7 % 2) + m / 2 ^ 5 % 2) + m / 2 ^ 3 % 2) + m / 2 ^ 2 % 2) + m / 2 ^ 1 % 2) + m / 2 ^ 0 % 2) := by
  have q : ∀ i, m / 2 ^ i = 2 * (m / 2 ^ (i + 1)) + m / 2 ^ i % 2 := fun i => by rw [Nat.pow_succ, ← Nat.div_div_eq_div_mul]; omega
  have z : m / 2 ^ 13 = 0 := Nat.div_eq_of_lt hm
  have t1 : m / 2 ^ 2 / 32 = m / 2 ^ 7 := by rw [Nat.div_div_eq_div_mul]
  have t2 : m / 2 ^ 1 / 16 = m / 2 ^ 5 := by rw [Nat.div_div_eq_div_mul]
  have t3 : m % 2 ^ 4 + 16 * (m / 2 ^ 4) = m / 2 ^ 0 := by
    rw [show m / 2 ^ 0 = m from Nat.div_one m]
    exact Nat.mod_add_div m (2 ^ 4)
  rw [t1, t2]
  clear t1 t2 hm
  have q0 : m / 2 ^ 0 = 2 * (m / 2 ^ 1) + m / 2 ^ 0 % 2 := q 0
  have q1 : m / 2 ^ 1 = 2 * (m / 2 ^ 2) + m / 2 ^ 1 % 2 := q 1
  have q2 : m / 2 ^ 2 = 2 * (m / 2 ^ 3) + m / 2 ^ 2 % 2 := q 2
  have q3 : m / 2 ^ 3 = 2 * (m / 2 ^ 4) + m / 2 ^ 3 % 2 := q 3
  have q4 : m / 2 ^ 4 = 2 * (m / 2 ^ 5) + m / 2 ^ 4 % 2 := q 4
  have q5 : m / 2 ^ 5 = 2 * (m / 2 ^ 6) + m / 2 ^ 5 % 2 := q 5
  have q6 : m / 2 ^ 6 = 2 * (m / 2 ^ 7) + m / 2 ^ 6 % 2 := q 6
  have q7 : m / 2 ^ 7 = 2 * (m / 2 ^ 8) + m / 2 ^ 7 % 2 := q 7
  have q8 : m / 2 ^ 8 = 2 * (m / 2 ^ 9) + m / 2 ^ 8 % 2 := q 8
  have q9 : m / 2 ^ 9 = 2 * (m / 2 ^ 10) + m / 2 ^ 9 % 2 := q 9
  have q10 : m / 2 ^ 10 = 2 * (m / 2 ^ 11) + m / 2 ^ 10 % 2 := q 10
  have q11 : m / 2 ^ 11 = 2 * (m / 2 ^ 12) + m / 2 ^ 11 % 2 := q 11
  have q12 : m / 2 ^ 12 = 2 * (m / 2 ^ 13) + m / 2 ^ 12 % 2 := q 12
  clear q
  generalize m % 2 ^ 4 = y at *
  generalize m / 2 ^ 0 = x0 at *
  generalize m / 2 ^ 1 = x1 at *
  generalize m / 2 ^ 2 = x2 at *
  generalize m / 2 ^ 3 = x3 at *
  generalize m / 2 ^ 4 = x4 at *
  generalize m / 2 ^ 5 = x5 at *
  generalize m / 2 ^ 6 = x6 at *
  generalize m / 2 ^ 7 = x7 at *
  generalize m / 2 ^ 8 = x8 at *
  generalize m / 2 ^ 9 = x9 at *
  generalize m / 2 ^ 10 = x10 at *
  generalize m / 2 ^ 11 = x11 at *
  generalize m / 2 ^ 12 = x12 at *
  generalize m / 2 ^ 13 = x13 at *
  generalize x0 % 2 = d0 at *
  generalize x1 % 2 = d1 at *
  generalize x2 % 2 = d2 at *
  generalize x3 % 2 = d3 at *
  generalize x4 % 2 = d4 at *
  generalize x5 % 2 = d5 at *
  generalize x6 % 2 = d6 at *
  generalize x7 % 2 = d7 at *
  generalize x8 % 2 = d8 at *
  generalize x9 % 2 = d9 at *
  generalize x10 % 2 = d10 at *
  generalize x11 % 2 = d11 at *
  generalize x12 % 2 = d12 at *
  omega
/-- the eleven bits, one by one -/
def altV (m : Nat) : Nat → Nat → Nat → Nat
  | 0, _, v => v
  | n + 1, s, v => altV m n (s + 1) (if s = 6 then v else if s = 8 then v else 2 * v + m / 2 ^ (12 - s) % 2)
theorem alt_lp {m : Nat} (hm : m < 2 ^ 31) : ∀ (n s v : Nat), s + n = 13 → f_X6_altitude_lp (nI m) n (nI s) (nI v) = 25 * nI (altV m n s v) - 1000
  | 0, _, _, _ => rfl
  | n + 1, s, v, h => by
    show f_X6_altitude_lp (nI m) n (nI s + 1) (f_X6_altitude_x65 (nI s) (nI v) (nI m)) = 25 * nI (altV m n (s + 1) (if s = 6 then v else if s = 8 then v else 2 * v + m / 2 ^ (12 - s) % 2)) - 1000
    have e : f_X6_altitude_x65 (nI s) (nI v) (nI m) = nI (if s = 6 then v else if s = 8 then v else 2 * v + m / 2 ^ (12 - s) % 2) := by
      unfold f_X6_altitude_x65
      have e6 : nI s = 6 ↔ s = 6 := nI_eq (a := s) (b := 6) (by omega) (by decide)
      have e8 : nI s = 8 ↔ s = 8 := nI_eq (a := s) (b := 8) (by omega) (by decide)
      by_cases h6 : s = 6
      · rw [if_pos (e6.mpr h6), if_pos h6]
      · rw [if_neg (fun q => h6 (e6.mp q)), if_neg h6]
        by_cases h8 : s = 8
        · rw [if_pos (e8.mpr h8), if_pos h8]
        · rw [if_neg (fun q => h8 (e8.mp q)), if_neg h8, ofN hm (by omega), twoN]
    rw [e, nI_1]
    exact alt_lp hm n (s + 1) _ (by omega)
theorem altitude_eq {m : Nat} (hm : m < 8192) : f_X1_altitude (nI m) = f_X6_altitude (nI m) := by
  have hm2 : m < 2 ^ 31 := by omega
  have o0 : f_X6_of (nI m) 0 = nI (m / 2 ^ 12 % 2) := ofN (j := 0) hm2 (by decide)
  have o1 : f_X6_of (nI m) 1 = nI (m / 2 ^ 11 % 2) := ofN (j := 1) hm2 (by decide)
  have o2 : f_X6_of (nI m) 2 = nI (m / 2 ^ 10 % 2) := ofN (j := 2) hm2 (by decide)
  have o3 : f_X6_of (nI m) 3 = nI (m / 2 ^ 9 % 2) := ofN (j := 3) hm2 (by decide)
  have o4 : f_X6_of (nI m) 4 = nI (m / 2 ^ 8 % 2) := ofN (j := 4) hm2 (by decide)
  have o5 : f_X6_of (nI m) 5 = nI (m / 2 ^ 7 % 2) := ofN (j := 5) hm2 (by decide)
  have o6 : f_X6_of (nI m) 6 = nI (m / 2 ^ 6 % 2) := ofN (j := 6) hm2 (by decide)
  have o7 : f_X6_of (nI m) 7 = nI (m / 2 ^ 5 % 2) := ofN (j := 7) hm2 (by decide)
  have o8 : f_X6_of (nI m) 8 = nI (m / 2 ^ 4 % 2) := ofN (j := 8) hm2 (by decide)
  have o9 : f_X6_of (nI m) 9 = nI (m / 2 ^ 3 % 2) := ofN (j := 9) hm2 (by decide)
  have o10 : f_X6_of (nI m) 10 = nI (m / 2 ^ 2 % 2) := ofN (j := 10) hm2 (by decide)
  have o11 : f_X6_of (nI m) 11 = nI (m / 2 ^ 1 % 2) := ofN (j := 11) hm2 (by decide)
  have o12 : f_X6_of (nI m) 12 = nI (m / 2 ^ 0 % 2) := ofN (j := 12) hm2 (by decide)
  unfold f_X1_altitude f_X6_altitude
  by_cases h0 : nI m = 0
  · rw [if_pos h0, if_pos h0]
  rw [if_neg h0, if_neg h0, o6, o8, m64 m hm, m16 m hm]
  have c64 : nI (64 * (m / 64 % 2)) = 0 ↔ ¬ nI (m / 2 ^ 6 % 2) = 1 := by
    rw [nI_z (by omega), nI_one (by omega)]; omega
  have c16 : nI (16 * (m / 16 % 2)) = 0 ↔ ¬ nI (m / 2 ^ 4 % 2) = 1 := by
    rw [nI_z (by omega), nI_one (by omega)]; omega
  by_cases h6 : nI (m / 2 ^ 6 % 2) = 1
  · rw [if_neg (fun q => (c64.mp q) h6), if_pos h6]
  rw [if_pos (c64.mpr h6), if_neg h6]
  by_cases h4 : nI (m / 2 ^ 4 % 2) = 1
  · rw [if_neg (fun q => (c16.mp q) h4), if_pos h4]
    have s2 : nI m >>> ((2 : Int32) &&& 31) = nI (m / 2 ^ 2) := pk_shrN hm2 (nI 2 &&& 31) 2 (qs_l 2 (by decide))
    have s1 : nI m >>> ((1 : Int32) &&& 31) = nI (m / 2 ^ 1) := pk_shrN hm2 (nI 1 &&& 31) 1 (qs_l 1 (by decide))
    have s0 : nI m &&& (15 : Int32) = nI (m % 2 ^ 4) := pk_andN (n := m) (by omega) 4 (by decide)
    rw [s2, s1, s0, m2016 _ (by omega), m16 _ (by omega), join11 (m / 2 ^ 2 / 32) (m / 2 ^ 1 / 16 % 2) (m % 2 ^ 4) (by omega) (by omega)]
    have hlp : f_X6_altitude_lp (nI m) 13 0 0 = 25 * nI (altV m 13 0 0) - 1000 := alt_lp hm2 13 0 0 (by decide)
    rw [hlp, bits13 hm]
    rfl
  · rw [if_pos (c16.mpr h4), if_neg h4]
    unfold f_X1_altitudeOfGray
    have t1 : f_X1_three (nI m) 12 10 8 = nI (4 * (m / 2 ^ 12 % 2) + 2 * (m / 2 ^ 10 % 2) + m / 2 ^ 8 % 2) := threeN (h := 12) (i := 10) (l := 8) hm2 (by decide) (by decide) (by decide)
    have t2 : f_X1_three (nI m) 11 9 7 = nI (4 * (m / 2 ^ 11 % 2) + 2 * (m / 2 ^ 9 % 2) + m / 2 ^ 7 % 2) := threeN (h := 11) (i := 9) (l := 7) hm2 (by decide) (by decide) (by decide)
    have t3 : f_X1_three (nI m) 5 3 1 = nI (4 * (m / 2 ^ 5 % 2) + 2 * (m / 2 ^ 3 % 2) + m / 2 ^ 1 % 2) := threeN (h := 5) (i := 3) (l := 1) hm2 (by decide) (by decide) (by decide)
    have b2 : (nI m >>> ((2 : Int32) &&& 31)) &&& 1 = nI (m / 2 ^ 2 % 2) := bitN (t := 2) hm2 (by decide)
    have b0 : nI m &&& (1 : Int32) = nI (m % 2 ^ 1) := pk_andN (n := m) (by omega) 1 (by decide)
    have e1 : f_X6_altitude_x207 (nI m) = f_X1_ofGray (f_X1_three (nI m) 12 10 8) := by
      unfold f_X6_altitude_x207
      rw [o0, o2, o4, fourN, t1, gray3 _ (by omega)]
    have e3 : ((((((nI m >>> ((2 : Int32) &&& 31)) &&& 1) <<< ((1 : Int32) &&& 31)) ||| (nI m &&& 1)) <<< ((6 : Int32) &&& 31)) ||| (f_X1_three (nI m) 11 9 7 <<< ((3 : Int32) &&& 31))) ||| f_X1_three (nI m) 5 3 1 = f_X6_altitude_x169 (nI m) := by
      rw [b2, b0, t2, t3, join8 (m / 2 ^ 2 % 2) (by omega) (m % 2 ^ 1) (by omega) (4 * (m / 2 ^ 11 % 2) + 2 * (m / 2 ^ 9 % 2) + m / 2 ^ 7 % 2) (by omega) (4 * (m / 2 ^ 5 % 2) + 2 * (m / 2 ^ 3 % 2) + m / 2 ^ 1 % 2) (by omega)]
      unfold f_X6_altitude_x169 f_X6_altitude_x145 f_X6_altitude_x122 f_X6_altitude_x100
      rw [o10, o12, o1, o3, o5, o7, o9, o11, twoN, twoN, twoN, twoN, twoN, twoN, twoN]
      rw [show m % 2 ^ 1 = m / 2 ^ 0 % 2 from by rw [show m / 2 ^ 0 = m from Nat.div_one m]]
      congr 1
      generalize m / 2 ^ 0 % 2 = d0
      generalize m / 2 ^ 1 % 2 = d1
      generalize m / 2 ^ 2 % 2 = d2
      generalize m / 2 ^ 3 % 2 = d3
      generalize m / 2 ^ 5 % 2 = d5
      generalize m / 2 ^ 7 % 2 = d7
      generalize m / 2 ^ 9 % 2 = d9
      generalize m / 2 ^ 11 % 2 = d11
      omega
    have e4 : ∃ c, c < 256 ∧ f_X6_altitude_x169 (nI m) = nI c := by
      unfold f_X6_altitude_x169 f_X6_altitude_x145 f_X6_altitude_x122 f_X6_altitude_x100
      rw [o10, o12, o1, o3, o5, o7, o9, o11, twoN, twoN, twoN, twoN, twoN, twoN, twoN]
      have b0 : m / 2 ^ 0 % 2 < 2 := Nat.mod_lt _ (by decide)
      have b1 : m / 2 ^ 1 % 2 < 2 := Nat.mod_lt _ (by decide)
      have b2 : m / 2 ^ 2 % 2 < 2 := Nat.mod_lt _ (by decide)
      have b3 : m / 2 ^ 3 % 2 < 2 := Nat.mod_lt _ (by decide)
      have b5 : m / 2 ^ 5 % 2 < 2 := Nat.mod_lt _ (by decide)
      have b7 : m / 2 ^ 7 % 2 < 2 := Nat.mod_lt _ (by decide)
      have b9 : m / 2 ^ 9 % 2 < 2 := Nat.mod_lt _ (by decide)
      have b11 : m / 2 ^ 11 % 2 < 2 := Nat.mod_lt _ (by decide)
      clear o0 o1 o2 o3 o4 o5 o6 o7 o8 o9 o10 o11 o12 t1 t2 t3 e1 e3
      generalize m / 2 ^ 0 % 2 = d0 at *
      generalize m / 2 ^ 1 % 2 = d1 at *
      generalize m / 2 ^ 2 % 2 = d2 at *
      generalize m / 2 ^ 3 % 2 = d3 at *
      generalize m / 2 ^ 5 % 2 = d5 at *
      generalize m / 2 ^ 7 % 2 = d7 at *
      generalize m / 2 ^ 9 % 2 = d9 at *
      generalize m / 2 ^ 11 % 2 = d11 at *
      exact ⟨_, by omega, rfl⟩
    obtain ⟨c, hc, e5⟩ := e4
    have ho := odd8 c hc
    unfold f_X6_altitude_x252
    rw [e3, e1, e5, gray8 c hc]
    simp only [ho]
