/-! codes: the same numbers -/
theorem bitN {m t : Nat} (hm : m < 2 ^ 31) (ht : t < 32) : (nI m >>> (nI t &&& 31)) &&& 1 = nI (m / 2 ^ t % 2) := by
  rw [pk_shrN hm (nI t &&& 31) t (qs_l t ht)]
  have h : m / 2 ^ t ≤ m := Nat.div_le_self _ _
  exact pk_andN (n := m / 2 ^ t) (by omega) (m := 1) 1 (by decide)
theorem ofN {m j : Nat} (hm : m < 2 ^ 31) (hj : j ≤ 12) : f_X6_of (nI m) (nI j) = nI (m / 2 ^ (12 - j) % 2) := by
  unfold f_X6_of
  have e : (12 : Int32) - nI j = nI (12 - j) := pk_sub (a := 12) hj
  rw [e]
  exact bitN hm (by omega)
theorem three_tab : ∀ x, x < 2 → ∀ y, y < 2 → ∀ z, z < 2 → ((nI x <<< ((2 : Int32) &&& 31)) ||| (nI y <<< ((1 : Int32) &&& 31))) ||| nI z = nI (4 * x + 2 * y + z) := by decide +kernel
theorem threeN {m h i l : Nat} (hm : m < 2 ^ 31) (hh : h < 32) (hi : i < 32) (hl : l < 32) : f_X1_three (nI m) (nI h) (nI i) (nI l) = nI (4 * (m / 2 ^ h % 2) + 2 * (m / 2 ^ i % 2) + m / 2 ^ l % 2) := by
  unfold f_X1_three
  rw [bitN hm hh, bitN hm hi, bitN hm hl]
  exact three_tab _ (by omega) _ (by omega) _ (by omega)
theorem fourN (x y z : Nat) : (4 : Int32) * nI x + 2 * nI y + nI z = nI (4 * x + 2 * y + z) := by
  rw [show (4 : Int32) = nI 4 from rfl, show (2 : Int32) = nI 2 from rfl, pk_mul, pk_mul, nI_add, nI_add]
theorem squawk_eq {m : Nat} (hm : m < 2 ^ 31) : f_X1_squawk (nI m) = f_X6_squawk (nI m) := by
  unfold f_X1_squawk f_X6_squawk f_X6_squawk_x24 f_X6_squawk_x52 f_X6_squawk_x77 f_X6_squawk_x106
  have o0 : f_X6_of (nI m) 0 = nI (m / 2 ^ 12 % 2) := ofN (j := 0) hm (by decide)
  have o1 : f_X6_of (nI m) 1 = nI (m / 2 ^ 11 % 2) := ofN (j := 1) hm (by decide)
  have o2 : f_X6_of (nI m) 2 = nI (m / 2 ^ 10 % 2) := ofN (j := 2) hm (by decide)
  have o3 : f_X6_of (nI m) 3 = nI (m / 2 ^ 9 % 2) := ofN (j := 3) hm (by decide)
  have o4 : f_X6_of (nI m) 4 = nI (m / 2 ^ 8 % 2) := ofN (j := 4) hm (by decide)
  have o5 : f_X6_of (nI m) 5 = nI (m / 2 ^ 7 % 2) := ofN (j := 5) hm (by decide)
  have o7 : f_X6_of (nI m) 7 = nI (m / 2 ^ 5 % 2) := ofN (j := 7) hm (by decide)
  have o8 : f_X6_of (nI m) 8 = nI (m / 2 ^ 4 % 2) := ofN (j := 8) hm (by decide)
  have o9 : f_X6_of (nI m) 9 = nI (m / 2 ^ 3 % 2) := ofN (j := 9) hm (by decide)
  have o10 : f_X6_of (nI m) 10 = nI (m / 2 ^ 2 % 2) := ofN (j := 10) hm (by decide)
  have o11 : f_X6_of (nI m) 11 = nI (m / 2 ^ 1 % 2) := ofN (j := 11) hm (by decide)
  have o12 : f_X6_of (nI m) 12 = nI (m / 2 ^ 0 % 2) := ofN (j := 12) hm (by decide)
  have t1 : f_X1_three (nI m) 7 9 11 = nI (4 * (m / 2 ^ 7 % 2) + 2 * (m / 2 ^ 9 % 2) + m / 2 ^ 11 % 2) := threeN (h := 7) (i := 9) (l := 11) hm (by decide) (by decide) (by decide)
  have t2 : f_X1_three (nI m) 1 3 5 = nI (4 * (m / 2 ^ 1 % 2) + 2 * (m / 2 ^ 3 % 2) + m / 2 ^ 5 % 2) := threeN (h := 1) (i := 3) (l := 5) hm (by decide) (by decide) (by decide)
  have t3 : f_X1_three (nI m) 8 10 12 = nI (4 * (m / 2 ^ 8 % 2) + 2 * (m / 2 ^ 10 % 2) + m / 2 ^ 12 % 2) := threeN (h := 8) (i := 10) (l := 12) hm (by decide) (by decide) (by decide)
  have t4 : f_X1_three (nI m) 0 2 4 = nI (4 * (m / 2 ^ 0 % 2) + 2 * (m / 2 ^ 2 % 2) + m / 2 ^ 4 % 2) := threeN (h := 0) (i := 2) (l := 4) hm (by decide) (by decide) (by decide)
  rw [t1, t2, t3, t4, o0, o1, o2, o3, o4, o5, o7, o8, o9, o10, o11, o12, fourN, fourN, fourN, fourN]
theorem gray8 : ∀ c, c < 256 → f_X6_ungray (nI c) 8 = f_X1_ofGray (nI c) := by decide +kernel
theorem gray3 : ∀ c, c < 8 → f_X6_ungray (nI c) 3 = f_X1_ofGray (nI c) := by decide +kernel
theorem odd8 : ∀ c, c < 256 → (f_X1_ofGray (nI c) &&& 1 = 1 ↔ f_X1_ofGray (nI c) - f_X1_ofGray (nI c) / 2 * 2 = 1) := by decide +kernel
theorem join8 : ∀ x, x < 2 → ∀ x', x' < 2 → ∀ y, y < 8 → ∀ z, z < 8 → (((((nI x) <<< ((1 : Int32) &&& 31)) ||| nI x') <<< ((6 : Int32) &&& 31)) ||| (nI y <<< ((3 : Int32) &&& 31))) ||| nI z = nI (128 * x + 64 * x' + 8 * y + z) := by decide +kernel
theorem join11 : ∀ p, p < 64 → ∀ q, q < 2 → ∀ r, r < 16 → (nI (32 * p) ||| nI (16 * q)) ||| nI r = nI (32 * p + 16 * q + r) := by decide +kernel
theorem m2016 : ∀ k, k < 2048 → nI k &&& 2016 = nI (32 * (k / 32)) := by decide +kernel
theorem m16 : ∀ k, k < 8192 → nI k &&& 16 = nI (16 * (k / 16 % 2)) := by decide +kernel
theorem m64 : ∀ k, k < 8192 → nI k &&& 64 = nI (64 * (k / 64 % 2)) := by decide +kernel
theorem nI_z {k : Nat} (h : k < 2 ^ 31) : nI k = 0 ↔ k = 0 := by
  have := nI_eq (a := k) (b := 0) h (by decide)
  rw [nI_0] at this
  exact this
theorem nI_one {k : Nat} (h : k < 2 ^ 31) : nI k = 1 ↔ k = 1 := nI_eq (a := k) (b := 1) h (by decide)
theorem twoN (x y : Nat) : (2 : Int32) * nI x + nI y = nI (2 * x + y) := by rw [show (2 : Int32) = nI 2 from rfl, pk_mul, nI_add]
theorem altitude_eq {m : Nat} (hm : m < 8192) : f_X1_altitude (nI m) = f_X6_altitude (nI m) := by
  have hm2 : m < 2 ^ 31 := by omega
  have o0 : f_X6_of (nI m) 0 = nI (m / 2 ^ 12 % 2) := ofN (j := 0) hm2 (by decide)
  have o1 : f_X6_of (nI m) 1 = nI (m / 2 ^ 11 % 2) := ofN (j := 1) hm2 (by decide)
  have o2 : f_X6_of (nI m) 2 = nI (m / 2 ^ 10 % 2) := ofN (j := 2) hm2 (by decide)
  have o3 : f_X6_of (nI m) 3 = nI (m / 2 ^ 9 % 2) := ofN (j := 3) hm2 (by decide)
  have o4 : f_X6_of (nI m) 4 = nI (m / 2 ^ 8 % 2) := ofN (j := 4) hm2 (by decide)
  have o5 : f_X6_of (nI m) 5 = nI (m / 2 ^ 7 % 2) := ofN (j := 5) hm2 (by decide)
  have o6 : f_X6_of (nI m) 6 = nI (m / 2 ^ 6 % 2) := ofN (j := 6) hm2 (by decide)
  have o7 : f_X6_of (nI m) 7 = nI (m / 2 ^ 5 % 2) := ofN (j := 7) hm2 (by decide)
  have o8 : f_X6_of (nI m) 8 = nI (m / 2 ^ 4 % 2) := ofN (j := 8) hm2 (by decide)
  have o9 : f_X6_of (nI m) 9 = nI (m / 2 ^ 3 % 2) := ofN (j := 9) hm2 (by decide)
  have o10 : f_X6_of (nI m) 10 = nI (m / 2 ^ 2 % 2) := ofN (j := 10) hm2 (by decide)
  have o11 : f_X6_of (nI m) 11 = nI (m / 2 ^ 1 % 2) := ofN (j := 11) hm2 (by decide)
  have o12 : f_X6_of (nI m) 12 = nI (m / 2 ^ 0 % 2) := ofN (j := 12) hm2 (by decide)
  unfold f_X1_altitude f_X6_altitude
  by_cases h0 : nI m = 0
  · rw [if_pos h0, if_pos h0]
  rw [if_neg h0, if_neg h0, o6, o8, m64 m hm, m16 m hm]
  have c64 : nI (64 * (m / 64 % 2)) = 0 ↔ ¬ nI (m / 2 ^ 6 % 2) = 1 := by
    rw [nI_z (by omega), nI_one (by omega)]; omega
  have c16 : nI (16 * (m / 16 % 2)) = 0 ↔ ¬ nI (m / 2 ^ 4 % 2) = 1 := by
    rw [nI_z (by omega), nI_one (by omega)]; omega
  by_cases h6 : nI (m / 2 ^ 6 % 2) = 1
  · rw [if_neg (fun q => (c64.mp q) h6), if_pos h6]
  rw [if_pos (c64.mpr h6), if_neg h6]
  by_cases h4 : nI (m / 2 ^ 4 % 2) = 1
  · rw [if_neg (fun q => (c16.mp q) h4), if_pos h4]
    have s2 : nI m >>> ((2 : Int32) &&& 31) = nI (m / 2 ^ 2) := pk_shrN hm2 (nI 2 &&& 31) 2 (qs_l 2 (by decide))
    have s1 : nI m >>> ((1 : Int32) &&& 31) = nI (m / 2 ^ 1) := pk_shrN hm2 (nI 1 &&& 31) 1 (qs_l 1 (by decide))
    have s0 : nI m &&& (15 : Int32) = nI (m % 2 ^ 4) := pk_andN (n := m) (by omega) 4 (by decide)
    rw [s2, s1, s0, m2016 _ (by omega), m16 _ (by omega), join11 (m / 2 ^ 2 / 32) (by omega) (m / 2 ^ 1 / 16 % 2) (by omega) (m % 2 ^ 4) (by omega)]
    have x (i : Int32) (j : Nat) (v : Nat) (hi : i = nI j) (h6 : j ≠ 6) (h8 : j ≠ 8) (hj : j ≤ 12) : f_X6_altitude_x65 i (nI v) (nI m) = nI (2 * v + m / 2 ^ (12 - j) % 2) := by
      subst hi
      unfold f_X6_altitude_x65
      rw [if_neg (fun q => h6 ((nI_eq (b := 6) (by omega) (by decide)).mp q)), if_neg (fun q => h8 ((nI_eq (b := 8) (by omega) (by decide)).mp q)), ofN hm2 hj, twoN]
    show _ = 25 * f_X6_altitude_x65 12 (f_X6_altitude_x65 11 (f_X6_altitude_x65 10 (f_X6_altitude_x65 9 (f_X6_altitude_x65 8 (f_X6_altitude_x65 7 (f_X6_altitude_x65 6 (f_X6_altitude_x65 5 (f_X6_altitude_x65 4 (f_X6_altitude_x65 3 (f_X6_altitude_x65 2 (f_X6_altitude_x65 1 (f_X6_altitude_x65 0 (nI 0) (nI m)) (nI m)) (nI m)) (nI m)) (nI m)) (nI m)) (nI m)) (nI m)) (nI m)) (nI m)) (nI m)) (nI m)) (nI m) - 1000
    rw [x 0 0 0 rfl (by decide) (by decide) (by decide), x 1 1 _ rfl (by decide) (by decide) (by decide), x 2 2 _ rfl (by decide) (by decide) (by decide), x 3 3 _ rfl (by decide) (by decide) (by decide), x 4 4 _ rfl (by decide) (by decide) (by decide), x 5 5 _ rfl (by decide) (by decide) (by decide)]
    rw [show ∀ v : Int32, f_X6_altitude_x65 6 v (nI m) = v from fun v => rfl, x 7 7 _ rfl (by decide) (by decide) (by decide), show ∀ v : Int32, f_X6_altitude_x65 8 v (nI m) = v from fun v => rfl]
    rw [x 9 9 _ rfl (by decide) (by decide) (by decide), x 10 10 _ rfl (by decide) (by decide) (by decide), x 11 11 _ rfl (by decide) (by decide) (by decide), x 12 12 _ rfl (by decide) (by decide) (by decide)]
    congr 3
    omega
  · rw [if_pos (c16.mpr h4), if_neg h4]
    unfold f_X1_altitudeOfGray
    have t1 : f_X1_three (nI m) 12 10 8 = nI (4 * (m / 2 ^ 12 % 2) + 2 * (m / 2 ^ 10 % 2) + m / 2 ^ 8 % 2) := threeN (h := 12) (i := 10) (l := 8) hm2 (by decide) (by decide) (by decide)
    have t2 : f_X1_three (nI m) 11 9 7 = nI (4 * (m / 2 ^ 11 % 2) + 2 * (m / 2 ^ 9 % 2) + m / 2 ^ 7 % 2) := threeN (h := 11) (i := 9) (l := 7) hm2 (by decide) (by decide) (by decide)
    have t3 : f_X1_three (nI m) 5 3 1 = nI (4 * (m / 2 ^ 5 % 2) + 2 * (m / 2 ^ 3 % 2) + m / 2 ^ 1 % 2) := threeN (h := 5) (i := 3) (l := 1) hm2 (by decide) (by decide) (by decide)
    have b2 : (nI m >>> ((2 : Int32) &&& 31)) &&& 1 = nI (m / 2 ^ 2 % 2) := bitN (t := 2) hm2 (by decide)
    have b0 : nI m &&& (1 : Int32) = nI (m % 2 ^ 1) := pk_andN (n := m) (by omega) 1 (by decide)
    have e1 : f_X6_altitude_x207 (nI m) = f_X1_ofGray (f_X1_three (nI m) 12 10 8) := by
      unfold f_X6_altitude_x207
      rw [o0, o2, o4, fourN, t1, gray3 _ (by omega)]
    have e3 : ((((((nI m >>> ((2 : Int32) &&& 31)) &&& 1) <<< ((1 : Int32) &&& 31)) ||| (nI m &&& 1)) <<< ((6 : Int32) &&& 31)) ||| (f_X1_three (nI m) 11 9 7 <<< ((3 : Int32) &&& 31))) ||| f_X1_three (nI m) 5 3 1 = f_X6_altitude_x169 (nI m) := by
      rw [b2, b0, t2, t3, join8 (m / 2 ^ 2 % 2) (by omega) (m % 2 ^ 1) (by omega) (4 * (m / 2 ^ 11 % 2) + 2 * (m / 2 ^ 9 % 2) + m / 2 ^ 7 % 2) (by omega) (4 * (m / 2 ^ 5 % 2) + 2 * (m / 2 ^ 3 % 2) + m / 2 ^ 1 % 2) (by omega)]
      unfold f_X6_altitude_x169 f_X6_altitude_x145 f_X6_altitude_x122 f_X6_altitude_x100
      rw [o10, o12, o1, o3, o5, o7, o9, o11, twoN, twoN, twoN, twoN, twoN, twoN, twoN]
      congr 1
      omega
    have e4 : ∃ c, c < 256 ∧ f_X6_altitude_x169 (nI m) = nI c := by
      unfold f_X6_altitude_x169 f_X6_altitude_x145 f_X6_altitude_x122 f_X6_altitude_x100
      rw [o10, o12, o1, o3, o5, o7, o9, o11, twoN, twoN, twoN, twoN, twoN, twoN, twoN]
      exact ⟨_, by omega, rfl⟩
    obtain ⟨c, hc, e5⟩ := e4
    have ho := odd8 c hc
    unfold f_X6_altitude_x252
    rw [e3, e1, e5, gray8 c hc]
    simp only [ho]
theorem letter_eq : ∀ m, m < 64 → f_X1_letter (nI m) = (if (nI m) < (1 : Int32) then (if (nI m) = (32 : Int32) then (nI m) else (if (nI m) < (48 : Int32) then (63 : Int32) else (if (57 : Int32) < (nI m) then (63 : Int32) else (nI m)))) else (if (26 : Int32) < (nI m) then (if (nI m) = (32 : Int32) then (nI m) else (if (nI m) < (48 : Int32) then (63 : Int32) else (if (57 : Int32) < (nI m) then (63 : Int32) else (nI m)))) else ((64 : Int32) + (nI m)))) := by decide +kernel
theorem speed_eq : ∀ m, m < 128 → f_X1_groundSpeed (nI m) = f_X6_speed (nI m) := by decide +kernel
theorem withM_eq : ∀ m, m < 4096 → f_X1_withM (nI m) = ((nI m >>> ((6 : Int32) &&& 31)) * (128 : Int32)) + (nI m - nI m / (64 : Int32) * (64 : Int32)) ∧ (f_X1_withM (nI m)).toInt < 8192 ∧ 0 ≤ (f_X1_withM (nI m)).toInt := by decide +kernel
/-! the root -/
theorem one_shl : ∀ n, n < 16 → (1 : Int64) <<< ((nI n).toInt64 &&& 63) = lN (2 ^ n) := by decide +kernel
theorem root_lp (a : Int32) : ∀ (n r : Nat) (k : Int32), n ≤ 16 → r < 65536 * 2 → r % 2 ^ n = 0 → (0 < n → k = nI (2 ^ (n - 1))) → r + 2 ^ n ≤ 65536 * 2 → f_X1_root_lp a.toInt64 n (nI n - 1) (lN r) = f_X6_root_lp a n k (nI r)
  | 0, r, k, _, _, _, _, _ => lN_i r
  | n + 1, r, k, hn, hr, hd, hk, hs => by
    have e1 : nI (n + 1) - 1 = nI n := nI_pred n
    have hk1 : k = nI (2 ^ n) := hk (by omega)
    have hp : 2 ^ (n + 1) = 2 * 2 ^ n := by rw [Nat.pow_succ, Nat.mul_comm]
    have hpos : 0 < 2 ^ n := Nat.two_pow_pos n
    have hsum : (nI (r + 2 ^ n)).toInt64 = lN (r + 2 ^ n) := nI_l (by omega)
    have hkk : 0 < n → k / 2 = nI (2 ^ (n - 1)) := by
      intro hn0
      have hpn : 2 ^ n = 2 ^ (n - 1) * 2 := by rw [← Nat.pow_succ, Nat.succ_eq_add_one, show n - 1 + 1 = n by omega]
      rw [hk1, show (2 : Int32) = nI 2 from rfl, pk_div (by omega) (by decide) (by decide), hpn, Nat.mul_div_cancel _ (by decide)]
    show f_X1_root_lp a.toInt64 n (nI (n + 1) - 1 + -1) (if a.toInt64 < ((lN r + (1 : Int64) <<< ((nI (n + 1) - 1).toInt64 &&& 63)) * (lN r + (1 : Int64) <<< ((nI (n + 1) - 1).toInt64 &&& 63))) then lN r else lN r + (1 : Int64) <<< ((nI (n + 1) - 1).toInt64 &&& 63)) = f_X6_root_lp a n (k / 2) (if a.toInt64 < (nI r + k).toInt64 * (nI r + k).toInt64 then nI r else nI r + k)
    rw [e1, one_shl n (by omega), lN_add, hk1, nI_add, hsum]
    rw [show nI n + -1 = nI n - 1 from rfl]
    rw [← hk1]
    have hm1 : r % 2 ^ n = 0 := by
      have h1 : r % (2 * 2 ^ n) = 0 := by rw [← hp]; exact hd
      rw [Nat.mul_comm, Nat.mod_mul] at h1
      omega
    by_cases hc : a.toInt64 < lN (r + 2 ^ n) * lN (r + 2 ^ n)
    · rw [if_pos hc, if_pos hc]
      exact root_lp a n r (k / 2) (by omega) hr hm1 hkk (by omega)
    · rw [if_neg hc, if_neg hc]
      exact root_lp a n (r + 2 ^ n) (k / 2) (by omega) (by omega) (by rw [Nat.add_mod_right]; exact hm1) hkk (by omega)
theorem root_eq (a : Int32) : f_X1_root a.toInt64 = f_X6_root a := by
  have := root_lp a 16 0 (32768 : Int32) (by decide) (by decide) (by decide) (fun _ => rfl) (by decide)
  exact this
/-- a number less one, times a unit, with its sign -/
theorem less_eq (n u s : Int32) : f_X1_lessOne n u s = (if n = 0 then (-2147483648 : Int32) else (if s = 1 then (u * (n - 1)) * (-1) else (u * (n - 1)) * 1)) := by
  unfold f_X1_lessOne
  rw [Int32.mul_neg, Int32.mul_one, Int32.neg_mul]
theorem less_rng {m u : Nat} {s : Int32} (hm : m < 1024) (h0 : ¬ m = 0) (hu : u = 1 ∨ u = 4) : -4088 ≤ (f_X1_lessOne (nI m) (nI u) s).toInt ∧ (f_X1_lessOne (nI m) (nI u) s).toInt ≤ 4088 := by
  unfold f_X1_lessOne
  rw [if_neg (fun q => h0 ((nI_z (by omega)).mp q)), show nI m - 1 = nI (m - 1) from pk_sub (b := 1) (by omega), Int32.neg_mul, pk_mul]
  have hb : u * (m - 1) ≤ 4088 := by
    rcases hu with e | e <;> subst e <;> omega
  have ht : (nI (u * (m - 1))).toInt = ((u * (m - 1) : Nat) : Int) := nI_toInt (by omega)
  split
  · rw [fb_negI (by rw [ht]; omega), ht]; omega
  · rw [ht]; omega
theorem speedOf_eq {e n : Int32} (he : -4088 ≤ e.toInt ∧ e.toInt ≤ 4088) (hn : -4088 ≤ n.toInt ∧ n.toInt ≤ 4088) : f_X1_speedOf e n = f_X6_root ((64 : Int32) * ((e * e) + (n * n))) := by
  unfold f_X1_speedOf
  have hm : (-2147483648 : Int32).toInt = -2147483648 := rfl
  rw [if_neg (fun q => by rw [fa_eq, hm] at q; omega), if_neg (fun q => by rw [fa_eq, hm] at q; omega), ← root_eq]
  congr 1
  have sq : ∀ z : Int, -4088 ≤ z → z ≤ 4088 → 0 ≤ z * z ∧ z * z ≤ 16711744 := by
    intro z h1 h2
    constructor
    · exact Int.mul_self_nonneg z
    · rcases Int.le_total 0 z with h | h
      · calc z * z ≤ 4088 * 4088 := Int.mul_le_mul h2 h2 h (by decide)
          _ = 16711744 := by decide
      · have h3 : 0 ≤ -z := by omega
        have h4 : -z ≤ 4088 := by omega
        calc z * z = (-z) * (-z) := by rw [Int.neg_mul_neg]
          _ ≤ 4088 * 4088 := Int.mul_le_mul h4 h4 h3 (by decide)
          _ = 16711744 := by decide
  have q1 := sq e.toInt he.1 he.2
  have q2 := sq n.toInt hn.1 hn.2
  have m1 : (e * e).toInt = e.toInt * e.toInt := fb_mulI (by omega) (by omega)
  have m2 : (n * n).toInt = n.toInt * n.toInt := fb_mulI (by omega) (by omega)
  have m3 : (e * e + n * n).toInt = e.toInt * e.toInt + n.toInt * n.toInt := by rw [fb_addI (by omega) (by omega), m1, m2]
  have m4 : ((64 : Int32) * (e * e + n * n)).toInt = 64 * (e.toInt * e.toInt + n.toInt * n.toInt) := by
    rw [fb_mulI (by rw [m3, show (64 : Int32).toInt = 64 from rfl]; omega) (by rw [m3, show (64 : Int32).toInt = 64 from rfl]; omega), m3]; rfl
  have l1 : (e.toInt64 * e.toInt64).toInt = e.toInt * e.toInt := by rw [fb_mulL] <;> rw [Int32.toInt_toInt64] <;> omega
  have l2 : (n.toInt64 * n.toInt64).toInt = n.toInt * n.toInt := by rw [fb_mulL] <;> rw [Int32.toInt_toInt64] <;> omega
  have l3 : (e.toInt64 * e.toInt64 + n.toInt64 * n.toInt64).toInt = e.toInt * e.toInt + n.toInt * n.toInt := by rw [fb_addL (by omega) (by omega), l1, l2]
  have l4 : ((64 : Int64) * (e.toInt64 * e.toInt64 + n.toInt64 * n.toInt64)).toInt = 64 * (e.toInt * e.toInt + n.toInt * n.toInt) := by
    rw [fb_mulL (by rw [l3, show (64 : Int64).toInt = 64 from rfl]; omega) (by rw [l3, show (64 : Int64).toInt = 64 from rfl]; omega), l3]; rfl
  rw [fa_eq64, l4, Int32.toInt_toInt64, m4]
