/-! codes: the same numbers -/
theorem bitN {m t : Nat} (hm : m < 2 ^ 31) (ht : t < 32) : (nI m >>> (nI t &&& 31)) &&& 1 = nI (m / 2 ^ t % 2) := by
  rw [pk_shrN hm (nI t &&& 31) t (qs_l t ht)]
  have h : m / 2 ^ t ≤ m := Nat.div_le_self _ _
  exact pk_andN (n := m / 2 ^ t) (by omega) (m := 1) 1 (by decide)
theorem ofN {m j : Nat} (hm : m < 2 ^ 31) (hj : j ≤ 12) : f_X6_of (nI m) (nI j) = nI (m / 2 ^ (12 - j) % 2) := by
  unfold f_X6_of
  have e : (12 : Int32) - nI j = nI (12 - j) := pk_sub (a := 12) hj
  rw [e]
  exact bitN hm (by omega)
theorem three_tab : ∀ x, x < 2 → ∀ y, y < 2 → ∀ z, z < 2 → ((nI x <<< ((2 : Int32) &&& 31)) ||| (nI y <<< ((1 : Int32) &&& 31))) ||| nI z = nI (4 * x + 2 * y + z) := by decide +kernel
theorem threeN {m h i l : Nat} (hm : m < 2 ^ 31) (hh : h < 32) (hi : i < 32) (hl : l < 32) : f_X1_three (nI m) (nI h) (nI i) (nI l) = nI (4 * (m / 2 ^ h % 2) + 2 * (m / 2 ^ i % 2) + m / 2 ^ l % 2) := by
  unfold f_X1_three
  rw [bitN hm hh, bitN hm hi, bitN hm hl]
  exact three_tab _ (by omega) _ (by omega) _ (by omega)
theorem fourN (x y z : Nat) : (4 : Int32) * nI x + 2 * nI y + nI z = nI (4 * x + 2 * y + z) := by
  rw [show (4 : Int32) = nI 4 from rfl, show (2 : Int32) = nI 2 from rfl, pk_mul, pk_mul, nI_add, nI_add]
theorem squawk_eq {m : Nat} (hm : m < 2 ^ 31) : f_X1_squawk (nI m) = f_X6_squawk (nI m) := by
  unfold f_X1_squawk f_X6_squawk f_X6_squawk_x24 f_X6_squawk_x52 f_X6_squawk_x77 f_X6_squawk_x106
  have o0 : f_X6_of (nI m) 0 = nI (m / 2 ^ 12 % 2) := ofN (j := 0) hm (by decide)
  have o1 : f_X6_of (nI m) 1 = nI (m / 2 ^ 11 % 2) := ofN (j := 1) hm (by decide)
  have o2 : f_X6_of (nI m) 2 = nI (m / 2 ^ 10 % 2) := ofN (j := 2) hm (by decide)
  have o3 : f_X6_of (nI m) 3 = nI (m / 2 ^ 9 % 2) := ofN (j := 3) hm (by decide)
  have o4 : f_X6_of (nI m) 4 = nI (m / 2 ^ 8 % 2) := ofN (j := 4) hm (by decide)
  have o5 : f_X6_of (nI m) 5 = nI (m / 2 ^ 7 % 2) := ofN (j := 5) hm (by decide)
  have o7 : f_X6_of (nI m) 7 = nI (m / 2 ^ 5 % 2) := ofN (j := 7) hm (by decide)
  have o8 : f_X6_of (nI m) 8 = nI (m / 2 ^ 4 % 2) := ofN (j := 8) hm (by decide)
  have o9 : f_X6_of (nI m) 9 = nI (m / 2 ^ 3 % 2) := ofN (j := 9) hm (by decide)
  have o10 : f_X6_of (nI m) 10 = nI (m / 2 ^ 2 % 2) := ofN (j := 10) hm (by decide)
  have o11 : f_X6_of (nI m) 11 = nI (m / 2 ^ 1 % 2) := ofN (j := 11) hm (by decide)
  have o12 : f_X6_of (nI m) 12 = nI (m / 2 ^ 0 % 2) := ofN (j := 12) hm (by decide)
  have t1 : f_X1_three (nI m) 7 9 11 = nI (4 * (m / 2 ^ 7 % 2) + 2 * (m / 2 ^ 9 % 2) + m / 2 ^ 11 % 2) := threeN (h := 7) (i := 9) (l := 11) hm (by decide) (by decide) (by decide)
  have t2 : f_X1_three (nI m) 1 3 5 = nI (4 * (m / 2 ^ 1 % 2) + 2 * (m / 2 ^ 3 % 2) + m / 2 ^ 5 % 2) := threeN (h := 1) (i := 3) (l := 5) hm (by decide) (by decide) (by decide)
  have t3 : f_X1_three (nI m) 8 10 12 = nI (4 * (m / 2 ^ 8 % 2) + 2 * (m / 2 ^ 10 % 2) + m / 2 ^ 12 % 2) := threeN (h := 8) (i := 10) (l := 12) hm (by decide) (by decide) (by decide)
  have t4 : f_X1_three (nI m) 0 2 4 = nI (4 * (m / 2 ^ 0 % 2) + 2 * (m / 2 ^ 2 % 2) + m / 2 ^ 4 % 2) := threeN (h := 0) (i := 2) (l := 4) hm (by decide) (by decide) (by decide)
  rw [t1, t2, t3, t4, o0, o1, o2, o3, o4, o5, o7, o8, o9, o10, o11, o12, fourN, fourN, fourN, fourN]
