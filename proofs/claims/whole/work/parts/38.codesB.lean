/-! codes: Gray codes, masks -/
theorem gray8 : ∀ c, c < 256 → f_X6_ungray (nI c) 8 = f_X1_ofGray (nI c) := by decide +kernel
theorem gray3 : ∀ c, c < 8 → f_X6_ungray (nI c) 3 = f_X1_ofGray (nI c) := by decide +kernel
theorem odd8 : ∀ c, c < 256 → (f_X1_ofGray (nI c) &&& 1 = 1 ↔ f_X1_ofGray (nI c) - f_X1_ofGray (nI c) / 2 * 2 = 1) := by decide +kernel
theorem join8 : ∀ x, x < 2 → ∀ x', x' < 2 → ∀ y, y < 8 → ∀ z, z < 8 → (((((nI x) <<< ((1 : Int32) &&& 31)) ||| nI x') <<< ((6 : Int32) &&& 31)) ||| (nI y <<< ((3 : Int32) &&& 31))) ||| nI z = nI (128 * x + 64 * x' + 8 * y + z) := by decide +kernel
theorem join11 (p q r : Nat) (hq : q < 2) (hr : r < 16) : (nI (32 * p) ||| nI (16 * q)) ||| nI r = nI (32 * p + 16 * q + r) := by
  have h1 : 32 * p ||| 16 * q = 32 * p + 16 * q := (Nat.two_pow_add_eq_or_of_lt (i := 5) (b := 16 * q) (by omega) p).symm
  have h2 : 16 * (2 * p + q) ||| r = 16 * (2 * p + q) + r := (Nat.two_pow_add_eq_or_of_lt (i := 4) (b := r) (by omega) (2 * p + q)).symm
  rw [nx_or, h1, nx_or, show 32 * p + 16 * q = 16 * (2 * p + q) by omega, h2]
theorem and_bit (k i : Nat) : k &&& 2 ^ i = 2 ^ i * (k / 2 ^ i % 2) := by
  have h : k &&& 2 ^ i = (k.testBit i).toNat * 2 ^ i := by
    apply Nat.eq_of_testBit_eq
    intro j
    rw [Nat.testBit_and, Nat.testBit_two_pow]
    cases e : k.testBit i
    · by_cases h : i = j
      · subst h; rw [e]; simp
      · simp [h]
    · rw [show (true : Bool).toNat * 2 ^ i = 2 ^ i from Nat.one_mul _, Nat.testBit_two_pow]
      by_cases h : i = j
      · subst h; rw [e]; simp
      · simp [h]
  rw [h, Nat.testBit_eq_decide_div_mod_eq, Nat.mul_comm]
  rcases Nat.mod_two_eq_zero_or_one (k / 2 ^ i) with e | e <;> rw [e] <;> rfl
/-- the bits from i on, below n -/
theorem and_high {k i n : Nat} (h : k < 2 ^ n) (hi : i ≤ n) : k &&& (2 ^ n - 2 ^ i) = 2 ^ i * (k / 2 ^ i) := by
  have h1 : k &&& (2 ^ n - 1) = k := by rw [Nat.and_two_pow_sub_one_eq_mod]; exact Nat.mod_eq_of_lt h
  have h2 : k &&& (2 ^ i - 1) = k % 2 ^ i := Nat.and_two_pow_sub_one_eq_mod k i
  apply Nat.eq_of_testBit_eq
  intro j
  have hm : 2 ^ n - 2 ^ i = 2 ^ i * (2 ^ (n - i) - 1) := by rw [Nat.mul_sub, ← Nat.pow_add, show i + (n - i) = n by omega, Nat.mul_one]
  rw [Nat.testBit_and, hm, Nat.testBit_two_pow_mul, Nat.testBit_two_pow_mul, Nat.testBit_two_pow_sub_one, Nat.testBit_div_two_pow]
  by_cases hj : i ≤ j
  · rw [show j - i + i = j by omega]
    by_cases hn : j < n
    · rw [decide_eq_true hj, decide_eq_true (show j - i < n - i by omega)]; simp
    · have hz : k.testBit j = false := Nat.testBit_lt_two_pow (Nat.lt_of_lt_of_le h (Nat.pow_le_pow_right (by decide) (by omega)))
      rw [hz]; simp
  · rw [decide_eq_false hj]; simp
theorem m2016 (k : Nat) (h : k < 2048) : nI k &&& 2016 = nI (32 * (k / 32)) := (nx_and k 2016).trans (congrArg nI (and_high (i := 5) (n := 11) h (by decide)))
theorem m16 (k : Nat) (_ : k < 8192) : nI k &&& 16 = nI (16 * (k / 16 % 2)) := (nx_and k 16).trans (congrArg nI (and_bit k 4))
theorem m64 (k : Nat) (_ : k < 8192) : nI k &&& 64 = nI (64 * (k / 64 % 2)) := (nx_and k 64).trans (congrArg nI (and_bit k 6))
theorem nI_z {k : Nat} (h : k < 2 ^ 31) : nI k = 0 ↔ k = 0 := by
  have := nI_eq (a := k) (b := 0) h (by decide)
  rw [nI_0] at this
  exact this
theorem nI_one {k : Nat} (h : k < 2 ^ 31) : nI k = 1 ↔ k = 1 := nI_eq (a := k) (b := 1) h (by decide)
theorem twoN (x y : Nat) : (2 : Int32) * nI x + nI y = nI (2 * x + y) := by rw [show (2 : Int32) = nI 2 from rfl, pk_mul, nI_add]
