/-! codes: signs, speeds -/
theorem letter_eq : ∀ m, m < 64 → f_X1_letter (nI m) = (if (nI m) < (1 : Int32) then (if (nI m) = (32 : Int32) then (nI m) else (if (nI m) < (48 : Int32) then (63 : Int32) else (if (57 : Int32) < (nI m) then (63 : Int32) else (nI m)))) else (if (26 : Int32) < (nI m) then (if (nI m) = (32 : Int32) then (nI m) else (if (nI m) < (48 : Int32) then (63 : Int32) else (if (57 : Int32) < (nI m) then (63 : Int32) else (nI m)))) else ((64 : Int32) + (nI m)))) := by decide +kernel
theorem speed_eq : ∀ m, m < 128 → f_X1_groundSpeed (nI m) = f_X6_speed (nI m) := by decide +kernel
theorem shl1 (v : Int32) : v <<< ((1 : Int32) &&& 31) = 2 * v := by
  have h := dbl v 0 (Or.inl rfl)
  rw [Int32.add_zero] at h
  rw [← h]
  apply q_ext
  intro i hi
  rw [q_or, q_0, Bool.or_false]
theorem withM_eq (m : Nat) (hm : m < 4096) : f_X1_withM (nI m) = ((nI m >>> ((6 : Int32) &&& 31)) * (128 : Int32)) + (nI m - nI m / (64 : Int32) * (64 : Int32)) ∧ (f_X1_withM (nI m)).toInt < 8192 ∧ 0 ≤ (f_X1_withM (nI m)).toInt := by
  have e1 : nI m &&& 4032 = nI (64 * (m / 64)) := (nx_and m 4032).trans (congrArg nI (and_high (i := 6) (n := 12) hm (by decide)))
  have e2 : nI m &&& (63 : Int32) = nI (m % 2 ^ 6) := pk_andN (n := m) (by omega) 6 (by decide)
  have e3 : 128 * (m / 64) ||| m % 64 = 128 * (m / 64) + m % 64 := (Nat.two_pow_add_eq_or_of_lt (i := 7) (b := m % 64) (by omega) (m / 64)).symm
  have e4 : f_X1_withM (nI m) = nI (128 * (m / 64) + m % 64) := by
    unfold f_X1_withM
    rw [e1, e2, shl1, show (2 : Int32) = nI 2 from rfl, pk_mul, nx_or, show 2 * (64 * (m / 64)) = 128 * (m / 64) by omega, show m % 2 ^ 6 = m % 64 from rfl, e3]
  have e5 : nI m >>> ((6 : Int32) &&& 31) = nI (m / 2 ^ 6) := pk_shrN (show m < 2 ^ 31 by omega) (nI 6 &&& 31) 6 (qs_l 6 (by decide))
  have e6 : nI m / (64 : Int32) = nI (m / 64) := pk_div (a := m) (d := 64) (by omega) (by decide) (by decide)
  rw [e4, e5, e6, show (64 : Int32) = nI 64 from rfl, show (128 : Int32) = nI 128 from rfl, pk_mul, pk_mul, pk_sub (by omega), nI_add, nI_toInt (by omega)]
  refine ⟨?_, by omega, by omega⟩
  congr 1
  omega
/-! the root -/
theorem one_shl : ∀ n, n < 16 → (1 : Int64) <<< ((nI n).toInt64 &&& 63) = lN (2 ^ n) := by decide +kernel
theorem root_lp (a : Int32) : ∀ (n r : Nat) (k : Int32), n ≤ 16 → r < 65536 * 2 → r % 2 ^ n = 0 → (0 < n → k = nI (2 ^ (n - 1))) → r + 2 ^ n ≤ 65536 * 2 → f_X1_root_lp a.toInt64 n (nI n - 1) (lN r) = f_X6_root_lp a n k (nI r)
  | 0, r, k, _, _, _, _, _ => lN_i r
  | n + 1, r, k, hn, hr, hd, hk, hs => by
    have e1 : nI (n + 1) - 1 = nI n := nI_pred n
    have hk1 : k = nI (2 ^ n) := hk (by omega)
    have hp : 2 ^ (n + 1) = 2 * 2 ^ n := by rw [Nat.pow_succ, Nat.mul_comm]
    have hpos : 0 < 2 ^ n := Nat.two_pow_pos n
    have hsum : (nI (r + 2 ^ n)).toInt64 = lN (r + 2 ^ n) := nI_l (by omega)
    have hkk : 0 < n → k / 2 = nI (2 ^ (n - 1)) := by
      intro hn0
      have hpn : 2 ^ n = 2 ^ (n - 1) * 2 := by rw [← Nat.pow_succ, Nat.succ_eq_add_one, show n - 1 + 1 = n by omega]
      rw [hk1, show (2 : Int32) = nI 2 from rfl, pk_div (by omega) (by decide) (by decide), hpn, Nat.mul_div_cancel _ (by decide)]
    show f_X1_root_lp a.toInt64 n (nI (n + 1) - 1 + -1) (if a.toInt64 < ((lN r + (1 : Int64) <<< ((nI (n + 1) - 1).toInt64 &&& 63)) * (lN r + (1 : Int64) <<< ((nI (n + 1) - 1).toInt64 &&& 63))) then lN r else lN r + (1 : Int64) <<< ((nI (n + 1) - 1).toInt64 &&& 63)) = f_X6_root_lp a n (k / 2) (if a.toInt64 < (nI r + k).toInt64 * (nI r + k).toInt64 then nI r else nI r + k)
    rw [e1, one_shl n (by omega), lN_add, hk1, nI_add, hsum]
    rw [show nI n + -1 = nI n - 1 from (Int32.sub_eq_add_neg _ _).symm]
    rw [← hk1]
    have hm1 : r % 2 ^ n = 0 := by
      have h1 : r % (2 * 2 ^ n) = 0 := by rw [← hp]; exact hd
      rw [Nat.mul_comm, Nat.mod_mul] at h1
      omega
    by_cases hc : a.toInt64 < lN (r + 2 ^ n) * lN (r + 2 ^ n)
    · rw [if_pos hc, if_pos hc]
      exact root_lp a n r (k / 2) (by omega) hr hm1 hkk (by omega)
    · rw [if_neg hc, if_neg hc]
      exact root_lp a n (r + 2 ^ n) (k / 2) (by omega) (by omega) (by rw [Nat.add_mod_right]; exact hm1) hkk (by omega)
theorem root_eq (a : Int32) : f_X1_root a.toInt64 = f_X6_root a := by
  have := root_lp a 16 0 (32768 : Int32) (by decide) (by decide) (by decide) (fun _ => rfl) (by decide)
  exact this
/-- a number less one, times a unit, with its sign -/
theorem less_eq (n u s : Int32) : f_X1_lessOne n u s = (if n = 0 then (-2147483648 : Int32) else (if s = 1 then (u * (n - 1)) * (-1) else (u * (n - 1)) * 1)) := by
  unfold f_X1_lessOne
  rw [Int32.mul_neg, Int32.mul_one, Int32.neg_mul]
theorem less_rng {m u : Nat} {s : Int32} (hm : m < 1024) (h0 : ¬ m = 0) (hu : u = 1 ∨ u = 4) : -4088 ≤ (f_X1_lessOne (nI m) (nI u) s).toInt ∧ (f_X1_lessOne (nI m) (nI u) s).toInt ≤ 4088 := by
  unfold f_X1_lessOne
  rw [if_neg (fun q => h0 ((nI_z (by omega)).mp q)), show nI m - 1 = nI (m - 1) from pk_sub (b := 1) (by omega), Int32.neg_mul, pk_mul]
  have hb : u * (m - 1) ≤ 4088 := by
    rcases hu with e | e <;> subst e <;> omega
  have ht : (nI (u * (m - 1))).toInt = ((u * (m - 1) : Nat) : Int) := nI_toInt (by omega)
  split
  · rw [fb_negI (by rw [ht]; omega), ht]; omega
  · rw [ht]; omega
theorem speedOf_eq {e n : Int32} (he : -4088 ≤ e.toInt ∧ e.toInt ≤ 4088) (hn : -4088 ≤ n.toInt ∧ n.toInt ≤ 4088) : f_X1_speedOf e n = f_X6_root ((64 : Int32) * ((e * e) + (n * n))) := by
  unfold f_X1_speedOf
  have hm : (-2147483648 : Int32).toInt = -2147483648 := rfl
  rw [if_neg (fun q => by rw [fa_eq, hm] at q; omega), if_neg (fun q => by rw [fa_eq, hm] at q; omega), ← root_eq]
  congr 1
  have sq : ∀ z : Int, -4088 ≤ z → z ≤ 4088 → 0 ≤ z * z ∧ z * z ≤ 16711744 := by
    intro z h1 h2
    constructor
    · rcases Int.le_total 0 z with h | h
      · exact Int.mul_nonneg h h
      · exact Int.mul_nonneg_of_nonpos_of_nonpos h h
    · rcases Int.le_total 0 z with h | h
      · calc z * z ≤ 4088 * 4088 := Int.mul_le_mul h2 h2 h (by decide)
          _ = 16711744 := by decide
      · have h3 : 0 ≤ -z := by omega
        have h4 : -z ≤ 4088 := by omega
        calc z * z = (-z) * (-z) := by rw [Int.neg_mul_neg]
          _ ≤ 4088 * 4088 := Int.mul_le_mul h4 h4 h3 (by decide)
          _ = 16711744 := by decide
  have q1 := sq e.toInt he.1 he.2
  have q2 := sq n.toInt hn.1 hn.2
  have m1 : (e * e).toInt = e.toInt * e.toInt := fb_mulI (by omega) (by omega)
  have m2 : (n * n).toInt = n.toInt * n.toInt := fb_mulI (by omega) (by omega)
  have m3 : (e * e + n * n).toInt = e.toInt * e.toInt + n.toInt * n.toInt := by rw [fb_addI (by omega) (by omega), m1, m2]
  have m4 : ((64 : Int32) * (e * e + n * n)).toInt = 64 * (e.toInt * e.toInt + n.toInt * n.toInt) := by
    rw [fb_mulI (by rw [m3, show (64 : Int32).toInt = 64 from rfl]; omega) (by rw [m3, show (64 : Int32).toInt = 64 from rfl]; omega), m3]; rfl
  have l1 : (e.toInt64 * e.toInt64).toInt = e.toInt * e.toInt := by rw [fb_mulL] <;> rw [Int32.toInt_toInt64] <;> omega
  have l2 : (n.toInt64 * n.toInt64).toInt = n.toInt * n.toInt := by rw [fb_mulL] <;> rw [Int32.toInt_toInt64] <;> omega
  have l3 : (e.toInt64 * e.toInt64 + n.toInt64 * n.toInt64).toInt = e.toInt * e.toInt + n.toInt * n.toInt := by rw [fb_addL (by omega) (by omega), l1, l2]
  have l4 : ((64 : Int64) * (e.toInt64 * e.toInt64 + n.toInt64 * n.toInt64)).toInt = 64 * (e.toInt * e.toInt + n.toInt * n.toInt) := by
    rw [fb_mulL (by rw [l3, show (64 : Int64).toInt = 64 from rfl]; omega) (by rw [l3, show (64 : Int64).toInt = 64 from rfl]; omega), l3]; rfl
  rw [fa_eq64, l4, Int32.toInt_toInt64, m4]
