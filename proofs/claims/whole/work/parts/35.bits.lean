/-! the two pictures of a frame: four words, and 112 numbers 0 or 1 -/
def bq (x : Int32) (i : Nat) : Bool := x.toBitVec.getLsbD i
theorem q_ext {x y : Int32} (h : ∀ i, i < 32 → bq x i = bq y i) : x = y := Int32.toBitVec_inj.mp (BitVec.eq_of_getLsbD_eq (fun i hi => h i hi))
theorem q_or (x y : Int32) (i : Nat) : bq (x ||| y) i = (bq x i || bq y i) := by unfold bq; rw [Int32.toBitVec_or, BitVec.getLsbD_or]
theorem q_and (x y : Int32) (i : Nat) : bq (x &&& y) i = (bq x i && bq y i) := by unfold bq; rw [Int32.toBitVec_and, BitVec.getLsbD_and]
theorem q_xor (x y : Int32) (i : Nat) : bq (x ^^^ y) i = (bq x i ^^ bq y i) := by unfold bq; rw [Int32.toBitVec_xor, BitVec.getLsbD_xor]
theorem q_0 (i : Nat) : bq 0 i = false := BitVec.getLsbD_zero
theorem q_1 : ∀ i, i < 32 → bq 1 i = decide (i = 0) := by decide +kernel
theorem qs_l : ∀ n, n < 32 → ((nI n &&& 31).toBitVec.smod 32).toNat = n := by decide +kernel
theorem qs_u : ∀ n, n < 32 → (((nI n).toUInt32 &&& Int32.toUInt32 31).toBitVec % 32).toNat = n := by decide +kernel
theorem q_shl (n : Nat) (hn : n < 32) (x : Int32) {i : Nat} (hi : i < 32) : bq (x <<< (nI n &&& 31)) i = (decide (n ≤ i) && bq x (i - n)) := by
  unfold bq
  rw [Int32.toBitVec_shiftLeft]
  show (x.toBitVec <<< ((nI n &&& 31).toBitVec.smod 32).toNat).getLsbD i = _
  rw [qs_l n hn, BitVec.getLsbD_shiftLeft]
  rcases Nat.lt_or_ge i n with h | h
  · simp [h, Nat.not_le.mpr h]
  · simp [hi, h, Nat.not_lt.mpr h]
theorem q_ushr (n : Nat) (hn : n < 32) (x : Int32) (i : Nat) : bq (ushr x (nI n)) i = bq x (n + i) := by
  show (x.toUInt32 >>> ((nI n).toUInt32 &&& Int32.toUInt32 31)).toBitVec.getLsbD i = x.toUInt32.toBitVec.getLsbD (n + i)
  rw [UInt32.toBitVec_shiftRight]
  show (x.toUInt32.toBitVec >>> (((nI n).toUInt32 &&& Int32.toUInt32 31).toBitVec % 32).toNat).getLsbD i = _
  rw [qs_u n hn, BitVec.getLsbD_ushiftRight]
theorem q_sshr (n : Nat) (hn : n < 32) (x : Int32) {i : Nat} (hi : i < 32) : bq (x >>> (nI n &&& 31)) i = if n + i < 32 then bq x (n + i) else bq x 31 := by
  unfold bq
  rw [Int32.toBitVec_shiftRight]
  show (x.toBitVec.sshiftRight ((nI n &&& 31).toBitVec.smod 32).toNat).getLsbD i = _
  rw [qs_l n hn, BitVec.getLsbD_sshiftRight, BitVec.msb_eq_getLsbD_last]
  simp [hi]
theorem nx_and (a b : Nat) : nI a &&& nI b = nI (a &&& b) := by
  apply Int32.toBitVec_inj.1
  show BitVec.ofNat 32 a &&& BitVec.ofNat 32 b = BitVec.ofNat 32 (a &&& b)
  apply BitVec.eq_of_getLsbD_eq
  intro i hi
  simp [hi]
theorem nx_or (a b : Nat) : nI a ||| nI b = nI (a ||| b) := by
  apply Int32.toBitVec_inj.1
  show BitVec.ofNat 32 a ||| BitVec.ofNat 32 b = BitVec.ofNat 32 (a ||| b)
  apply BitVec.eq_of_getLsbD_eq
  intro i hi
  simp [hi]
theorem nx_xor (a b : Nat) : nI a ^^^ nI b = nI (a ^^^ b) := by
  apply Int32.toBitVec_inj.1
  show BitVec.ofNat 32 a ^^^ BitVec.ofNat 32 b = BitVec.ofNat 32 (a ^^^ b)
  apply BitVec.eq_of_getLsbD_eq
  intro i hi
  simp [hi]
/-- one bit as a number -/
theorem u1 (x : Int32) {t : Nat} (ht : t < 32) : ushr x (nI t) &&& 1 = if bq x t = true then 1 else 0 := by
  apply q_ext
  intro i hi
  rw [q_and, q_ushr t ht, q_1 i hi]
  by_cases h0 : i = 0
  · subst h0
    cases h : bq x t
    · simp [h, q_0]
    · simp [h, q_1 0 (by omega)]
  · cases h : bq x t
    · simp [h0, q_0]
    · simp [h0, q_1 i hi]
theorem s1 (x : Int32) {t : Nat} (ht : t < 32) : (x >>> (nI t &&& 31)) &&& 1 = if bq x t = true then 1 else 0 := by
  apply q_ext
  intro i hi
  rw [q_and, q_sshr t ht x hi, q_1 i hi]
  by_cases h0 : i = 0
  · subst h0
    cases h : bq x t
    · simp [h, q_0, ht]
    · simp [h, q_1 0 (by omega), ht]
  · cases h : bq x t
    · simp [h0, q_0]
    · simp [h0, q_1 i hi]
theorem ix112 : ∀ k, k < 112 → nI (k + 1) - 1 = nI k ∧ ¬ (nI k >>> ((5 : Int32) &&& 31) < 0) ∧ (nI k >>> ((5 : Int32) &&& 31) < 4) ∧ (nI k >>> ((5 : Int32) &&& 31)).toNatClampNeg = k / 32 ∧ (31 : Int32) - (nI k - nI k / (32 : Int32) * (32 : Int32)) = nI (31 - k % 32) ∧ ((32 : Int32) ≤ nI k ↔ 32 ≤ k) ∧ ((64 : Int32) ≤ nI k ↔ 64 ≤ k) ∧ ((96 : Int32) ≤ nI k ↔ 96 ≤ k) := by decide +kernel
/-- bit k of the four words, k from 0 on -/
def bf (w : Nat → Int32) (k : Nat) : Int32 := f_X4_bit w (nI (k + 1))
theorem bf_at (w : Nat → Int32) {k : Nat} (h : k < 112) : bf w k = if bq (w (k / 32)) (31 - k % 32) = true then 1 else 0 := by
  obtain ⟨e1, e2, e3, e4, e5, _⟩ := ix112 k h
  unfold bf f_X4_bit
  rw [e1, if_neg e2, if_pos e3, e4, e5]
  exact u1 _ (by omega)
theorem bf_bits (w : Nat → Int32) : Bits (bf w) := by
  intro k hk
  rw [bf_at w hk]
  split
  · exact Or.inr rfl
  · exact Or.inl rfl
theorem fbit_bf (w : Nat → Int32) (a0 a1 a2 a3 : Int32) {k : Nat} (h : k < 112) : fbit a0 a1 a2 a3 k = bf (f_X4_write_w w a0 a1 a2 a3) k := by
  obtain ⟨e1, e2, e3, e4, e5, e6, e7, e8⟩ := ix112 k h
  rw [bf_at _ h]
  unfold fbit f_X6_frame_x45
  rw [e5, s1 _ (by omega)]
  have hw : (if (32 : Int32) ≤ nI k then (if (64 : Int32) ≤ nI k then (if (96 : Int32) ≤ nI k then a3 else a2) else a1) else a0) = f_X4_write_w w a0 a1 a2 a3 (k / 32) := by
    unfold f_X4_write_w
    by_cases h1 : 32 ≤ k
    · rw [if_pos (e6.mpr h1)]
      by_cases h2 : 64 ≤ k
      · rw [if_pos (e7.mpr h2)]
        by_cases h3 : 96 ≤ k
        · rw [if_pos (e8.mpr h3), show k / 32 = 3 by omega]; rfl
        · rw [if_neg (fun q => h3 (e8.mp q)), show k / 32 = 2 by omega]; rfl
      · rw [if_neg (fun q => h2 (e7.mp q)), show k / 32 = 1 by omega]; rfl
    · rw [if_neg (fun q => h1 (e6.mp q)), show k / 32 = 0 by omega]; rfl
  rw [hw]
/-- the two pictures agree -/
def Same (w b : Nat → Int32) : Prop := ∀ k, k < 112 → b k = bf w k
theorem same_frame (w bt : Nat → Int32) (a0 a1 a2 a3 : Int32) : Same (f_X4_write_w w a0 a1 a2 a3) (f_X6_frame_bt bt a0 a1 a2 a3) := fun k hk => by rw [frame_bt_at hk, fbit_bf w a0 a1 a2 a3 hk]
theorem same_bits {w b : Nat → Int32} (h : Same w b) : Bits b := fun k hk => by rw [h k hk]; exact bf_bits w k hk
theorem one_or : ∀ b : Bool, (if b = true then (1 : Int32) else 0) = if b then nI 1 else nI 0 := by decide
theorem top5 : ∀ m, m < 32 → ((16 : Int32) ≤ nI m ↔ 16 ≤ m) := by decide +kernel
theorem ushr27 (x : Int32) : ushr x (27 : Int32) = nI (x.toBitVec.toNat / 2 ^ 27) := by
  have h := pk_ushrN (n := x.toBitVec.toNat) x.toBitVec.isLt (27 : Int32) 27 (by decide +kernel)
  have e : nI x.toBitVec.toNat = x := by
    apply Int32.toBitVec_inj.1
    show BitVec.ofNat 32 x.toBitVec.toNat = _
    rw [BitVec.ofNat_toNat]; exact BitVec.setWidth_eq _
  rw [e] at h
  exact h
theorem len_eq (w bt : Nat → Int32) (a0 a1 a2 a3 : Int32) : f_X4_write_len w a0 a1 a2 a3 = f_X6_frame_sz bt a0 a1 a2 a3 := by
  have h0 : f_X6_frame_sl a0 a1 a2 a3 112 0 bt 0 = bf (f_X4_write_w w a0 a1 a2 a3) 0 := same_frame w bt a0 a1 a2 a3 0 (by omega)
  have ef : f_X4_format (upd (upd (upd (upd w 0 a0) 1 a1) 2 a2) 3 a3) = ushr a0 (27 : Int32) := rfl
  unfold f_X4_write_len f_X6_frame_sz
  rw [ef, h0, bf_at _ (by omega)]
  have e : f_X4_write_w w a0 a1 a2 a3 (0 / 32) = a0 := rfl
  rw [e, ushr27]
  have hl := a0.toBitVec.isLt
  have hb : bq a0 (31 - 0 % 32) = decide (16 ≤ a0.toBitVec.toNat / 2 ^ 27) := by
    show a0.toBitVec.getLsbD 31 = _
    rw [← BitVec.testBit_toNat, Nat.testBit_eq_decide_div_mod_eq]
    apply decide_eq_decide.mpr
    omega
  rw [hb]
  by_cases hc : 16 ≤ a0.toBitVec.toNat / 2 ^ 27
  · rw [if_pos ((top5 _ (by omega)).mpr hc), decide_eq_true hc]; rfl
  · rw [if_neg (fun q => hc ((top5 _ (by omega)).mp q)), decide_eq_false hc]; rfl
theorem len_56 (w : Nat → Int32) (a0 a1 a2 a3 : Int32) : f_X4_write_len w a0 a1 a2 a3 = 56 ∨ f_X4_write_len w a0 a1 a2 a3 = 112 := by
  unfold f_X4_write_len
  split
  · exact Or.inr rfl
  · exact Or.inl rfl
/-- some bits as a number -/
def num (b : Nat → Int32) : Nat → Nat → Int32 → Int32
  | 0, _, v => v
  | n + 1, s, v => num b n (s + 1) (2 * v + b s)
theorem num_congr {b c : Nat → Int32} : ∀ (n s : Nat) (v : Int32), (∀ k, s ≤ k → k < s + n → b k = c k) → num b n s v = num c n s v
  | 0, _, _, _ => rfl
  | n + 1, s, v, h => by
    show num b n (s + 1) _ = num c n (s + 1) _
    rw [h s (Nat.le_refl _) (by omega)]
    exact num_congr n (s + 1) _ (fun k h1 h2 => h k (by omega) (by omega))
theorem num6 (b : Nat → Int32) : ∀ (n s : Nat) (v : Int32), s + n < 1000 → f_X6_number_lp b n (nI (s + 1)) v = num b n s v
  | 0, _, _, _ => rfl
  | n + 1, s, v, h => by
    show f_X6_number_lp b n (nI (s + 1) + 1) (2 * v + b (nI (s + 1) - 1).toNatClampNeg) = num b n (s + 1) (2 * v + b s)
    rw [nI_pred, nI_clamp (by omega), nI_1]
    exact num6 b n (s + 1) _ (by omega)
theorem dbl (v b : Int32) (hb : b = 0 ∨ b = 1) : (v <<< ((1 : Int32) &&& 31)) ||| b = 2 * v + b := by
  have hv : v = nI v.toBitVec.toNat := by
    apply Int32.toBitVec_inj.1
    show _ = BitVec.ofNat 32 v.toBitVec.toNat
    rw [BitVec.ofNat_toNat]; exact (BitVec.setWidth_eq _).symm
  have hs : v <<< ((1 : Int32) &&& 31) = 2 * v := by
    apply Int32.toBitVec_inj.1
    rw [Int32.toBitVec_shiftLeft, Int32.toBitVec_mul]
    show v.toBitVec <<< ((nI 1 &&& 31).toBitVec.smod 32).toNat = (2 : BitVec 32) * v.toBitVec
    rw [qs_l 1 (by omega), BitVec.shiftLeft_eq_mul_twoPow, BitVec.mul_comm]
    rfl
  rcases hb with h | h
  · subst h
    rw [hs]
    apply q_ext; intro i hi; rw [q_or, q_0, Bool.or_false]
    rw [show (2 * v + 0 : Int32) = 2 * v from Int32.add_zero _]
  · subst h
    rw [hs]
    have e1 : (2 * v : Int32) = nI (2 * v.toBitVec.toNat) := by
      have := pk_mul 2 v.toBitVec.toNat
      rw [← hv] at this
      exact this
    rw [e1, show (1 : Int32) = nI 1 from rfl, nx_or, nI_add]
    have e2 : 2 * v.toBitVec.toNat ||| 1 = 2 * v.toBitVec.toNat + 1 := by
      have := Nat.two_pow_add_eq_or_of_lt (i := 1) (b := 1) (by decide) v.toBitVec.toNat
      simpa using this.symm
    rw [e2]
theorem num4 (w : Nat → Int32) (x y : Int32) : ∀ (n s : Nat) (v : Int32), s + n ≤ 112 → f_X4_number_lp w x y n (nI (s + 1)) v = num (bf w) n s v
  | 0, _, _, _ => rfl
  | n + 1, s, v, h => by
    show f_X4_number_lp w x y n (nI (s + 1) + 1) ((v <<< ((1 : Int32) &&& 31)) ||| bf w s) = num (bf w) n (s + 1) (2 * v + bf w s)
    rw [dbl v _ (bf_bits w s (by omega)), nI_1]
    exact num4 w x y n (s + 1) _ (by omega)
theorem nat_of {x : Int32} (h : 0 ≤ x.toInt) : ∃ j : Nat, (j : Int) = x.toInt ∧ x = nI j := ⟨x.toNatClampNeg, clamp h, (nI_back h).symm⟩
/-- a number that is all there -/
theorem num_in {w b : Nat → Int32} {len : Int32} (hs : Same w b) (hl : len.toInt ≤ 112) {x y z : Int32} (h1 : 1 ≤ x.toInt) (h2 : 1 ≤ y.toInt) (h3 : y.toInt ≤ 32) (h4 : x.toInt + y.toInt - 1 ≤ len.toInt) (hz : z.toInt = x.toInt + y.toInt - 1) : f_X4_number w len x y = f_X6_number b x z := by
  have hlr := fb_rng len
  have c1 : ¬ y < 1 := by rw [fa_lt, i1]; omega
  have c2 : ¬ 32 < y := by rw [fa_lt, show (32 : Int32).toInt = 32 from rfl]; omega
  have c3 : ¬ x < 1 := by rw [fa_lt, i1]; omega
  have c4 : x ≤ len - y + 1 := by
    have e1 : (len - y).toInt = len.toInt - y.toInt := fb_subI (by omega) (by omega)
    have e2 : (len - y + 1).toInt = len.toInt - y.toInt + 1 := by rw [fb_addI (by rw [e1, i1]; omega) (by rw [e1, i1]; omega), e1, i1]
    rw [fa_le, e2]; omega
  unfold f_X4_number f_X6_number
  rw [if_neg c1, if_neg c2, if_neg c3, if_pos c4]
  obtain ⟨i, hi, ei⟩ := nat_of (x := x) (by omega)
  obtain ⟨j, hj, ej⟩ := nat_of (x := y) (by omega)
  have hj2 : y.toNatClampNeg = j := by rw [ej]; exact nI_clamp (by omega)
  have hn : (z.toInt + 1 - x.toInt).toNat = j := by omega
  obtain ⟨i', rfl⟩ : ∃ i', i = i' + 1 := ⟨i - 1, by omega⟩
  rw [hj2, hn, ei, num4 w _ _ j i' 0 (by omega), num6 b j i' 0 (by omega)]
  exact (num_congr j i' 0 (fun k h5 h6 => hs k (by omega))).symm
theorem bits_eq {w b : Nat → Int32} {len : Int32} (hs : Same w b) (hl0 : 0 ≤ len.toInt) (hl : len.toInt ≤ 112) (x y : Int32) : f_X4_number w len x y = f_X6_bits b len x y := by
  by_cases c3 : x < 1
  · unfold f_X4_number f_X6_bits
    rw [if_pos c3]
    simp [c3]
  by_cases c1 : y < 1
  · unfold f_X4_number f_X6_bits
    rw [if_pos c1, if_neg c3, if_pos c1]
  by_cases c2 : 32 < y
  · unfold f_X4_number f_X6_bits
    rw [if_neg c1, if_pos c2, if_neg c3, if_neg c1, if_pos c2]
  by_cases c4 : x ≤ len - y + 1
  · have d1 : 1 ≤ x.toInt := by rw [fa_lt, i1] at c3; omega
    have d2 : 1 ≤ y.toInt := by rw [fa_lt, i1] at c1; omega
    have d3 : y.toInt ≤ 32 := by rw [fa_lt, show (32 : Int32).toInt = 32 from rfl] at c2; omega
    have e1 : (len - y).toInt = len.toInt - y.toInt := fb_subI (by omega) (by omega)
    have e2 : (len - y + 1).toInt = len.toInt - y.toInt + 1 := by rw [fb_addI (by rw [e1, i1]; omega) (by rw [e1, i1]; omega), e1, i1]
    have d4 := (fa_le _ _).mp c4
    rw [e2] at d4
    have e3 : (x + y).toInt = x.toInt + y.toInt := fb_addI (by omega) (by omega)
    have e4 : (x + y - 1).toInt = x.toInt + y.toInt - 1 := by rw [fb_subI (by rw [e3, i1]; omega) (by rw [e3, i1]; omega), e3, i1]
    rw [num_in hs hl d1 d2 d3 (by omega) e4]
    unfold f_X6_bits
    rw [if_neg c3, if_neg c1, if_neg c2, if_pos c4]
  · unfold f_X4_number f_X6_bits
    rw [if_neg c1, if_neg c2, if_neg c3, if_neg c4, if_neg c3, if_neg c1, if_neg c2, if_neg c4]
