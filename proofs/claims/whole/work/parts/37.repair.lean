/-! repair, seal: the same answers -/
theorem fmt_tab : ∀ m, m < 32 → nI m = num (fun k => if m.testBit (4 - k) = true then 1 else 0) 5 0 0 := by decide +kernel
theorem fmt_eq {w b : Nat → Int32} {len : Int32} (hs : Same w b) (_ : len = 56 ∨ len = 112) : f_X4_format w = f_X6_number b 1 5 := by
  have e6 : f_X6_number b 1 5 = f_X6_number_lp b 5 (nI (0 + 1)) 0 := rfl
  rw [e6, num6 b 5 0 0 (by decide)]
  have e4 : f_X4_format w = ushr (w 0) (27 : Int32) := rfl
  have hw := (w 0).toBitVec.isLt
  rw [e4, ushr27, fmt_tab _ (by omega)]
  apply num_congr
  intro k _ hk
  rw [hs k (by omega), bf_at w (by omega), show k / 32 = 0 by omega, show 31 - k % 32 = 4 - k + 27 by omega]
  show (if ((w 0).toBitVec.toNat / 2 ^ 27).testBit (4 - k) = true then (1 : Int32) else 0) = _
  rw [Nat.testBit_div_two_pow]
  unfold bq
  rw [BitVec.testBit_toNat]
/-- five bits -/
theorem fmt_rng {b : Nat → Int32} (hb : Bits b) : ∃ m : Nat, m < 32 ∧ f_X6_number b 1 5 = nI m := by
  have h := num_rng hb 5 1 0 1 (by decide) (by decide) (by decide) (by decide) (by decide)
  have e : f_X6_number b 1 5 = f_X6_number_lp b 5 1 0 := rfl
  rw [e]
  obtain ⟨j, hj, ej⟩ := nat_of h.1
  exact ⟨j, by have := h.2; omega, ej⟩
theorem of_tab : ∀ m, m < 32 → ((ushr 393216 (nI m) &&& 1 = 0 ↔ ¬ (nI m = 17 ∨ nI m = 18)) ∧ (ushr 2048 (nI m) &&& 1 = 0 ↔ ¬ nI m = 11) ∧ (ushr 395264 (nI m) &&& 1 = 0 ↔ f_X6_isSquitter (nI m) = 0) ∧ (ushr 1114129 (nI m) &&& 1 = 0 ↔ ¬ (nI m = 0 ∨ nI m = 4 ∨ nI m = 16 ∨ nI m = 20)) ∧ (ushr 2097184 (nI m) &&& 1 = 0 ↔ ¬ (nI m = 5 ∨ nI m = 21)) ∧ (ushr 3145776 (nI m) &&& 1 = 0 ↔ ¬ (nI m = 4 ∨ nI m = 5 ∨ nI m = 20 ∨ nI m = 21)) ∧ (ushr 65537 (nI m) &&& 1 = 0 ↔ ¬ (nI m = 0 ∨ nI m = 16)) ∧ (ushr 1 (nI m) &&& 1 = 0 ↔ ¬ nI m = 0) ∧ (ushr 3606577 (nI m) &&& 1 = 0 ↔ f_X6_isKnown (nI m) = 0)) := by decide +kernel
theorem of_iff {w b : Nat → Int32} {len : Int32} (hs : Same w b) (hl : len = 56 ∨ len = 112) (x : Int32) : f_X4_isOf w len x = 0 ↔ ushr x (f_X6_number b 1 5) &&& 1 = 0 := by
  have h0 : ¬ len = 0 := by rcases hl with e | e <;> subst e <;> decide
  unfold f_X4_isOf
  rw [if_neg h0, fmt_eq hs hl]
  split
  · next h => exact ⟨fun _ => h, fun _ => rfl⟩
  · next h => exact ⟨fun q => absurd q (by decide), fun q => absurd q h⟩
theorem of_msg {w b : Nat → Int32} {len : Int32} (hs : Same w b) (hl : len = 56 ∨ len = 112) : f_X4_isOf w len 393216 = 0 ↔ ¬ (f_X6_number b 1 5 = 17 ∨ f_X6_number b 1 5 = 18) := by
  obtain ⟨m, hm, e⟩ := fmt_rng (same_bits hs)
  rw [of_iff hs hl, e]; exact (of_tab m hm).1
theorem of_all {w b : Nat → Int32} {len : Int32} (hs : Same w b) (hl : len = 56 ∨ len = 112) : f_X4_isOf w len 2048 = 0 ↔ ¬ f_X6_number b 1 5 = 11 := by
  obtain ⟨m, hm, e⟩ := fmt_rng (same_bits hs)
  rw [of_iff hs hl, e]; exact (of_tab m hm).2.1
theorem of_adr {w b : Nat → Int32} {len : Int32} (hs : Same w b) (hl : len = 56 ∨ len = 112) : f_X4_isOf w len 395264 = 0 ↔ f_X6_isSquitter (f_X6_number b 1 5) = 0 := by
  obtain ⟨m, hm, e⟩ := fmt_rng (same_bits hs)
  rw [of_iff hs hl, e]; exact (of_tab m hm).2.2.1
theorem of_alt {w b : Nat → Int32} {len : Int32} (hs : Same w b) (hl : len = 56 ∨ len = 112) : f_X4_isOf w len 1114129 = 0 ↔ ¬ (f_X6_number b 1 5 = 0 ∨ f_X6_number b 1 5 = 4 ∨ f_X6_number b 1 5 = 16 ∨ f_X6_number b 1 5 = 20) := by
  obtain ⟨m, hm, e⟩ := fmt_rng (same_bits hs)
  rw [of_iff hs hl, e]; exact (of_tab m hm).2.2.2.1
theorem of_idn {w b : Nat → Int32} {len : Int32} (hs : Same w b) (hl : len = 56 ∨ len = 112) : f_X4_isOf w len 2097184 = 0 ↔ ¬ (f_X6_number b 1 5 = 5 ∨ f_X6_number b 1 5 = 21) := by
  obtain ⟨m, hm, e⟩ := fmt_rng (same_bits hs)
  rw [of_iff hs hl, e]; exact (of_tab m hm).2.2.2.2.1
theorem of_rep {w b : Nat → Int32} {len : Int32} (hs : Same w b) (hl : len = 56 ∨ len = 112) : f_X4_isOf w len 3145776 = 0 ↔ ¬ (f_X6_number b 1 5 = 4 ∨ f_X6_number b 1 5 = 5 ∨ f_X6_number b 1 5 = 20 ∨ f_X6_number b 1 5 = 21) := by
  obtain ⟨m, hm, e⟩ := fmt_rng (same_bits hs)
  rw [of_iff hs hl, e]; exact (of_tab m hm).2.2.2.2.2.1
theorem of_air {w b : Nat → Int32} {len : Int32} (hs : Same w b) (hl : len = 56 ∨ len = 112) : f_X4_isOf w len 65537 = 0 ↔ ¬ (f_X6_number b 1 5 = 0 ∨ f_X6_number b 1 5 = 16) := by
  obtain ⟨m, hm, e⟩ := fmt_rng (same_bits hs)
  rw [of_iff hs hl, e]; exact (of_tab m hm).2.2.2.2.2.2.1
theorem of_sho {w b : Nat → Int32} {len : Int32} (hs : Same w b) (hl : len = 56 ∨ len = 112) : f_X4_isOf w len 1 = 0 ↔ ¬ f_X6_number b 1 5 = 0 := by
  obtain ⟨m, hm, e⟩ := fmt_rng (same_bits hs)
  rw [of_iff hs hl, e]; exact (of_tab m hm).2.2.2.2.2.2.2.1
theorem of_kno {w b : Nat → Int32} {len : Int32} (hs : Same w b) (hl : len = 56 ∨ len = 112) : f_X4_isOf w len 3606577 = 0 ↔ f_X6_isKnown (f_X6_number b 1 5) = 0 := by
  obtain ⟨m, hm, e⟩ := fmt_rng (same_bits hs)
  rw [of_iff hs hl, e]; exact (of_tab m hm).2.2.2.2.2.2.2.2
theorem sound_eq {w b : Nat → Int32} {len : Int32} (hs : Same w b) (hl : len = 56 ∨ len = 112) (r : Int32) : f_X4_isSound w len r = 0 ↔ ¬ f_X6_isWrong (f_X6_number b 1 5) r = 0 := by
  have o1 := of_msg hs hl
  have o2 := of_all hs hl
  unfold f_X4_isSound f_X6_isWrong
  generalize f_X6_number b 1 5 = d at o1 o2
  by_cases h11 : d = 11
  · subst h11
    rw [if_pos (o1.mpr (by decide)), if_neg (fun q => (o2.mp q) rfl), if_pos rfl]
    by_cases hr : (128 : Int32) ≤ r
    · rw [if_pos hr, if_neg (by rw [fa_le] at hr ⊢; have : (128 : Int32).toInt = 128 := rfl; have : (127 : Int32).toInt = 127 := rfl; omega)]
      decide
    · rw [if_neg hr, if_pos (by rw [fa_le] at hr ⊢; have : (128 : Int32).toInt = 128 := rfl; have : (127 : Int32).toInt = 127 := rfl; omega)]
      decide
  · rw [if_neg h11]
    by_cases h17 : d = 17 ∨ d = 18
    · rw [if_neg (fun q => (o1.mp q) h17)]
      by_cases hr : r = 0
      · rw [if_pos hr]
        rcases h17 with e | e <;> subst e <;> simp [hr]
      · rw [if_neg hr]
        rcases h17 with e | e <;> subst e <;> simp [hr]
    · rw [if_pos (o1.mpr h17), if_pos (o2.mpr h11), if_neg (fun q => h17 (Or.inl q)), if_neg (fun q => h17 (Or.inr q))]
      decide
theorem wrong_len {w : Nat → Int32} {L : Nat} (hL : L = 56 ∨ L = 112) : ((nI L).toInt - 5).toNat = L - 5 := by rw [nI_toInt (by omega)]; omega
theorem wrong_eq {w b : Nat → Int32} {len : Int32} (hs : Same w b) (hl : len = 56 ∨ len = 112) : f_X4_wrongBit w len = (if f_X6_isWrong (f_X6_number b 1 5) (f_X6_remainder b len) = 0 then (-1 : Int32) else f_X6_toTurn b len) := by
  have hsd := sound_eq hs hl (f_X4_remainder w len)
  obtain ⟨L, hL, e, _⟩ := len_nat hl
  unfold f_X4_wrongBit
  rw [← rem_eq hs hl]
  by_cases h : f_X6_isWrong (f_X6_number b 1 5) (f_X4_remainder w len) = 0
  · rw [if_neg (fun q => (hsd.mp q) h), if_pos h]
  · rw [if_pos (hsd.mpr h), if_neg h, e, wrong_len (w := w) hL]
    exact (turn_eq hs hL).1
theorem repair_eq (w bt : Nat → Int32) (a0 a1 a2 a3 : Int32) : f_X5_repair w a0 a1 a2 a3 = f_X6_repair bt a0 a1 a2 a3 := by
  unfold f_X5_repair f_X6_repair
  rw [len_eq w bt, wrong_eq (same_frame w bt a0 a1 a2 a3) (by rw [← len_eq w bt]; exact len_56 w a0 a1 a2 a3)]
theorem syndrome_eq (w bt : Nat → Int32) (a0 a1 a2 a3 : Int32) : f_X5_syndrome w a0 a1 a2 a3 = f_X6_syndrome bt a0 a1 a2 a3 := by
  unfold f_X5_syndrome f_X6_syndrome
  rw [len_eq w bt, rem_eq (same_frame w bt a0 a1 a2 a3) (by rw [← len_eq w bt]; exact len_56 w a0 a1 a2 a3)]
/-! seal -/
theorem seal_sl (c : Nat) : ∀ (n s : Nat) (g : Nat → Int32), s + n = c → c < 1000 → ∀ m, f_X6_seal_sl n (nI s) g m = if s ≤ m ∧ m < c then 0 else g m
  | 0, s, g, h, _, m => by rw [if_neg (by omega)]; rfl
  | n + 1, s, g, h, hc, m => by
    show f_X6_seal_sl n (nI s + 1) (upd g (nI s).toNatClampNeg 0) m = _
    rw [nI_1, nI_clamp (by omega), seal_sl c n (s + 1) _ (by omega) hc m]
    unfold upd
    by_cases h1 : m = s
    · subst h1
      rw [if_neg (by omega), if_pos rfl, if_pos (by omega)]
    · rw [if_neg h1]
      by_cases h2 : s ≤ m ∧ m < c
      · rw [if_pos h2, if_pos (by omega)]
      · rw [if_neg h2, if_neg (by omega)]
theorem small_rem {b : Nat → Int32} (hb : Bits b) : ∀ (n s m : Nat), s + n ≤ 112 → n ≤ 24 → m * 2 ^ n < 16777216 → rem b n s (nI m) = num b n s (nI m)
  | 0, _, _, _, _, _ => rfl
  | n + 1, s, m, h, hn, hm => by
    obtain ⟨c, hc, ec, e2⟩ := two_nat m (b s) (hb s (by omega))
    have hp : m * 2 ^ (n + 1) = 2 * m * 2 ^ n := by rw [Nat.pow_succ, Nat.mul_comm (2 ^ n) 2, ← Nat.mul_assoc, Nat.mul_comm m 2]
    have hpos : 0 < 2 ^ n := Nat.two_pow_pos n
    have hm2 : (2 * m + 1) * 2 ^ n ≤ 16777216 := by
      have hd : 2 ^ n * 2 ^ (24 - n) = 16777216 := by rw [← Nat.pow_add, show n + (24 - n) = 24 by omega]
      have hlt : 2 * m * 2 ^ n < 2 ^ (24 - n) * 2 ^ n := by rw [← hp, Nat.mul_comm (2 ^ (24 - n)), hd]; exact hm
      have hlt2 := Nat.lt_of_mul_lt_mul_right hlt
      have := Nat.mul_le_mul_right (2 ^ n) (show 2 * m + 1 ≤ 2 ^ (24 - n) from hlt2)
      rw [Nat.mul_comm (2 ^ (24 - n)), hd] at this
      exact this
    have hdiv : 2 * m + 1 ≤ 16777216 := Nat.le_trans (Nat.le_mul_of_pos_right _ hpos) hm2
    have hlt3 : (2 * m + c) < 16777216 := by
      rcases Nat.lt_or_ge (2 * m + c) 16777216 with q | q
      · exact q
      · have : m = 8388607 := by omega
        have : 2 ^ n < 2 := by
          rcases Nat.lt_or_ge (2 ^ n) 2 with q2 | q2
          · exact q2
          · have := Nat.mul_le_mul (show 8388607 ≤ m by omega) q2
            rw [Nat.pow_succ] at hm
            have h3 : m * (2 ^ n * 2) = (m * 2 ^ n) * 2 := by rw [Nat.mul_assoc]
            omega
        have hn0 : n = 0 := by
          rcases Nat.eq_zero_or_pos n with q3 | q3
          · exact q3
          · have : 2 ^ 1 ≤ 2 ^ n := Nat.pow_le_pow_right (by decide) q3
            omega
        subst hn0
        omega
    have ecx : cx (nI m) (b s) = nI (2 * m + c) := by
      unfold cx
      rw [← or_xor _ _ (hb s (by omega)), dbl _ _ (hb s (by omega)), e2, (red_nat (p := 2 * m + c) (by omega)).1, if_pos (show nI (2 * m + c) < 16777216 from nI_lt (b := 16777216) hlt3 (by decide))]
    show rem b n (s + 1) (cx (nI m) (b s)) = num b n (s + 1) (2 * nI m + b s)
    rw [ecx, e2]
    rcases Nat.eq_zero_or_pos n with q | q
    · subst q; rfl
    · refine small_rem hb n (s + 1) (2 * m + c) (by omega) (by omega) ?_
      have h5 := Nat.mul_le_mul_right (2 ^ n) (show 2 * m + c ≤ 2 * m + 1 by omega)
      have hd : 2 ^ n * 2 ^ (24 - n) = 16777216 := by rw [← Nat.pow_add, show n + (24 - n) = 24 by omega]
      have hlt : 2 * m * 2 ^ n < 2 ^ (24 - n) * 2 ^ n := by rw [← hp, Nat.mul_comm (2 ^ (24 - n)), hd]; exact hm
      have hlt2 := Nat.lt_of_mul_lt_mul_right hlt
      have hev : 2 ^ (24 - n) = 2 * 2 ^ (23 - n) := by rw [show 24 - n = (23 - n) + 1 by omega, Nat.pow_succ, Nat.mul_comm]
      have hlt4 : 2 * m + 1 < 2 ^ (24 - n) := by omega
      have hpos : 0 < 2 ^ n := Nat.two_pow_pos n
      have := Nat.mul_lt_mul_of_pos_right (show 2 * m + c < 2 ^ (24 - n) by omega) hpos
      rw [Nat.mul_comm (2 ^ (24 - n)), hd] at this
      exact this
theorem rem_app (b : Nat → Int32) : ∀ (n k s : Nat) (v : Int32), rem b (n + k) s v = rem b k (s + n) (rem b n s v)
  | 0, k, s, v => by rw [Nat.zero_add]; rfl
  | n + 1, k, s, v => by
    rw [show n + 1 + k = (n + k) + 1 by omega]
    show rem b (n + k) (s + 1) (cx v (b s)) = rem b k (s + (n + 1)) (rem b n (s + 1) (cx v (b s)))
    rw [rem_app b n k (s + 1) _, show s + 1 + n = s + (n + 1) by omega]
theorem xp_0 : ∀ n, xp n 0 = 0
  | 0 => rfl
  | n + 1 => by
    show xp n (f_X4_reduced ((0 : Int32) <<< ((1 : Int32) &&& 31))) = 0
    rw [show f_X4_reduced ((0 : Int32) <<< ((1 : Int32) &&& 31)) = 0 by decide +kernel]
    exact xp_0 n
theorem rem_zero {c : Nat → Int32} : ∀ (n s : Nat), (∀ k, s ≤ k → k < s + n → c k = 0) → rem c n s 0 = 0
  | 0, _, _ => rfl
  | n + 1, s, h => by
    show rem c n (s + 1) (cx 0 (c s)) = 0
    rw [h s (Nat.le_refl _) (by omega), show cx 0 0 = 0 by decide +kernel]
    exact rem_zero n (s + 1) (fun k h1 h2 => h k (by omega) (by omega))
/-- the last 24 bits put to 0 -/
theorem seal_rem {b : Nat → Int32} (hb : Bits b) {L : Nat} (h1 : 24 ≤ L) (h2 : L ≤ 112) : rem (fun k => if L - 24 ≤ k ∧ k < L then 0 else b k) L 0 0 = rem b L 0 0 ^^^ num b 24 (L - 24) 0 := by
  have hlin := rem_lin b (fun k => if L - 24 ≤ k ∧ k < L then b k else 0) L 0 0 0
  have e1 : rem (fun k => if L - 24 ≤ k ∧ k < L then b k else 0) L 0 0 = num b 24 (L - 24) 0 := by
    have h3 := rem_app (fun k => if L - 24 ≤ k ∧ k < L then b k else 0) (L - 24) 24 0 0
    rw [show L - 24 + 24 = L by omega] at h3
    rw [h3, rem_zero (L - 24) 0 (fun k q1 q2 => if_neg (by omega)), Nat.zero_add]
    rw [rem_congr (c := b) 24 (L - 24) 0 (fun k q1 q2 => if_pos (by omega))]
    exact small_rem hb 24 (L - 24) 0 (by omega) (by omega) (by decide)
  rw [show (0 : Int32) ^^^ 0 = 0 from x0 0, e1] at hlin
  rw [← hlin]
  apply rem_congr
  intro k _ _
  show (if L - 24 ≤ k ∧ k < L then (0 : Int32) else b k) = b k ^^^ (if L - 24 ≤ k ∧ k < L then b k else 0)
  split
  · rw [xx]
  · rw [x0]
theorem seal_eq (w bt : Nat → Int32) (a0 a1 a2 a3 : Int32) : f_X5_seal w a0 a1 a2 a3 = f_X6_seal bt a0 a1 a2 a3 := by
  unfold f_X5_seal f_X6_seal
  rw [len_eq w bt]
  have hs := same_frame w bt a0 a1 a2 a3
  have hl : f_X6_frame_sz bt a0 a1 a2 a3 = 56 ∨ f_X6_frame_sz bt a0 a1 a2 a3 = 112 := by rw [← len_eq w bt]; exact len_56 w a0 a1 a2 a3
  obtain ⟨L, hL, e, _⟩ := len_nat hl
  have hL2 : L ≤ 112 := by omega
  rw [e]
  generalize f_X6_frame_bt bt a0 a1 a2 a3 = b at hs
  generalize f_X4_write_w w a0 a1 a2 a3 = x at hs
  have hb := same_bits hs
  have hf : f_X6_seal_sl 24 (nI L - 24) b = fun k => if L - 24 ≤ k ∧ k < L then 0 else b k := by
    funext k
    rw [show nI L - 24 = nI (L - 24) from pk_sub (b := 24) (by omega)]
    exact seal_sl L 24 (L - 24) b (by omega) (by omega) k
  have hbz : Bits (fun k => if L - 24 ≤ k ∧ k < L then 0 else b k) := by
    intro k hk
    show (if L - 24 ≤ k ∧ k < L then (0 : Int32) else b k) = 0 ∨ (if L - 24 ≤ k ∧ k < L then (0 : Int32) else b k) = 1
    split
    · exact Or.inl rfl
    · exact hb k hk
  have hpar : f_X4_parity x (nI L) = num b 24 (L - 24) 0 := by
    unfold f_X4_parity
    have hx : nI L - 23 = nI (L - 24 + 1) := by
      have := pk_sub (a := L) (b := 23) (by omega)
      rw [show L - 23 = L - 24 + 1 by omega] at this
      exact this
    have hti : (nI (L - 24 + 1)).toInt = ((L - 24 + 1 : Nat) : Int) := nI_toInt (by omega)
    rw [hx, num_in hs (z := nI L) (by rw [nI_toInt (by omega)]; omega) (by rw [hti]; omega) (by decide) (by decide) (by rw [hti, nI_toInt (by omega), show (24 : Int32).toInt = 24 from rfl]; omega) (by rw [hti, nI_toInt (by omega), show (24 : Int32).toInt = 24 from rfl]; omega)]
    unfold f_X6_number
    rw [hti, nI_toInt (n := L) (by omega), show ((L : Int) + 1 - ((L - 24 + 1 : Nat) : Int)).toNat = 24 by omega]
    exact num6 b 24 (L - 24) 0 (by omega)
  rw [hf, r6 hL2 hbz, seal_rem hb (by omega) hL2, r4 hL2, rem_same hs hL2, hpar]
