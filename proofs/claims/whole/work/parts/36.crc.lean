/-! the remainder: the same in both pictures, linear, and the bit to be turned -/
def cx (v b : Int32) : Int32 := f_X4_reduced ((v <<< ((1 : Int32) &&& 31)) ^^^ b)
def rem (b : Nat → Int32) : Nat → Nat → Int32 → Int32
  | 0, _, v => v
  | n + 1, s, v => rem b n (s + 1) (cx v (b s))
theorem or_xor (v b : Int32) (hb : b = 0 ∨ b = 1) : (v <<< ((1 : Int32) &&& 31)) ||| b = (v <<< ((1 : Int32) &&& 31)) ^^^ b := by
  apply q_ext
  intro i hi
  rw [q_or, q_xor, show ((1 : Int32) &&& 31) = nI 1 &&& 31 from rfl, q_shl 1 (by omega) v hi]
  rcases hb with h | h <;> subst h
  · rw [q_0]; simp
  · rw [q_1 i hi]
    by_cases h0 : i = 0
    · subst h0; rfl
    · simp [h0]
theorem rem_congr {b c : Nat → Int32} : ∀ (n s : Nat) (v : Int32), (∀ k, s ≤ k → k < s + n → b k = c k) → rem b n s v = rem c n s v
  | 0, _, _, _ => rfl
  | n + 1, s, v, h => by
    show rem b n (s + 1) _ = rem c n (s + 1) _
    rw [h s (Nat.le_refl _) (by omega)]
    exact rem_congr n (s + 1) _ (fun k h1 h2 => h k (by omega) (by omega))
theorem rem4 (w : Nat → Int32) (len : Int32) : ∀ (n s : Nat) (v : Int32), s + n ≤ 112 → f_X4_remainder_lp w len n (nI (s + 1)) v = rem (bf w) n s v
  | 0, _, _, _ => rfl
  | n + 1, s, v, h => by
    show f_X4_remainder_lp w len n (nI (s + 1) + 1) (f_X4_reduced ((v <<< ((1 : Int32) &&& 31)) ||| bf w s)) = rem (bf w) n (s + 1) (cx v (bf w s))
    rw [or_xor v _ (bf_bits w s (by omega)), nI_1]
    exact rem4 w len n (s + 1) _ (by omega)
theorem red_nat {p : Nat} (h : p < 33554432) : f_X4_reduced (nI p) = (if nI p < 16777216 then nI p else nI p ^^^ 33551369) ∧ ∃ q : Nat, q < 16777216 ∧ f_X4_reduced (nI p) = nI q := by
  unfold f_X4_reduced
  have e : nI p &&& 16777216 = nI (p &&& 2 ^ 24) := nx_and p 16777216
  have hb : p &&& 2 ^ 24 = (p.testBit 24).toNat * 2 ^ 24 := by
    apply Nat.eq_of_testBit_eq
    intro i
    rw [Nat.testBit_and, Nat.testBit_two_pow]
    by_cases h24 : 24 = i
    · subst h24
      cases e : p.testBit 24
      · decide
      · decide
    · cases e : p.testBit 24
      · simp [h24]
      · rw [show (true : Bool).toNat * 2 ^ 24 = 2 ^ 24 from rfl, Nat.testBit_two_pow]; simp [h24]
  have ht : p.testBit 24 = decide (p / 2 ^ 24 % 2 = 1) := Nat.testBit_eq_decide_div_mod_eq
  by_cases hc : p < 16777216
  · have h1 : p.testBit 24 = false := by rw [ht]; exact decide_eq_false (by omega)
    have h2 : nI p &&& 16777216 = 0 := by rw [e, hb, h1]; rfl
    have h3 : nI p < 16777216 := nI_lt (b := 16777216) hc (by decide)
    rw [if_pos h2, if_pos h3]
    exact ⟨rfl, p, hc, rfl⟩
  · have h1 : p.testBit 24 = true := by rw [ht]; exact decide_eq_true (by omega)
    have h2 : ¬ nI p &&& 16777216 = 0 := by rw [e, hb, h1]; decide
    have h3 : ¬ nI p < 16777216 := nI_nlt (b := 16777216) (by omega) (by omega)
    rw [if_neg h2, if_neg h3]
    refine ⟨rfl, p ^^^ 33551369, ?_, nx_xor p 33551369⟩
    have h4 : p ^^^ 33551369 < 2 ^ 25 := Nat.xor_lt_two_pow (by omega) (by decide)
    have h5 : (p ^^^ 33551369).testBit 24 = false := by rw [Nat.testBit_xor, h1]; decide
    have h6 : (p ^^^ 33551369).testBit 24 = decide ((p ^^^ 33551369) / 2 ^ 24 % 2 = 1) := Nat.testBit_eq_decide_div_mod_eq
    rw [h6] at h5
    have h7 := of_decide_eq_false h5
    omega
theorem two_nat (m : Nat) (b : Int32) (hb : b = 0 ∨ b = 1) : ∃ c : Nat, c < 2 ∧ b = nI c ∧ 2 * nI m + b = nI (2 * m + c) := by
  rcases hb with h | h <;> subst h
  · exact ⟨0, by omega, rfl, by rw [show (2 : Int32) = nI 2 from rfl, pk_mul, show (0 : Int32) = nI 0 from rfl, nI_add]⟩
  · exact ⟨1, by omega, rfl, by rw [show (2 : Int32) = nI 2 from rfl, pk_mul, show (1 : Int32) = nI 1 from rfl, nI_add]⟩
theorem rem6 {b : Nat → Int32} (sz : Int32) (hb : Bits b) : ∀ (n s m : Nat), s + n ≤ 112 → m < 16777216 → f_X6_remainder_lp b sz n (nI s) (nI m) = rem b n s (nI m) ∧ ∃ q : Nat, q < 16777216 ∧ rem b n s (nI m) = nI q
  | 0, _, m, _, hm => ⟨rfl, m, hm, rfl⟩
  | n + 1, s, m, h, hm => by
    obtain ⟨c, hc, ec, e2⟩ := two_nat m (b s) (hb s (by omega))
    have hcl : (nI s).toNatClampNeg = s := nI_clamp (by omega)
    obtain ⟨r1, q, hq, r2⟩ := red_nat (p := 2 * m + c) (by omega)
    have ecx : cx (nI m) (b s) = f_X4_reduced (nI (2 * m + c)) := by
      unfold cx
      rw [← or_xor _ _ (hb s (by omega)), dbl _ _ (hb s (by omega)), e2]
    have IH := rem6 sz hb n (s + 1) q (by omega) hq
    have e3 : f_X6_remainder_lp b sz (n + 1) (nI s) (nI m) = f_X6_remainder_lp b sz n (nI (s + 1)) (nI q) := by
      show f_X6_remainder_lp b sz n (nI s + 1) (if 2 * nI m + b (nI s).toNatClampNeg < 16777216 then 2 * nI m + b (nI s).toNatClampNeg else (2 * nI m + b (nI s).toNatClampNeg) ^^^ 33551369) = _
      rw [hcl, e2, ← r1, r2, nI_1]
    have e4 : rem b (n + 1) s (nI m) = rem b n (s + 1) (nI q) := by
      show rem b n (s + 1) (cx (nI m) (b s)) = _
      rw [ecx, r2]
    rw [e3, e4]
    exact IH
theorem len_nat {len : Int32} (h : len = 56 ∨ len = 112) : ∃ n : Nat, (n = 56 ∨ n = 112) ∧ len = nI n ∧ len.toNatClampNeg = n := by
  rcases h with h | h <;> subst h
  · exact ⟨56, Or.inl rfl, rfl, rfl⟩
  · exact ⟨112, Or.inr rfl, rfl, rfl⟩
theorem r4 {w : Nat → Int32} {n : Nat} (h : n ≤ 112) : f_X4_remainder w (nI n) = rem (bf w) n 0 0 := by
  unfold f_X4_remainder
  rw [nI_clamp (by omega)]
  exact rem4 w _ n 0 0 (by omega)
theorem r6 {b : Nat → Int32} {n : Nat} (h : n ≤ 112) (hb : Bits b) : f_X6_remainder b (nI n) = rem b n 0 0 := by
  unfold f_X6_remainder
  rw [nI_clamp (by omega)]
  exact (rem6 _ hb n 0 0 (by omega) (by decide)).1
theorem rem_same {w b : Nat → Int32} (hs : Same w b) {n : Nat} (h : n ≤ 112) : rem b n 0 0 = rem (bf w) n 0 0 := rem_congr n 0 0 (fun k _ h2 => hs k (by omega))
theorem rem_eq {w b : Nat → Int32} {len : Int32} (hs : Same w b) (hl : len = 56 ∨ len = 112) : f_X4_remainder w len = f_X6_remainder b len := by
  obtain ⟨n, hn, e, _⟩ := len_nat hl
  have hn2 : n ≤ 112 := by omega
  rw [e, r4 hn2, r6 hn2 (same_bits hs), rem_same hs hn2]
/-! linearity -/
theorem red_xor (p q : Int32) : f_X4_reduced (p ^^^ q) = f_X4_reduced p ^^^ f_X4_reduced q := by
  have top : ∀ x : Int32, x &&& 16777216 = if bq x 24 = true then 16777216 else 0 := by
    intro x
    apply q_ext
    intro i hi
    have hc : bq 16777216 i = decide (i = 24) := (by decide +kernel : ∀ i, i < 32 → bq 16777216 i = decide (i = 24)) i hi
    rw [q_and, hc]
    by_cases h : i = 24
    · subst h
      cases e : bq x 24
      · simp [q_0]
      · simp [hc]
    · cases e : bq x 24
      · simp [q_0, h]
      · simp [hc, h]
  unfold f_X4_reduced
  rw [top, top, top, q_xor]
  have hz : ¬ (16777216 : Int32) = 0 := by decide
  cases bq p 24 <;> cases bq q 24 <;> simp only [Bool.xor_false, Bool.xor_true, Bool.not_true, Bool.not_false, if_true, if_false, hz, Bool.false_eq_true, reduceIte] <;> apply q_ext <;> intro i hi <;> simp only [q_xor] <;> cases bq p i <;> cases bq q i <;> cases bq 33551369 i <;> rfl
theorem cx_lin (v u b c : Int32) : cx (v ^^^ u) (b ^^^ c) = cx v b ^^^ cx u c := by
  unfold cx
  rw [← red_xor]
  congr 1
  apply q_ext
  intro i hi
  simp only [q_xor]
  rw [show ((1 : Int32) &&& 31) = nI 1 &&& 31 from rfl, q_shl 1 (by omega) _ hi, q_shl 1 (by omega) _ hi, q_shl 1 (by omega) _ hi, q_xor]
  cases bq v (i - 1) <;> cases bq u (i - 1) <;> cases bq b i <;> cases bq c i <;> cases decide (1 ≤ i) <;> rfl
theorem rem_lin (b c : Nat → Int32) : ∀ (n s : Nat) (v u : Int32), rem (fun k => b k ^^^ c k) n s (v ^^^ u) = rem b n s v ^^^ rem c n s u
  | 0, _, _, _ => rfl
  | n + 1, s, v, u => by
    show rem (fun k => b k ^^^ c k) n (s + 1) (cx (v ^^^ u) (b s ^^^ c s)) = _
    rw [cx_lin]
    exact rem_lin b c n (s + 1) _ _
/-- x to the power n, by the generator -/
def xp : Nat → Int32 → Int32
  | 0, v => v
  | n + 1, v => xp n (f_X4_reduced (v <<< ((1 : Int32) &&& 31)))
theorem x0 (x : Int32) : x ^^^ 0 = x := by apply q_ext; intro i hi; rw [q_xor, q_0, Bool.xor_false]
theorem xx (x : Int32) : x ^^^ x = 0 := by apply q_ext; intro i hi; rw [q_xor, q_0, Bool.xor_self]
theorem rem_z {c : Nat → Int32} : ∀ (n s : Nat) (v : Int32), (∀ k, s ≤ k → c k = 0) → rem c n s v = xp n v
  | 0, _, _, _ => rfl
  | n + 1, s, v, h => by
    show rem c n (s + 1) (cx v (c s)) = xp n (f_X4_reduced (v <<< ((1 : Int32) &&& 31)))
    rw [h s (Nat.le_refl _)]
    unfold cx
    rw [x0]
    exact rem_z n (s + 1) _ (fun k hk => h k (by omega))
def dl (i k : Nat) : Int32 := if k = i then 1 else 0
theorem rem_dl (i : Nat) : ∀ (n s : Nat), s ≤ i → i < s + n → rem (dl i) n s 0 = xp (s + n - 1 - i) 1
  | 0, s, h1, h2 => absurd h2 (by omega)
  | n + 1, s, h1, h2 => by
    show rem (dl i) n (s + 1) (cx 0 (dl i s)) = _
    by_cases h : s = i
    · subst h
      rw [show dl s s = 1 from if_pos rfl, show cx 0 1 = 1 by decide +kernel, rem_z (c := dl s) n (s + 1) 1 (fun k hk => if_neg (show ¬ k = s by omega))]
      congr 1
      omega
    · rw [show dl i s = 0 from if_neg h, show cx 0 0 = 0 by decide +kernel, rem_dl i n (s + 1) (by omega) (by omega)]
      congr 1
      omega
theorem flip_fun {b : Nat → Int32} {i : Nat} (h : b i = 0 ∨ b i = 1) : upd b i (1 - b i) = fun k => b k ^^^ dl i k := by
  funext k
  unfold upd dl
  by_cases hk : k = i
  · subst hk
    rw [if_pos rfl, if_pos rfl]
    rcases h with e | e <;> rw [e] <;> decide
  · rw [if_neg hk, if_neg hk, x0]
theorem rem_flip {b : Nat → Int32} {i n : Nat} (h : b i = 0 ∨ b i = 1) (hi : i < n) : rem (upd b i (1 - b i)) n 0 0 = rem b n 0 0 ^^^ xp (n - 1 - i) 1 := by
  rw [flip_fun h]
  have h1 := rem_lin b (dl i) n 0 0 0
  rw [rem_dl i n 0 (by omega) (by omega), show (0 : Int32) ^^^ 0 = 0 from x0 0] at h1
  rw [h1]
  congr 2
  omega
theorem xor_0 {x y : Int32} : x ^^^ y = 0 ↔ x = y := by
  constructor
  · intro h
    apply q_ext
    intro i hi
    have h1 : bq (x ^^^ y) i = false := by rw [h, q_0]
    rw [q_xor] at h1
    cases e1 : bq x i <;> cases e2 : bq y i <;> simp_all
  · intro h; rw [h, xx]
def xtab : List Nat := [1, 2, 4, 8, 16, 32, 64, 128, 256, 512, 1024, 2048, 4096, 8192, 16384, 32768, 65536, 131072, 262144, 524288, 1048576, 2097152, 4194304, 8388608, 16774153, 7195, 14390, 28780, 57560, 115120, 230240, 460480, 920960, 1841920, 3683840, 7367680, 14735360, 4080649, 8161298, 16322596, 906305, 1812610, 3625220, 7250440, 14500880, 4553769, 9107538, 15336621, 2882899, 5765798, 11531596, 10493585, 12568875, 8414815, 16726199, 99687, 199374, 398748, 797496, 1594992, 3189984, 6379968, 12759936, 8033033, 16066066, 1423405, 2846810, 5693620, 11387240, 10778329, 11999675, 9553791, 14449399, 4653543, 9307086, 14939029, 3674915, 7349830, 14699660, 4156689, 8313378, 16626756, 302209, 604418, 1208836, 2417672, 4835344, 9670688, 14210121, 5135515, 10271030, 13010533, 7534787, 15069574, 3413765, 6827530, 13655060, 6245409, 12490818, 8569997, 16416019, 724527, 1449054, 2898108, 5796216, 11592432, 10367465]
theorem xp_step : ∀ k, k < 106 → f_X4_reduced (nI (xtab.getD k 0) <<< ((1 : Int32) &&& 31)) = nI (xtab.getD (k + 1) 0) := by decide +kernel
theorem xp_tab : ∀ (n k : Nat), k + n < 107 → xp n (nI (xtab.getD k 0)) = nI (xtab.getD (k + n) 0)
  | 0, _, _ => rfl
  | n + 1, k, h => by
    show xp n (f_X4_reduced (nI (xtab.getD k 0) <<< ((1 : Int32) &&& 31))) = _
    rw [xp_step k (by omega), xp_tab n (k + 1) (by omega)]
    congr 2
    omega
theorem xtab_inj : ∀ i, i < 107 → ∀ j, j < 107 → xtab.getD i 0 = xtab.getD j 0 → i = j := by decide +kernel
theorem xtab_lt : ∀ i, i < 107 → xtab.getD i 0 < 2147483648 := by decide +kernel
theorem xp_1 {n : Nat} (h : n < 107) : xp n 1 = nI (xtab.getD n 0) := by
  have := xp_tab n 0 (by omega)
  rw [Nat.zero_add] at this
  exact this
theorem xp_inj {i j : Nat} (hi : i < 107) (hj : j < 107) (h : xp i 1 = xp j 1) : i = j := by
  rw [xp_1 hi, xp_1 hj] at h
  exact xtab_inj i hi j hj ((nI_eq (xtab_lt i hi) (xtab_lt j hj)).mp h)
theorem xp_out : ∀ (n : Nat) (v : Int32), xp (n + 1) v = f_X4_reduced (xp n v <<< ((1 : Int32) &&& 31))
  | 0, _ => rfl
  | n + 1, v => xp_out n (f_X4_reduced (v <<< ((1 : Int32) &&& 31)))
/-! the bit to be turned -/
theorem tt_spec {b : Nat → Int32} {L : Nat} (hb : Bits b) (hL : L ≤ 112) : ∀ (n k : Nat), k + n = L + 1 → 6 ≤ k → ((∀ j, k ≤ j → j ≤ L → ¬ rem b L 0 0 = xp (L - j) 1) ∧ f_X6_toTurn_lp (nI L) n (nI k) (-1) b = -1) ∨ (∃ j, k ≤ j ∧ j ≤ L ∧ rem b L 0 0 = xp (L - j) 1 ∧ f_X6_toTurn_lp (nI L) n (nI k) (-1) b = nI j)
  | 0, k, h, _ => Or.inl ⟨fun j h1 h2 => absurd h1 (by omega), rfl⟩
  | n + 1, k, h, h6 => by
    obtain ⟨k', rfl⟩ : ∃ k', k = k' + 1 := ⟨k - 1, by omega⟩
    have hcl : (nI (k' + 1) - 1).toNatClampNeg = k' := by rw [nI_pred, nI_clamp (by omega)]
    have hfb : Bits (upd b k' (1 - b k')) := by
      intro q hq
      unfold upd
      split
      · rcases hb k' (by omega) with e | e <;> rw [e]
        · exact Or.inr rfl
        · exact Or.inl rfl
      · exact hb q hq
    have e1 : f_X6_toTurn_lp (nI L) (n + 1) (nI (k' + 1)) (-1) b = f_X6_toTurn_lp (nI L) n (nI (k' + 1 + 1)) (if rem b L 0 0 = xp (L - (k' + 1)) 1 then nI (k' + 1) else -1) b := by
      show (if (0 : Int32) ≤ -1 then (-1 : Int32) else f_X6_toTurn_lp (nI L) n (nI (k' + 1) + 1) (if f_X6_remainder (upd b (nI (k' + 1) - 1).toNatClampNeg (1 - b (nI (k' + 1) - 1).toNatClampNeg)) (nI L) = 0 then nI (k' + 1) else -1) (upd (upd b (nI (k' + 1) - 1).toNatClampNeg (1 - b (nI (k' + 1) - 1).toNatClampNeg)) (nI (k' + 1) - 1).toNatClampNeg (1 - (upd b (nI (k' + 1) - 1).toNatClampNeg (1 - b (nI (k' + 1) - 1).toNatClampNeg)) (nI (k' + 1) - 1).toNatClampNeg))) = _
      rw [if_neg (by decide), hcl, flip2, nI_1, r6 hL hfb, rem_flip (hb k' (by omega)) (by omega)]
      rw [show L - 1 - k' = L - (k' + 1) by omega]
      simp only [xor_0]
    by_cases hc : rem b L 0 0 = xp (L - (k' + 1)) 1
    · refine Or.inr ⟨k' + 1, Nat.le_refl _, by omega, hc, ?_⟩
      rw [e1, if_pos hc]
      cases n with
      | zero => rfl
      | succ n => show (if (0 : Int32) ≤ nI (k' + 1) then nI (k' + 1) else _) = _; rw [if_pos (nI_pos' (by omega))]
    · rw [e1, if_neg hc]
      rcases tt_spec hb hL n (k' + 1 + 1) (by omega) (by omega) with ⟨h1, h2⟩ | ⟨j, h1, h2, h3, h4⟩
      · refine Or.inl ⟨fun j hj1 hj2 => ?_, h2⟩
        by_cases e : j = k' + 1
        · subst e; exact hc
        · exact h1 j (by omega) hj2
      · exact Or.inr ⟨j, by omega, h2, h3, h4⟩
theorem wb_spec {w : Nat → Int32} {L : Nat} (hL : L ≤ 112) : ∀ (n k : Nat), k = n + 5 → k ≤ L → ((∀ j, 6 ≤ j → j ≤ k → ¬ rem (bf w) L 0 0 = xp (L - j) 1) ∧ f_X4_wrongBit_lp w (nI L) n (nI k) (xp (L - k) 1) = -1) ∨ (∃ j, 6 ≤ j ∧ j ≤ k ∧ rem (bf w) L 0 0 = xp (L - j) 1 ∧ f_X4_wrongBit_lp w (nI L) n (nI k) (xp (L - k) 1) = nI j)
  | 0, k, h, _ => Or.inl ⟨fun j h1 h2 => absurd h1 (by omega), rfl⟩
  | n + 1, k, h, hk => by
    obtain ⟨k', rfl⟩ : ∃ k', k = k' + 1 := ⟨k - 1, by omega⟩
    have e1 : f_X4_wrongBit_lp w (nI L) (n + 1) (nI (k' + 1)) (xp (L - (k' + 1)) 1) = (if xp (L - (k' + 1)) 1 = rem (bf w) L 0 0 then nI (k' + 1) else f_X4_wrongBit_lp w (nI L) n (nI k') (xp (L - k') 1)) := by
      show (if xp (L - (k' + 1)) 1 = f_X4_remainder w (nI L) then nI (k' + 1) else f_X4_wrongBit_lp w (nI L) n (nI (k' + 1) + -1) (f_X4_reduced (xp (L - (k' + 1)) 1 <<< ((1 : Int32) &&& 31)))) = _
      rw [r4 hL, pk_m1, ← xp_out, show L - (k' + 1) + 1 = L - k' by omega]
    by_cases hc : xp (L - (k' + 1)) 1 = rem (bf w) L 0 0
    · refine Or.inr ⟨k' + 1, by omega, Nat.le_refl _, hc.symm, ?_⟩
      rw [e1, if_pos hc]
    · rw [e1, if_neg hc]
      rcases wb_spec hL n k' (by omega) (by omega) with ⟨h1, h2⟩ | ⟨j, h1, h2, h3, h4⟩
      · refine Or.inl ⟨fun j hj1 hj2 => ?_, h2⟩
        by_cases e : j = k' + 1
        · subst e; exact fun q => hc q.symm
        · exact h1 j hj1 (by omega)
      · exact Or.inr ⟨j, h1, by omega, h3, h4⟩
/-- the same bit is found; and where one is found, turning it leaves the remainder 0 -/
theorem turn_eq {w b : Nat → Int32} {L : Nat} (hs : Same w b) (hL : L = 56 ∨ L = 112) : f_X4_wrongBit_lp w (nI L) (L - 5) (nI L) 1 = f_X6_toTurn b (nI L) ∧ (f_X6_toTurn b (nI L) = -1 ∨ ∃ j, 6 ≤ j ∧ j ≤ L ∧ f_X6_toTurn b (nI L) = nI j ∧ rem (bf w) L 0 0 = xp (L - j) 1) := by
  have hL2 : L ≤ 112 := by omega
  have hz : ((nI L).toInt - 5).toNat = L - 5 := by rw [nI_toInt (by omega)]; omega
  have T := tt_spec (same_bits hs) hL2 (L - 5) 6 (by omega) (by omega)
  have V := wb_spec (w := w) hL2 (L - 5) L (by omega) (Nat.le_refl _)
  rw [Nat.sub_self, show xp 0 1 = 1 from rfl] at V
  rw [rem_same hs hL2] at T
  have ez : f_X6_toTurn b (nI L) = f_X6_toTurn_lp (nI L) (L - 5) (nI 6) (-1) b := by unfold f_X6_toTurn; rw [hz]; rfl
  rw [ez]
  rcases T with ⟨t1, t2⟩ | ⟨i, t1, t2, t3, t4⟩ <;> rcases V with ⟨v1, v2⟩ | ⟨j, v1, v2, v3, v4⟩
  · rw [t2, v2]; exact ⟨rfl, Or.inl rfl⟩
  · exact absurd v3 (t1 j v1 v2)
  · exact absurd t3 (v1 i t1 t2)
  · have e : i = j := by
      have := xp_inj (i := L - i) (j := L - j) (by omega) (by omega) (t3.symm.trans v3)
      omega
    subst e
    rw [t4, v4]
    exact ⟨rfl, Or.inr ⟨i, t1, t2, rfl, t3⟩⟩
