/-! a frame that is put right, in both pictures -/
theorem flipB {g : Nat → Int32} {m : Nat} (h : g m = 0 ∨ g m = 1) : upd (upd g m (1 - g m)) m (1 - (upd g m (1 - g m)) m) = g := by
  have e : (1 : Int32) - (1 - g m) = g m := by rcases h with q | q <;> rw [q] <;> decide
  rw [upd_is, e]
  funext j
  by_cases hj : j = m
  · subst hj; rw [upd_is]
  · rw [upd_no _ _ hj, upd_no _ _ hj]
theorem tb_lp {g : Nat → Int32} (hb : Bits g) {L : Nat} (hL : L ≤ 112) : ∀ (n k : Nat) (r : Int32), k + n = L + 1 → 6 ≤ k → f_X6_toTurn_lp_bt (nI L) n (nI k) r g = g
  | 0, _, _, _, _ => rfl
  | n + 1, k, r, h, hk => by
    obtain ⟨k', rfl⟩ : ∃ k', k = k' + 1 := ⟨k - 1, by omega⟩
    have ek : (nI (k' + 1) - 1).toNatClampNeg = k' := by rw [nI_pred, nI_clamp (by omega)]
    simp only [f_X6_toTurn_lp_bt, ek]
    rw [flipB (hb k' (by omega)), nI_1]
    split
    · rfl
    · exact tb_lp hb hL n (k' + 1 + 1) _ (by omega) (by omega)
theorem tb_eq {g : Nat → Int32} (hb : Bits g) {L : Nat} (hL : L = 56 ∨ L = 112) : f_X6_toTurn_bt g (nI L) = g := by
  unfold f_X6_toTurn_bt
  rw [wrong_len (w := g) hL]
  exact tb_lp hb (by omega) (L - 5) 6 (-1) (by omega) (by decide)
theorem one_bit (s : Nat) (hs : s < 32) {t : Nat} (ht : t < 32) : bq ((1 : Int32) <<< (nI s &&& 31)) t = decide (t = s) := by
  rw [q_shl s hs _ ht]
  by_cases h : s ≤ t
  · rw [decide_eq_true h, q_1 (t - s) (by omega), Bool.true_and]
    exact decide_eq_decide.mpr ⟨fun q => by omega, fun q => by omega⟩
  · rw [decide_eq_false h, Bool.false_and]
    exact (decide_eq_false (by omega)).symm
theorem same_turn {w b : Nat → Int32} (hs : Same w b) {j : Nat} (h1 : 1 ≤ j) (h2 : j ≤ 112) : Same (f_X4_turn_w w (nI j)) (upd b (j - 1) (1 - b (j - 1))) := by
  obtain ⟨i, rfl⟩ : ∃ i, j = i + 1 := ⟨j - 1, by omega⟩
  have hi : i < 112 := by omega
  obtain ⟨e1, e2, e3, e4, e5, _⟩ := ix112 i hi
  have n4 : ¬ (4 : Int32) ≤ nI i >>> ((5 : Int32) &&& 31) := by rw [fa_le]; rw [fa_lt] at e3; omega
  have et : f_X4_turn_w w (nI (i + 1)) = upd w (i / 32) (w (i / 32) ^^^ ((1 : Int32) <<< (nI (31 - i % 32) &&& 31))) := by
    unfold f_X4_turn_w
    rw [e1, if_neg e2, if_neg n4, e4, e5]
  rw [et, show i + 1 - 1 = i by omega]
  intro k hk
  rw [bf_at _ hk]
  have hbk := hs k hk
  have hbi := hs i hi
  rw [bf_at _ hk] at hbk
  rw [bf_at _ hi] at hbi
  by_cases hw : k / 32 = i / 32
  · rw [hw, upd_is, q_xor, one_bit (31 - i % 32) (by omega) (by omega)]
    by_cases hki : k = i
    · subst hki
      rw [upd_is, hbi, decide_eq_true rfl]
      cases bq (w (k / 32)) (31 - k % 32) <;> decide
    · rw [upd_no _ _ hki, hbk, hw, decide_eq_false (by omega), Bool.xor_false]
  · rw [upd_no _ _ hw, upd_no _ _ (show k ≠ i from fun q => hw (by rw [q])), hbk]
theorem rem_turn {w b : Nat → Int32} (hs : Same w b) {L j : Nat} (hL : L = 56 ∨ L = 112) (h1 : 6 ≤ j) (h2 : j ≤ L) (h : rem (bf w) L 0 0 = xp (L - j) 1) : f_X4_remainder (f_X4_turn_w w (nI j)) (nI L) = 0 := by
  have hs' := same_turn hs (j := j) (by omega) (by omega)
  have hb := same_bits hs
  rw [r4 (by omega), ← rem_same hs' (by omega), rem_flip (hb (j - 1) (by omega)) (by omega), rem_same hs (by omega), h, show L - 1 - (j - 1) = L - j by omega, xx]
theorem fmt_turn {b : Nat → Int32} {j : Nat} (h1 : 6 ≤ j) (v : Int32) : f_X6_number (upd b (j - 1) v) 1 5 = f_X6_number b 1 5 := by
  have e : ∀ c : Nat → Int32, f_X6_number c 1 5 = num c 5 0 0 := fun c => by
    have h2 : f_X6_number c 1 5 = f_X6_number_lp c 5 (nI (0 + 1)) 0 := rfl
    rw [h2]
    exact num6 c 5 0 0 (by decide)
  rw [e, e]
  exact num_congr 5 0 0 (fun k _ hk => upd_no _ _ (by omega))
/-- the length, by the first bit -/
def LenB (b : Nat → Int32) (len : Int32) : Prop := len = if b 0 = 0 then 56 else 112
theorem len_112 {b : Nat → Int32} {len : Int32} (hb : Bits b) (hl : LenB b len) (h : f_X6_number b 1 5 = 17 ∨ f_X6_number b 1 5 = 18) : len = 112 := by
  unfold LenB at hl
  by_cases h0 : b 0 = 0
  · exfalso
    have e : f_X6_number b 1 5 = num b 5 0 0 := by
      have h2 : f_X6_number b 1 5 = f_X6_number_lp b 5 (nI (0 + 1)) 0 := rfl
      rw [h2]
      exact num6 b 5 0 0 (by decide)
    have e2 : num b 5 0 0 = 2 * (2 * (2 * (2 * (2 * 0 + b 0) + b 1) + b 2) + b 3) + b 4 := rfl
    rw [e, e2, h0] at h
    rcases hb 1 (by decide) with q1 | q1 <;> rcases hb 2 (by decide) with q2 | q2 <;> rcases hb 3 (by decide) with q3 | q3 <;> rcases hb 4 (by decide) with q4 | q4 <;> rw [q1, q2, q3, q4] at h <;> exact absurd h (by decide)
  · rw [hl, if_neg h0]
theorem copy_same {w b : Nat → Int32} (hs : Same w b) (l : Nat → Int32) (x y : Int32) : Same (f_X4_copy_w l w x y) b := by
  intro k hk
  have e : f_X4_copy_w l w x y (k / 32) = w (k / 32) := by
    show (if 0 ≤ k / 32 ∧ k / 32 < 0 + 4 then w (0 + (k / 32 - 0)) else l (k / 32)) = w (k / 32)
    rw [if_pos (by omega), Nat.zero_add, Nat.sub_zero]
  rw [hs k hk, bf_at _ hk, bf_at _ hk, e]
theorem sl1_heard (b : Nat → Int32) : ∀ (n s : Nat) (g : Nat → Int32), s + n = 112 → ∀ m, m < 112 → (m < s → g m = b m) → f_X6_hear_sl1 b n (nI s) g m = b m
  | 0, s, g, h, m, hm, hg => hg (by omega)
  | n + 1, s, g, h, m, hm, hg => by
    show f_X6_hear_sl1 b n (nI s + 1) (upd g (nI s).toNatClampNeg (b (nI s).toNatClampNeg)) m = b m
    rw [nI_1, nI_clamp (by omega)]
    refine sl1_heard b n (s + 1) _ (by omega) m hm (fun hlt => ?_)
    by_cases e : m = s
    · subst e; rw [upd_is]
    · rw [upd_no _ _ e]; exact hg (by omega)
theorem heard_same {w b : Nat → Int32} (hs : Same w b) (hd : Nat → Int32) : Same w (f_X6_hear_sl1 b 112 0 hd) := by
  intro k hk
  rw [← hs k hk]
  exact sl1_heard b 112 0 hd (by decide) k hk (fun q => absurd q (by omega))
/-! a known kind of frame -/
theorem known_or {d : Int32} (h : ¬ f_X6_isKnown d = 0) : d = 0 ∨ d = 4 ∨ d = 5 ∨ d = 11 ∨ d = 16 ∨ d = 17 ∨ d = 18 ∨ d = 20 ∨ d = 21 := by
  unfold f_X6_isKnown at h
  by_cases e0 : d = 0
  · exact Or.inl e0
  by_cases e4 : d = 4
  · exact Or.inr (Or.inl e4)
  by_cases e5 : d = 5
  · exact Or.inr (Or.inr (Or.inl e5))
  by_cases e11 : d = 11
  · exact Or.inr (Or.inr (Or.inr (Or.inl e11)))
  by_cases e16 : d = 16
  · exact Or.inr (Or.inr (Or.inr (Or.inr (Or.inl e16))))
  by_cases e17 : d = 17
  · exact Or.inr (Or.inr (Or.inr (Or.inr (Or.inr (Or.inl e17)))))
  by_cases e18 : d = 18
  · exact Or.inr (Or.inr (Or.inr (Or.inr (Or.inr (Or.inr (Or.inl e18))))))
  by_cases e20 : d = 20
  · exact Or.inr (Or.inr (Or.inr (Or.inr (Or.inr (Or.inr (Or.inr (Or.inl e20)))))))
  by_cases e21 : d = 21
  · exact Or.inr (Or.inr (Or.inr (Or.inr (Or.inr (Or.inr (Or.inr (Or.inr e21)))))))
  rw [if_neg e0, if_neg e4, if_neg e5, if_neg e11, if_neg e16, if_neg e17, if_neg e18, if_neg e20, if_neg e21] at h
  exact absurd rfl h
