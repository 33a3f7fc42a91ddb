/-! field; the book: find, craft, sign, who is silent -/
theorem prt {w b : Nat → Int32} {len : Int32} (hs : Same w b) (hl : len = 56 ∨ len = 112) {x y : Nat} (h1 : 1 ≤ x) (h2 : x ≤ y) (h3 : y ≤ 56) (h4 : y ≤ x + 31) (S : Int32) : f_X4_part w len (nI x) (nI y) S = if f_X4_isOf w len S = 0 then -1 else f_X6_number b (nI x) (nI y) := by
  unfold f_X4_part
  have e3 : nI y - nI x + 1 = nI (y - x + 1) := by rw [pk_sub h2, nI_1]
  rw [e3, num_inN hs hl h1 h2 h3 h4]
theorem field_eq {w b : Nat → Int32} {len : Int32} (hs : Same w b) (hl : len = 56 ∨ len = 112) (tr a0 : Int32) : f_X4_told w len tr a0 = f_X6_field b len (f_X4_remainder w len) tr a0 := by
  have hz : ¬ len = 0 := by rcases hl with e | e <;> subst e <;> decide
  have p1 : f_X4_part w len 6 8 395264 = if f_X4_isOf w len 395264 = 0 then -1 else f_X6_number b 6 8 := prt hs hl (x := 6) (y := 8) (by decide) (by decide) (by decide) (by decide) _
  have p2 : f_X4_part w len 6 8 3145776 = if f_X4_isOf w len 3145776 = 0 then -1 else f_X6_number b 6 8 := prt hs hl (x := 6) (y := 8) (by decide) (by decide) (by decide) (by decide) _
  have p3 : f_X4_part w len 9 13 3145776 = if f_X4_isOf w len 3145776 = 0 then -1 else f_X6_number b 9 13 := prt hs hl (x := 9) (y := 13) (by decide) (by decide) (by decide) (by decide) _
  have p4 : f_X4_part w len 14 19 3145776 = if f_X4_isOf w len 3145776 = 0 then -1 else f_X6_number b 14 19 := prt hs hl (x := 14) (y := 19) (by decide) (by decide) (by decide) (by decide) _
  have p5 : f_X4_part w len 6 6 65537 = if f_X4_isOf w len 65537 = 0 then -1 else f_X6_number b 6 6 := prt hs hl (x := 6) (y := 6) (by decide) (by decide) (by decide) (by decide) _
  have p6 : f_X4_part w len 7 7 1 = if f_X4_isOf w len 1 = 0 then -1 else f_X6_number b 7 7 := prt hs hl (x := 7) (y := 7) (by decide) (by decide) (by decide) (by decide) _
  have p7 : f_X4_part w len 9 11 65537 = if f_X4_isOf w len 65537 = 0 then -1 else f_X6_number b 9 11 := prt hs hl (x := 9) (y := 11) (by decide) (by decide) (by decide) (by decide) _
  have p8 : f_X4_part w len 14 17 65537 = if f_X4_isOf w len 65537 = 0 then -1 else f_X6_number b 14 17 := prt hs hl (x := 14) (y := 17) (by decide) (by decide) (by decide) (by decide) _
  have p9 : f_X4_part w len 20 32 1114129 = if f_X4_isOf w len 1114129 = 0 then -1 else f_X6_number b 20 32 := prt hs hl (x := 20) (y := 32) (by decide) (by decide) (by decide) (by decide) _
  have p10 : f_X4_part w len 20 32 2097184 = if f_X4_isOf w len 2097184 = 0 then -1 else f_X6_number b 20 32 := prt hs hl (x := 20) (y := 32) (by decide) (by decide) (by decide) (by decide) _
  have p13 : f_X4_part w len 33 37 393216 = if f_X4_isOf w len 393216 = 0 then -1 else f_X6_number b 33 37 := prt hs hl (x := 33) (y := 37) (by decide) (by decide) (by decide) (by decide) _
  have p14 : f_X4_part w len 38 40 393216 = if f_X4_isOf w len 393216 = 0 then -1 else f_X6_number b 38 40 := prt hs hl (x := 38) (y := 40) (by decide) (by decide) (by decide) (by decide) _
  have pA : f_X4_number w len 9 24 = f_X6_number b 9 32 := num_inN hs hl (x := 9) (y := 32) (by decide) (by decide) (by decide) (by decide)
  have oM := of_msg hs hl
  have oA := of_all hs hl
  have oD := of_adr hs hl
  have oT := of_alt hs hl
  have oI := of_idn hs hl
  have oR := of_rep hs hl
  have oW := of_air hs hl
  have oS := of_sho hs hl
  unfold f_X4_told f_X6_field f_X4_address f_X6_field_x52 f_X6_field_x69 f_X6_field_x88
  rw [p1, p2, p3, p4, p5, p6, p7, p8, p9, p10, p13, p14, pA, fmt_eq hs hl, if_neg hz, if_neg hz, if_neg hz]
  generalize f_X6_number b 1 5 = d at *
  have r3 : ∀ v : Int32, (if f_X4_isOf w len 3145776 = 0 then (-1 : Int32) else v) = (if (if d = (4 : Int32) then (1 : Int32) else (if d = (5 : Int32) then (1 : Int32) else (if d = (20 : Int32) then (1 : Int32) else (if d = (21 : Int32) then (1 : Int32) else (0 : Int32))))) = 0 then (-1 : Int32) else v) := by
    intro v
    by_cases g : d = 4 ∨ d = 5 ∨ d = 20 ∨ d = 21
    · rw [if_neg (fun q => (oR.mp q) g)]
      rcases g with e | e | e | e <;> subst e <;> rfl
    · rw [if_pos (oR.mpr g), if_neg (fun q => g (Or.inl q)), if_neg (fun q => g (Or.inr (Or.inl q))), if_neg (fun q => g (Or.inr (Or.inr (Or.inl q)))), if_neg (fun q => g (Or.inr (Or.inr (Or.inr q)))), if_pos rfl]
  have r5 : ∀ v : Int32, (if f_X4_isOf w len 65537 = 0 then (-1 : Int32) else v) = (if (if d = 0 then (1 : Int32) else (if d = (16 : Int32) then (1 : Int32) else (0 : Int32))) = 0 then (-1 : Int32) else v) := by
    intro v
    by_cases g : d = 0 ∨ d = 16
    · rw [if_neg (fun q => (oW.mp q) g)]
      rcases g with e | e <;> subst e <;> rfl
    · rw [if_pos (oW.mpr g), if_neg (fun q => g (Or.inl q)), if_neg (fun q => g (Or.inr q)), if_pos rfl]
  have rM : ∀ v : Int32, (if f_X4_isOf w len 393216 = 0 then (-1 : Int32) else v) = (if (if d = (17 : Int32) then (1 : Int32) else (if d = (18 : Int32) then (1 : Int32) else (0 : Int32))) = 0 then (-1 : Int32) else v) := by
    intro v
    by_cases g : d = 17 ∨ d = 18
    · rw [if_neg (fun q => (oM.mp q) g)]
      rcases g with e | e <;> subst e <;> rfl
    · rw [if_pos (oM.mpr g), if_neg (fun q => g (Or.inl q)), if_neg (fun q => g (Or.inr q)), if_pos rfl]
  by_cases e0 : a0 = 0
  · rw [if_pos e0, if_pos e0]
  rw [if_neg e0, if_neg e0]
  by_cases e1 : a0 = 1
  · rw [if_pos e1, if_pos e1]
    by_cases g : f_X6_isSquitter d = 0
    · rw [if_pos g, if_pos (oD.mpr g)]
    · rw [if_neg g, if_neg (fun q => g (oD.mp q))]
  rw [if_neg e1, if_neg e1]
  by_cases e2 : a0 = 2
  · rw [if_pos e2, if_pos e2]; exact r3 _
  rw [if_neg e2, if_neg e2]
  by_cases e3 : a0 = 3
  · rw [if_pos e3, if_pos e3]; exact r3 _
  rw [if_neg e3, if_neg e3]
  by_cases e4 : a0 = 4
  · rw [if_pos e4, if_pos e4]; exact r3 _
  rw [if_neg e4, if_neg e4]
  by_cases e5 : a0 = 5
  · rw [if_pos e5, if_pos e5]; exact r5 _
  rw [if_neg e5, if_neg e5]
  by_cases e6 : a0 = 6
  · rw [if_pos e6, if_pos e6]
    by_cases g : d = 0
    · rw [if_pos g, if_neg (fun q => (oS.mp q) g)]
    · rw [if_neg g, if_pos (oS.mpr g)]
  rw [if_neg e6, if_neg e6]
  by_cases e7 : a0 = 7
  · rw [if_pos e7, if_pos e7]; exact r5 _
  rw [if_neg e7, if_neg e7]
  by_cases e8 : a0 = 8
  · rw [if_pos e8, if_pos e8]; exact r5 _
  rw [if_neg e8, if_neg e8]
  by_cases e9 : a0 = 9
  · rw [if_pos e9, if_pos e9]
    by_cases g : d = 0 ∨ d = 4 ∨ d = 16 ∨ d = 20
    · rw [if_neg (fun q => (oT.mp q) g)]
      rcases g with e | e | e | e <;> subst e <;> rfl
    · rw [if_pos (oT.mpr g), if_neg (fun q => g (Or.inl q)), if_neg (fun q => g (Or.inr (Or.inr (Or.inl q)))), if_pos rfl, if_neg (fun q => g (Or.inr (Or.inl q))), if_neg (fun q => g (Or.inr (Or.inr (Or.inr q))))]
  rw [if_neg e9, if_neg e9]
  by_cases e10 : a0 = 10
  · rw [if_pos e10, if_pos e10]
    by_cases g : d = 5 ∨ d = 21
    · rw [if_neg (fun q => (oI.mp q) g)]
      rcases g with e | e <;> subst e <;> rfl
    · rw [if_pos (oI.mpr g), if_neg (fun q => g (Or.inl q)), if_neg (fun q => g (Or.inr q))]
  rw [if_neg e10, if_neg e10]
  by_cases e11 : a0 = 11
  · rw [if_pos e11, if_pos e11]
    by_cases g : f_X6_isSquitter d = 0
    · rw [if_pos g, if_pos (oD.mpr g)]
    · rw [if_neg g, if_neg (fun q => g (oD.mp q))]
  rw [if_neg e11, if_neg e11]
  by_cases e12 : a0 = 12
  · rw [if_pos e12, if_pos e12]
    by_cases g : d = 11
    · rw [if_pos g, if_neg (fun q => (oA.mp q) g)]
    · rw [if_neg g, if_pos (oA.mpr g)]
  rw [if_neg e12, if_neg e12]
  by_cases e13 : a0 = 13
  · rw [if_pos e13, if_pos e13]; exact rM _
  rw [if_neg e13, if_neg e13]
  by_cases e14 : a0 = 14
  · rw [if_pos e14, if_pos e14]; exact rM _
  rw [if_neg e14, if_neg e14]
/-! the book -/
def RowC (c : CR) (r : Nat → Int32) : Prop := Row c.1 c.2.1 c.2.2.1 c.2.2.2 r
def BookR (N : Nat) (pi : Nat → Nat) (S : Nat → CR) (rw : Nat → Int32) : Prop :=
  (∀ k, k < 20 → pi k < 20) ∧ (∀ j k, j < 20 → k < 20 → pi j = pi k → j = k) ∧ (∀ k, k < N → RowC (S (pi k)) (rowOf rw k)) ∧ (∀ k, k < 20 → Pl (rowOf rw k 0) (rowOf rw k)) ∧ (∀ j k, j < N → k < N → rowOf rw j 0 = rowOf rw k 0 → j = k)
theorem Row.ext {va le : Nat → Int32} {co : Nat → Int64} {ct r r' : Nat → Int32} (h : Row va le co ct r) (e : ∀ w, w < 40 → r' w = r w) : Row va le co ct r' := by
  obtain ⟨h1, h2, h3, h4⟩ := h
  refine ⟨fun w hw => ?_, fun k hk => ?_, ?_, ?_⟩
  · rw [e w (by omega)]; exact h1 w hw
  · rw [e 18 (by decide), e (19 + k) (by omega)]; exact h2 k hk
  · rw [e 27 (by decide), e 28 (by decide), e 29 (by decide), e 30 (by decide)]; exact h3
  · rw [e 31 (by decide), e 32 (by decide), e 33 (by decide), e 34 (by decide)]; exact h4
theorem Pl.ext {a : Int32} {r r' : Nat → Int32} (h : Pl a r) (e : ∀ w, w < 40 → r' w = r w) : Pl a r' := by
  unfold Pl
  rw [e 0 (by decide), e 15 (by decide), e 16 (by decide), e 17 (by decide)]
  exact h
theorem val_0 (va : Nat → Int32) : f_X3_value va 0 = va 0 := by
  unfold f_X3_value
  rw [if_neg (by decide), if_pos (by decide)]
  rfl
theorem val_1 (va : Nat → Int32) : f_X3_value va 1 = va 1 := by
  unfold f_X3_value
  rw [if_neg (by decide), if_pos (by decide)]
  rfl
theorem row_0 {S : Nat → CR} {c : Nat} {r : Nat → Int32} (h : RowC (S c) r) : f_X3_value (S c).1 0 = r 0 := by rw [val_0]; exact h.1 0 (by decide)
theorem row_1 {S : Nat → CR} {c : Nat} {r : Nat → Int32} (h : RowC (S c) r) : f_X3_value (S c).1 1 = r 1 := by rw [val_1]; exact h.1 1 (by decide)
theorem find6_no (rw : Nat → Int32) (a : Int32) (N : Nat) (hN : N ≤ 20) : ∀ (n s : Nat) (v : Int32), s + n = N → (∀ k, s ≤ k → k < N → ¬ rw (40 * k + 0) = a) → f_X6_find_lp rw a n (nI s) v = v
  | 0, _, _, _, _ => rfl
  | n + 1, s, v, h, hk => by
    have a0 : (f_X6_at (nI s) 0).toNatClampNeg = 40 * s + 0 := at_n (w := 0) (by omega) (by decide)
    show f_X6_find_lp rw a n (nI s + 1) (if rw (f_X6_at (nI s) 0).toNatClampNeg = a then nI s else v) = v
    rw [a0, if_neg (hk s (Nat.le_refl _) (by omega)), nI_1]
    exact find6_no rw a N hN n (s + 1) v (by omega) (fun k h1 h2 => hk k (by omega) h2)
theorem find6_yes (rw : Nat → Int32) (a : Int32) (N : Nat) (hN : N ≤ 20) {k : Nat} (hk : rw (40 * k + 0) = a) (hkN : k < N) (hu : ∀ j, j < N → rw (40 * j + 0) = a → j = k) : ∀ (n s : Nat) (v : Int32), s + n = N → s ≤ k → f_X6_find_lp rw a n (nI s) v = nI k
  | 0, s, _, h, hs => by omega
  | n + 1, s, v, h, hs => by
    have a0 : (f_X6_at (nI s) 0).toNatClampNeg = 40 * s + 0 := at_n (w := 0) (by omega) (by decide)
    show f_X6_find_lp rw a n (nI s + 1) (if rw (f_X6_at (nI s) 0).toNatClampNeg = a then nI s else v) = nI k
    rw [a0, nI_1]
    by_cases e : s = k
    · subst e
      rw [if_pos hk]
      exact find6_no rw a N hN n (s + 1) _ (by omega) (fun j h1 h2 q => by have := hu j h2 q; omega)
    · rw [if_neg (fun q => e (hu s (by omega) q))]
      exact find6_yes rw a N hN hk hkN hu n (s + 1) v (by omega) (by omega)
theorem find5_no (size : Int32) (pi : Nat → Nat) (S : Nat → CR) (a : Int32) (N : Nat) (hN : N ≤ 20) : ∀ (n s : Nat), s + n = N → (∀ k, s ≤ k → k < N → ¬ f_X3_value (S (pi k)).1 0 = a) → f_X0_indexOf_lp size pi S a n (nI s) = -1
  | 0, _, _, _ => rfl
  | n + 1, s, h, hk => by
    show (if (f_X3_value (S (pi (nI s).toNatClampNeg)).1 (0 : Int32)) = a then nI s else (f_X0_indexOf_lp size pi S a n (nI s + (1 : Int32)))) = -1
    rw [nI_clamp (by omega), if_neg (hk s (Nat.le_refl _) (by omega)), nI_1]
    exact find5_no size pi S a N hN n (s + 1) (by omega) (fun k h1 h2 => hk k (by omega) h2)
theorem find5_yes (size : Int32) (pi : Nat → Nat) (S : Nat → CR) (a : Int32) (N : Nat) (hN : N ≤ 20) {k : Nat} (hk : f_X3_value (S (pi k)).1 0 = a) (hkN : k < N) (hu : ∀ j, j < N → f_X3_value (S (pi j)).1 0 = a → j = k) : ∀ (n s : Nat), s + n = N → s ≤ k → f_X0_indexOf_lp size pi S a n (nI s) = nI k
  | 0, s, h, hs => by omega
  | n + 1, s, h, hs => by
    show (if (f_X3_value (S (pi (nI s).toNatClampNeg)).1 (0 : Int32)) = a then nI s else (f_X0_indexOf_lp size pi S a n (nI s + (1 : Int32)))) = nI k
    rw [nI_clamp (by omega), nI_1]
    by_cases e : s = k
    · subst e
      rw [if_pos hk]
    · rw [if_neg (fun q => e (hu s (by omega) q))]
      exact find5_yes size pi S a N hN hk hkN hu n (s + 1) (by omega) (by omega)
/-- where an address stands, on both sides -/
theorem find_spec {N : Nat} {pi : Nat → Nat} {S : Nat → CR} {rw : Nat → Int32} (h : BookR N pi S rw) (hN : N ≤ 20) (a : Int32) :
    (∃ k, k < N ∧ rowOf rw k 0 = a ∧ f_X0_indexOf (nI N) pi S a = nI k ∧ f_X6_find (nI N) rw a = nI k) ∨ ((∀ k, k < N → ¬ rowOf rw k 0 = a) ∧ f_X0_indexOf (nI N) pi S a = -1 ∧ f_X6_find (nI N) rw a = -1) := by
  obtain ⟨h1, h2, h3, h4, h5⟩ := h
  have hv : ∀ k, k < N → f_X3_value (S (pi k)).1 0 = rowOf rw k 0 := fun k hk => row_0 (h3 k hk)
  have hc : (nI N).toNatClampNeg = N := nI_clamp (by omega)
  unfold f_X0_indexOf f_X6_find
  rw [hc]
  by_cases g : ∃ k, k < N ∧ rowOf rw k 0 = a
  · obtain ⟨k, hk, e⟩ := g
    left
    refine ⟨k, hk, e, ?_, ?_⟩
    · exact find5_yes (nI N) pi S a N hN (by rw [hv k hk]; exact e) hk (fun j hj q => h5 j k hj hk (by rw [← hv j hj, q, e])) N 0 (by omega) (Nat.zero_le _)
    · exact find6_yes rw a N hN e hk (fun j hj q => h5 j k hj hk (Eq.trans q e.symm)) N 0 (-1) (by omega) (Nat.zero_le _)
  · right
    have g' : ∀ k, k < N → ¬ rowOf rw k 0 = a := fun k hk q => g ⟨k, hk, q⟩
    refine ⟨g', ?_, ?_⟩
    · exact find5_no (nI N) pi S a N hN N 0 (by omega) (fun k _ hk q => g' k hk (by rw [← hv k hk]; exact q))
    · exact find6_no rw a N hN N 0 (-1) (by omega) (fun k _ hk => g' k hk)
theorem find_eq {N : Nat} {pi : Nat → Nat} {S : Nat → CR} {rw : Nat → Int32} (h : BookR N pi S rw) (hN : N ≤ 20) (a : Int32) : f_X5_find (nI N) pi S a = f_X6_find (nI N) rw a := by
  unfold f_X5_find
  rcases find_spec h hN a with ⟨k, -, -, e1, e2⟩ | ⟨-, e1, e2⟩ <;> rw [e1, e2]
theorem rowN {x : Int32} {N : Nat} (hN : N ≤ 20) (h0 : ¬ x < 0) (h1 : ¬ nI N ≤ x) : ∃ i : Nat, i < N ∧ x = nI i := by
  rw [fa_lt, i0] at h0
  rw [fa_le, nI_toInt (by omega)] at h1
  obtain ⟨j, hj, ej⟩ := nat_of (x := x) (by omega)
  exact ⟨j, by omega, ej⟩
theorem craft_eq {N : Nat} {pi : Nat → Nat} {S : Nat → CR} {rw : Nat → Int32} (h : BookR N pi S rw) (hN : N ≤ 20) (x y : Int32) : f_X5_craft (nI N) pi S x y = f_X6_craft (nI N) rw x y := by
  obtain ⟨h1, h2, h3, h4, h5⟩ := h
  unfold f_X5_craft f_X6_craft f_X6_isCraft f_X3_value
  by_cases g0 : x < 0
  · rw [if_pos g0, if_pos g0, if_pos rfl]
  · by_cases g1 : nI N ≤ x
    · rw [if_neg g0, if_pos g1, if_neg g0, if_pos g1, if_pos rfl]
    · obtain ⟨i, hi, rfl⟩ := rowN hN g0 g1
      rw [if_neg g0, if_neg g1, if_neg g0, if_neg g1, if_neg (show ¬ (1 : Int32) = 0 by decide), nI_clamp (by omega)]
      by_cases g2 : y < 0
      · rw [if_pos g2, if_pos g2]
      · by_cases g3 : y < 18
        · have g4 : ¬ (18 : Int32) ≤ y := by rw [fa_le]; rw [fa_lt] at g3; omega
          rw [if_neg g2, if_neg g2, if_pos g3, if_neg g4]
          rw [fa_lt, i0] at g2
          rw [fa_lt, show (18 : Int32).toInt = 18 from rfl] at g3
          obtain ⟨w, hw, rfl⟩ := nat_of (x := y) (by omega)
          have hw2 : w < 18 := by rw [← hw] at g3; omega
          rw [nI_clamp (by omega), at_n (by omega) (by omega)]
          exact (h3 i hi).1 w hw2
        · have g4 : (18 : Int32) ≤ y := by rw [fa_le]; rw [fa_lt] at g3; omega
          rw [if_neg g2, if_neg g2, if_neg g3, if_pos g4]
theorem sign_eq {N : Nat} {pi : Nat → Nat} {S : Nat → CR} {rw : Nat → Int32} (h : BookR N pi S rw) (hN : N ≤ 20) (x y : Int32) : f_X5_sign (nI N) pi S x y = f_X6_sign (nI N) rw x y := by
  obtain ⟨h1, h2, h3, h4, h5⟩ := h
  unfold f_X5_sign f_X6_sign f_X6_isCraft f_X3_letter
  by_cases g0 : x < 0
  · rw [if_pos g0, if_pos g0, if_pos rfl]
  · by_cases g1 : nI N ≤ x
    · rw [if_neg g0, if_pos g1, if_neg g0, if_pos g1, if_pos rfl]
    · obtain ⟨i, hi, rfl⟩ := rowN hN g0 g1
      rw [if_neg g0, if_neg g1, if_neg g0, if_neg g1, if_neg (show ¬ (1 : Int32) = 0 by decide), nI_clamp (by omega)]
      by_cases g2 : y < 0
      · rw [if_pos g2, if_pos g2]
      · by_cases g3 : y < 8
        · have g4 : ¬ (8 : Int32) ≤ y := by rw [fa_le]; rw [fa_lt] at g3; omega
          rw [if_neg g2, if_neg g2, if_pos g3, if_neg g4]
          rw [fa_lt, i0] at g2
          rw [fa_lt, show (8 : Int32).toInt = 8 from rfl] at g3
          obtain ⟨w, hw, rfl⟩ := nat_of (x := y) (by omega)
          have hw2 : w < 8 := by rw [← hw] at g3; omega
          have e19 : (19 : Int32) + nI w = nI (19 + w) := nI_add 19 w
          have a18 : (f_X6_at (nI i) 18).toNatClampNeg = 40 * i + 18 := at_n (w := 18) (by omega) (by decide)
          rw [nI_clamp (by omega), e19, a18, at_n (by omega) (by omega)]
          exact (h3 i hi).2.1 w hw2
        · have g4 : (8 : Int32) ≤ y := by rw [fa_le]; rw [fa_lt] at g3; omega
          rw [if_neg g2, if_neg g2, if_neg g3, if_pos g4]
/-! who is silent is gone -/
theorem sl1_N {s j k w : Nat} (hs : s < 20) (hj : j < 20) (hk : k < 20) (hw : w < 40) (g : Nat → Int32) : f_X6_ages_sl1 (nI s) (nI j) 40 0 g (40 * k + w) = if k = j then g (40 * s + w) else g (40 * k + w) := by
  have ts : (nI s).toInt = ((s : Nat) : Int) := nI_toInt (by omega)
  have tj : (nI j).toInt = ((j : Nat) : Int) := nI_toInt (by omega)
  rw [sl1_spec (i := nI s) (j := nI j) (by rw [ts]; omega) (by rw [tj]; omega) 40 0 g (by decide) (by decide) (40 * k + w), i0, ts, tj]
  by_cases e : k = j
  · subst e
    rw [if_pos rfl, if_pos (by omega)]
    congr 1
    omega
  · rw [if_neg e, if_neg (by omega)]
def AgeI (N s j : Nat) (p : Nat → Nat) (S : Nat → CR) (g : Nat → Int32) : Prop :=
  (∀ k, k < 20 → p k < 20) ∧ (∀ u k, u < 20 → k < 20 → p u = p k → u = k) ∧ (∀ k, k < j ∨ (s ≤ k ∧ k < N) → RowC (S (p k)) (rowOf g k)) ∧ (∀ k, k < 20 → Pl (rowOf g k 0) (rowOf g k)) ∧ (∀ u k, (u < j ∨ (s ≤ u ∧ u < N)) → (k < j ∨ (s ≤ k ∧ k < N)) → rowOf g u 0 = rowOf g k 0 → u = k)
theorem age_lp {N : Nat} (hN : N ≤ 20) (size mn t : Int32) (S : Nat → CR) : ∀ (n s j : Nat) (p : Nat → Nat) (g : Nat → Int32), s + n = N → j ≤ s → AgeI N s j p S g →
    ∃ J : Nat, J ≤ N ∧ f_X0_forgetSilent_lp_size size S t n (nI s) (nI j) p = nI J ∧ f_X6_ages_lp_mn mn t n (nI s) (nI j) g = nI J ∧ BookR J (f_X0_forgetSilent_lp_pi size S t n (nI s) (nI j) p) S (f_X6_ages_lp_rw mn t n (nI s) (nI j) g)
  | 0, s, j, p, g, h, hj, hI => by
    obtain ⟨h1, h2, h3, h4, h5⟩ := hI
    exact ⟨j, by omega, rfl, rfl, h1, h2, fun k hk => h3 k (Or.inl hk), h4, fun u k hu hk => h5 u k (Or.inl hu) (Or.inl hk)⟩
  | n + 1, s, j, p, g, h, hj, hI => by
    obtain ⟨h1, h2, h3, h4, h5⟩ := hI
    have hs20 : s < 20 := by omega
    have a1 : (f_X6_at (nI s) 1).toNatClampNeg = 40 * s + 1 := at_n (w := 1) hs20 (by decide)
    have hv : f_X3_value (S (p s)).1 1 = g (40 * s + 1) := row_1 (h3 s (Or.inr ⟨Nat.le_refl _, by omega⟩))
    have cs : (nI s).toNatClampNeg = s := nI_clamp (by omega)
    have cj : (nI j).toNatClampNeg = j := nI_clamp (by omega)
    simp only [f_X0_forgetSilent_lp_size, f_X0_forgetSilent_lp_pi, f_X6_ages_lp_mn, f_X6_ages_lp_rw]
    rw [a1, cs, cj, hv, nI_1, nI_1]
    by_cases c : (600 : Int32) < t - g (40 * s + 1)
    · have c' : ¬ t - g (40 * s + 1) ≤ 600 := by rw [fa_le]; rw [fa_lt] at c; omega
      rw [if_pos c, if_pos c, if_neg c', if_neg c']
      refine age_lp hN size mn t S n (s + 1) j p g (by omega) (by omega) ⟨h1, h2, fun k hk => h3 k (by omega), h4, fun u k hu hk => h5 u k (by omega) (by omega)⟩
    · have c' : t - g (40 * s + 1) ≤ 600 := by rw [fa_le]; rw [fa_lt] at c; omega
      rw [if_neg c, if_neg c, if_pos c', if_pos c']
      have hj20 : j < 20 := by omega
      have pj : va_up (va_up p s (p j)) j (p s) j = p s := va_up_self _ _ _
      have po : ∀ k, k ≠ j → k ≠ s → va_up (va_up p s (p j)) j (p s) k = p k := fun k e1 e2 => by rw [va_up_ne _ _ e1, va_up_ne _ _ e2]
      have ps : s ≠ j → va_up (va_up p s (p j)) j (p s) s = p j := fun e => by rw [va_up_ne _ _ e, va_up_self]
      have rj : ∀ w, w < 40 → rowOf (f_X6_ages_sl1 (nI s) (nI j) 40 0 g) j w = rowOf g s w := fun w hw => by
        show f_X6_ages_sl1 (nI s) (nI j) 40 0 g (40 * j + w) = g (40 * s + w)
        rw [sl1_N hs20 hj20 hj20 hw, if_pos rfl]
      have ro : ∀ k, k < 20 → k ≠ j → ∀ w, w < 40 → rowOf (f_X6_ages_sl1 (nI s) (nI j) 40 0 g) k w = rowOf g k w := fun k hk e w hw => by
        show f_X6_ages_sl1 (nI s) (nI j) 40 0 g (40 * k + w) = g (40 * k + w)
        rw [sl1_N hs20 hj20 hk hw, if_neg e]
      refine age_lp hN size mn t S n (s + 1) (j + 1) _ _ (by omega) (by omega) ⟨fun k hk => ?_, fun u k hu hk e => ?_, fun k hk => ?_, fun k hk => ?_, fun u k hu hk e => ?_⟩
      · by_cases e1 : k = j
        · subst e1; rw [pj]; exact h1 s hs20
        · by_cases e2 : k = s
          · subst e2; rw [ps e1]; exact h1 j hj20
          · rw [po k e1 e2]; exact h1 k hk
      · by_cases u1 : u = j
        · subst u1
          rw [pj] at e
          by_cases k1 : k = u
          · exact k1.symm
          · by_cases k2 : k = s
            · subst k2
              rw [ps k1] at e
              exact (h2 _ _ hs20 hj20 e).symm
            · rw [po k k1 k2] at e
              exact absurd (h2 _ _ hs20 hk e).symm k2
        · by_cases u2 : u = s
          · subst u2
            rw [ps u1] at e
            by_cases k1 : k = j
            · subst k1
              rw [pj] at e
              exact (h2 _ _ hj20 hs20 e).symm
            · by_cases k2 : k = u
              · exact k2.symm
              · rw [po k k1 k2] at e
                exact absurd (h2 _ _ hj20 hk e).symm k1
          · rw [po u u1 u2] at e
            by_cases k1 : k = j
            · subst k1
              rw [pj] at e
              exact absurd (h2 _ _ hu hs20 e) u2
            · by_cases k2 : k = s
              · subst k2
                rw [ps k1] at e
                exact absurd (h2 _ _ hu hj20 e) u1
              · rw [po k k1 k2] at e
                exact h2 _ _ hu hk e
      · by_cases e1 : k = j
        · subst e1
          rw [pj]
          exact (h3 s (Or.inr ⟨Nat.le_refl _, by omega⟩)).ext rj
        · rw [po k e1 (by omega)]
          exact (h3 k (by omega)).ext (ro k (by omega) e1)
      · by_cases e1 : k = j
        · subst e1
          rw [rj 0 (by decide)]
          exact (h4 s hs20).ext rj
        · rw [ro k hk e1 0 (by decide)]
          exact (h4 k hk).ext (ro k hk e1)
      · by_cases u1 : u = j
        · by_cases k1 : k = j
          · rw [u1, k1]
          · rw [u1, rj 0 (by decide), ro k (by omega) k1 0 (by decide)] at e
            have := h5 s k (Or.inr ⟨Nat.le_refl _, by omega⟩) (by omega) e
            omega
        · by_cases k1 : k = j
          · rw [k1, rj 0 (by decide), ro u (by omega) u1 0 (by decide)] at e
            have := h5 u s (by omega) (Or.inr ⟨Nat.le_refl _, by omega⟩) e
            omega
          · rw [ro u (by omega) u1 0 (by decide), ro k (by omega) k1 0 (by decide)] at e
            exact h5 u k (by omega) (by omega) e
theorem ages_eq {N : Nat} {pi : Nat → Nat} {S : Nat → CR} {rw : Nat → Int32} (h : BookR N pi S rw) (hN : N ≤ 20) (t : Int32) :
    ∃ J : Nat, J ≤ 20 ∧ f_X0_forgetSilent_size (nI N) pi S t = nI J ∧ f_X6_ages_mn (nI N) rw t = nI J ∧ BookR J (f_X0_forgetSilent_pi (nI N) pi S t) S (f_X6_ages_rw (nI N) rw t) := by
  obtain ⟨h1, h2, h3, h4, h5⟩ := h
  have hc : (nI N).toNatClampNeg = N := nI_clamp (by omega)
  unfold f_X0_forgetSilent_size f_X6_ages_mn f_X0_forgetSilent_pi f_X6_ages_rw
  rw [hc]
  obtain ⟨J, j1, j2, j3, j4⟩ := age_lp hN (nI N) (nI N) t S N 0 0 pi rw (by omega) (Nat.le_refl _) ⟨h1, h2, fun k hk => h3 k (by omega), h4, fun u k hu hk => h5 u k (by omega) (by omega)⟩
  exact ⟨J, by omega, j2, j3, j4⟩
