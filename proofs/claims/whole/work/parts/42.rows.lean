/-! a row of the book, in two pictures -/
def putR (rw : Nat → Int32) (i : Nat) (r : Nat → Int32) : Nat → Int32 := fun n => if n / 40 = i then r (n % 40) else rw n
def rowOf (rw : Nat → Int32) (i : Nat) : Nat → Int32 := fun w => rw (40 * i + w)
theorem putR_self (rw : Nat → Int32) (i : Nat) : putR rw i (rowOf rw i) = rw := by
  funext n
  unfold putR rowOf
  split
  · next h => rw [show 40 * i + n % 40 = n by omega]
  · rfl
theorem putR_upd (rw r : Nat → Int32) (i : Nat) {w : Nat} (hw : w < 40) (v : Int32) : upd (putR rw i r) (40 * i + w) v = putR rw i (upd r w v) := by
  funext n
  show (if n = 40 * i + w then v else (if n / 40 = i then r (n % 40) else rw n)) = (if n / 40 = i then (if n % 40 = w then v else r (n % 40)) else rw n)
  by_cases h : n = 40 * i + w
  · rw [if_pos h, if_pos (by omega), if_pos (by omega)]
  · rw [if_neg h]
    by_cases h2 : n / 40 = i
    · rw [if_pos h2, if_pos h2, if_neg (by omega)]
    · rw [if_neg h2, if_neg h2]
theorem putR_at (rw r : Nat → Int32) (i : Nat) {w : Nat} (hw : w < 40) : putR rw i r (40 * i + w) = r w := by
  unfold putR
  rw [if_pos (by omega), show (40 * i + w) % 40 = w by omega]
theorem putR_ne (rw r : Nat → Int32) {i j : Nat} (hj : j ≠ i) {w : Nat} (hw : w < 40) : putR rw i r (40 * j + w) = rw (40 * j + w) := by
  unfold putR
  rw [if_neg (by omega)]
theorem putR_put (rw r r' : Nat → Int32) (i : Nat) : putR (putR rw i r) i r' = putR rw i r' := by
  funext n
  unfold putR
  split <;> rfl
theorem at_n {i w : Nat} (hi : i < 20) (hw : w < 40) : (f_X6_at (nI i) (nI w)).toNatClampNeg = 40 * i + w := by
  unfold f_X6_at
  rw [show (40 : Int32) = nI 40 from rfl, pk_mul, nI_add, nI_clamp (by omega)]
theorem at_k {i w k : Nat} (hi : i < 20) (hw : w + k < 40) : (f_X6_at (nI i) (nI w) + nI k).toNatClampNeg = 40 * i + (w + k) := by
  unfold f_X6_at
  rw [show (40 : Int32) = nI 40 from rfl, pk_mul, nI_add, nI_add, nI_clamp (by omega), Nat.add_assoc]
theorem upd_comm (f : Nat → Int32) {a b : Nat} (h : a ≠ b) (x y : Int32) : upd (upd f a x) b y = upd (upd f b y) a x := by
  funext n
  unfold upd
  by_cases h1 : n = b
  · rw [if_pos h1]
    by_cases h2 : n = a
    · exact absurd (h2.symm.trans h1) h
    · rw [if_neg h2, if_pos h1]
  · rw [if_neg h1, if_neg h1]
theorem upd_is (f : Nat → Int32) (k : Nat) (x : Int32) : upd f k x k = x := if_pos rfl
theorem upd_no (f : Nat → Int32) {k j : Nat} (x : Int32) (h : j ≠ k) : upd f k x j = f j := if_neg h
theorem updL_is (f : Nat → Int64) (k : Nat) (x : Int64) : vp_updL f k x k = x := if_pos rfl
theorem updL_no (f : Nat → Int64) {k j : Nat} (x : Int64) (h : j ≠ k) : vp_updL f k x j = f j := if_neg h
/-- the latest position of one kind, in two pictures -/
def CodeR (co : Int64) (ct f y x t : Int32) : Prop := (f = 1 ∧ (0 ≤ y.toInt ∧ y.toInt < 131072) ∧ (0 ≤ x.toInt ∧ x.toInt < 131072) ∧ co = y.toInt64 * (131072 : Int64) + x.toInt64 ∧ ct = t) ∨ (¬ f = 1 ∧ co = -1)
def Row (va le : Nat → Int32) (co : Nat → Int64) (ct : Nat → Int32) (r : Nat → Int32) : Prop :=
  (∀ w, w < 18 → va w = r w) ∧ (∀ k, k < 8 → le k = if r 18 = 1 then r (19 + k) else -1) ∧ CodeR (co 0) (ct 0) (r 27) (r 28) (r 29) (r 30) ∧ CodeR (co 1) (ct 1) (r 31) (r 32) (r 33) (r 34)
def Pl (a : Int32) (r : Nat → Int32) : Prop := r 0 = a ∧ (¬ r 17 = -2147483648 → InR (r 15) (r 16))
theorem Row.v {va le : Nat → Int32} {co : Nat → Int64} {ct r : Nat → Int32} (h : Row va le co ct r) (w : Nat) (hw : w < 18) (v : Int32) : Row (upd va w v) le co ct (upd r w v) := by
  obtain ⟨h1, h2, h3, h4⟩ := h
  refine ⟨fun u hu => ?_, fun k hk => ?_, ?_, ?_⟩
  · by_cases e : u = w
    · subst e; rw [upd_is, upd_is]
    · rw [upd_no _ _ e, upd_no _ _ e, h1 u hu]
  · rw [upd_no _ _ (by omega), upd_no _ _ (by omega)]; exact h2 k hk
  · rw [upd_no _ _ (by omega), upd_no _ _ (by omega), upd_no _ _ (by omega), upd_no _ _ (by omega)]; exact h3
  · rw [upd_no _ _ (by omega), upd_no _ _ (by omega), upd_no _ _ (by omega), upd_no _ _ (by omega)]; exact h4
theorem Pl.v {a : Int32} {r : Nat → Int32} (h : Pl a r) (w : Nat) (hw : (0 < w ∧ w < 15) ∨ 17 < w) (v : Int32) : Pl a (upd r w v) := by
  unfold Pl
  rw [upd_no _ _ (by omega), upd_no _ _ (by omega), upd_no _ _ (by omega), upd_no _ _ (by omega)]
  exact h
theorem code_rng {y x : Int32} (hy : 0 ≤ y.toInt ∧ y.toInt < 131072) (hx : 0 ≤ x.toInt ∧ x.toInt < 131072) : 0 ≤ (y.toInt64 * (131072 : Int64) + x.toInt64).toInt ∧ (y.toInt64 * (131072 : Int64) + x.toInt64).toInt < 17179869184 := by
  have e1 : y.toInt64.toInt = y.toInt := Int32.toInt_toInt64 y
  have e2 : x.toInt64.toInt = x.toInt := Int32.toInt_toInt64 x
  have e3 : (y.toInt64 * (131072 : Int64)).toInt = y.toInt * 131072 := by rw [← e1]; exact mR _ _ 131072 rfl (by omega) (by omega)
  have e4 : (y.toInt64 * (131072 : Int64) + x.toInt64).toInt = y.toInt * 131072 + x.toInt := by rw [aL (by omega) (by omega), e3, e2]
  rw [e4]
  omega
theorem code_m1 {y x : Int32} (hy : 0 ≤ y.toInt ∧ y.toInt < 131072) (hx : 0 ≤ x.toInt ∧ x.toInt < 131072) : ¬ y.toInt64 * (131072 : Int64) + x.toInt64 = -1 := by
  intro e
  have h := (code_rng hy hx).1
  rw [e] at h
  exact absurd h (by decide +kernel)
/-! where a frame's numbers come from -/
theorem msg_eq {w b : Nat → Int32} (hs : Same w b) {x y : Nat} (h1 : 1 ≤ x) (h2 : x ≤ y) (h3 : y ≤ 80) (h4 : y ≤ x + 31) : f_X4_message w 112 (nI x) (nI y) = f_X6_part b (nI x) (nI y) := by
  unfold f_X4_message f_X6_part
  have e1 : (32 : Int32) + nI x = nI (32 + x) := nI_add 32 x
  have e2 : (32 : Int32) + nI y = nI (32 + y) := nI_add 32 y
  have e3 : nI y - nI x + 1 = nI (y - x + 1) := by rw [pk_sub h2, nI_1]
  rw [e1, e2, e3]
  have t1 : (nI (32 + x)).toInt = ((32 + x : Nat) : Int) := nI_toInt (by omega)
  have t2 : (nI (32 + y)).toInt = ((32 + y : Nat) : Int) := nI_toInt (by omega)
  have t3 : (nI (y - x + 1)).toInt = ((y - x + 1 : Nat) : Int) := nI_toInt (by omega)
  have t4 : (112 : Int32).toInt = 112 := rfl
  refine num_in hs (by rw [t4]; omega) ?_ ?_ ?_ ?_ ?_
  · rw [t1]; omega
  · rw [t3]; omega
  · rw [t3]; omega
  · rw [t1, t3, t4]; omega
  · rw [t1, t2, t3]; omega
theorem part_rng {b : Nat → Int32} (hb : Bits b) {x y : Nat} (n : Nat) (h1 : 1 ≤ x) (hn : y + 1 = x + n) (h3 : y ≤ 80) (h4 : n ≤ 30) : ∃ m : Nat, m < 2 ^ n ∧ f_X6_part b (nI x) (nI y) = nI m := by
  unfold f_X6_part f_X6_number
  have e1 : (32 : Int32) + nI x = nI (32 + x) := nI_add 32 x
  have e2 : (32 : Int32) + nI y = nI (32 + y) := nI_add 32 y
  have t1 : (nI (32 + x)).toInt = ((32 + x : Nat) : Int) := nI_toInt (by omega)
  have t2 : (nI (32 + y)).toInt = ((32 + y : Nat) : Int) := nI_toInt (by omega)
  rw [e1, e2, t1, t2, show (((32 + y : Nat) : Int) + 1 - ((32 + x : Nat) : Int)).toNat = n by omega]
  have hp : (2 : Int) ^ n ≤ 2 ^ 30 := by
    have : 2 ^ n ≤ 2 ^ 30 := Nat.pow_le_pow_right (by decide) h4
    exact_mod_cast this
  have h := num_rng hb n (nI (32 + x)) 0 1 (by rw [t1]; omega) (by rw [t1]; omega) (by decide) (by decide) (by omega)
  obtain ⟨j, hj, ej⟩ := nat_of h.1
  refine ⟨j, ?_, ej⟩
  have h2 := h.2
  rw [Int.one_mul, ← hj] at h2
  exact_mod_cast h2
theorem num_rngN {b : Nat → Int32} (hb : Bits b) {x y : Nat} (n : Nat) (h1 : 1 ≤ x) (hn : y + 1 = x + n) (h3 : y ≤ 112) (h4 : n ≤ 30) : ∃ m : Nat, m < 2 ^ n ∧ f_X6_number b (nI x) (nI y) = nI m := by
  unfold f_X6_number
  have t1 : (nI x).toInt = ((x : Nat) : Int) := nI_toInt (by omega)
  have t2 : (nI y).toInt = ((y : Nat) : Int) := nI_toInt (by omega)
  rw [t1, t2, show (((y : Nat) : Int) + 1 - ((x : Nat) : Int)).toNat = n by omega]
  have hp : (2 : Int) ^ n ≤ 2 ^ 30 := by
    have : 2 ^ n ≤ 2 ^ 30 := Nat.pow_le_pow_right (by decide) h4
    exact_mod_cast this
  have h := num_rng hb n (nI x) 0 1 (by rw [t1]; omega) (by rw [t1]; omega) (by decide) (by decide) (by omega)
  obtain ⟨j, hj, ej⟩ := nat_of h.1
  refine ⟨j, ?_, ej⟩
  have h2 := h.2
  rw [Int.one_mul, ← hj] at h2
  exact_mod_cast h2
theorem num_inN {w b : Nat → Int32} {len : Int32} (hs : Same w b) (hl : len = 56 ∨ len = 112) {x y : Nat} (h1 : 1 ≤ x) (h2 : x ≤ y) (h3 : y ≤ 56) (h4 : y ≤ x + 31) : f_X4_number w len (nI x) (nI (y - x + 1)) = f_X6_number b (nI x) (nI y) := by
  have t1 : (nI x).toInt = ((x : Nat) : Int) := nI_toInt (by omega)
  have t2 : (nI y).toInt = ((y : Nat) : Int) := nI_toInt (by omega)
  have t3 : (nI (y - x + 1)).toInt = ((y - x + 1 : Nat) : Int) := nI_toInt (by omega)
  have hl2 : 56 ≤ len.toInt ∧ len.toInt ≤ 112 := by rcases hl with e | e <;> subst e <;> decide
  refine num_in hs hl2.2 ?_ ?_ ?_ ?_ ?_
  · rw [t1]; omega
  · rw [t3]; omega
  · rw [t3]; omega
  · rw [t1, t3]; omega
  · rw [t1, t2, t3]; omega
/-! what a place does to a row -/
theorem fresh_eq {va le : Nat → Int32} {co : Nat → Int64} {ct r : Nat → Int32} (h : Row va le co ct r) (rw : Nat → Int32) {i : Nat} (hi : i < 20) (t : Int32) : f_X3_hasFreshPlace va t = f_X6_isFresh (putR rw i r) (nI i) t := by
  unfold f_X3_hasFreshPlace f_X6_isFresh
  have a17 : (f_X6_at (nI i) 17).toNatClampNeg = 40 * i + 17 := at_n (w := 17) hi (by decide)
  rw [a17, putR_at _ _ _ (by decide), h.1 17 (by decide)]
theorem fresh_1 {r rw : Nat → Int32} {i : Nat} (hi : i < 20) {t : Int32} (h : ¬ f_X6_isFresh (putR rw i r) (nI i) t = 0) : ¬ r 17 = -2147483648 := by
  intro e
  apply h
  unfold f_X6_isFresh
  have a17 : (f_X6_at (nI i) 17).toNatClampNeg = 40 * i + 17 := at_n (w := 17) hi (by decide)
  rw [a17, putR_at _ _ _ (by decide), if_pos e]
theorem keep_eq {a : Int32} {va le : Nat → Int32} {co : Nat → Int64} {ct r : Nat → Int32} (h : Row va le co ct r) (hp : Pl a r) (rw : Nat → Int32) {i : Nat} (hi : i < 20) (t : Int32) {lat lon is : Int32} {pl : Int64} (hc : (is = 0 ∧ pl = -9223372036854775808) ∨ (is = 1 ∧ pl = f_X2_pack lat.toInt64 lon.toInt64 ∧ InR lat lon)) :
    ∃ r', f_X6_comes_rw (putR rw i r) lat lon (nI i) t is = putR rw i r' ∧ Row (f_X3_keepPlace_va va pl t) le co ct r' ∧ Pl a r' := by
  unfold f_X6_comes_rw f_X3_keepPlace_va
  rcases hc with ⟨e1, e2⟩ | ⟨e1, e2, e3⟩
  · rw [e1, e2, if_pos rfl, if_pos rfl]
    exact ⟨r, rfl, h, hp⟩
  · have a15 : (f_X6_at (nI i) 15).toNatClampNeg = 40 * i + 15 := at_n (w := 15) hi (by decide)
    have a16 : (f_X6_at (nI i) 16).toNatClampNeg = 40 * i + 16 := at_n (w := 16) hi (by decide)
    have a17 : (f_X6_at (nI i) 17).toNatClampNeg = 40 * i + 17 := at_n (w := 17) hi (by decide)
    rw [e1, e2, if_neg (by decide), if_neg (pack_no (InR_no e3)), pack_lat, pack_lon, a15, a16, a17, putR_upd _ _ _ (by decide), putR_upd _ _ _ (by decide), putR_upd _ _ _ (by decide)]
    refine ⟨_, rfl, ((h.v 15 (by decide) _).v 16 (by decide) _).v 17 (by decide) _, ?_, fun _ => ?_⟩
    · rw [upd_no _ _ (by decide), upd_no _ _ (by decide), upd_no _ _ (by decide)]; exact hp.1
    have x15 : (upd (upd (upd r 15 lat) 16 lon) 17 t) 15 = lat := by rw [upd_no _ _ (by decide), upd_no _ _ (by decide), upd_is]
    have x16 : (upd (upd (upd r 15 lat) 16 lon) 17 t) 16 = lon := by rw [upd_no _ _ (by decide), upd_is]
    rw [x15, x16]
    exact e3
theorem loc_case {bd : Nat → Int64} (h : BD bd) (lat lon : Int32) (told : Int64) (gr od la lo : Int32) (h1 : 0 ≤ told.toInt) (h2 : told.toInt < 17179869184) (hp : InR la lo) :
    (f_X6_localOf bd lat lon told gr od la lo = 0 ∧ f_X2_placeNear told gr od (f_X2_pack la.toInt64 lo.toInt64) = -9223372036854775808) ∨ (f_X6_localOf bd lat lon told gr od la lo = 1 ∧ f_X2_placeNear told gr od (f_X2_pack la.toInt64 lo.toInt64) = f_X2_pack (f_X6_localOf_lat bd lat lon told gr od la lo).toInt64 (f_X6_localOf_lon bd lat lon told gr od la lo).toInt64 ∧ InR (f_X6_localOf_lat bd lat lon told gr od la lo) (f_X6_localOf_lon bd lat lon told gr od la lo)) := by
  rcases loc_eq h lat lon told gr od la lo h1 h2 hp with ⟨e1, e2, -, -⟩ | e
  · exact Or.inl ⟨e1, e2⟩
  · exact Or.inr e
theorem glob_case {bd : Nat → Int64} (h : BD bd) (lat lon : Int32) (a0 a1 : Int64) (a2 : Int32) (h1 : 0 ≤ a0.toInt ∧ a0.toInt < 17179869184) (h3 : 0 ≤ a1.toInt ∧ a1.toInt < 17179869184) :
    (f_X6_globalOf bd lat lon a0 a1 a2 = 0 ∧ f_X2_placeOfPair a0 a1 a2 = -9223372036854775808) ∨ (f_X6_globalOf bd lat lon a0 a1 a2 = 1 ∧ f_X2_placeOfPair a0 a1 a2 = f_X2_pack (f_X6_globalOf_lat bd lat lon a0 a1 a2).toInt64 (f_X6_globalOf_lon bd lat lon a0 a1 a2).toInt64 ∧ InR (f_X6_globalOf_lat bd lat lon a0 a1 a2) (f_X6_globalOf_lon bd lat lon a0 a1 a2)) := by
  rcases glob_eq h lat lon a0 a1 a2 h1.1 h1.2 h3.1 h3.2 with ⟨e1, e2, -, -⟩ | e
  · exact Or.inl ⟨e1, e2⟩
  · exact Or.inr e
/-- what a message's numbers are -/
theorem told_eq {w b : Nat → Int32} (hs : Same w b) : f_X3_codeIn w 112 = f_X6_toldNow b ∧ f_X3_isOdd w 112 = f_X6_inAir_x17 b ∧ f_X6_toldNow b = (f_X6_part b 23 39).toInt64 * (131072 : Int64) + (f_X6_part b 40 56).toInt64 ∧ (0 ≤ (f_X6_part b 23 39).toInt ∧ (f_X6_part b 23 39).toInt < 131072) ∧ (0 ≤ (f_X6_part b 40 56).toInt ∧ (f_X6_part b 40 56).toInt < 131072) := by
  have hb := same_bits hs
  have e1 : f_X4_message w 112 23 39 = f_X6_part b 23 39 := msg_eq hs (x := 23) (y := 39) (by decide) (by decide) (by decide) (by decide)
  have e2 : f_X4_message w 112 40 56 = f_X6_part b 40 56 := msg_eq hs (x := 40) (y := 56) (by decide) (by decide) (by decide) (by decide)
  have e3 : f_X4_message w 112 22 22 = f_X6_part b 22 22 := msg_eq hs (x := 22) (y := 22) (by decide) (by decide) (by decide) (by decide)
  obtain ⟨m, hm, em⟩ : ∃ m : Nat, m < 2 ^ 17 ∧ f_X6_part b 23 39 = nI m := part_rng hb (x := 23) (y := 39) 17 (by decide) (by decide) (by decide) (by decide)
  obtain ⟨k, hk, ek⟩ : ∃ m : Nat, m < 2 ^ 17 ∧ f_X6_part b 40 56 = nI m := part_rng hb (x := 40) (y := 56) 17 (by decide) (by decide) (by decide) (by decide)
  refine ⟨?_, ?_, rfl, ?_, ?_⟩
  · unfold f_X3_codeIn f_X6_toldNow
    rw [e1, e2, Int64.mul_comm]
  · unfold f_X3_isOdd f_X6_inAir_x17
    rw [e3]
  · rw [em, nI_toInt (by omega)]; omega
  · rw [ek, nI_toInt (by omega)]; omega
