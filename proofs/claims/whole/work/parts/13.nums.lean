/-! plain facts on numbers (families of the kit's to-paste texts), and the table of bounds -/
theorem fa_lt (a b : Int32) : a < b ↔ a.toInt < b.toInt := Int32.lt_iff_toInt_lt
theorem fa_le (a b : Int32) : a ≤ b ↔ a.toInt ≤ b.toInt := Int32.le_iff_toInt_le
theorem fa_eq (a b : Int32) : a = b ↔ a.toInt = b.toInt := Int32.toInt_inj.symm
theorem fa_lt64 (a b : Int64) : a < b ↔ a.toInt < b.toInt := Int64.lt_iff_toInt_lt
theorem fa_le64 (a b : Int64) : a ≤ b ↔ a.toInt ≤ b.toInt := Int64.le_iff_toInt_le
theorem fa_eq64 (a b : Int64) : a = b ↔ a.toInt = b.toInt := Int64.toInt_inj.symm
/-- a comparison of two ints taken as longs -/
theorem fa_wide_lt (a b : Int32) : a.toInt64 < b.toInt64 ↔ a < b := by rw [fa_lt64, fa_lt, Int32.toInt_toInt64, Int32.toInt_toInt64]
theorem fa_wide_le (a b : Int32) : a.toInt64 ≤ b.toInt64 ↔ a ≤ b := by rw [fa_le64, fa_le, Int32.toInt_toInt64, Int32.toInt_toInt64]
theorem fa_wide_eq (a b : Int32) : a.toInt64 = b.toInt64 ↔ a = b := by rw [fa_eq64, fa_eq, Int32.toInt_toInt64, Int32.toInt_toInt64]
/-- one strict comparison gives all the others -/
theorem fa_of_lt {a b : Int32} (h : a < b) : a ≤ b ∧ ¬ b ≤ a ∧ ¬ b < a ∧ a ≠ b ∧ b ≠ a := by
  rw [fa_lt] at h
  refine ⟨?_, ?_, ?_, ?_, ?_⟩
  · rw [fa_le]; omega
  · rw [fa_le]; omega
  · rw [fa_lt]; omega
  · intro e; rw [fa_eq] at e; omega
  · intro e; rw [fa_eq] at e; omega
theorem fa_of_nlt {a b : Int32} (h : ¬ a < b) : b ≤ a := by
  rw [fa_lt] at h
  rw [fa_le]
  omega
theorem fa_of_nle {a b : Int32} (h : ¬ a ≤ b) : b < a := by
  rw [fa_le] at h
  rw [fa_lt]
  omega
theorem fa_le_ne {a b : Int32} (h : a ≤ b) (h2 : a ≠ b) : a < b := by
  rw [fa_le] at h
  rw [fa_lt]
  have h3 : a.toInt ≠ b.toInt := fun e => h2 ((fa_eq a b).mpr e)
  omega
theorem fa_three (a b : Int32) : a < b ∨ a = b ∨ b < a := by
  rw [fa_lt, fa_lt, fa_eq]
  omega
theorem fa_trans {a b c : Int32} (h : a < b) (h2 : b ≤ c) : a < c := by
  rw [fa_lt] at *
  rw [fa_le] at h2
  omega
theorem fb_rng (x : Int32) : -2147483648 ≤ x.toInt ∧ x.toInt < 2147483648 := by
  have h1 := Int32.le_toInt x
  have h2 := Int32.toInt_lt x
  omega
theorem fb_bmod {z : Int} (h1 : -2147483648 ≤ z) (h2 : z < 2147483648) : z.bmod (2 ^ 32) = z := by
  rw [Int.bmod_eq_of_le (by omega) (by omega)]
theorem fb_addI {x y : Int32} (h1 : -2147483648 ≤ x.toInt + y.toInt) (h2 : x.toInt + y.toInt < 2147483648) : (x + y).toInt = x.toInt + y.toInt := by
  rw [Int32.toInt_add, fb_bmod h1 h2]
theorem fb_subI {x y : Int32} (h1 : -2147483648 ≤ x.toInt - y.toInt) (h2 : x.toInt - y.toInt < 2147483648) : (x - y).toInt = x.toInt - y.toInt := by
  rw [Int32.toInt_sub, fb_bmod h1 h2]
theorem fb_mulI {x y : Int32} (h1 : -2147483648 ≤ x.toInt * y.toInt) (h2 : x.toInt * y.toInt < 2147483648) : (x * y).toInt = x.toInt * y.toInt := by
  rw [Int32.toInt_mul, fb_bmod h1 h2]
theorem fb_negI {x : Int32} (h : x.toInt ≠ -2147483648) : (-x).toInt = -x.toInt := by
  have := fb_rng x
  rw [Int32.toInt_neg, fb_bmod (by omega) (by omega)]
theorem fb_ofI {z : Int} (h1 : -2147483648 ≤ z) (h2 : z < 2147483648) : (Int32.ofInt z).toInt = z := by
  rw [Int32.toInt_ofInt, fb_bmod h1 h2]
theorem fb_asI (x : Int32) : Int32.ofInt x.toInt = x := Int32.ofInt_toInt x
theorem fb_rngL (x : Int64) : -9223372036854775808 ≤ x.toInt ∧ x.toInt < 9223372036854775808 := by
  have h1 := Int64.le_toInt x
  have h2 := Int64.toInt_lt x
  omega
theorem fb_bmodL {z : Int} (h1 : -9223372036854775808 ≤ z) (h2 : z < 9223372036854775808) : z.bmod (2 ^ 64) = z := by
  rw [Int.bmod_eq_of_le (by omega) (by omega)]
theorem fb_addL {x y : Int64} (h1 : -9223372036854775808 ≤ x.toInt + y.toInt) (h2 : x.toInt + y.toInt < 9223372036854775808) : (x + y).toInt = x.toInt + y.toInt := by
  rw [Int64.toInt_add, fb_bmodL h1 h2]
theorem fb_subL {x y : Int64} (h1 : -9223372036854775808 ≤ x.toInt - y.toInt) (h2 : x.toInt - y.toInt < 9223372036854775808) : (x - y).toInt = x.toInt - y.toInt := by
  rw [Int64.toInt_sub, fb_bmodL h1 h2]
theorem fb_mulL {x y : Int64} (h1 : -9223372036854775808 ≤ x.toInt * y.toInt) (h2 : x.toInt * y.toInt < 9223372036854775808) : (x * y).toInt = x.toInt * y.toInt := by
  rw [Int64.toInt_mul, fb_bmodL h1 h2]
def bndL : List Int64 := [1047047130, 1482817437, 1818626357, 2102939493, 2354504487, 2582924707, 2793898710, 2991135686, 3177209708, 3353993436, 3522899598, 3685025108, 3841241892, 3992256684, 4138651832, 4280914012, 4419454951, 4554626723, 4686733252, 4816039128, 4942776439, 5067150166, 5189342469, 5309516153, 5427817472, 5544378444, 5659318756, 5772747354, 5884763776, 5995459277, 6104917774, 6213216659, 6320427479, 6426616523, 6531845310, 6636171008, 6739646774, 6842322022, 6944242631, 7045451075, 7145986473, 7245884545, 7345177442, 7443893416, 7542056257, 7639684391, 7736789461, 7833374083, 7929428225, 8024923213, 8119801349, 8213956981, 8307199445, 8399173563, 8489166191, 8575541621, 8653536998]
def bnd (j : Nat) : Int64 := bndL.getD j 0
def Bt (A : Nat → Prop) (U : State) : Prop := ∃ t : Nat, va_Z RX2 "BOUNDS" "[J" (.ref t) A U U.heap ∧ va_T .long t 57 (fun j => .long (bnd j)) A U U.heap
theorem Blind.bt {A : Nat → Prop} : Blind (Bt A) := fun a U g mk ⟨t, hZ, hT⟩ => ⟨t, va_Z.moved (u := U) (U := U.calling g mk a) (Vm.Alike.refl U.vm) hZ, va_T.moved (u := U) (U := U.calling g mk a) (Vm.Alike.refl U.vm) hT⟩
theorem Bt.at {A B : Nat → Prop} {s U : State} {H : Heap} {locs : List Loc} (h : Bt A s) (hS : va_S A s.heap H locs) (hAB : ∀ q, B q → A q) (hU : U.heap = H) (hW : s.WarmedH U.vm) : Bt B U := by
  obtain ⟨t, hZ, hT⟩ := h
  subst hU
  exact ⟨t, va_Z.moved hW.alike ((hZ.kept (fun a h1 h2 => hS.2.1 a h1 h2)).narrow hAB), va_T.moved hW.alike ((hT.kept (fun a h1 h2 => hS.2.1 a h1 h2)).narrow hAB)⟩
theorem in_iff {x : Int32} {n : Nat} (h1 : 0 ≤ x.toInt) (h2 : x.toInt < n) : vp_in x n := vp_in_iff.mpr ⟨h1, h2⟩
theorem in4 {x : Int32} (h1 : ¬ x < 0) (h2 : x < 4) : vp_in x 4 := by
  rw [fa_lt] at h1 h2
  exact in_iff (by have : (0 : Int32).toInt = 0 := rfl; omega) (by have : (4 : Int32).toInt = 4 := rfl; omega)
theorem in4' {x : Int32} (h1 : ¬ x < 0) (h2 : ¬ 4 ≤ x) : vp_in x 4 := in4 h1 (fa_of_nle h2)
theorem i0 : (0 : Int32).toInt = 0 := rfl
theorem i1 : (1 : Int32).toInt = 1 := rfl
theorem clamp {x : Int32} (h : 0 ≤ x.toInt) : (x.toNatClampNeg : Int) = x.toInt := by
  show ((x.toInt.toNat : Nat) : Int) = x.toInt
  omega
/-- a counter that goes up to a bound: n turns are left -/
def Up (n : Nat) (k b : Int32) : Prop := k.toInt + n = b.toInt ∧ -1000000 ≤ k.toInt ∧ b.toInt ≤ 1000000
theorem Up.z {k b : Int32} (h : Up 0 k b) : b ≤ k := by
  obtain ⟨h1, h2, h3⟩ := h
  rw [fa_le]; omega
theorem Up.s {n : Nat} {k b : Int32} (h : Up (n + 1) k b) : ¬ b ≤ k := by
  obtain ⟨h1, h2, h3⟩ := h
  rw [fa_le]; omega
theorem Up.nx {n : Nat} {k b : Int32} (h : Up (n + 1) k b) : Up n (k + 1) b := by
  obtain ⟨h1, h2, h3⟩ := h
  have e1 : (k + 1).toInt = k.toInt + 1 := by rw [fb_addI] <;> rw [i1] <;> omega
  exact ⟨by rw [e1]; omega, by rw [e1]; omega, h3⟩
theorem Up.lt {n : Nat} {k b : Int32} {N : Nat} (h : Up (n + 1) k b) (h0 : 0 ≤ k.toInt) (hb : b.toInt ≤ N) : vp_in k N := in_iff h0 (by have := h.1; omega)
theorem Up.st {k b : Int32} (h : k.toInt ≤ b.toInt) (h0 : -1000000 ≤ k.toInt) (h1 : b.toInt ≤ 1000000) : Up (b.toInt - k.toInt).toNat k b := ⟨by omega, h0, h1⟩

