/-! the reference: local, ages -/
/-- one turn too many at most, on either side -/
def WI (n : Nat) (r c : Int64) : Prop := ((n = 0 ∧ 2 * r.toInt < c.toInt) ∨ (n = 1 ∧ 2 * r.toInt < 3 * c.toInt)) ∧ -3 * c.toInt ≤ 2 * r.toInt ∧ 0 < c.toInt ∧ c.toInt < 288230376151711744
def WJ (n : Nat) (r c : Int64) : Prop := ((n = 0 ∧ -c.toInt ≤ 2 * r.toInt) ∨ (n = 1 ∧ -3 * c.toInt ≤ 2 * r.toInt)) ∧ 2 * r.toInt < c.toInt ∧ 0 < c.toInt ∧ c.toInt < 288230376151711744
theorem two_r {r c : Int64} (h1 : -3 * c.toInt ≤ 2 * r.toInt) (h2 : 2 * r.toInt < 3 * c.toInt) (h3 : c.toInt < 288230376151711744) : (2 * r).toInt = 2 * r.toInt := by
  have e2 : (2 : Int64).toInt = 2 := rfl
  rw [fb_mulL] <;> rw [e2] <;> omega
theorem wa_z {r c : Int64} (h : WI 0 r c) : 2 * r < c := by
  obtain ⟨h1, h2, h3, h4⟩ := h
  rw [fa_lt64, two_r (c := c) h2 (by omega) h4]
  omega
theorem wa_n {n : Nat} {r c : Int64} (h : WI (n + 1) r c) (q : ¬ 2 * r < c) : WI n (r - c) c := by
  obtain ⟨h1, h2, h3, h4⟩ := h
  rw [fa_lt64, two_r (c := c) h2 (by omega) h4] at q
  have e1 : (r - c).toInt = r.toInt - c.toInt := by rw [fb_subL] <;> omega
  refine ⟨?_, ?_, h3, h4⟩
  · rw [e1]; omega
  · rw [e1]; omega
theorem wa_x {n : Nat} {r c : Int64} (h : WI n r c) (q : 2 * r < c) : WJ 1 r c := by
  obtain ⟨h1, h2, h3, h4⟩ := h
  rw [fa_lt64, two_r (c := c) h2 (by omega) h4] at q
  exact ⟨Or.inr ⟨rfl, h2⟩, q, h3, h4⟩
theorem neg_c {c : Int64} (h : 0 < c.toInt) : (-c).toInt = -c.toInt := by
  have := fb_rngL c
  rw [Int64.toInt_neg, fb_bmodL (by omega) (by omega)]
theorem wb_z {r c : Int64} (h : WJ 0 r c) : -c ≤ 2 * r := by
  obtain ⟨h1, h2, h3, h4⟩ := h
  rw [fa_le64, two_r (c := c) (by omega) (by omega) h4, neg_c h3]
  omega
theorem wb_n {n : Nat} {r c : Int64} (h : WJ (n + 1) r c) (q : ¬ -c ≤ 2 * r) : WJ n (r + c) c := by
  obtain ⟨h1, h2, h3, h4⟩ := h
  rw [fa_le64, two_r (c := c) (by omega) (by omega) h4, neg_c h3] at q
  have e1 : (r + c).toInt = r.toInt + c.toInt := by rw [fb_addL] <;> omega
  refine ⟨?_, ?_, h3, h4⟩
  · rw [e1]; omega
  · rw [e1]; omega
def f_X6_localOf_lp1 (t : Int64) (zo : Int64) (u : Int64) (nn : Int32) (rd : Int64) : Nat → (Int64) → Int32
  | 0, r => (1 : Int32)
  | n + 1, r => (if (-rd) ≤ ((2 : Int64) * r) then (1 : Int32) else (f_X6_localOf_lp1 t zo u nn rd n (r + rd)))
def f_X6_localOf_lp1_lat (t : Int64) (zo : Int64) (u : Int64) (nn : Int32) (rd : Int64) : Nat → (Int64) → Int32
  | 0, r => (f_X6_down (t * u) (zo * (131072 : Int64))).toInt32
  | n + 1, r => (if (-rd) ≤ ((2 : Int64) * r) then (f_X6_down (t * u) (zo * (131072 : Int64))).toInt32 else (f_X6_localOf_lp1_lat t zo u nn rd n (r + rd)))
def f_X6_localOf_lp1_lon (t : Int64) (zo : Int64) (u : Int64) (nn : Int32) (rd : Int64) : Nat → (Int64) → Int32
  | 0, r => (f_X6_down r (nn.toInt64 * (131072 : Int64))).toInt32
  | n + 1, r => (if (-rd) ≤ ((2 : Int64) * r) then (f_X6_down r (nn.toInt64 * (131072 : Int64))).toInt32 else (f_X6_localOf_lp1_lon t zo u nn rd n (r + rd)))
def f_X6_localOf_c171 (t : Int64) (zo : Int64) (u : Int64) (nn : Int32) (r : Int64) (rd : Int64) : Int32 := (f_X6_localOf_lp1 t zo u nn rd 1 r)
def f_X6_localOf_c171_lat (t : Int64) (zo : Int64) (u : Int64) (nn : Int32) (r : Int64) (rd : Int64) : Int32 := (f_X6_localOf_lp1_lat t zo u nn rd 1 r)
def f_X6_localOf_c171_lon (t : Int64) (zo : Int64) (u : Int64) (nn : Int32) (r : Int64) (rd : Int64) : Int32 := (f_X6_localOf_lp1_lon t zo u nn rd 1 r)
def f_X6_localOf_x57 (a3 : Int32) (a2 : Int32) (a1 : Int32) (a0 : Int64) : Int64 := (f_X6_nearest a3.toInt64 (if a2 = 0 then (60 : Int64) else (59 : Int64)) (if a1 = 0 then (360000000 : Int64) else (90000000 : Int64)) (a0 / (131072 : Int64)))
def f_X6_localOf_x116 (bd : Nat → Int64) (a1 : Int32) (a3 : Int32) (a2 : Int32) (a0 : Int64) : Int32 := (f_X6_atLeast1 ((f_X6_zonesOf bd (((100 : Int64) * (if a1 = 0 then (360000000 : Int64) else (90000000 : Int64))) * (f_X6_localOf_x57 a3 a2 a1 a0)) ((if a2 = 0 then (60 : Int64) else (59 : Int64)) * (131072 : Int64))) - (if a2 = 0 then (0 : Int32) else (1 : Int32))))
def f_X6_localOf_x134 (a1 : Int32) (a4 : Int32) (bd : Nat → Int64) (a3 : Int32) (a2 : Int32) (a0 : Int64) : Int64 := ((if a1 = 0 then (360000000 : Int64) else (90000000 : Int64)) * (f_X6_nearest a4.toInt64 (f_X6_localOf_x116 bd a1 a3 a2 a0).toInt64 (if a1 = 0 then (360000000 : Int64) else (90000000 : Int64)) (a0 - a0 / (131072 : Int64) * (131072 : Int64))))
def f_X6_localOf_x147 (bd : Nat → Int64) (a1 : Int32) (a3 : Int32) (a2 : Int32) (a0 : Int64) : Int64 := (((360000000 : Int64) * (f_X6_localOf_x116 bd a1 a3 a2 a0).toInt64) * (131072 : Int64))
def f_X6_localOf_lp (bd : Nat → Int64) (a0 : Int64) (a1 : Int32) (a2 : Int32) (a3 : Int32) (a4 : Int32) : Nat → (Int64) → Int32
  | 0, r => (f_X6_localOf_c171 (if a1 = 0 then (360000000 : Int64) else (90000000 : Int64)) (if a2 = 0 then (60 : Int64) else (59 : Int64)) (f_X6_localOf_x57 a3 a2 a1 a0) (f_X6_localOf_x116 bd a1 a3 a2 a0) r (f_X6_localOf_x147 bd a1 a3 a2 a0))
  | n + 1, r => (if ((2 : Int64) * r) < (f_X6_localOf_x147 bd a1 a3 a2 a0) then (f_X6_localOf_c171 (if a1 = 0 then (360000000 : Int64) else (90000000 : Int64)) (if a2 = 0 then (60 : Int64) else (59 : Int64)) (f_X6_localOf_x57 a3 a2 a1 a0) (f_X6_localOf_x116 bd a1 a3 a2 a0) r (f_X6_localOf_x147 bd a1 a3 a2 a0)) else (f_X6_localOf_lp bd a0 a1 a2 a3 a4 n (r - (f_X6_localOf_x147 bd a1 a3 a2 a0))))
def f_X6_localOf_lp_lat (bd : Nat → Int64) (a0 : Int64) (a1 : Int32) (a2 : Int32) (a3 : Int32) (a4 : Int32) : Nat → (Int64) → Int32
  | 0, r => (f_X6_localOf_c171_lat (if a1 = 0 then (360000000 : Int64) else (90000000 : Int64)) (if a2 = 0 then (60 : Int64) else (59 : Int64)) (f_X6_localOf_x57 a3 a2 a1 a0) (f_X6_localOf_x116 bd a1 a3 a2 a0) r (f_X6_localOf_x147 bd a1 a3 a2 a0))
  | n + 1, r => (if ((2 : Int64) * r) < (f_X6_localOf_x147 bd a1 a3 a2 a0) then (f_X6_localOf_c171_lat (if a1 = 0 then (360000000 : Int64) else (90000000 : Int64)) (if a2 = 0 then (60 : Int64) else (59 : Int64)) (f_X6_localOf_x57 a3 a2 a1 a0) (f_X6_localOf_x116 bd a1 a3 a2 a0) r (f_X6_localOf_x147 bd a1 a3 a2 a0)) else (f_X6_localOf_lp_lat bd a0 a1 a2 a3 a4 n (r - (f_X6_localOf_x147 bd a1 a3 a2 a0))))
def f_X6_localOf_lp_lon (bd : Nat → Int64) (a0 : Int64) (a1 : Int32) (a2 : Int32) (a3 : Int32) (a4 : Int32) : Nat → (Int64) → Int32
  | 0, r => (f_X6_localOf_c171_lon (if a1 = 0 then (360000000 : Int64) else (90000000 : Int64)) (if a2 = 0 then (60 : Int64) else (59 : Int64)) (f_X6_localOf_x57 a3 a2 a1 a0) (f_X6_localOf_x116 bd a1 a3 a2 a0) r (f_X6_localOf_x147 bd a1 a3 a2 a0))
  | n + 1, r => (if ((2 : Int64) * r) < (f_X6_localOf_x147 bd a1 a3 a2 a0) then (f_X6_localOf_c171_lon (if a1 = 0 then (360000000 : Int64) else (90000000 : Int64)) (if a2 = 0 then (60 : Int64) else (59 : Int64)) (f_X6_localOf_x57 a3 a2 a1 a0) (f_X6_localOf_x116 bd a1 a3 a2 a0) r (f_X6_localOf_x147 bd a1 a3 a2 a0)) else (f_X6_localOf_lp_lon bd a0 a1 a2 a3 a4 n (r - (f_X6_localOf_x147 bd a1 a3 a2 a0))))
def f_X6_localOf (bd : Nat → Int64) (lat : Int32) (lon : Int32) (a0 : Int64) (a1 : Int32) (a2 : Int32) (a3 : Int32) (a4 : Int32) : Int32 := (if ((f_X6_sizeOf (f_X6_localOf_x57 a3 a2 a1 a0)) * (if a1 = 0 then (360000000 : Int64) else (90000000 : Int64))) ≤ (((90000000 : Int64) * (if a2 = 0 then (60 : Int64) else (59 : Int64))) * (131072 : Int64)) then (f_X6_localOf_lp bd a0 a1 a2 a3 a4 1 (f_X6_localOf_x134 a1 a4 bd a3 a2 a0)) else (0 : Int32))
def f_X6_localOf_lat (bd : Nat → Int64) (lat : Int32) (lon : Int32) (a0 : Int64) (a1 : Int32) (a2 : Int32) (a3 : Int32) (a4 : Int32) : Int32 := (if ((f_X6_sizeOf (f_X6_localOf_x57 a3 a2 a1 a0)) * (if a1 = 0 then (360000000 : Int64) else (90000000 : Int64))) ≤ (((90000000 : Int64) * (if a2 = 0 then (60 : Int64) else (59 : Int64))) * (131072 : Int64)) then (f_X6_localOf_lp_lat bd a0 a1 a2 a3 a4 1 (f_X6_localOf_x134 a1 a4 bd a3 a2 a0)) else lat)
def f_X6_localOf_lon (bd : Nat → Int64) (lat : Int32) (lon : Int32) (a0 : Int64) (a1 : Int32) (a2 : Int32) (a3 : Int32) (a4 : Int32) : Int32 := (if ((f_X6_sizeOf (f_X6_localOf_x57 a3 a2 a1 a0)) * (if a1 = 0 then (360000000 : Int64) else (90000000 : Int64))) ≤ (((90000000 : Int64) * (if a2 = 0 then (60 : Int64) else (59 : Int64))) * (131072 : Int64)) then (f_X6_localOf_lp_lon bd a0 a1 a2 a3 a4 1 (f_X6_localOf_x134 a1 a4 bd a3 a2 a0)) else lon)
set_option maxHeartbeats 4000000 in
set_option maxRecDepth 100000 in
theorem c_X6_localOf (l : Launch) (D : va_G) (cI cJ cO : ClassId) (h0 : Nat) (h1 : Nat) (h2 : Nat) (mn : Int32) (lt : Int32) (h3 : Nat) (sz : Int32) (h4 : Nat) (hsz : Int32) (hsy : Int32) (hrt : Int32) (hpl : Int32) (ola : Int32) (olo : Int32) (lat : Int32) (lon : Int32) (bd : Nat → Int64) (rw : Nat → Int32) (bt : Nat → Int32) (hd : Nat → Int32) (a0 : Int64) (a1 : Int32) (a2 : Int32) (a3 : Int32) (a4 : Int32) (hw : WI 1 (f_X6_localOf_x134 a1 a4 bd a3 a2 a0) (f_X6_localOf_x147 bd a1 a3 a2 a0)) : Wr l yX6_localOf cX6_localOf 22 (some .boolean) 3 81 [.ref h0, .long a0, .int a1, .int a2, .int a3, .int a4] (fun U => B1 D cI cJ cO [(h0, .inr (4, [.ref h1, .ref h2, .int mn, .int lt, .ref h3, .int sz, .ref h4, .int hsz, .int hsy, .int hrt, .int hpl, .int ola, .int olo, .int lat, .int lon])), (h1, .inl (cJ, 58, .inr (.inl bd))), (h2, .inl (cI, 800, .inl rw)), (h3, .inl (cI, 112, .inl bt)), (h4, .inl (cI, 112, .inl hd))] U ∧ True) D (some (.int (f_X6_localOf bd lat lon a0 a1 a2 a3 a4))) [(h0, .inr (4, [.ref h1, .ref h2, .int mn, .int lt, .ref h3, .int sz, .ref h4, .int hsz, .int hsy, .int hrt, .int hpl, .int ola, .int olo, .int lat, .int lon])), (h1, .inl (cJ, 58, .inr (.inl bd))), (h2, .inl (cI, 800, .inl rw)), (h3, .inl (cI, 112, .inl bt)), (h4, .inl (cI, 112, .inl hd))] [(h0, .inr (4, [.ref h1, .ref h2, .int mn, .int lt, .ref h3, .int sz, .ref h4, .int hsz, .int hsy, .int hrt, .int hpl, .int ola, .int olo, .int (f_X6_localOf_lat bd lat lon a0 a1 a2 a3 a4), .int (f_X6_localOf_lon bd lat lon a0 a1 a2 a3 a4)])), (h1, .inl (cJ, 58, .inr (.inl bd))), (h2, .inl (cI, 800, .inl rw)), (h3, .inl (cI, 112, .inl bt)), (h4, .inl (cI, 112, .inl hd))] := by
  refine Wr.of (by decide +kernel) (Nat.le_of_ble_eq_true rfl) ?_
  intro p e s m args below meth c hx hb hr hml hown htg hlocks A hA hP hK hD hX hS ls hl
  have hown : s.vm.findClass RX6 = some m.cls := hown
  have hl : lv_has ls 22 [(0, .ref h0), (1, .long a0), (3, .int a1), (4, .int a2), (5, .int a3), (6, .int a4)] := hl
  have C171 : ∀ (t : Int64) (zo : Int64) (u : Int64) (nn : Int32) (r : Int64) (rd : Int64), WJ 1 r rd → ¬ zo * 131072 = 0 → ¬ nn.toInt64 * 131072 = 0 → ∀ ls : Array Slot, lv_has ls 22 [(7, .long t), (13, .long zo), (15, .long u), (17, .int nn), (18, .long r), (20, .long rd), (0, .ref h0)] → f_X6_localOf_c171 t zo u nn r rd = f_X6_localOf bd lat lon a0 a1 a2 a3 a4 → f_X6_localOf_c171_lat t zo u nn r rd = f_X6_localOf_lat bd lat lon a0 a1 a2 a3 a4 → f_X6_localOf_c171_lon t zo u nn r rd = f_X6_localOf_lon bd lat lon a0 a1 a2 a3 a4 → ∀ (H : Heap) (locs : List Loc), va_P D vwCl [(h0, .inr (4, [.ref h1, .ref h2, .int mn, .int lt, .ref h3, .int sz, .ref h4, .int hsz, .int hsy, .int hrt, .int hpl, .int ola, .int olo, .int lat, .int lon])), (h1, .inl (cJ, 58, .inr (.inl bd))), (h2, .inl (cI, 800, .inl rw)), (h3, .inl (cI, 112, .inl bt)), (h4, .inl (cI, 112, .inl hd))] H → va_D A [(h0, .inr (4, [.ref h1, .ref h2, .int mn, .int lt, .ref h3, .int sz, .ref h4, .int hsz, .int hsy, .int hrt, .int hpl, .int ola, .int olo, .int lat, .int lon])), (h1, .inl (cJ, 58, .inr (.inl bd))), (h2, .inl (cI, 800, .inl rw)), (h3, .inl (cI, 112, .inl bt)), (h4, .inl (cI, 112, .inl hd))] → va_S A s.heap H locs → W p l e { frames := 3, cells := 0, slots := 0, locals := 81 } s m args below meth c H locs 0 0 (MQ below (wrQ D (some (.int (f_X6_localOf bd lat lon a0 a1 a2 a3 a4))) [(h0, .inr (4, [.ref h1, .ref h2, .int mn, .int lt, .ref h3, .int sz, .ref h4, .int hsz, .int hsy, .int hrt, .int hpl, .int ola, .int olo, .int lat, .int lon])), (h1, .inl (cJ, 58, .inr (.inl bd))), (h2, .inl (cI, 800, .inl rw)), (h3, .inl (cI, 112, .inl bt)), (h4, .inl (cI, 112, .inl hd))] [(h0, .inr (4, [.ref h1, .ref h2, .int mn, .int lt, .ref h3, .int sz, .ref h4, .int hsz, .int hsy, .int hrt, .int hpl, .int ola, .int olo, .int (f_X6_localOf_lat bd lat lon a0 a1 a2 a3 a4), .int (f_X6_localOf_lon bd lat lon a0 a1 a2 a3 a4)])), (h1, .inl (cJ, 58, .inr (.inl bd))), (h2, .inl (cI, 800, .inl rw)), (h3, .inl (cI, 112, .inl bt)), (h4, .inl (cI, 112, .inl hd))]) args s 0 0 (inW [(h0, .inr (4, [.ref h1, .ref h2, .int mn, .int lt, .ref h3, .int sz, .ref h4, .int hsz, .int hsy, .int hrt, .int hpl, .int ola, .int olo, .int lat, .int lon])), (h1, .inl (cJ, 58, .inr (.inl bd))), (h2, .inl (cI, 800, .inl rw)), (h3, .inl (cI, 112, .inl bt)), (h4, .inl (cI, 112, .inl hd))])) (F0 m 171 ls []) := by
    intro t zo u nn r rd hj hz hn ls hl hE hElat hElon H locs hP hD hS
    have Lp1 : ∀ (n : Nat) (r : Int64), WJ n r rd → ∀ ls : Array Slot, lv_has ls 22 [(18, .long r), (7, .long t), (13, .long zo), (15, .long u), (17, .int nn), (20, .long rd), (0, .ref h0)] → f_X6_localOf_lp1 t zo u nn rd n r = f_X6_localOf bd lat lon a0 a1 a2 a3 a4 → f_X6_localOf_lp1_lat t zo u nn rd n r = f_X6_localOf_lat bd lat lon a0 a1 a2 a3 a4 → f_X6_localOf_lp1_lon t zo u nn rd n r = f_X6_localOf_lon bd lat lon a0 a1 a2 a3 a4 → ∀ (H : Heap) (locs : List Loc), va_P D vwCl [(h0, .inr (4, [.ref h1, .ref h2, .int mn, .int lt, .ref h3, .int sz, .ref h4, .int hsz, .int hsy, .int hrt, .int hpl, .int ola, .int olo, .int lat, .int lon])), (h1, .inl (cJ, 58, .inr (.inl bd))), (h2, .inl (cI, 800, .inl rw)), (h3, .inl (cI, 112, .inl bt)), (h4, .inl (cI, 112, .inl hd))] H → va_D A [(h0, .inr (4, [.ref h1, .ref h2, .int mn, .int lt, .ref h3, .int sz, .ref h4, .int hsz, .int hsy, .int hrt, .int hpl, .int ola, .int olo, .int lat, .int lon])), (h1, .inl (cJ, 58, .inr (.inl bd))), (h2, .inl (cI, 800, .inl rw)), (h3, .inl (cI, 112, .inl bt)), (h4, .inl (cI, 112, .inl hd))] → va_S A s.heap H locs → W p l e { frames := 3, cells := 0, slots := 0, locals := 81 } s m args below meth c H locs 0 0 (MQ below (wrQ D (some (.int (f_X6_localOf bd lat lon a0 a1 a2 a3 a4))) [(h0, .inr (4, [.ref h1, .ref h2, .int mn, .int lt, .ref h3, .int sz, .ref h4, .int hsz, .int hsy, .int hrt, .int hpl, .int ola, .int olo, .int lat, .int lon])), (h1, .inl (cJ, 58, .inr (.inl bd))), (h2, .inl (cI, 800, .inl rw)), (h3, .inl (cI, 112, .inl bt)), (h4, .inl (cI, 112, .inl hd))] [(h0, .inr (4, [.ref h1, .ref h2, .int mn, .int lt, .ref h3, .int sz, .ref h4, .int hsz, .int hsy, .int hrt, .int hpl, .int ola, .int olo, .int (f_X6_localOf_lat bd lat lon a0 a1 a2 a3 a4), .int (f_X6_localOf_lon bd lat lon a0 a1 a2 a3 a4)])), (h1, .inl (cJ, 58, .inr (.inl bd))), (h2, .inl (cI, 800, .inl rw)), (h3, .inl (cI, 112, .inl bt)), (h4, .inl (cI, 112, .inl hd))]) args s 0 0 (inW [(h0, .inr (4, [.ref h1, .ref h2, .int mn, .int lt, .ref h3, .int sz, .ref h4, .int hsz, .int hsy, .int hrt, .int hpl, .int ola, .int olo, .int lat, .int lon])), (h1, .inl (cJ, 58, .inr (.inl bd))), (h2, .inl (cI, 800, .inl rw)), (h3, .inl (cI, 112, .inl bt)), (h4, .inl (cI, 112, .inl hd))])) (F0 m 171 ls []) := by
      intro n
      induction n with
      | zero =>
        intro r hi ls hl hE hElat hElon H locs hP hD hS
        refine lv_ldc2 (v := 2) hx hb hown (htg _ ct_X6_198) dX6_localOf_171 ?_
        refine lv_lload hx hb dX6_localOf_174 (lv_at hl 0 rfl) ?_
        refine lv_lmul hx hb dX6_localOf_176 ?_
        refine lv_lload hx hb dX6_localOf_177 (lv_at hl 5 rfl) ?_
        refine lv_lneg hx hb dX6_localOf_179 ?_
        refine lc_ge (tgt := 194) hx hb dX6_localOf_180 dX6_localOf_181 (by decide) (fun c_1 => ?_) (fun c_1 => ?_)
        · refine lv_aload_n hx hb dX6_localOf_194 rfl (lv_at hl 6 rfl) ?_
          refine lv_lload hx hb dX6_localOf_195 (lv_at hl 1 rfl) ?_
          refine lv_lload hx hb dX6_localOf_197 (lv_at hl 3 rfl) ?_
          refine lv_lmul hx hb dX6_localOf_199 ?_
          refine lv_lload hx hb dX6_localOf_200 (lv_at hl 2 rfl) ?_
          refine lv_ldc2 (v := 131072) hx hb hown (htg _ ct_X6_200) dX6_localOf_202 ?_
          refine lv_lmul hx hb dX6_localOf_205 ?_
          refine rS (As := [.long (t * u), .long (zo * (131072 : Int64))]) (rest := [.ref h0]) hx hb hml hown htg (c_X6_down l (t * u) (zo * (131072 : Int64)) hz) Blind.tt ml_X6_202 st_X6_down ini_X6 co_X6_down dn_X6_down rfl (fun _ _ _ => trivial) hl.1 rfl (Nat.le_of_ble_eq_true rfl) ⟨Nat.le_of_ble_eq_true rfl, Nat.le_of_ble_eq_true rfl⟩ ⟨Nat.le_of_ble_eq_true rfl, Nat.le_of_ble_eq_true rfl⟩ dX6_localOf_206 ?_
          refine lv_l2i (v := (f_X6_down (t * u) (zo * (131072 : Int64))).toInt32) hx hb dX6_localOf_209 rfl ?_
          refine va_put (D := D) (ci := 4) (v := .int (f_X6_down (t * u) (zo * (131072 : Int64))).toInt32) (ty := .int) (C := RX6) (T := TX6) (N := 15) hx hb htg inX6 tyX6 tyX6_ok nmX6 hown hK hP hD hS 0 rfl rfl 13 (by decide) (htg _ fl_X6_243) (fun _ h9 => h9) rfl (by decide +kernel) rfl rfl (Nat.le_of_ble_eq_true rfl) dX6_localOf_210 (fun H locs hP hD hS => ?_)
          have hP : va_P D vwCl [(h0, .inr (4, [.ref h1, .ref h2, .int mn, .int lt, .ref h3, .int sz, .ref h4, .int hsz, .int hsy, .int hrt, .int hpl, .int ola, .int olo, .int (f_X6_down (t * u) (zo * (131072 : Int64))).toInt32, .int lon])), (h1, .inl (cJ, 58, .inr (.inl bd))), (h2, .inl (cI, 800, .inl rw)), (h3, .inl (cI, 112, .inl bt)), (h4, .inl (cI, 112, .inl hd))] H := hP
          have hD : va_D A [(h0, .inr (4, [.ref h1, .ref h2, .int mn, .int lt, .ref h3, .int sz, .ref h4, .int hsz, .int hsy, .int hrt, .int hpl, .int ola, .int olo, .int (f_X6_down (t * u) (zo * (131072 : Int64))).toInt32, .int lon])), (h1, .inl (cJ, 58, .inr (.inl bd))), (h2, .inl (cI, 800, .inl rw)), (h3, .inl (cI, 112, .inl bt)), (h4, .inl (cI, 112, .inl hd))] := hD
          refine lv_aload_n hx hb dX6_localOf_213 rfl (lv_at hl 6 rfl) ?_
          refine lv_lload hx hb dX6_localOf_214 (lv_at hl 0 rfl) ?_
          refine lv_iload hx hb dX6_localOf_216 (lv_at hl 4 rfl) ?_
          refine lv_i2l (v := nn.toInt64) hx hb dX6_localOf_218 rfl ?_
          refine lv_ldc2 (v := 131072) hx hb hown (htg _ ct_X6_200) dX6_localOf_219 ?_
          refine lv_lmul hx hb dX6_localOf_222 ?_
          refine rS (As := [.long r, .long (nn.toInt64 * (131072 : Int64))]) (rest := [.ref h0]) hx hb hml hown htg (c_X6_down l r (nn.toInt64 * (131072 : Int64)) hn) Blind.tt ml_X6_202 st_X6_down ini_X6 co_X6_down dn_X6_down rfl (fun _ _ _ => trivial) hl.1 rfl (Nat.le_of_ble_eq_true rfl) ⟨Nat.le_of_ble_eq_true rfl, Nat.le_of_ble_eq_true rfl⟩ ⟨Nat.le_of_ble_eq_true rfl, Nat.le_of_ble_eq_true rfl⟩ dX6_localOf_223 ?_
          refine lv_l2i (v := (f_X6_down r (nn.toInt64 * (131072 : Int64))).toInt32) hx hb dX6_localOf_226 rfl ?_
          refine va_put (D := D) (ci := 4) (v := .int (f_X6_down r (nn.toInt64 * (131072 : Int64))).toInt32) (ty := .int) (C := RX6) (T := TX6) (N := 15) hx hb htg inX6 tyX6 tyX6_ok nmX6 hown hK hP hD hS 0 rfl rfl 14 (by decide) (htg _ fl_X6_246) (fun _ h9 => h9) rfl (by decide +kernel) rfl rfl (Nat.le_of_ble_eq_true rfl) dX6_localOf_227 (fun H locs hP hD hS => ?_)
          have hP : va_P D vwCl [(h0, .inr (4, [.ref h1, .ref h2, .int mn, .int lt, .ref h3, .int sz, .ref h4, .int hsz, .int hsy, .int hrt, .int hpl, .int ola, .int olo, .int (f_X6_down (t * u) (zo * (131072 : Int64))).toInt32, .int (f_X6_down r (nn.toInt64 * (131072 : Int64))).toInt32])), (h1, .inl (cJ, 58, .inr (.inl bd))), (h2, .inl (cI, 800, .inl rw)), (h3, .inl (cI, 112, .inl bt)), (h4, .inl (cI, 112, .inl hd))] H := hP
          have hD : va_D A [(h0, .inr (4, [.ref h1, .ref h2, .int mn, .int lt, .ref h3, .int sz, .ref h4, .int hsz, .int hsy, .int hrt, .int hpl, .int ola, .int olo, .int (f_X6_down (t * u) (zo * (131072 : Int64))).toInt32, .int (f_X6_down r (nn.toInt64 * (131072 : Int64))).toInt32])), (h1, .inl (cJ, 58, .inr (.inl bd))), (h2, .inl (cI, 800, .inl rw)), (h3, .inl (cI, 112, .inl bt)), (h4, .inl (cI, 112, .inl hd))] := hD
          refine lv_iconst (v := 1) hx hb dX6_localOf_230 (by decide) ?_
          exact wr_z hx hb hr hlocks hA hS (hP.eq (by rw [← hElat, ← hElon]; simp only [f_X6_localOf_lp1_lat, f_X6_localOf_lp1_lon])) (by decide) (by rw [← hE]; simp only [f_X6_localOf_lp1]) dX6_localOf_231
        · exact absurd (wb_z hi) c_1
      | succ n ih =>
        intro r hi ls hl hE hElat hElon H locs hP hD hS
        refine lv_ldc2 (v := 2) hx hb hown (htg _ ct_X6_198) dX6_localOf_171 ?_
        refine lv_lload hx hb dX6_localOf_174 (lv_at hl 0 rfl) ?_
        refine lv_lmul hx hb dX6_localOf_176 ?_
        refine lv_lload hx hb dX6_localOf_177 (lv_at hl 5 rfl) ?_
        refine lv_lneg hx hb dX6_localOf_179 ?_
        refine lc_ge (tgt := 194) hx hb dX6_localOf_180 dX6_localOf_181 (by decide) (fun c_2 => ?_) (fun c_2 => ?_)
        · refine lv_aload_n hx hb dX6_localOf_194 rfl (lv_at hl 6 rfl) ?_
          refine lv_lload hx hb dX6_localOf_195 (lv_at hl 1 rfl) ?_
          refine lv_lload hx hb dX6_localOf_197 (lv_at hl 3 rfl) ?_
          refine lv_lmul hx hb dX6_localOf_199 ?_
          refine lv_lload hx hb dX6_localOf_200 (lv_at hl 2 rfl) ?_
          refine lv_ldc2 (v := 131072) hx hb hown (htg _ ct_X6_200) dX6_localOf_202 ?_
          refine lv_lmul hx hb dX6_localOf_205 ?_
          refine rS (As := [.long (t * u), .long (zo * (131072 : Int64))]) (rest := [.ref h0]) hx hb hml hown htg (c_X6_down l (t * u) (zo * (131072 : Int64)) hz) Blind.tt ml_X6_202 st_X6_down ini_X6 co_X6_down dn_X6_down rfl (fun _ _ _ => trivial) hl.1 rfl (Nat.le_of_ble_eq_true rfl) ⟨Nat.le_of_ble_eq_true rfl, Nat.le_of_ble_eq_true rfl⟩ ⟨Nat.le_of_ble_eq_true rfl, Nat.le_of_ble_eq_true rfl⟩ dX6_localOf_206 ?_
          refine lv_l2i (v := (f_X6_down (t * u) (zo * (131072 : Int64))).toInt32) hx hb dX6_localOf_209 rfl ?_
          refine va_put (D := D) (ci := 4) (v := .int (f_X6_down (t * u) (zo * (131072 : Int64))).toInt32) (ty := .int) (C := RX6) (T := TX6) (N := 15) hx hb htg inX6 tyX6 tyX6_ok nmX6 hown hK hP hD hS 0 rfl rfl 13 (by decide) (htg _ fl_X6_243) (fun _ h9 => h9) rfl (by decide +kernel) rfl rfl (Nat.le_of_ble_eq_true rfl) dX6_localOf_210 (fun H locs hP hD hS => ?_)
          have hP : va_P D vwCl [(h0, .inr (4, [.ref h1, .ref h2, .int mn, .int lt, .ref h3, .int sz, .ref h4, .int hsz, .int hsy, .int hrt, .int hpl, .int ola, .int olo, .int (f_X6_down (t * u) (zo * (131072 : Int64))).toInt32, .int lon])), (h1, .inl (cJ, 58, .inr (.inl bd))), (h2, .inl (cI, 800, .inl rw)), (h3, .inl (cI, 112, .inl bt)), (h4, .inl (cI, 112, .inl hd))] H := hP
          have hD : va_D A [(h0, .inr (4, [.ref h1, .ref h2, .int mn, .int lt, .ref h3, .int sz, .ref h4, .int hsz, .int hsy, .int hrt, .int hpl, .int ola, .int olo, .int (f_X6_down (t * u) (zo * (131072 : Int64))).toInt32, .int lon])), (h1, .inl (cJ, 58, .inr (.inl bd))), (h2, .inl (cI, 800, .inl rw)), (h3, .inl (cI, 112, .inl bt)), (h4, .inl (cI, 112, .inl hd))] := hD
          refine lv_aload_n hx hb dX6_localOf_213 rfl (lv_at hl 6 rfl) ?_
          refine lv_lload hx hb dX6_localOf_214 (lv_at hl 0 rfl) ?_
          refine lv_iload hx hb dX6_localOf_216 (lv_at hl 4 rfl) ?_
          refine lv_i2l (v := nn.toInt64) hx hb dX6_localOf_218 rfl ?_
          refine lv_ldc2 (v := 131072) hx hb hown (htg _ ct_X6_200) dX6_localOf_219 ?_
          refine lv_lmul hx hb dX6_localOf_222 ?_
          refine rS (As := [.long r, .long (nn.toInt64 * (131072 : Int64))]) (rest := [.ref h0]) hx hb hml hown htg (c_X6_down l r (nn.toInt64 * (131072 : Int64)) hn) Blind.tt ml_X6_202 st_X6_down ini_X6 co_X6_down dn_X6_down rfl (fun _ _ _ => trivial) hl.1 rfl (Nat.le_of_ble_eq_true rfl) ⟨Nat.le_of_ble_eq_true rfl, Nat.le_of_ble_eq_true rfl⟩ ⟨Nat.le_of_ble_eq_true rfl, Nat.le_of_ble_eq_true rfl⟩ dX6_localOf_223 ?_
          refine lv_l2i (v := (f_X6_down r (nn.toInt64 * (131072 : Int64))).toInt32) hx hb dX6_localOf_226 rfl ?_
          refine va_put (D := D) (ci := 4) (v := .int (f_X6_down r (nn.toInt64 * (131072 : Int64))).toInt32) (ty := .int) (C := RX6) (T := TX6) (N := 15) hx hb htg inX6 tyX6 tyX6_ok nmX6 hown hK hP hD hS 0 rfl rfl 14 (by decide) (htg _ fl_X6_246) (fun _ h9 => h9) rfl (by decide +kernel) rfl rfl (Nat.le_of_ble_eq_true rfl) dX6_localOf_227 (fun H locs hP hD hS => ?_)
          have hP : va_P D vwCl [(h0, .inr (4, [.ref h1, .ref h2, .int mn, .int lt, .ref h3, .int sz, .ref h4, .int hsz, .int hsy, .int hrt, .int hpl, .int ola, .int olo, .int (f_X6_down (t * u) (zo * (131072 : Int64))).toInt32, .int (f_X6_down r (nn.toInt64 * (131072 : Int64))).toInt32])), (h1, .inl (cJ, 58, .inr (.inl bd))), (h2, .inl (cI, 800, .inl rw)), (h3, .inl (cI, 112, .inl bt)), (h4, .inl (cI, 112, .inl hd))] H := hP
          have hD : va_D A [(h0, .inr (4, [.ref h1, .ref h2, .int mn, .int lt, .ref h3, .int sz, .ref h4, .int hsz, .int hsy, .int hrt, .int hpl, .int ola, .int olo, .int (f_X6_down (t * u) (zo * (131072 : Int64))).toInt32, .int (f_X6_down r (nn.toInt64 * (131072 : Int64))).toInt32])), (h1, .inl (cJ, 58, .inr (.inl bd))), (h2, .inl (cI, 800, .inl rw)), (h3, .inl (cI, 112, .inl bt)), (h4, .inl (cI, 112, .inl hd))] := hD
          refine lv_iconst (v := 1) hx hb dX6_localOf_230 (by decide) ?_
          exact wr_z hx hb hr hlocks hA hS (hP.eq (by rw [← hElat, ← hElon]; simp only [f_X6_localOf_lp1_lat, f_X6_localOf_lp1_lon, if_pos c_2])) (by decide) (by rw [← hE]; simp only [f_X6_localOf_lp1, if_pos c_2]) dX6_localOf_231
        · refine lv_lload hx hb dX6_localOf_184 (lv_at hl 0 rfl) ?_
          refine lv_lload hx hb dX6_localOf_186 (lv_at hl 5 rfl) ?_
          refine lv_ladd hx hb dX6_localOf_188 ?_
          refine lv_lstore (lv' := [(18, .long (r + rd)), (7, .long t), (13, .long zo), (15, .long u), (17, .int nn), (20, .long rd), (0, .ref h0)]) hx hb dX6_localOf_189 hl (by decide) rfl (fun ls hl => ?_)
          refine lv_goto (tgt := 171) hx hb dX6_localOf_191 (by decide) ?_
          exact ih (r + rd) (wb_n hi c_2) ls (lv_sub hl [0, 1, 2, 3, 4, 5, 6] rfl) (by rw [← hE]; simp only [f_X6_localOf_lp1, if_neg c_2]) (by rw [← hElat]; simp only [f_X6_localOf_lp1_lat, if_neg c_2]) (by rw [← hElon]; simp only [f_X6_localOf_lp1_lon, if_neg c_2]) H locs hP hD hS
    exact Lp1 1 r hj ls (lv_sub hl [4, 0, 1, 2, 3, 5, 6] rfl) (by rw [← hE]; simp only [f_X6_localOf_c171]) (by rw [← hElat]; simp only [f_X6_localOf_c171_lat]) (by rw [← hElon]; simp only [f_X6_localOf_c171_lon]) H locs hP hD hS
  refine lv_iload_n hx hb dX6_localOf_0 rfl (lv_at hl 2 rfl) ?_
  refine W.join (nL := 22) (lv := [(0, .ref h0), (1, .long a0), (3, .int a1), (4, .int a2), (5, .int a3), (6, .int a4)]) (pc2 := 13) (st2 := [.long (if a1 = 0 then (360000000 : Int64) else (90000000 : Int64))]) (fun ls hl => ?_) (fun J => ?_)
  · refine lv_lstore (lv' := [(7, .long (if a1 = 0 then (360000000 : Int64) else (90000000 : Int64))), (0, .ref h0), (1, .long a0), (3, .int a1), (4, .int a2), (5, .int a3), (6, .int a4)]) hx hb dX6_localOf_13 hl (by decide) rfl (fun ls hl => ?_)
    refine lv_lload_n hx hb dX6_localOf_15 rfl (lv_at hl 2 rfl) ?_
    refine lv_ldc2 (v := 131072) hx hb hown (htg _ ct_X6_200) dX6_localOf_16 ?_
    refine lv_ldiv hx hb dX6_localOf_19 (by decide) ?_
    refine lv_lstore (lv' := [(9, .long (a0 / (131072 : Int64))), (7, .long (if a1 = 0 then (360000000 : Int64) else (90000000 : Int64))), (0, .ref h0), (1, .long a0), (3, .int a1), (4, .int a2), (5, .int a3), (6, .int a4)]) hx hb dX6_localOf_20 hl (by decide) rfl (fun ls hl => ?_)
    refine lv_lload_n hx hb dX6_localOf_22 rfl (lv_at hl 3 rfl) ?_
    refine lv_ldc2 (v := 131072) hx hb hown (htg _ ct_X6_200) dX6_localOf_23 ?_
    refine lv_lrem hx hb dX6_localOf_26 (by decide) ?_
    refine lv_lstore (lv' := [(11, .long (a0 - a0 / (131072 : Int64) * (131072 : Int64))), (9, .long (a0 / (131072 : Int64))), (7, .long (if a1 = 0 then (360000000 : Int64) else (90000000 : Int64))), (0, .ref h0), (1, .long a0), (3, .int a1), (4, .int a2), (5, .int a3), (6, .int a4)]) hx hb dX6_localOf_27 hl (by decide) rfl (fun ls hl => ?_)
    refine lv_iload hx hb dX6_localOf_29 (lv_at hl 6 rfl) ?_
    refine W.join (nL := 22) (lv := [(11, .long (a0 - a0 / (131072 : Int64) * (131072 : Int64))), (9, .long (a0 / (131072 : Int64))), (7, .long (if a1 = 0 then (360000000 : Int64) else (90000000 : Int64))), (0, .ref h0), (1, .long a0), (3, .int a1), (4, .int a2), (5, .int a3), (6, .int a4)]) (pc2 := 43) (st2 := [.long (if a2 = 0 then (60 : Int64) else (59 : Int64))]) (fun ls hl => ?_) (fun J => ?_)
    · refine lv_lstore (lv' := [(13, .long (if a2 = 0 then (60 : Int64) else (59 : Int64))), (11, .long (a0 - a0 / (131072 : Int64) * (131072 : Int64))), (9, .long (a0 / (131072 : Int64))), (7, .long (if a1 = 0 then (360000000 : Int64) else (90000000 : Int64))), (0, .ref h0), (1, .long a0), (3, .int a1), (4, .int a2), (5, .int a3), (6, .int a4)]) hx hb dX6_localOf_43 hl (by decide) rfl (fun ls hl => ?_)
      refine lv_iload hx hb dX6_localOf_45 (lv_at hl 8 rfl) ?_
      refine lv_i2l (v := a3.toInt64) hx hb dX6_localOf_47 rfl ?_
      refine lv_lload hx hb dX6_localOf_48 (lv_at hl 0 rfl) ?_
      refine lv_lload hx hb dX6_localOf_50 (lv_at hl 3 rfl) ?_
      refine lv_lload hx hb dX6_localOf_52 (lv_at hl 2 rfl) ?_
      refine rS (As := [.long a3.toInt64, .long (if a2 = 0 then (60 : Int64) else (59 : Int64)), .long (if a1 = 0 then (360000000 : Int64) else (90000000 : Int64)), .long (a0 / (131072 : Int64))]) (rest := []) hx hb hml hown htg (c_X6_nearest l a3.toInt64 (if a2 = 0 then (60 : Int64) else (59 : Int64)) (if a1 = 0 then (360000000 : Int64) else (90000000 : Int64)) (a0 / (131072 : Int64)) (by split <;> decide) (by split <;> decide)) Blind.tt ml_X6_263 st_X6_nearest ini_X6 co_X6_nearest dn_X6_nearest rfl (fun _ _ _ => trivial) hl.1 rfl (Nat.le_of_ble_eq_true rfl) ⟨Nat.le_of_ble_eq_true rfl, Nat.le_of_ble_eq_true rfl⟩ ⟨Nat.le_of_ble_eq_true rfl, Nat.le_of_ble_eq_true rfl⟩ dX6_localOf_54 ?_
      refine lv_lstore (lv' := [(15, .long (f_X6_localOf_x57 a3 a2 a1 a0)), (13, .long (if a2 = 0 then (60 : Int64) else (59 : Int64))), (11, .long (a0 - a0 / (131072 : Int64) * (131072 : Int64))), (9, .long (a0 / (131072 : Int64))), (7, .long (if a1 = 0 then (360000000 : Int64) else (90000000 : Int64))), (0, .ref h0), (1, .long a0), (3, .int a1), (4, .int a2), (5, .int a3), (6, .int a4)]) hx hb dX6_localOf_57 hl (by decide) rfl (fun ls hl => ?_)
      refine lv_lload hx hb dX6_localOf_59 (lv_at hl 0 rfl) ?_
      refine rS (As := [.long (f_X6_localOf_x57 a3 a2 a1 a0)]) (rest := []) hx hb hml hown htg (c_X6_sizeOf l (f_X6_localOf_x57 a3 a2 a1 a0)) Blind.tt ml_X6_180 st_X6_sizeOf ini_X6 co_X6_sizeOf dn_X6_sizeOf rfl (fun _ _ _ => trivial) hl.1 rfl (Nat.le_of_ble_eq_true rfl) ⟨Nat.le_of_ble_eq_true rfl, Nat.le_of_ble_eq_true rfl⟩ ⟨Nat.le_of_ble_eq_true rfl, Nat.le_of_ble_eq_true rfl⟩ dX6_localOf_61 ?_
      refine lv_lload hx hb dX6_localOf_64 (lv_at hl 4 rfl) ?_
      refine lv_lmul hx hb dX6_localOf_66 ?_
      refine lv_ldc2 (v := 90000000) hx hb hown (htg _ ct_X6_210) dX6_localOf_67 ?_
      refine lv_lload hx hb dX6_localOf_70 (lv_at hl 1 rfl) ?_
      refine lv_lmul hx hb dX6_localOf_72 ?_
      refine lv_ldc2 (v := 131072) hx hb hown (htg _ ct_X6_200) dX6_localOf_73 ?_
      refine lv_lmul hx hb dX6_localOf_76 ?_
      refine lc_le (tgt := 83) hx hb dX6_localOf_77 dX6_localOf_78 (by decide) (fun c_3 => ?_) (fun c_3 => ?_)
      · refine lv_aload_n hx hb dX6_localOf_83 rfl (lv_at hl 5 rfl) ?_
        refine lv_ldc2 (v := 100) hx hb hown (htg _ ct_X6_192) dX6_localOf_84 ?_
        refine lv_lload hx hb dX6_localOf_87 (lv_at hl 4 rfl) ?_
        refine lv_lmul hx hb dX6_localOf_89 ?_
        refine lv_lload hx hb dX6_localOf_90 (lv_at hl 0 rfl) ?_
        refine lv_lmul hx hb dX6_localOf_92 ?_
        refine lv_lload hx hb dX6_localOf_93 (lv_at hl 1 rfl) ?_
        refine lv_ldc2 (v := 131072) hx hb hown (htg _ ct_X6_200) dX6_localOf_95 ?_
        refine lv_lmul hx hb dX6_localOf_98 ?_
        refine rV (As := [.long (((100 : Int64) * (if a1 = 0 then (360000000 : Int64) else (90000000 : Int64))) * (f_X6_localOf_x57 a3 a2 a1 a0)), .long ((if a2 = 0 then (60 : Int64) else (59 : Int64)) * (131072 : Int64))]) (rest := []) hx hb hml hown htg (c_X6_zonesOf l D cI cJ cO h0 h1 h2 mn lt h3 sz h4 hsz hsy hrt hpl ola olo lat lon bd rw bt hd (((100 : Int64) * (if a1 = 0 then (360000000 : Int64) else (90000000 : Int64))) * (f_X6_localOf_x57 a3 a2 a1 a0)) ((if a2 = 0 then (60 : Int64) else (59 : Int64)) * (131072 : Int64))) Blind.b0 ml_X6_194 im_X6_zonesOf se_X6_zonesOf ini_X6 co_X6_zonesOf rfl dn_X6_zonesOf rfl (va_recv hK hP (ci := 4) (q0 := 0) rfl rfl) (fun U hU hW => ⟨by rw [hU]; exact hP, va_K.moved hW.alike hK⟩) hl.1 rfl (Nat.le_of_ble_eq_true rfl) ⟨Nat.le_of_ble_eq_true rfl, Nat.le_of_ble_eq_true rfl⟩ ⟨Nat.le_of_ble_eq_true rfl, Nat.le_of_ble_eq_true rfl⟩ dX6_localOf_99 ?_
        refine lv_iload hx hb dX6_localOf_102 (lv_at hl 8 rfl) ?_
        refine W.join (nL := 22) (lv := [(15, .long (f_X6_localOf_x57 a3 a2 a1 a0)), (13, .long (if a2 = 0 then (60 : Int64) else (59 : Int64))), (11, .long (a0 - a0 / (131072 : Int64) * (131072 : Int64))), (9, .long (a0 / (131072 : Int64))), (7, .long (if a1 = 0 then (360000000 : Int64) else (90000000 : Int64))), (0, .ref h0), (1, .long a0), (3, .int a1), (4, .int a2), (5, .int a3), (6, .int a4)]) (pc2 := 112) (st2 := [.int (if a2 = 0 then (0 : Int32) else (1 : Int32)), .int (f_X6_zonesOf bd (((100 : Int64) * (if a1 = 0 then (360000000 : Int64) else (90000000 : Int64))) * (f_X6_localOf_x57 a3 a2 a1 a0)) ((if a2 = 0 then (60 : Int64) else (59 : Int64)) * (131072 : Int64)))]) (fun ls hl => ?_) (fun J => ?_)
        · refine lv_isub hx hb dX6_localOf_112 ?_
          refine rS (As := [.int ((f_X6_zonesOf bd (((100 : Int64) * (if a1 = 0 then (360000000 : Int64) else (90000000 : Int64))) * (f_X6_localOf_x57 a3 a2 a1 a0)) ((if a2 = 0 then (60 : Int64) else (59 : Int64)) * (131072 : Int64))) - (if a2 = 0 then (0 : Int32) else (1 : Int32)))]) (rest := []) hx hb hml hown htg (c_X6_atLeast1 l ((f_X6_zonesOf bd (((100 : Int64) * (if a1 = 0 then (360000000 : Int64) else (90000000 : Int64))) * (f_X6_localOf_x57 a3 a2 a1 a0)) ((if a2 = 0 then (60 : Int64) else (59 : Int64)) * (131072 : Int64))) - (if a2 = 0 then (0 : Int32) else (1 : Int32)))) Blind.tt ml_X6_217 st_X6_atLeast1 ini_X6 co_X6_atLeast1 dn_X6_atLeast1 rfl (fun _ _ _ => trivial) hl.1 rfl (Nat.le_of_ble_eq_true rfl) ⟨Nat.le_of_ble_eq_true rfl, Nat.le_of_ble_eq_true rfl⟩ ⟨Nat.le_of_ble_eq_true rfl, Nat.le_of_ble_eq_true rfl⟩ dX6_localOf_113 ?_
          refine lv_istore (lv' := [(17, .int (f_X6_localOf_x116 bd a1 a3 a2 a0)), (15, .long (f_X6_localOf_x57 a3 a2 a1 a0)), (13, .long (if a2 = 0 then (60 : Int64) else (59 : Int64))), (11, .long (a0 - a0 / (131072 : Int64) * (131072 : Int64))), (9, .long (a0 / (131072 : Int64))), (7, .long (if a1 = 0 then (360000000 : Int64) else (90000000 : Int64))), (0, .ref h0), (1, .long a0), (3, .int a1), (4, .int a2), (5, .int a3), (6, .int a4)]) hx hb dX6_localOf_116 hl (by decide) rfl (fun ls hl => ?_)
          refine lv_lload hx hb dX6_localOf_118 (lv_at hl 5 rfl) ?_
          refine lv_iload hx hb dX6_localOf_120 (lv_at hl 11 rfl) ?_
          refine lv_i2l (v := a4.toInt64) hx hb dX6_localOf_122 rfl ?_
          refine lv_iload hx hb dX6_localOf_123 (lv_at hl 0 rfl) ?_
          refine lv_i2l (v := (f_X6_localOf_x116 bd a1 a3 a2 a0).toInt64) hx hb dX6_localOf_125 rfl ?_
          refine lv_lload hx hb dX6_localOf_126 (lv_at hl 5 rfl) ?_
          refine lv_lload hx hb dX6_localOf_128 (lv_at hl 3 rfl) ?_
          refine rS (As := [.long a4.toInt64, .long (f_X6_localOf_x116 bd a1 a3 a2 a0).toInt64, .long (if a1 = 0 then (360000000 : Int64) else (90000000 : Int64)), .long (a0 - a0 / (131072 : Int64) * (131072 : Int64))]) (rest := [.long (if a1 = 0 then (360000000 : Int64) else (90000000 : Int64))]) hx hb hml hown htg (c_X6_nearest l a4.toInt64 (f_X6_localOf_x116 bd a1 a3 a2 a0).toInt64 (if a1 = 0 then (360000000 : Int64) else (90000000 : Int64)) (a0 - a0 / (131072 : Int64) * (131072 : Int64)) (by split <;> decide) (by split <;> decide)) Blind.tt ml_X6_263 st_X6_nearest ini_X6 co_X6_nearest dn_X6_nearest rfl (fun _ _ _ => trivial) hl.1 rfl (Nat.le_of_ble_eq_true rfl) ⟨Nat.le_of_ble_eq_true rfl, Nat.le_of_ble_eq_true rfl⟩ ⟨Nat.le_of_ble_eq_true rfl, Nat.le_of_ble_eq_true rfl⟩ dX6_localOf_130 ?_
          refine lv_lmul hx hb dX6_localOf_133 ?_
          refine lv_lstore (lv' := [(18, .long (f_X6_localOf_x134 a1 a4 bd a3 a2 a0)), (17, .int (f_X6_localOf_x116 bd a1 a3 a2 a0)), (15, .long (f_X6_localOf_x57 a3 a2 a1 a0)), (13, .long (if a2 = 0 then (60 : Int64) else (59 : Int64))), (11, .long (a0 - a0 / (131072 : Int64) * (131072 : Int64))), (9, .long (a0 / (131072 : Int64))), (7, .long (if a1 = 0 then (360000000 : Int64) else (90000000 : Int64))), (0, .ref h0), (1, .long a0), (3, .int a1), (4, .int a2), (5, .int a3), (6, .int a4)]) hx hb dX6_localOf_134 hl (by decide) rfl (fun ls hl => ?_)
          refine lv_ldc2 (v := 360000000) hx hb hown (htg _ ct_X6_212) dX6_localOf_136 ?_
          refine lv_iload hx hb dX6_localOf_139 (lv_at hl 1 rfl) ?_
          refine lv_i2l (v := (f_X6_localOf_x116 bd a1 a3 a2 a0).toInt64) hx hb dX6_localOf_141 rfl ?_
          refine lv_lmul hx hb dX6_localOf_142 ?_
          refine lv_ldc2 (v := 131072) hx hb hown (htg _ ct_X6_200) dX6_localOf_143 ?_
          refine lv_lmul hx hb dX6_localOf_146 ?_
          refine lv_lstore (lv' := [(20, .long (f_X6_localOf_x147 bd a1 a3 a2 a0)), (18, .long (f_X6_localOf_x134 a1 a4 bd a3 a2 a0)), (17, .int (f_X6_localOf_x116 bd a1 a3 a2 a0)), (15, .long (f_X6_localOf_x57 a3 a2 a1 a0)), (13, .long (if a2 = 0 then (60 : Int64) else (59 : Int64))), (11, .long (a0 - a0 / (131072 : Int64) * (131072 : Int64))), (9, .long (a0 / (131072 : Int64))), (7, .long (if a1 = 0 then (360000000 : Int64) else (90000000 : Int64))), (0, .ref h0), (1, .long a0), (3, .int a1), (4, .int a2), (5, .int a3), (6, .int a4)]) hx hb dX6_localOf_147 hl (by decide) rfl (fun ls hl => ?_)
          have Lp : ∀ (n : Nat) (r : Int64), WI n r (f_X6_localOf_x147 bd a1 a3 a2 a0) → ∀ ls : Array Slot, lv_has ls 22 [(18, .long r), (20, .long (f_X6_localOf_x147 bd a1 a3 a2 a0)), (17, .int (f_X6_localOf_x116 bd a1 a3 a2 a0)), (15, .long (f_X6_localOf_x57 a3 a2 a1 a0)), (13, .long (if a2 = 0 then (60 : Int64) else (59 : Int64))), (11, .long (a0 - a0 / (131072 : Int64) * (131072 : Int64))), (9, .long (a0 / (131072 : Int64))), (7, .long (if a1 = 0 then (360000000 : Int64) else (90000000 : Int64))), (0, .ref h0), (1, .long a0), (3, .int a1), (4, .int a2), (5, .int a3), (6, .int a4)] → f_X6_localOf_lp bd a0 a1 a2 a3 a4 n r = f_X6_localOf bd lat lon a0 a1 a2 a3 a4 → f_X6_localOf_lp_lat bd a0 a1 a2 a3 a4 n r = f_X6_localOf_lat bd lat lon a0 a1 a2 a3 a4 → f_X6_localOf_lp_lon bd a0 a1 a2 a3 a4 n r = f_X6_localOf_lon bd lat lon a0 a1 a2 a3 a4 → ∀ (H : Heap) (locs : List Loc), va_P D vwCl [(h0, .inr (4, [.ref h1, .ref h2, .int mn, .int lt, .ref h3, .int sz, .ref h4, .int hsz, .int hsy, .int hrt, .int hpl, .int ola, .int olo, .int lat, .int lon])), (h1, .inl (cJ, 58, .inr (.inl bd))), (h2, .inl (cI, 800, .inl rw)), (h3, .inl (cI, 112, .inl bt)), (h4, .inl (cI, 112, .inl hd))] H → va_D A [(h0, .inr (4, [.ref h1, .ref h2, .int mn, .int lt, .ref h3, .int sz, .ref h4, .int hsz, .int hsy, .int hrt, .int hpl, .int ola, .int olo, .int lat, .int lon])), (h1, .inl (cJ, 58, .inr (.inl bd))), (h2, .inl (cI, 800, .inl rw)), (h3, .inl (cI, 112, .inl bt)), (h4, .inl (cI, 112, .inl hd))] → va_S A s.heap H locs → W p l e { frames := 3, cells := 0, slots := 0, locals := 81 } s m args below meth c H locs 0 0 (MQ below (wrQ D (some (.int (f_X6_localOf bd lat lon a0 a1 a2 a3 a4))) [(h0, .inr (4, [.ref h1, .ref h2, .int mn, .int lt, .ref h3, .int sz, .ref h4, .int hsz, .int hsy, .int hrt, .int hpl, .int ola, .int olo, .int lat, .int lon])), (h1, .inl (cJ, 58, .inr (.inl bd))), (h2, .inl (cI, 800, .inl rw)), (h3, .inl (cI, 112, .inl bt)), (h4, .inl (cI, 112, .inl hd))] [(h0, .inr (4, [.ref h1, .ref h2, .int mn, .int lt, .ref h3, .int sz, .ref h4, .int hsz, .int hsy, .int hrt, .int hpl, .int ola, .int olo, .int (f_X6_localOf_lat bd lat lon a0 a1 a2 a3 a4), .int (f_X6_localOf_lon bd lat lon a0 a1 a2 a3 a4)])), (h1, .inl (cJ, 58, .inr (.inl bd))), (h2, .inl (cI, 800, .inl rw)), (h3, .inl (cI, 112, .inl bt)), (h4, .inl (cI, 112, .inl hd))]) args s 0 0 (inW [(h0, .inr (4, [.ref h1, .ref h2, .int mn, .int lt, .ref h3, .int sz, .ref h4, .int hsz, .int hsy, .int hrt, .int hpl, .int ola, .int olo, .int lat, .int lon])), (h1, .inl (cJ, 58, .inr (.inl bd))), (h2, .inl (cI, 800, .inl rw)), (h3, .inl (cI, 112, .inl bt)), (h4, .inl (cI, 112, .inl hd))])) (F0 m 149 ls []) := by
            intro n
            induction n with
            | zero =>
              intro r hi ls hl hE hElat hElon H locs hP hD hS
              refine lv_ldc2 (v := 2) hx hb hown (htg _ ct_X6_198) dX6_localOf_149 ?_
              refine lv_lload hx hb dX6_localOf_152 (lv_at hl 0 rfl) ?_
              refine lv_lmul hx hb dX6_localOf_154 ?_
              refine lv_lload hx hb dX6_localOf_155 (lv_at hl 1 rfl) ?_
              refine lc_lt (tgt := 171) hx hb dX6_localOf_157 dX6_localOf_158 (by decide) (fun c_4 => ?_) (fun c_4 => ?_)
              · exact C171 (if a1 = 0 then (360000000 : Int64) else (90000000 : Int64)) (if a2 = 0 then (60 : Int64) else (59 : Int64)) (f_X6_localOf_x57 a3 a2 a1 a0) (f_X6_localOf_x116 bd a1 a3 a2 a0) r (f_X6_localOf_x147 bd a1 a3 a2 a0) (wa_x hi c_4) (by split <;> decide) (al1_ne2 _) ls (lv_sub hl [7, 4, 3, 2, 0, 1, 8] rfl) (by rw [← hE]; simp only [f_X6_localOf_lp]) (by rw [← hElat]; simp only [f_X6_localOf_lp_lat]) (by rw [← hElon]; simp only [f_X6_localOf_lp_lon]) _ _ hP hD hS
              · exact absurd (wa_z hi) c_4
            | succ n ih =>
              intro r hi ls hl hE hElat hElon H locs hP hD hS
              refine lv_ldc2 (v := 2) hx hb hown (htg _ ct_X6_198) dX6_localOf_149 ?_
              refine lv_lload hx hb dX6_localOf_152 (lv_at hl 0 rfl) ?_
              refine lv_lmul hx hb dX6_localOf_154 ?_
              refine lv_lload hx hb dX6_localOf_155 (lv_at hl 1 rfl) ?_
              refine lc_lt (tgt := 171) hx hb dX6_localOf_157 dX6_localOf_158 (by decide) (fun c_5 => ?_) (fun c_5 => ?_)
              · exact C171 (if a1 = 0 then (360000000 : Int64) else (90000000 : Int64)) (if a2 = 0 then (60 : Int64) else (59 : Int64)) (f_X6_localOf_x57 a3 a2 a1 a0) (f_X6_localOf_x116 bd a1 a3 a2 a0) r (f_X6_localOf_x147 bd a1 a3 a2 a0) (wa_x hi c_5) (by split <;> decide) (al1_ne2 _) ls (lv_sub hl [7, 4, 3, 2, 0, 1, 8] rfl) (by rw [← hE]; simp only [f_X6_localOf_lp, if_pos c_5]) (by rw [← hElat]; simp only [f_X6_localOf_lp_lat, if_pos c_5]) (by rw [← hElon]; simp only [f_X6_localOf_lp_lon, if_pos c_5]) _ _ hP hD hS
              · refine lv_lload hx hb dX6_localOf_161 (lv_at hl 0 rfl) ?_
                refine lv_lload hx hb dX6_localOf_163 (lv_at hl 1 rfl) ?_
                refine lv_lsub hx hb dX6_localOf_165 ?_
                refine lv_lstore (lv' := [(18, .long (r - (f_X6_localOf_x147 bd a1 a3 a2 a0))), (20, .long (f_X6_localOf_x147 bd a1 a3 a2 a0)), (17, .int (f_X6_localOf_x116 bd a1 a3 a2 a0)), (15, .long (f_X6_localOf_x57 a3 a2 a1 a0)), (13, .long (if a2 = 0 then (60 : Int64) else (59 : Int64))), (11, .long (a0 - a0 / (131072 : Int64) * (131072 : Int64))), (9, .long (a0 / (131072 : Int64))), (7, .long (if a1 = 0 then (360000000 : Int64) else (90000000 : Int64))), (0, .ref h0), (1, .long a0), (3, .int a1), (4, .int a2), (5, .int a3), (6, .int a4)]) hx hb dX6_localOf_166 hl (by decide) rfl (fun ls hl => ?_)
                refine lv_goto (tgt := 149) hx hb dX6_localOf_168 (by decide) ?_
                exact ih (r - (f_X6_localOf_x147 bd a1 a3 a2 a0)) (wa_n hi c_5) ls (lv_sub hl [0, 1, 2, 3, 4, 5, 6, 7, 8, 9, 10, 11, 12, 13] rfl) (by rw [← hE]; simp only [f_X6_localOf_lp, if_neg c_5]) (by rw [← hElat]; simp only [f_X6_localOf_lp_lat, if_neg c_5]) (by rw [← hElon]; simp only [f_X6_localOf_lp_lon, if_neg c_5]) H locs hP hD hS
          exact Lp 1 (f_X6_localOf_x134 a1 a4 bd a3 a2 a0) hw ls (lv_sub hl [1, 0, 2, 3, 4, 5, 6, 7, 8, 9, 10, 11, 12, 13] rfl) (by simp only [f_X6_localOf, if_pos c_3]) (by simp only [f_X6_localOf_lat, if_pos c_3]) (by simp only [f_X6_localOf_lon, if_pos c_3]) _ _ hP hD hS
        · refine lv_if_eq (tgt := 111) hx hb dX6_localOf_104 (by decide) (fun c_6 => ?_) (fun c_6 => ?_)
          · refine lv_iconst (v := 0) hx hb dX6_localOf_111 (by decide) ?_
            exact W.eq (by first | simp only [if_pos c_6] | rfl) (J ls (lv_sub hl [0, 1, 2, 3, 4, 5, 6, 7, 8, 9, 10] rfl))
          · refine lv_iconst (v := 1) hx hb dX6_localOf_107 (by decide) ?_
            refine lv_goto (tgt := 112) hx hb dX6_localOf_108 (by decide) ?_
            exact W.eq (by first | simp only [if_neg c_6] | rfl) (J ls (lv_sub hl [0, 1, 2, 3, 4, 5, 6, 7, 8, 9, 10] rfl))
      · refine lv_iconst (v := 0) hx hb dX6_localOf_81 (by decide) ?_
        exact wr_z hx hb hr hlocks hA hS (hP.eq (by simp only [f_X6_localOf_lat, f_X6_localOf_lon, if_neg c_3])) (by decide) (by simp only [f_X6_localOf, if_neg c_3]) dX6_localOf_82
    · refine lv_if_eq (tgt := 40) hx hb dX6_localOf_31 (by decide) (fun c_7 => ?_) (fun c_7 => ?_)
      · refine lv_ldc2 (v := 60) hx hb hown (htg _ ct_X6_227) dX6_localOf_40 ?_
        exact W.eq (by first | simp only [if_pos c_7] | rfl) (J ls (lv_sub hl [0, 1, 2, 3, 4, 5, 6, 7, 8] rfl))
      · refine lv_ldc2 (v := 59) hx hb hown (htg _ ct_X6_225) dX6_localOf_34 ?_
        refine lv_goto (tgt := 43) hx hb dX6_localOf_37 (by decide) ?_
        exact W.eq (by first | simp only [if_neg c_7] | rfl) (J ls (lv_sub hl [0, 1, 2, 3, 4, 5, 6, 7, 8] rfl))
  · refine lv_if_eq (tgt := 10) hx hb dX6_localOf_1 (by decide) (fun c_8 => ?_) (fun c_8 => ?_)
    · refine lv_ldc2 (v := 360000000) hx hb hown (htg _ ct_X6_212) dX6_localOf_10 ?_
      exact W.eq (by first | simp only [if_pos c_8] | rfl) (J ls (lv_sub hl [0, 1, 2, 3, 4, 5] rfl))
    · refine lv_ldc2 (v := 90000000) hx hb hown (htg _ ct_X6_210) dX6_localOf_4 ?_
      refine lv_goto (tgt := 13) hx hb dX6_localOf_7 (by decide) ?_
      exact W.eq (by first | simp only [if_neg c_8] | rfl) (J ls (lv_sub hl [0, 1, 2, 3, 4, 5] rfl))

def f_X6_local (bd : Nat → Int64) (lat : Int32) (lon : Int32) (a0 : Int64) (a1 : Int32) (a2 : Int32) (a3 : Int32) (a4 : Int32) : Int64 := (if (f_X6_isTold a0) = 0 then (-9223372036854775808 : Int64) else (if (f_X6_isLatitude a3) = 0 then (-9223372036854775808 : Int64) else (if (f_X6_isLongitude a4) = 0 then (-9223372036854775808 : Int64) else (if (f_X6_localOf bd lat lon a0 a1 a2 a3 a4) = 0 then (-9223372036854775808 : Int64) else (f_X6_both (f_X6_localOf_lat bd lat lon a0 a1 a2 a3 a4) (f_X6_localOf_lon bd lat lon a0 a1 a2 a3 a4))))))
def f_X6_local_lat (bd : Nat → Int64) (lat : Int32) (lon : Int32) (a0 : Int64) (a1 : Int32) (a2 : Int32) (a3 : Int32) (a4 : Int32) : Int32 := (if (f_X6_isTold a0) = 0 then lat else (if (f_X6_isLatitude a3) = 0 then lat else (if (f_X6_isLongitude a4) = 0 then lat else (f_X6_localOf_lat bd lat lon a0 a1 a2 a3 a4))))
def f_X6_local_lon (bd : Nat → Int64) (lat : Int32) (lon : Int32) (a0 : Int64) (a1 : Int32) (a2 : Int32) (a3 : Int32) (a4 : Int32) : Int32 := (if (f_X6_isTold a0) = 0 then lon else (if (f_X6_isLatitude a3) = 0 then lon else (if (f_X6_isLongitude a4) = 0 then lon else (f_X6_localOf_lon bd lat lon a0 a1 a2 a3 a4))))
set_option maxHeartbeats 4000000 in
set_option maxRecDepth 100000 in
theorem c_X6_local (l : Launch) (D : va_G) (cI cJ cO : ClassId) (h0 : Nat) (h1 : Nat) (h2 : Nat) (mn : Int32) (lt : Int32) (h3 : Nat) (sz : Int32) (h4 : Nat) (hsz : Int32) (hsy : Int32) (hrt : Int32) (hpl : Int32) (ola : Int32) (olo : Int32) (lat : Int32) (lon : Int32) (bd : Nat → Int64) (rw : Nat → Int32) (bt : Nat → Int32) (hd : Nat → Int32) (a0 : Int64) (a1 : Int32) (a2 : Int32) (a3 : Int32) (a4 : Int32) (hw : ¬ f_X6_isTold a0 = 0 → ¬ f_X6_isLatitude a3 = 0 → ¬ f_X6_isLongitude a4 = 0 → WI 1 (f_X6_localOf_x134 a1 a4 bd a3 a2 a0) (f_X6_localOf_x147 bd a1 a3 a2 a0)) : Wr l yX6_local cX6_local 7 (some .long) 4 122 [.ref h0, .long a0, .int a1, .int a2, .int a3, .int a4] (fun U => B1 D cI cJ cO [(h0, .inr (4, [.ref h1, .ref h2, .int mn, .int lt, .ref h3, .int sz, .ref h4, .int hsz, .int hsy, .int hrt, .int hpl, .int ola, .int olo, .int lat, .int lon])), (h1, .inl (cJ, 58, .inr (.inl bd))), (h2, .inl (cI, 800, .inl rw)), (h3, .inl (cI, 112, .inl bt)), (h4, .inl (cI, 112, .inl hd))] U ∧ True) D (some (.long (f_X6_local bd lat lon a0 a1 a2 a3 a4))) [(h0, .inr (4, [.ref h1, .ref h2, .int mn, .int lt, .ref h3, .int sz, .ref h4, .int hsz, .int hsy, .int hrt, .int hpl, .int ola, .int olo, .int lat, .int lon])), (h1, .inl (cJ, 58, .inr (.inl bd))), (h2, .inl (cI, 800, .inl rw)), (h3, .inl (cI, 112, .inl bt)), (h4, .inl (cI, 112, .inl hd))] [(h0, .inr (4, [.ref h1, .ref h2, .int mn, .int lt, .ref h3, .int sz, .ref h4, .int hsz, .int hsy, .int hrt, .int hpl, .int ola, .int olo, .int (f_X6_local_lat bd lat lon a0 a1 a2 a3 a4), .int (f_X6_local_lon bd lat lon a0 a1 a2 a3 a4)])), (h1, .inl (cJ, 58, .inr (.inl bd))), (h2, .inl (cI, 800, .inl rw)), (h3, .inl (cI, 112, .inl bt)), (h4, .inl (cI, 112, .inl hd))] := by
  refine Wr.of (by decide +kernel) (Nat.le_of_ble_eq_true rfl) ?_
  intro p e s m args below meth c hx hb hr hml hown htg hlocks A hA hP hK hD hX hS ls hl
  have hown : s.vm.findClass RX6 = some m.cls := hown
  have hl : lv_has ls 7 [(0, .ref h0), (1, .long a0), (3, .int a1), (4, .int a2), (5, .int a3), (6, .int a4)] := hl
  refine lv_aload_n hx hb dX6_local_0 rfl (lv_at hl 0 rfl) ?_
  refine lv_lload_n hx hb dX6_local_1 rfl (lv_at hl 1 rfl) ?_
  refine rV (As := [.long a0]) (rest := []) hx hb hml hown htg (c_X6_isTold l h0 a0) Blind.tt ml_X6_249 im_X6_isTold se_X6_isTold ini_X6 co_X6_isTold rfl dn_X6_isTold rfl (va_recv hK hP (ci := 4) (q0 := 0) rfl rfl) (fun _ _ _ => trivial) hl.1 rfl (Nat.le_of_ble_eq_true rfl) ⟨Nat.le_of_ble_eq_true rfl, Nat.le_of_ble_eq_true rfl⟩ ⟨Nat.le_of_ble_eq_true rfl, Nat.le_of_ble_eq_true rfl⟩ dX6_local_2 ?_
  refine lv_if_eq (tgt := 39) hx hb dX6_local_5 (by decide) (fun c_1 => ?_) (fun c_1 => ?_)
  · refine lv_ldc2 (v := (-9223372036854775808)) hx hb hown (htg _ ct_X6_257) dX6_local_39 ?_
    exact wr_l hx hb hr hlocks hA hS (hP.eq (by simp only [f_X6_local_lat, f_X6_local_lon, if_pos c_1])) (by simp only [f_X6_local, if_pos c_1]) dX6_local_42
  · refine lv_iload hx hb dX6_local_8 (lv_at hl 4 rfl) ?_
    refine rS (As := [.int a3]) (rest := []) hx hb hml hown htg (c_X6_isLatitude l a3) Blind.tt ml_X6_188 st_X6_isLatitude ini_X6 co_X6_isLatitude dn_X6_isLatitude rfl (fun _ _ _ => trivial) hl.1 rfl (Nat.le_of_ble_eq_true rfl) ⟨Nat.le_of_ble_eq_true rfl, Nat.le_of_ble_eq_true rfl⟩ ⟨Nat.le_of_ble_eq_true rfl, Nat.le_of_ble_eq_true rfl⟩ dX6_local_10 ?_
    refine lv_if_eq (tgt := 39) hx hb dX6_local_13 (by decide) (fun c_2 => ?_) (fun c_2 => ?_)
    · refine lv_ldc2 (v := (-9223372036854775808)) hx hb hown (htg _ ct_X6_257) dX6_local_39 ?_
      exact wr_l hx hb hr hlocks hA hS (hP.eq (by simp only [f_X6_local_lat, f_X6_local_lon, if_neg c_1, if_pos c_2])) (by simp only [f_X6_local, if_neg c_1, if_pos c_2]) dX6_local_42
    · refine lv_iload hx hb dX6_local_16 (lv_at hl 5 rfl) ?_
      refine rS (As := [.int a4]) (rest := []) hx hb hml hown htg (c_X6_isLongitude l a4) Blind.tt ml_X6_205 st_X6_isLongitude ini_X6 co_X6_isLongitude dn_X6_isLongitude rfl (fun _ _ _ => trivial) hl.1 rfl (Nat.le_of_ble_eq_true rfl) ⟨Nat.le_of_ble_eq_true rfl, Nat.le_of_ble_eq_true rfl⟩ ⟨Nat.le_of_ble_eq_true rfl, Nat.le_of_ble_eq_true rfl⟩ dX6_local_18 ?_
      refine lv_if_eq (tgt := 39) hx hb dX6_local_21 (by decide) (fun c_3 => ?_) (fun c_3 => ?_)
      · refine lv_ldc2 (v := (-9223372036854775808)) hx hb hown (htg _ ct_X6_257) dX6_local_39 ?_
        exact wr_l hx hb hr hlocks hA hS (hP.eq (by simp only [f_X6_local_lat, f_X6_local_lon, if_neg c_1, if_neg c_2, if_pos c_3])) (by simp only [f_X6_local, if_neg c_1, if_neg c_2, if_pos c_3]) dX6_local_42
      · refine lv_aload_n hx hb dX6_local_24 rfl (lv_at hl 0 rfl) ?_
        refine lv_lload_n hx hb dX6_local_25 rfl (lv_at hl 1 rfl) ?_
        refine lv_iload_n hx hb dX6_local_26 rfl (lv_at hl 2 rfl) ?_
        refine lv_iload hx hb dX6_local_27 (lv_at hl 3 rfl) ?_
        refine lv_iload hx hb dX6_local_29 (lv_at hl 4 rfl) ?_
        refine lv_iload hx hb dX6_local_31 (lv_at hl 5 rfl) ?_
        refine wV (As := [.long a0, .int a1, .int a2, .int a3, .int a4]) (rest := []) hx hb hml hown htg (c_X6_localOf l D cI cJ cO h0 h1 h2 mn lt h3 sz h4 hsz hsy hrt hpl ola olo lat lon bd rw bt hd a0 a1 a2 a3 a4 (hw c_1 c_2 c_3)) (Blind.and Blind.b1 Blind.tt) ml_X6_267 im_X6_localOf se_X6_localOf ini_X6 co_X6_localOf rfl dn_X6_localOf rfl (va_recv hK hP (ci := 4) (q0 := 0) rfl rfl) (fun U hU hW => ⟨⟨by rw [hU]; exact hP, va_K.moved hW.alike hK, (hD).weaken (fun _ _ _ _ => trivial)⟩, trivial⟩) hl.1 rfl (Nat.le_of_ble_eq_true rfl) ⟨Nat.le_of_ble_eq_true rfl, Nat.le_of_ble_eq_true rfl⟩ ⟨Nat.le_of_ble_eq_true rfl, Nat.le_of_ble_eq_true rfl⟩ dX6_local_33 hP hD hS [0, 1, 2, 3, 4] rfl (Eq.trans (b := [h0, h1, h2, h3, h4]) rfl rfl) (fun H locs hP hD hS => ?_)
        have hP : va_P D vwCl [(h0, .inr (4, [.ref h1, .ref h2, .int mn, .int lt, .ref h3, .int sz, .ref h4, .int hsz, .int hsy, .int hrt, .int hpl, .int ola, .int olo, .int (f_X6_localOf_lat bd lat lon a0 a1 a2 a3 a4), .int (f_X6_localOf_lon bd lat lon a0 a1 a2 a3 a4)])), (h1, .inl (cJ, 58, .inr (.inl bd))), (h2, .inl (cI, 800, .inl rw)), (h3, .inl (cI, 112, .inl bt)), (h4, .inl (cI, 112, .inl hd))] H := hP
        have hD : va_D A [(h0, .inr (4, [.ref h1, .ref h2, .int mn, .int lt, .ref h3, .int sz, .ref h4, .int hsz, .int hsy, .int hrt, .int hpl, .int ola, .int olo, .int (f_X6_localOf_lat bd lat lon a0 a1 a2 a3 a4), .int (f_X6_localOf_lon bd lat lon a0 a1 a2 a3 a4)])), (h1, .inl (cJ, 58, .inr (.inl bd))), (h2, .inl (cI, 800, .inl rw)), (h3, .inl (cI, 112, .inl bt)), (h4, .inl (cI, 112, .inl hd))] := hD
        refine W.eq (g2 := F0 m 36 ls [.int (f_X6_localOf bd lat lon a0 a1 a2 a3 a4)]) rfl ?_
        refine lv_if_ne (tgt := 43) hx hb dX6_local_36 (by decide) (fun c_4 => ?_) (fun c_4 => ?_)
        · refine lv_aload_n hx hb dX6_local_43 rfl (lv_at hl 0 rfl) ?_
          refine va_get (D := D) (ci := 4) (v := .int (f_X6_localOf_lat bd lat lon a0 a1 a2 a3 a4)) (C := RX6) (T := TX6) (N := 15) hx hb htg inX6 hown hK hP 0 rfl rfl 13 (by decide) (htg _ fl_X6_243) (fun _ h9 => h9) rfl dX6_local_44 ?_
          refine lv_aload_n hx hb dX6_local_47 rfl (lv_at hl 0 rfl) ?_
          refine va_get (D := D) (ci := 4) (v := .int (f_X6_localOf_lon bd lat lon a0 a1 a2 a3 a4)) (C := RX6) (T := TX6) (N := 15) hx hb htg inX6 hown hK hP 0 rfl rfl 14 (by decide) (htg _ fl_X6_246) (fun _ h9 => h9) rfl dX6_local_48 ?_
          refine rS (As := [.int (f_X6_localOf_lat bd lat lon a0 a1 a2 a3 a4), .int (f_X6_localOf_lon bd lat lon a0 a1 a2 a3 a4)]) (rest := []) hx hb hml hown htg (c_X6_both l (f_X6_localOf_lat bd lat lon a0 a1 a2 a3 a4) (f_X6_localOf_lon bd lat lon a0 a1 a2 a3 a4)) Blind.tt ml_X6_259 st_X6_both ini_X6 co_X6_both dn_X6_both rfl (fun _ _ _ => trivial) hl.1 rfl (Nat.le_of_ble_eq_true rfl) ⟨Nat.le_of_ble_eq_true rfl, Nat.le_of_ble_eq_true rfl⟩ ⟨Nat.le_of_ble_eq_true rfl, Nat.le_of_ble_eq_true rfl⟩ dX6_local_51 ?_
          exact wr_l hx hb hr hlocks hA hS (hP.eq (by simp only [f_X6_local_lat, f_X6_local_lon, if_neg c_1, if_neg c_2, if_neg c_3, if_neg c_4])) (by simp only [f_X6_local, if_neg c_1, if_neg c_2, if_neg c_3, if_neg c_4]) dX6_local_54
        · refine lv_ldc2 (v := (-9223372036854775808)) hx hb hown (htg _ ct_X6_257) dX6_local_39 ?_
          exact wr_l hx hb hr hlocks hA hS (hP.eq (by simp only [f_X6_local_lat, f_X6_local_lon, if_neg c_1, if_neg c_2, if_neg c_3, if_pos c_4])) (by simp only [f_X6_local, if_neg c_1, if_neg c_2, if_neg c_3, if_pos c_4]) dX6_local_42

theorem ages_nx0 {n : Nat} {i j mn : Int32} (hi : Up (n + 1) i mn ∧ 0 ≤ i.toInt ∧ 0 ≤ j.toInt ∧ j.toInt ≤ i.toInt) (hm : 0 ≤ mn.toInt ∧ mn.toInt ≤ 20) : Up n (i + 1) mn ∧ 0 ≤ (i + 1).toInt ∧ 0 ≤ j.toInt ∧ j.toInt ≤ (i + 1).toInt := by
  have := hi.1.1
  have := hi.2
  refine ⟨hi.1.nx, ?_⟩
  rw [inc1 (by omega)]
  omega
theorem ages_nx1 {n : Nat} {i j mn : Int32} (hi : Up (n + 1) i mn ∧ 0 ≤ i.toInt ∧ 0 ≤ j.toInt ∧ j.toInt ≤ i.toInt) (hm : 0 ≤ mn.toInt ∧ mn.toInt ≤ 20) : Up n (i + 1) mn ∧ 0 ≤ (i + 1).toInt ∧ 0 ≤ (j + 1).toInt ∧ (j + 1).toInt ≤ (i + 1).toInt := by
  have := hi.1.1
  have := hi.2
  refine ⟨hi.1.nx, ?_⟩
  rw [inc1 (by omega), inc1 (by omega)]
  omega
def f_X6_ages_sl1 (i : Int32) (j : Int32) : Nat → (Int32) → (Nat → Int32) → Nat → Int32
  | 0, k, q => q
  | n + 1, k, q => (f_X6_ages_sl1 i j n (k + (1 : Int32)) (upd q (f_X6_at j k).toNatClampNeg (q (f_X6_at i k).toNatClampNeg)))
def f_X6_ages_lp_rw (mn : Int32) (a0 : Int32) : Nat → (Int32) → (Int32) → (Nat → Int32) → Nat → Int32
  | 0, i, j, g => g
  | n + 1, i, j, g => (if (a0 - (g (f_X6_at i (1 : Int32)).toNatClampNeg)) ≤ (600 : Int32) then (f_X6_ages_lp_rw mn a0 n (i + (1 : Int32)) (j + (1 : Int32)) (f_X6_ages_sl1 i j 40 (0 : Int32) g)) else (f_X6_ages_lp_rw mn a0 n (i + (1 : Int32)) j g))
def f_X6_ages_lp_mn (mn : Int32) (a0 : Int32) : Nat → (Int32) → (Int32) → (Nat → Int32) → Int32
  | 0, i, j, g => j
  | n + 1, i, j, g => (if (a0 - (g (f_X6_at i (1 : Int32)).toNatClampNeg)) ≤ (600 : Int32) then (f_X6_ages_lp_mn mn a0 n (i + (1 : Int32)) (j + (1 : Int32)) (f_X6_ages_sl1 i j 40 (0 : Int32) g)) else (f_X6_ages_lp_mn mn a0 n (i + (1 : Int32)) j g))
def f_X6_ages_rw (mn : Int32) (rw : Nat → Int32) (a0 : Int32) : Nat → Int32 := (f_X6_ages_lp_rw mn a0 mn.toNatClampNeg (0 : Int32) (0 : Int32) rw)
def f_X6_ages_mn (mn : Int32) (rw : Nat → Int32) (a0 : Int32) : Int32 := (f_X6_ages_lp_mn mn a0 mn.toNatClampNeg (0 : Int32) (0 : Int32) rw)
set_option maxHeartbeats 4000000 in
set_option maxRecDepth 100000 in
theorem c_X6_ages (l : Launch) (D : va_G) (cI cJ cO : ClassId) (h0 : Nat) (h1 : Nat) (h2 : Nat) (mn : Int32) (lt : Int32) (h3 : Nat) (sz : Int32) (h4 : Nat) (hsz : Int32) (hsy : Int32) (hrt : Int32) (hpl : Int32) (ola : Int32) (olo : Int32) (lat : Int32) (lon : Int32) (bd : Nat → Int64) (rw : Nat → Int32) (bt : Nat → Int32) (hd : Nat → Int32) (a0 : Int32) (hm : 0 ≤ mn.toInt ∧ mn.toInt ≤ 20) : Wr l yX6_ages cX6_ages 5 none 1 22 [.ref h0, .int a0] (fun U => B1 D cI cJ cO [(h0, .inr (4, [.ref h1, .ref h2, .int mn, .int lt, .ref h3, .int sz, .ref h4, .int hsz, .int hsy, .int hrt, .int hpl, .int ola, .int olo, .int lat, .int lon])), (h1, .inl (cJ, 58, .inr (.inl bd))), (h2, .inl (cI, 800, .inl rw)), (h3, .inl (cI, 112, .inl bt)), (h4, .inl (cI, 112, .inl hd))] U ∧ True) D none [(h0, .inr (4, [.ref h1, .ref h2, .int mn, .int lt, .ref h3, .int sz, .ref h4, .int hsz, .int hsy, .int hrt, .int hpl, .int ola, .int olo, .int lat, .int lon])), (h1, .inl (cJ, 58, .inr (.inl bd))), (h2, .inl (cI, 800, .inl rw)), (h3, .inl (cI, 112, .inl bt)), (h4, .inl (cI, 112, .inl hd))] [(h0, .inr (4, [.ref h1, .ref h2, .int (f_X6_ages_mn mn rw a0), .int lt, .ref h3, .int sz, .ref h4, .int hsz, .int hsy, .int hrt, .int hpl, .int ola, .int olo, .int lat, .int lon])), (h1, .inl (cJ, 58, .inr (.inl bd))), (h2, .inl (cI, 800, .inl (f_X6_ages_rw mn rw a0))), (h3, .inl (cI, 112, .inl bt)), (h4, .inl (cI, 112, .inl hd))] := by
  refine Wr.of (by decide +kernel) (Nat.le_of_ble_eq_true rfl) ?_
  intro p e s m args below meth c hx hb hr hml hown htg hlocks A hA hP hK hD hX hS ls hl
  have hown : s.vm.findClass RX6 = some m.cls := hown
  have hl : lv_has ls 5 [(0, .ref h0), (1, .int a0)] := hl
  refine lv_iconst (v := 0) hx hb dX6_ages_0 (by decide) ?_
  refine lv_istore_n (lv' := [(2, .int (0 : Int32)), (0, .ref h0), (1, .int a0)]) hx hb dX6_ages_1 rfl hl (by decide) rfl (fun ls hl => ?_)
  refine lv_iconst (v := 0) hx hb dX6_ages_2 (by decide) ?_
  refine lv_istore_n (lv' := [(3, .int (0 : Int32)), (2, .int (0 : Int32)), (0, .ref h0), (1, .int a0)]) hx hb dX6_ages_3 rfl hl (by decide) rfl (fun ls hl => ?_)
  have Lp : ∀ (n : Nat) (i : Int32) (j : Int32) (g : Nat → Int32), Up n i mn ∧ 0 ≤ i.toInt ∧ 0 ≤ j.toInt ∧ j.toInt ≤ i.toInt → ∀ ls : Array Slot, lv_has ls 5 [(3, .int i), (2, .int j), (0, .ref h0), (1, .int a0)] → f_X6_ages_lp_rw mn a0 n i j g = f_X6_ages_rw mn rw a0 → f_X6_ages_lp_mn mn a0 n i j g = f_X6_ages_mn mn rw a0 → ∀ (H : Heap) (locs : List Loc), va_P D vwCl [(h0, .inr (4, [.ref h1, .ref h2, .int mn, .int lt, .ref h3, .int sz, .ref h4, .int hsz, .int hsy, .int hrt, .int hpl, .int ola, .int olo, .int lat, .int lon])), (h1, .inl (cJ, 58, .inr (.inl bd))), (h2, .inl (cI, 800, .inl g)), (h3, .inl (cI, 112, .inl bt)), (h4, .inl (cI, 112, .inl hd))] H → va_D A [(h0, .inr (4, [.ref h1, .ref h2, .int mn, .int lt, .ref h3, .int sz, .ref h4, .int hsz, .int hsy, .int hrt, .int hpl, .int ola, .int olo, .int lat, .int lon])), (h1, .inl (cJ, 58, .inr (.inl bd))), (h2, .inl (cI, 800, .inl g)), (h3, .inl (cI, 112, .inl bt)), (h4, .inl (cI, 112, .inl hd))] → va_S A s.heap H locs → W p l e { frames := 1, cells := 0, slots := 0, locals := 22 } s m args below meth c H locs 0 0 (MQ below (wrQ D none [(h0, .inr (4, [.ref h1, .ref h2, .int mn, .int lt, .ref h3, .int sz, .ref h4, .int hsz, .int hsy, .int hrt, .int hpl, .int ola, .int olo, .int lat, .int lon])), (h1, .inl (cJ, 58, .inr (.inl bd))), (h2, .inl (cI, 800, .inl rw)), (h3, .inl (cI, 112, .inl bt)), (h4, .inl (cI, 112, .inl hd))] [(h0, .inr (4, [.ref h1, .ref h2, .int (f_X6_ages_mn mn rw a0), .int lt, .ref h3, .int sz, .ref h4, .int hsz, .int hsy, .int hrt, .int hpl, .int ola, .int olo, .int lat, .int lon])), (h1, .inl (cJ, 58, .inr (.inl bd))), (h2, .inl (cI, 800, .inl (f_X6_ages_rw mn rw a0))), (h3, .inl (cI, 112, .inl bt)), (h4, .inl (cI, 112, .inl hd))]) args s 0 0 (inW [(h0, .inr (4, [.ref h1, .ref h2, .int mn, .int lt, .ref h3, .int sz, .ref h4, .int hsz, .int hsy, .int hrt, .int hpl, .int ola, .int olo, .int lat, .int lon])), (h1, .inl (cJ, 58, .inr (.inl bd))), (h2, .inl (cI, 800, .inl rw)), (h3, .inl (cI, 112, .inl bt)), (h4, .inl (cI, 112, .inl hd))])) (F0 m 4 ls []) := by
    intro n
    induction n with
    | zero =>
      intro i j g hi ls hl hErw hEmn H locs hP hD hS
      refine lv_iload_n hx hb dX6_ages_4 rfl (lv_at hl 0 rfl) ?_
      refine lv_aload_n hx hb dX6_ages_5 rfl (lv_at hl 2 rfl) ?_
      refine va_get (D := D) (ci := 4) (v := .int mn) (C := RX6) (T := TX6) (N := 15) hx hb htg inX6 hown hK hP 0 rfl rfl 2 (by decide) (htg _ fl_X6_281) (fun _ h9 => h9) rfl dX6_ages_6 ?_
      refine lv_icmp_ge (tgt := 83) hx hb dX6_ages_9 (by decide) (fun c_1 => ?_) (fun c_1 => ?_)
      · refine lv_aload_n hx hb dX6_ages_83 rfl (lv_at hl 2 rfl) ?_
        refine lv_iload_n hx hb dX6_ages_84 rfl (lv_at hl 1 rfl) ?_
        refine va_put (D := D) (ci := 4) (v := .int j) (ty := .int) (C := RX6) (T := TX6) (N := 15) hx hb htg inX6 tyX6 tyX6_ok nmX6 hown hK hP hD hS 0 rfl rfl 2 (by decide) (htg _ fl_X6_281) (fun _ h9 => h9) rfl (by decide +kernel) rfl rfl (Nat.le_of_ble_eq_true rfl) dX6_ages_85 (fun H locs hP hD hS => ?_)
        have hP : va_P D vwCl [(h0, .inr (4, [.ref h1, .ref h2, .int j, .int lt, .ref h3, .int sz, .ref h4, .int hsz, .int hsy, .int hrt, .int hpl, .int ola, .int olo, .int lat, .int lon])), (h1, .inl (cJ, 58, .inr (.inl bd))), (h2, .inl (cI, 800, .inl g)), (h3, .inl (cI, 112, .inl bt)), (h4, .inl (cI, 112, .inl hd))] H := hP
        have hD : va_D A [(h0, .inr (4, [.ref h1, .ref h2, .int j, .int lt, .ref h3, .int sz, .ref h4, .int hsz, .int hsy, .int hrt, .int hpl, .int ola, .int olo, .int lat, .int lon])), (h1, .inl (cJ, 58, .inr (.inl bd))), (h2, .inl (cI, 800, .inl g)), (h3, .inl (cI, 112, .inl bt)), (h4, .inl (cI, 112, .inl hd))] := hD
        exact wr_v hx hb hr hlocks hA hS (hP.eq (by rw [← hErw, ← hEmn]; simp only [f_X6_ages_lp_rw, f_X6_ages_lp_mn])) dX6_ages_88
      · exact absurd hi.1.z c_1
    | succ n ih =>
      intro i j g hi ls hl hErw hEmn H locs hP hD hS
      refine lv_iload_n hx hb dX6_ages_4 rfl (lv_at hl 0 rfl) ?_
      refine lv_aload_n hx hb dX6_ages_5 rfl (lv_at hl 2 rfl) ?_
      refine va_get (D := D) (ci := 4) (v := .int mn) (C := RX6) (T := TX6) (N := 15) hx hb htg inX6 hown hK hP 0 rfl rfl 2 (by decide) (htg _ fl_X6_281) (fun _ h9 => h9) rfl dX6_ages_6 ?_
      refine lv_icmp_ge (tgt := 83) hx hb dX6_ages_9 (by decide) (fun c_2 => ?_) (fun c_2 => ?_)
      · exact absurd c_2 hi.1.s
      · refine lv_iload_n hx hb dX6_ages_12 rfl (lv_at hl 3 rfl) ?_
        refine lv_aload_n hx hb dX6_ages_13 rfl (lv_at hl 2 rfl) ?_
        refine va_get (D := D) (ci := 4) (v := .ref h2) (C := RX6) (T := TX6) (N := 15) hx hb htg inX6 hown hK hP 0 rfl rfl 1 (by decide) (htg _ fl_X6_129) (fun _ h9 => h9) rfl dX6_ages_14 ?_
        refine lv_aload_n hx hb dX6_ages_17 rfl (lv_at hl 2 rfl) ?_
        refine lv_iload_n hx hb dX6_ages_18 rfl (lv_at hl 0 rfl) ?_
        refine lv_iconst (v := 1) hx hb dX6_ages_19 (by decide) ?_
        refine rV (As := [.int i, .int (1 : Int32)]) (rest := [.ref h2, .int a0]) hx hb hml hown htg (c_X6_at l h0 i (1 : Int32)) Blind.tt ml_X6_284 im_X6_at se_X6_at ini_X6 co_X6_at rfl dn_X6_at rfl (va_recv hK hP (ci := 4) (q0 := 0) rfl rfl) (fun _ _ _ => trivial) hl.1 rfl (Nat.le_of_ble_eq_true rfl) ⟨Nat.le_of_ble_eq_true rfl, Nat.le_of_ble_eq_true rfl⟩ ⟨Nat.le_of_ble_eq_true rfl, Nat.le_of_ble_eq_true rfl⟩ dX6_ages_20 ?_
        refine va_iald' (v := (g (f_X6_at i (1 : Int32)).toNatClampNeg)) hx hb hK hP 2 0 rfl rfl (atIn ⟨hi.2.1, by have := hi.1.1; have := hm.2; omega⟩ (by decide) (by decide)) rfl dX6_ages_23 ?_
        refine lv_isub hx hb dX6_ages_24 ?_
        refine lv_sipush (v := 600) hx hb dX6_ages_25 (by decide) ?_
        refine lv_icmp_le (tgt := 34) hx hb dX6_ages_28 (by decide) (fun c_3 => ?_) (fun c_3 => ?_)
        · refine lv_iconst (v := 0) hx hb dX6_ages_34 (by decide) ?_
          refine lv_istore (lv' := [(4, .int (0 : Int32)), (3, .int i), (2, .int j), (0, .ref h0), (1, .int a0)]) hx hb dX6_ages_35 hl (by decide) rfl (fun ls hl => ?_)
          have K1 : ∀ ls : Array Slot, lv_has ls 5 [(3, .int i), (2, .int j), (0, .ref h0), (1, .int a0)] → ∀ (H : Heap) (locs : List Loc), va_P D vwCl [(h0, .inr (4, [.ref h1, .ref h2, .int mn, .int lt, .ref h3, .int sz, .ref h4, .int hsz, .int hsy, .int hrt, .int hpl, .int ola, .int olo, .int lat, .int lon])), (h1, .inl (cJ, 58, .inr (.inl bd))), (h2, .inl (cI, 800, .inl (f_X6_ages_sl1 i j 40 (0 : Int32) g))), (h3, .inl (cI, 112, .inl bt)), (h4, .inl (cI, 112, .inl hd))] H → va_D A [(h0, .inr (4, [.ref h1, .ref h2, .int mn, .int lt, .ref h3, .int sz, .ref h4, .int hsz, .int hsy, .int hrt, .int hpl, .int ola, .int olo, .int lat, .int lon])), (h1, .inl (cJ, 58, .inr (.inl bd))), (h2, .inl (cI, 800, .inl (f_X6_ages_sl1 i j 40 (0 : Int32) g))), (h3, .inl (cI, 112, .inl bt)), (h4, .inl (cI, 112, .inl hd))] → va_S A s.heap H locs → W p l e { frames := 1, cells := 0, slots := 0, locals := 22 } s m args below meth c H locs 0 0 (MQ below (wrQ D none [(h0, .inr (4, [.ref h1, .ref h2, .int mn, .int lt, .ref h3, .int sz, .ref h4, .int hsz, .int hsy, .int hrt, .int hpl, .int ola, .int olo, .int lat, .int lon])), (h1, .inl (cJ, 58, .inr (.inl bd))), (h2, .inl (cI, 800, .inl rw)), (h3, .inl (cI, 112, .inl bt)), (h4, .inl (cI, 112, .inl hd))] [(h0, .inr (4, [.ref h1, .ref h2, .int (f_X6_ages_mn mn rw a0), .int lt, .ref h3, .int sz, .ref h4, .int hsz, .int hsy, .int hrt, .int hpl, .int ola, .int olo, .int lat, .int lon])), (h1, .inl (cJ, 58, .inr (.inl bd))), (h2, .inl (cI, 800, .inl (f_X6_ages_rw mn rw a0))), (h3, .inl (cI, 112, .inl bt)), (h4, .inl (cI, 112, .inl hd))]) args s 0 0 (inW [(h0, .inr (4, [.ref h1, .ref h2, .int mn, .int lt, .ref h3, .int sz, .ref h4, .int hsz, .int hsy, .int hrt, .int hpl, .int ola, .int olo, .int lat, .int lon])), (h1, .inl (cJ, 58, .inr (.inl bd))), (h2, .inl (cI, 800, .inl rw)), (h3, .inl (cI, 112, .inl bt)), (h4, .inl (cI, 112, .inl hd))])) (F0 m 74 ls []) := by
            intro ls hl H locs hP hD hS
            refine lv_iinc (v := (j + (1 : Int32))) (lv' := [(2, .int (j + (1 : Int32))), (3, .int i), (0, .ref h0), (1, .int a0)]) hx hb dX6_ages_74 hl (k := 1) rfl rfl (by decide) rfl (fun ls hl => ?_)
            refine lv_iinc (v := (i + (1 : Int32))) (lv' := [(3, .int (i + (1 : Int32))), (2, .int (j + (1 : Int32))), (0, .ref h0), (1, .int a0)]) hx hb dX6_ages_77 hl (k := 1) rfl rfl (by decide) rfl (fun ls hl => ?_)
            refine lv_goto (tgt := 4) hx hb dX6_ages_80 (by decide) ?_
            exact ih (i + (1 : Int32)) (j + (1 : Int32)) (f_X6_ages_sl1 i j 40 (0 : Int32) g) (ages_nx1 hi hm) ls (lv_sub hl [0, 1, 2, 3] rfl) (by rw [← hErw]; simp only [f_X6_ages_lp_rw, if_pos c_3]) (by rw [← hEmn]; simp only [f_X6_ages_lp_mn, if_pos c_3]) H locs hP hD hS
          have Lp1 : ∀ (n : Nat) (k : Int32) (q : Nat → Int32), Up n k 40 ∧ 0 ≤ k.toInt → ∀ ls : Array Slot, lv_has ls 5 [(4, .int k), (3, .int i), (2, .int j), (0, .ref h0), (1, .int a0)] → (f_X6_ages_sl1 i j n k q) = (f_X6_ages_sl1 i j 40 (0 : Int32) g) → ∀ (H : Heap) (locs : List Loc), va_P D vwCl [(h0, .inr (4, [.ref h1, .ref h2, .int mn, .int lt, .ref h3, .int sz, .ref h4, .int hsz, .int hsy, .int hrt, .int hpl, .int ola, .int olo, .int lat, .int lon])), (h1, .inl (cJ, 58, .inr (.inl bd))), (h2, .inl (cI, 800, .inl q)), (h3, .inl (cI, 112, .inl bt)), (h4, .inl (cI, 112, .inl hd))] H → va_D A [(h0, .inr (4, [.ref h1, .ref h2, .int mn, .int lt, .ref h3, .int sz, .ref h4, .int hsz, .int hsy, .int hrt, .int hpl, .int ola, .int olo, .int lat, .int lon])), (h1, .inl (cJ, 58, .inr (.inl bd))), (h2, .inl (cI, 800, .inl q)), (h3, .inl (cI, 112, .inl bt)), (h4, .inl (cI, 112, .inl hd))] → va_S A s.heap H locs → W p l e { frames := 1, cells := 0, slots := 0, locals := 22 } s m args below meth c H locs 0 0 (MQ below (wrQ D none [(h0, .inr (4, [.ref h1, .ref h2, .int mn, .int lt, .ref h3, .int sz, .ref h4, .int hsz, .int hsy, .int hrt, .int hpl, .int ola, .int olo, .int lat, .int lon])), (h1, .inl (cJ, 58, .inr (.inl bd))), (h2, .inl (cI, 800, .inl rw)), (h3, .inl (cI, 112, .inl bt)), (h4, .inl (cI, 112, .inl hd))] [(h0, .inr (4, [.ref h1, .ref h2, .int (f_X6_ages_mn mn rw a0), .int lt, .ref h3, .int sz, .ref h4, .int hsz, .int hsy, .int hrt, .int hpl, .int ola, .int olo, .int lat, .int lon])), (h1, .inl (cJ, 58, .inr (.inl bd))), (h2, .inl (cI, 800, .inl (f_X6_ages_rw mn rw a0))), (h3, .inl (cI, 112, .inl bt)), (h4, .inl (cI, 112, .inl hd))]) args s 0 0 (inW [(h0, .inr (4, [.ref h1, .ref h2, .int mn, .int lt, .ref h3, .int sz, .ref h4, .int hsz, .int hsy, .int hrt, .int hpl, .int ola, .int olo, .int lat, .int lon])), (h1, .inl (cJ, 58, .inr (.inl bd))), (h2, .inl (cI, 800, .inl rw)), (h3, .inl (cI, 112, .inl bt)), (h4, .inl (cI, 112, .inl hd))])) (F0 m 37 ls []) := by
            intro n
            induction n with
            | zero =>
              intro k q hk ls hl hG H locs hP hD hS
              refine lv_iload hx hb dX6_ages_37 (lv_at hl 0 rfl) ?_
              refine lv_bipush (v := 40) hx hb dX6_ages_39 (by decide) ?_
              refine lv_icmp_ge (tgt := 74) hx hb dX6_ages_41 (by decide) (fun c_4 => ?_) (fun c_4 => ?_)
              · exact K1 ls (lv_sub hl [1, 2, 3, 4] rfl) H locs (hP.eq (by rw [← hG]; simp only [f_X6_ages_sl1])) (by rw [← hG]; simp only [f_X6_ages_sl1]; exact hD) hS
              · exact absurd hk.1.z c_4
            | succ n ih =>
              intro k q hk ls hl hG H locs hP hD hS
              refine lv_iload hx hb dX6_ages_37 (lv_at hl 0 rfl) ?_
              refine lv_bipush (v := 40) hx hb dX6_ages_39 (by decide) ?_
              refine lv_icmp_ge (tgt := 74) hx hb dX6_ages_41 (by decide) (fun c_5 => ?_) (fun c_5 => ?_)
              · exact absurd c_5 hk.1.s
              · refine lv_aload_n hx hb dX6_ages_44 rfl (lv_at hl 3 rfl) ?_
                refine va_get (D := D) (ci := 4) (v := .ref h2) (C := RX6) (T := TX6) (N := 15) hx hb htg inX6 hown hK hP 0 rfl rfl 1 (by decide) (htg _ fl_X6_129) (fun _ h9 => h9) rfl dX6_ages_45 ?_
                refine lv_aload_n hx hb dX6_ages_48 rfl (lv_at hl 3 rfl) ?_
                refine lv_iload_n hx hb dX6_ages_49 rfl (lv_at hl 2 rfl) ?_
                refine lv_iload hx hb dX6_ages_50 (lv_at hl 0 rfl) ?_
                refine rV (As := [.int j, .int k]) (rest := [.ref h2]) hx hb hml hown htg (c_X6_at l h0 j k) Blind.tt ml_X6_284 im_X6_at se_X6_at ini_X6 co_X6_at rfl dn_X6_at rfl (va_recv hK hP (ci := 4) (q0 := 0) rfl rfl) (fun _ _ _ => trivial) hl.1 rfl (Nat.le_of_ble_eq_true rfl) ⟨Nat.le_of_ble_eq_true rfl, Nat.le_of_ble_eq_true rfl⟩ ⟨Nat.le_of_ble_eq_true rfl, Nat.le_of_ble_eq_true rfl⟩ dX6_ages_52 ?_
                refine lv_aload_n hx hb dX6_ages_55 rfl (lv_at hl 3 rfl) ?_
                refine va_get (D := D) (ci := 4) (v := .ref h2) (C := RX6) (T := TX6) (N := 15) hx hb htg inX6 hown hK hP 0 rfl rfl 1 (by decide) (htg _ fl_X6_129) (fun _ h9 => h9) rfl dX6_ages_56 ?_
                refine lv_aload_n hx hb dX6_ages_59 rfl (lv_at hl 3 rfl) ?_
                refine lv_iload_n hx hb dX6_ages_60 rfl (lv_at hl 1 rfl) ?_
                refine lv_iload hx hb dX6_ages_61 (lv_at hl 0 rfl) ?_
                refine rV (As := [.int i, .int k]) (rest := [.ref h2, .int (f_X6_at j k), .ref h2]) hx hb hml hown htg (c_X6_at l h0 i k) Blind.tt ml_X6_284 im_X6_at se_X6_at ini_X6 co_X6_at rfl dn_X6_at rfl (va_recv hK hP (ci := 4) (q0 := 0) rfl rfl) (fun _ _ _ => trivial) hl.1 rfl (Nat.le_of_ble_eq_true rfl) ⟨Nat.le_of_ble_eq_true rfl, Nat.le_of_ble_eq_true rfl⟩ ⟨Nat.le_of_ble_eq_true rfl, Nat.le_of_ble_eq_true rfl⟩ dX6_ages_63 ?_
                refine va_iald' (v := (q (f_X6_at i k).toNatClampNeg)) hx hb hK hP 2 0 rfl rfl (atIn ⟨hi.2.1, by have := hi.1.1; have := hm.2; omega⟩ (by have := hk.2; omega) (by have := hk.1.1; have e40 : (40 : Int32).toInt = 40 := rfl; omega)) rfl dX6_ages_66 ?_
                refine va_iast' (j := (f_X6_at j k).toNatClampNeg) hx hb hK hP hD hS 2 0 rfl rfl (atIn ⟨hi.2.2.1, by have := hi.1.1; have := hm.2; have := hi.2.2.2; omega⟩ (by have := hk.2; omega) (by have := hk.1.1; have e40 : (40 : Int32).toInt = 40 := rfl; omega)) rfl dX6_ages_67 (fun H locs hP hD hS => ?_)
                have hP : va_P D vwCl [(h0, .inr (4, [.ref h1, .ref h2, .int mn, .int lt, .ref h3, .int sz, .ref h4, .int hsz, .int hsy, .int hrt, .int hpl, .int ola, .int olo, .int lat, .int lon])), (h1, .inl (cJ, 58, .inr (.inl bd))), (h2, .inl (cI, 800, .inl (upd q (f_X6_at j k).toNatClampNeg (q (f_X6_at i k).toNatClampNeg)))), (h3, .inl (cI, 112, .inl bt)), (h4, .inl (cI, 112, .inl hd))] H := hP
                have hD : va_D A [(h0, .inr (4, [.ref h1, .ref h2, .int mn, .int lt, .ref h3, .int sz, .ref h4, .int hsz, .int hsy, .int hrt, .int hpl, .int ola, .int olo, .int lat, .int lon])), (h1, .inl (cJ, 58, .inr (.inl bd))), (h2, .inl (cI, 800, .inl (upd q (f_X6_at j k).toNatClampNeg (q (f_X6_at i k).toNatClampNeg)))), (h3, .inl (cI, 112, .inl bt)), (h4, .inl (cI, 112, .inl hd))] := hD
                refine lv_iinc (v := (k + (1 : Int32))) (lv' := [(4, .int (k + (1 : Int32))), (3, .int i), (2, .int j), (0, .ref h0), (1, .int a0)]) hx hb dX6_ages_68 hl (k := 0) rfl rfl (by decide) rfl (fun ls hl => ?_)
                refine lv_goto (tgt := 37) hx hb dX6_ages_71 (by decide) ?_
                exact ih (k + (1 : Int32)) (upd q (f_X6_at j k).toNatClampNeg (q (f_X6_at i k).toNatClampNeg)) ⟨hk.1.nx, by have e1 : (k + 1).toInt = k.toInt + 1 := (by have := hk.1.2; have := hk.1.1; rw [fb_addI] <;> rw [i1] <;> omega); have := hk.2; omega⟩ ls (lv_sub hl [0, 1, 2, 3, 4] rfl) (by rw [← hG]; simp only [f_X6_ages_sl1]) H locs hP hD hS
          exact Lp1 40 (0 : Int32) g ⟨⟨by decide, by decide, by decide⟩, by decide⟩ ls (lv_sub hl [0, 1, 2, 3, 4] rfl) rfl _ _ hP hD hS
        · refine lv_goto (tgt := 77) hx hb dX6_ages_31 (by decide) ?_
          refine lv_iinc (v := (i + (1 : Int32))) (lv' := [(3, .int (i + (1 : Int32))), (2, .int j), (0, .ref h0), (1, .int a0)]) hx hb dX6_ages_77 hl (k := 0) rfl rfl (by decide) rfl (fun ls hl => ?_)
          refine lv_goto (tgt := 4) hx hb dX6_ages_80 (by decide) ?_
          exact ih (i + (1 : Int32)) j g (ages_nx0 hi hm) ls (lv_sub hl [0, 1, 2, 3] rfl) (by rw [← hErw]; simp only [f_X6_ages_lp_rw, if_neg c_3]) (by rw [← hEmn]; simp only [f_X6_ages_lp_mn, if_neg c_3]) H locs hP hD hS
  exact Lp mn.toNatClampNeg (0 : Int32) (0 : Int32) rw ⟨⟨by have := clamp hm.1; rw [i0]; omega, by decide, by have := hm.2; omega⟩, by decide, by decide, by decide⟩ ls (lv_sub hl [0, 1, 2, 3] rfl) (by simp only [f_X6_ages_rw]) (by simp only [f_X6_ages_mn]) _ _ hP hD hS
