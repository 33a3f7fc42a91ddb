/-! the reference: what needs no place -/
theorem atIn {i w : Int32} (hi : 0 ≤ i.toInt ∧ i.toInt < 20) (hw : 0 ≤ w.toInt) (hw2 : w.toInt < 40) : vp_in (f_X6_at i w) 800 := by
  unfold f_X6_at
  have e40 : (40 : Int32).toInt = 40 := rfl
  have e1 : (40 * i).toInt = 40 * i.toInt := by rw [fb_mulI] <;> rw [e40] <;> omega
  have e2 : (40 * i + w).toInt = 40 * i.toInt + w.toInt := by rw [fb_addI] <;> rw [e1] <;> omega
  exact in_iff (by rw [e2]; omega) (by rw [e2]; omega)
theorem atInK {i w k : Int32} (hi : 0 ≤ i.toInt ∧ i.toInt < 20) (hw : 0 ≤ w.toInt) (hk : 0 ≤ k.toInt) (hk2 : k.toInt ≤ 40) (hw2 : w.toInt + k.toInt < 40) : vp_in (f_X6_at i w + k) 800 := by
  unfold f_X6_at
  have e40 : (40 : Int32).toInt = 40 := rfl
  have e1 : (40 * i).toInt = 40 * i.toInt := by rw [fb_mulI] <;> rw [e40] <;> omega
  have e2 : (40 * i + w).toInt = 40 * i.toInt + w.toInt := by rw [fb_addI] <;> rw [e1] <;> omega
  have e3 : (40 * i + w + k).toInt = 40 * i.toInt + w.toInt + k.toInt := by rw [fb_addI] <;> rw [e2] <;> omega
  exact in_iff (by rw [e3]; omega) (by rw [e3]; omega)
theorem dec1 {k : Int32} (h : -2147483647 ≤ k.toInt) : (k - 1).toInt = k.toInt - 1 := by
  have := fb_rng k
  rw [fb_subI] <;> rw [i1] <;> omega
theorem inc1 {k : Int32} (h : k.toInt < 2147483647) : (k + 1).toInt = k.toInt + 1 := by
  have := fb_rng k
  rw [fb_addI] <;> rw [i1] <;> omega
theorem al1_ne (x : Int32) : ¬ (f_X6_atLeast1 x).toInt64 = 0 := by
  unfold f_X6_atLeast1
  intro h
  have h2 := congrArg Int64.toInt h
  rw [Int32.toInt_toInt64] at h2
  split at h2
  · rename_i q
    rw [fa_le, i1] at q
    have e0 : (0 : Int64).toInt = 0 := rfl
    omega
  · exact absurd h2 (by decide)
theorem al1_ne2 (x : Int32) : ¬ (f_X6_atLeast1 x).toInt64 * 131072 = 0 := by
  intro h
  have h2 := congrArg Int64.toInt h
  have hr := fb_rng (f_X6_atLeast1 x)
  have e1 : (131072 : Int64).toInt = 131072 := rfl
  have e0 : (0 : Int64).toInt = 0 := rfl
  rw [fb_mulL, Int32.toInt_toInt64, e1, e0] at h2
  · exact al1_ne x (Int64.toInt_inj.mp (by rw [Int32.toInt_toInt64, e0]; omega))
  · rw [Int32.toInt_toInt64, e1]; omega
  · rw [Int32.toInt_toInt64, e1]; omega
def f_X6_frame_x45 (i : Int32) (a3 : Int32) (a2 : Int32) (a1 : Int32) (a0 : Int32) : Int32 := (if (32 : Int32) ≤ i then (if (64 : Int32) ≤ i then (if (96 : Int32) ≤ i then a3 else a2) else a1) else a0)
def f_X6_frame_sl (a0 : Int32) (a1 : Int32) (a2 : Int32) (a3 : Int32) : Nat → (Int32) → (Nat → Int32) → Nat → Int32
  | 0, i, g => g
  | n + 1, i, g => (f_X6_frame_sl a0 a1 a2 a3 n (i + (1 : Int32)) (upd g i.toNatClampNeg (((f_X6_frame_x45 i a3 a2 a1 a0) >>> (((31 : Int32) - (i - i / (32 : Int32) * (32 : Int32))) &&& 31)) &&& (1 : Int32))))
def f_X6_frame_bt (bt : Nat → Int32) (a0 : Int32) (a1 : Int32) (a2 : Int32) (a3 : Int32) : Nat → Int32 := (f_X6_frame_sl a0 a1 a2 a3 112 (0 : Int32) bt)
def f_X6_frame_sz (bt : Nat → Int32) (a0 : Int32) (a1 : Int32) (a2 : Int32) (a3 : Int32) : Int32 := (if ((f_X6_frame_sl a0 a1 a2 a3 112 (0 : Int32) bt) 0) = 0 then (56 : Int32) else (112 : Int32))
set_option maxHeartbeats 4000000 in
set_option maxRecDepth 100000 in
theorem c_X6_frame (l : Launch) (D : va_G) (cI cJ cO : ClassId) (h0 : Nat) (h1 : Nat) (h2 : Nat) (mn : Int32) (lt : Int32) (h3 : Nat) (sz : Int32) (h4 : Nat) (hsz : Int32) (hsy : Int32) (hrt : Int32) (hpl : Int32) (ola : Int32) (olo : Int32) (lat : Int32) (lon : Int32) (bd : Nat → Int64) (rw : Nat → Int32) (bt : Nat → Int32) (hd : Nat → Int32) (a0 : Int32) (a1 : Int32) (a2 : Int32) (a3 : Int32) : Wr l yX6_frame cX6_frame 7 none 0 0 [.ref h0, .int a0, .int a1, .int a2, .int a3] (fun U => B1 D cI cJ cO [(h0, .inr (4, [.ref h1, .ref h2, .int mn, .int lt, .ref h3, .int sz, .ref h4, .int hsz, .int hsy, .int hrt, .int hpl, .int ola, .int olo, .int lat, .int lon])), (h1, .inl (cJ, 58, .inr (.inl bd))), (h2, .inl (cI, 800, .inl rw)), (h3, .inl (cI, 112, .inl bt)), (h4, .inl (cI, 112, .inl hd))] U ∧ True) D none [(h0, .inr (4, [.ref h1, .ref h2, .int mn, .int lt, .ref h3, .int sz, .ref h4, .int hsz, .int hsy, .int hrt, .int hpl, .int ola, .int olo, .int lat, .int lon])), (h1, .inl (cJ, 58, .inr (.inl bd))), (h2, .inl (cI, 800, .inl rw)), (h3, .inl (cI, 112, .inl bt)), (h4, .inl (cI, 112, .inl hd))] [(h0, .inr (4, [.ref h1, .ref h2, .int mn, .int lt, .ref h3, .int (f_X6_frame_sz bt a0 a1 a2 a3), .ref h4, .int hsz, .int hsy, .int hrt, .int hpl, .int ola, .int olo, .int lat, .int lon])), (h1, .inl (cJ, 58, .inr (.inl bd))), (h2, .inl (cI, 800, .inl rw)), (h3, .inl (cI, 112, .inl (f_X6_frame_bt bt a0 a1 a2 a3))), (h4, .inl (cI, 112, .inl hd))] := by
  refine Wr.of (by decide +kernel) (Nat.le_of_ble_eq_true rfl) ?_
  intro p e s m args below meth c hx hb hr hml hown htg hlocks A hA hP hK hD hX hS ls hl
  have hown : s.vm.findClass RX6 = some m.cls := hown
  have hl : lv_has ls 7 [(0, .ref h0), (1, .int a0), (2, .int a1), (3, .int a2), (4, .int a3)] := hl
  refine lv_iconst (v := 0) hx hb dX6_frame_0 (by decide) ?_
  refine lv_istore (lv' := [(5, .int (0 : Int32)), (0, .ref h0), (1, .int a0), (2, .int a1), (3, .int a2), (4, .int a3)]) hx hb dX6_frame_1 hl (by decide) rfl (fun ls hl => ?_)
  have K : ∀ ls : Array Slot, lv_has ls 7 [(0, .ref h0), (1, .int a0), (2, .int a1), (3, .int a2), (4, .int a3)] → ∀ (H : Heap) (locs : List Loc), va_P D vwCl [(h0, .inr (4, [.ref h1, .ref h2, .int mn, .int lt, .ref h3, .int sz, .ref h4, .int hsz, .int hsy, .int hrt, .int hpl, .int ola, .int olo, .int lat, .int lon])), (h1, .inl (cJ, 58, .inr (.inl bd))), (h2, .inl (cI, 800, .inl rw)), (h3, .inl (cI, 112, .inl (f_X6_frame_sl a0 a1 a2 a3 112 (0 : Int32) bt))), (h4, .inl (cI, 112, .inl hd))] H → va_D A [(h0, .inr (4, [.ref h1, .ref h2, .int mn, .int lt, .ref h3, .int sz, .ref h4, .int hsz, .int hsy, .int hrt, .int hpl, .int ola, .int olo, .int lat, .int lon])), (h1, .inl (cJ, 58, .inr (.inl bd))), (h2, .inl (cI, 800, .inl rw)), (h3, .inl (cI, 112, .inl (f_X6_frame_sl a0 a1 a2 a3 112 (0 : Int32) bt))), (h4, .inl (cI, 112, .inl hd))] → va_S A s.heap H locs → W p l e { frames := 0, cells := 0, slots := 0, locals := 0 } s m args below meth c H locs 0 0 (MQ below (wrQ D none [(h0, .inr (4, [.ref h1, .ref h2, .int mn, .int lt, .ref h3, .int sz, .ref h4, .int hsz, .int hsy, .int hrt, .int hpl, .int ola, .int olo, .int lat, .int lon])), (h1, .inl (cJ, 58, .inr (.inl bd))), (h2, .inl (cI, 800, .inl rw)), (h3, .inl (cI, 112, .inl bt)), (h4, .inl (cI, 112, .inl hd))] [(h0, .inr (4, [.ref h1, .ref h2, .int mn, .int lt, .ref h3, .int (f_X6_frame_sz bt a0 a1 a2 a3), .ref h4, .int hsz, .int hsy, .int hrt, .int hpl, .int ola, .int olo, .int lat, .int lon])), (h1, .inl (cJ, 58, .inr (.inl bd))), (h2, .inl (cI, 800, .inl rw)), (h3, .inl (cI, 112, .inl (f_X6_frame_bt bt a0 a1 a2 a3))), (h4, .inl (cI, 112, .inl hd))]) args s 0 0 (inW [(h0, .inr (4, [.ref h1, .ref h2, .int mn, .int lt, .ref h3, .int sz, .ref h4, .int hsz, .int hsy, .int hrt, .int hpl, .int ola, .int olo, .int lat, .int lon])), (h1, .inl (cJ, 58, .inr (.inl bd))), (h2, .inl (cI, 800, .inl rw)), (h3, .inl (cI, 112, .inl bt)), (h4, .inl (cI, 112, .inl hd))])) (F0 m 73 ls []) := by
    intro ls hl H locs hP hD hS
    refine lv_aload_n hx hb dX6_frame_73 rfl (lv_at hl 0 rfl) ?_
    refine lv_aload_n hx hb dX6_frame_74 rfl (lv_at hl 0 rfl) ?_
    refine va_get (D := D) (ci := 4) (v := .ref h3) (C := RX6) (T := TX6) (N := 15) hx hb htg inX6 hown hK hP 0 rfl rfl 4 (by decide) (htg _ fl_X6_133) (fun _ h9 => h9) rfl dX6_frame_75 ?_
    refine lv_iconst (v := 0) hx hb dX6_frame_78 (by decide) ?_
    refine va_iald' (v := ((f_X6_frame_sl a0 a1 a2 a3 112 (0 : Int32) bt) 0)) hx hb hK hP 3 0 rfl rfl (by unfold vp_in; decide) (congrArg (f_X6_frame_sl a0 a1 a2 a3 112 (0 : Int32) bt) (by decide)) dX6_frame_79 ?_
    refine W.join (nL := 7) (lv := [(0, .ref h0), (1, .int a0), (2, .int a1), (3, .int a2), (4, .int a3)]) (pc2 := 90) (st2 := [.int (if ((f_X6_frame_sl a0 a1 a2 a3 112 (0 : Int32) bt) 0) = 0 then (56 : Int32) else (112 : Int32)), .ref h0]) (fun ls hl => ?_) (fun J => ?_)
    · refine va_put (D := D) (ci := 4) (v := .int (if ((f_X6_frame_sl a0 a1 a2 a3 112 (0 : Int32) bt) 0) = 0 then (56 : Int32) else (112 : Int32))) (ty := .int) (C := RX6) (T := TX6) (N := 15) hx hb htg inX6 tyX6 tyX6_ok nmX6 hown hK hP hD hS 0 rfl rfl 5 (by decide) (htg _ fl_X6_143) (fun _ h9 => h9) rfl (by decide +kernel) rfl rfl (Nat.le_of_ble_eq_true rfl) dX6_frame_90 (fun H locs hP hD hS => ?_)
      have hP : va_P D vwCl [(h0, .inr (4, [.ref h1, .ref h2, .int mn, .int lt, .ref h3, .int (if ((f_X6_frame_sl a0 a1 a2 a3 112 (0 : Int32) bt) 0) = 0 then (56 : Int32) else (112 : Int32)), .ref h4, .int hsz, .int hsy, .int hrt, .int hpl, .int ola, .int olo, .int lat, .int lon])), (h1, .inl (cJ, 58, .inr (.inl bd))), (h2, .inl (cI, 800, .inl rw)), (h3, .inl (cI, 112, .inl (f_X6_frame_sl a0 a1 a2 a3 112 (0 : Int32) bt))), (h4, .inl (cI, 112, .inl hd))] H := hP
      have hD : va_D A [(h0, .inr (4, [.ref h1, .ref h2, .int mn, .int lt, .ref h3, .int (if ((f_X6_frame_sl a0 a1 a2 a3 112 (0 : Int32) bt) 0) = 0 then (56 : Int32) else (112 : Int32)), .ref h4, .int hsz, .int hsy, .int hrt, .int hpl, .int ola, .int olo, .int lat, .int lon])), (h1, .inl (cJ, 58, .inr (.inl bd))), (h2, .inl (cI, 800, .inl rw)), (h3, .inl (cI, 112, .inl (f_X6_frame_sl a0 a1 a2 a3 112 (0 : Int32) bt))), (h4, .inl (cI, 112, .inl hd))] := hD
      exact wr_v hx hb hr hlocks hA hS (hP.eq (by simp only [f_X6_frame_bt, f_X6_frame_sz])) dX6_frame_93
    · refine lv_if_ne (tgt := 88) hx hb dX6_frame_80 (by decide) (fun c_6 => ?_) (fun c_6 => ?_)
      · refine lv_bipush (v := 112) hx hb dX6_frame_88 (by decide) ?_
        exact W.eq (by first | simp only [if_neg c_6] | rfl) (J ls (lv_sub hl [0, 1, 2, 3, 4] rfl))
      · refine lv_bipush (v := 56) hx hb dX6_frame_83 (by decide) ?_
        refine lv_goto (tgt := 90) hx hb dX6_frame_85 (by decide) ?_
        exact W.eq (by first | simp only [if_pos c_6] | rfl) (J ls (lv_sub hl [0, 1, 2, 3, 4] rfl))
  have Lp : ∀ (n : Nat) (i : Int32) (g : Nat → Int32), Up n i 112 ∧ 0 ≤ i.toInt → ∀ ls : Array Slot, lv_has ls 7 [(5, .int i), (0, .ref h0), (1, .int a0), (2, .int a1), (3, .int a2), (4, .int a3)] → (f_X6_frame_sl a0 a1 a2 a3 n i g) = (f_X6_frame_sl a0 a1 a2 a3 112 (0 : Int32) bt) → ∀ (H : Heap) (locs : List Loc), va_P D vwCl [(h0, .inr (4, [.ref h1, .ref h2, .int mn, .int lt, .ref h3, .int sz, .ref h4, .int hsz, .int hsy, .int hrt, .int hpl, .int ola, .int olo, .int lat, .int lon])), (h1, .inl (cJ, 58, .inr (.inl bd))), (h2, .inl (cI, 800, .inl rw)), (h3, .inl (cI, 112, .inl g)), (h4, .inl (cI, 112, .inl hd))] H → va_D A [(h0, .inr (4, [.ref h1, .ref h2, .int mn, .int lt, .ref h3, .int sz, .ref h4, .int hsz, .int hsy, .int hrt, .int hpl, .int ola, .int olo, .int lat, .int lon])), (h1, .inl (cJ, 58, .inr (.inl bd))), (h2, .inl (cI, 800, .inl rw)), (h3, .inl (cI, 112, .inl g)), (h4, .inl (cI, 112, .inl hd))] → va_S A s.heap H locs → W p l e { frames := 0, cells := 0, slots := 0, locals := 0 } s m args below meth c H locs 0 0 (MQ below (wrQ D none [(h0, .inr (4, [.ref h1, .ref h2, .int mn, .int lt, .ref h3, .int sz, .ref h4, .int hsz, .int hsy, .int hrt, .int hpl, .int ola, .int olo, .int lat, .int lon])), (h1, .inl (cJ, 58, .inr (.inl bd))), (h2, .inl (cI, 800, .inl rw)), (h3, .inl (cI, 112, .inl bt)), (h4, .inl (cI, 112, .inl hd))] [(h0, .inr (4, [.ref h1, .ref h2, .int mn, .int lt, .ref h3, .int (f_X6_frame_sz bt a0 a1 a2 a3), .ref h4, .int hsz, .int hsy, .int hrt, .int hpl, .int ola, .int olo, .int lat, .int lon])), (h1, .inl (cJ, 58, .inr (.inl bd))), (h2, .inl (cI, 800, .inl rw)), (h3, .inl (cI, 112, .inl (f_X6_frame_bt bt a0 a1 a2 a3))), (h4, .inl (cI, 112, .inl hd))]) args s 0 0 (inW [(h0, .inr (4, [.ref h1, .ref h2, .int mn, .int lt, .ref h3, .int sz, .ref h4, .int hsz, .int hsy, .int hrt, .int hpl, .int ola, .int olo, .int lat, .int lon])), (h1, .inl (cJ, 58, .inr (.inl bd))), (h2, .inl (cI, 800, .inl rw)), (h3, .inl (cI, 112, .inl bt)), (h4, .inl (cI, 112, .inl hd))])) (F0 m 3 ls []) := by
    intro n
    induction n with
    | zero =>
      intro i g hi ls hl hG H locs hP hD hS
      refine lv_iload hx hb dX6_frame_3 (lv_at hl 0 rfl) ?_
      refine lv_bipush (v := 112) hx hb dX6_frame_5 (by decide) ?_
      refine lv_icmp_ge (tgt := 73) hx hb dX6_frame_7 (by decide) (fun c_1 => ?_) (fun c_1 => ?_)
      · exact K ls (lv_sub hl [1, 2, 3, 4, 5] rfl) H locs (hP.eq (by rw [← hG]; simp only [f_X6_frame_sl])) (by rw [← hG]; simp only [f_X6_frame_sl]; exact hD) hS
      · exact absurd hi.1.z c_1
    | succ n ih =>
      intro i g hi ls hl hG H locs hP hD hS
      refine lv_iload hx hb dX6_frame_3 (lv_at hl 0 rfl) ?_
      refine lv_bipush (v := 112) hx hb dX6_frame_5 (by decide) ?_
      refine lv_icmp_ge (tgt := 73) hx hb dX6_frame_7 (by decide) (fun c_2 => ?_) (fun c_2 => ?_)
      · exact absurd c_2 hi.1.s
      · refine lv_iload hx hb dX6_frame_10 (lv_at hl 0 rfl) ?_
        refine lv_bipush (v := 32) hx hb dX6_frame_12 (by decide) ?_
        refine W.join (nL := 7) (lv := [(5, .int i), (0, .ref h0), (1, .int a0), (2, .int a1), (3, .int a2), (4, .int a3)]) (pc2 := 45) (st2 := [.int (if (32 : Int32) ≤ i then (if (64 : Int32) ≤ i then (if (96 : Int32) ≤ i then a3 else a2) else a1) else a0)]) (fun ls hl => ?_) (fun J => ?_)
        · refine lv_istore (lv' := [(6, .int (f_X6_frame_x45 i a3 a2 a1 a0)), (5, .int i), (0, .ref h0), (1, .int a0), (2, .int a1), (3, .int a2), (4, .int a3)]) hx hb dX6_frame_45 hl (by decide) rfl (fun ls hl => ?_)
          refine lv_aload_n hx hb dX6_frame_47 rfl (lv_at hl 2 rfl) ?_
          refine va_get (D := D) (ci := 4) (v := .ref h3) (C := RX6) (T := TX6) (N := 15) hx hb htg inX6 hown hK hP 0 rfl rfl 4 (by decide) (htg _ fl_X6_133) (fun _ h9 => h9) rfl dX6_frame_48 ?_
          refine lv_iload hx hb dX6_frame_51 (lv_at hl 1 rfl) ?_
          refine lv_iload hx hb dX6_frame_53 (lv_at hl 0 rfl) ?_
          refine lv_bipush (v := 31) hx hb dX6_frame_55 (by decide) ?_
          refine lv_iload hx hb dX6_frame_57 (lv_at hl 1 rfl) ?_
          refine lv_bipush (v := 32) hx hb dX6_frame_59 (by decide) ?_
          refine lv_irem hx hb dX6_frame_61 (by decide) ?_
          refine lv_isub hx hb dX6_frame_62 ?_
          refine lv_ishr hx hb dX6_frame_63 ?_
          refine lv_iconst (v := 1) hx hb dX6_frame_64 (by decide) ?_
          refine lv_iand hx hb dX6_frame_65 ?_
          refine va_iast' (j := i.toNatClampNeg) hx hb hK hP hD hS 3 0 rfl rfl (hi.1.lt hi.2 (by decide)) rfl dX6_frame_66 (fun H locs hP hD hS => ?_)
          have hP : va_P D vwCl [(h0, .inr (4, [.ref h1, .ref h2, .int mn, .int lt, .ref h3, .int sz, .ref h4, .int hsz, .int hsy, .int hrt, .int hpl, .int ola, .int olo, .int lat, .int lon])), (h1, .inl (cJ, 58, .inr (.inl bd))), (h2, .inl (cI, 800, .inl rw)), (h3, .inl (cI, 112, .inl (upd g i.toNatClampNeg (((f_X6_frame_x45 i a3 a2 a1 a0) >>> (((31 : Int32) - (i - i / (32 : Int32) * (32 : Int32))) &&& 31)) &&& (1 : Int32))))), (h4, .inl (cI, 112, .inl hd))] H := hP
          have hD : va_D A [(h0, .inr (4, [.ref h1, .ref h2, .int mn, .int lt, .ref h3, .int sz, .ref h4, .int hsz, .int hsy, .int hrt, .int hpl, .int ola, .int olo, .int lat, .int lon])), (h1, .inl (cJ, 58, .inr (.inl bd))), (h2, .inl (cI, 800, .inl rw)), (h3, .inl (cI, 112, .inl (upd g i.toNatClampNeg (((f_X6_frame_x45 i a3 a2 a1 a0) >>> (((31 : Int32) - (i - i / (32 : Int32) * (32 : Int32))) &&& 31)) &&& (1 : Int32))))), (h4, .inl (cI, 112, .inl hd))] := hD
          refine lv_iinc (v := (i + (1 : Int32))) (lv' := [(5, .int (i + (1 : Int32))), (6, .int (f_X6_frame_x45 i a3 a2 a1 a0)), (0, .ref h0), (1, .int a0), (2, .int a1), (3, .int a2), (4, .int a3)]) hx hb dX6_frame_67 hl (k := 1) rfl rfl (by decide) rfl (fun ls hl => ?_)
          refine lv_goto (tgt := 3) hx hb dX6_frame_70 (by decide) ?_
          exact ih (i + (1 : Int32)) (upd g i.toNatClampNeg (((f_X6_frame_x45 i a3 a2 a1 a0) >>> (((31 : Int32) - (i - i / (32 : Int32) * (32 : Int32))) &&& 31)) &&& (1 : Int32))) ⟨hi.1.nx, by have e1 : (i + 1).toInt = i.toInt + 1 := (by have := hi.1.2; have := hi.1.1; rw [fb_addI] <;> rw [i1] <;> omega); have := hi.2; omega⟩ ls (lv_sub hl [0, 2, 3, 4, 5, 6] rfl) (by rw [← hG]; simp only [f_X6_frame_sl]) H locs hP hD hS
        · refine lv_icmp_ge (tgt := 21) hx hb dX6_frame_14 (by decide) (fun c_3 => ?_) (fun c_3 => ?_)
          · refine lv_iload hx hb dX6_frame_21 (lv_at hl 0 rfl) ?_
            refine lv_bipush (v := 64) hx hb dX6_frame_23 (by decide) ?_
            refine lv_icmp_ge (tgt := 32) hx hb dX6_frame_25 (by decide) (fun c_4 => ?_) (fun c_4 => ?_)
            · refine lv_iload hx hb dX6_frame_32 (lv_at hl 0 rfl) ?_
              refine lv_bipush (v := 96) hx hb dX6_frame_34 (by decide) ?_
              refine lv_icmp_ge (tgt := 43) hx hb dX6_frame_36 (by decide) (fun c_5 => ?_) (fun c_5 => ?_)
              · refine lv_iload hx hb dX6_frame_43 (lv_at hl 5 rfl) ?_
                exact W.eq (by first | simp only [if_pos c_3, if_pos c_4, if_pos c_5] | rfl) (J ls (lv_sub hl [0, 1, 2, 3, 4, 5] rfl))
              · refine lv_iload_n hx hb dX6_frame_39 rfl (lv_at hl 4 rfl) ?_
                refine lv_goto (tgt := 45) hx hb dX6_frame_40 (by decide) ?_
                exact W.eq (by first | simp only [if_pos c_3, if_pos c_4, if_neg c_5] | rfl) (J ls (lv_sub hl [0, 1, 2, 3, 4, 5] rfl))
            · refine lv_iload_n hx hb dX6_frame_28 rfl (lv_at hl 3 rfl) ?_
              refine lv_goto (tgt := 45) hx hb dX6_frame_29 (by decide) ?_
              exact W.eq (by first | simp only [if_pos c_3, if_neg c_4] | rfl) (J ls (lv_sub hl [0, 1, 2, 3, 4, 5] rfl))
          · refine lv_iload_n hx hb dX6_frame_17 rfl (lv_at hl 2 rfl) ?_
            refine lv_goto (tgt := 45) hx hb dX6_frame_18 (by decide) ?_
            exact W.eq (by first | simp only [if_neg c_3] | rfl) (J ls (lv_sub hl [0, 1, 2, 3, 4, 5] rfl))
  exact Lp 112 (0 : Int32) bt ⟨⟨by decide, by decide, by decide⟩, by decide⟩ ls (lv_sub hl [0, 1, 2, 3, 4, 5] rfl) rfl _ _ hP hD hS

def f_X6_number_lp (f : Nat → Int32) : Nat → (Int32) → (Int32) → Int32
  | 0, k, v => v
  | n + 1, k, v => (f_X6_number_lp f n (k + (1 : Int32)) (((2 : Int32) * v) + (f (k - (1 : Int32)).toNatClampNeg)))
def f_X6_number (f : Nat → Int32) (a1 : Int32) (a2 : Int32) : Int32 := (f_X6_number_lp f (a2.toInt + 1 - a1.toInt).toNat a1 (0 : Int32))
set_option maxHeartbeats 4000000 in
set_option maxRecDepth 100000 in
theorem c_X6_number (l : Launch) (D : va_G) (cI cJ cO : ClassId) (a0 : Nat) (f : Nat → Int32) (h0 : Nat) (a1 : Int32) (a2 : Int32) (hab : 1 ≤ a1.toInt ∧ a2.toInt ≤ 112 ∧ a1.toInt ≤ a2.toInt + 1) : Rd l yX6_number cX6_number 6 (some .int) 0 0 [.ref h0, .ref a0, .int a1, .int a2] (fun U => B0 D cI cJ cO [(a0, .inl (cI, 112, .inl f))] U) (some (.int (f_X6_number f a1 a2))) := by
  refine Rd.of (by decide +kernel) (Nat.le_of_ble_eq_true rfl) ?_
  intro p e s m args below meth c hx hb hr hml hown htg hlocks hB ls hl
  obtain ⟨hP, hK⟩ := hB
  have hP : va_P D vwCl [(a0, .inl (cI, 112, .inl f))] s.heap := hP
  have hown : s.vm.findClass RX6 = some m.cls := hown
  have hl : lv_has ls 6 [(0, .ref h0), (1, .ref a0), (2, .int a1), (3, .int a2)] := hl
  refine lv_iconst (v := 0) hx hb dX6_number_0 (by decide) ?_
  refine lv_istore (lv' := [(4, .int (0 : Int32)), (0, .ref h0), (1, .ref a0), (2, .int a1), (3, .int a2)]) hx hb dX6_number_1 hl (by decide) rfl (fun ls hl => ?_)
  refine lv_iload_n hx hb dX6_number_3 rfl (lv_at hl 3 rfl) ?_
  refine lv_istore (lv' := [(5, .int a1), (4, .int (0 : Int32)), (0, .ref h0), (1, .ref a0), (2, .int a1), (3, .int a2)]) hx hb dX6_number_4 hl (by decide) rfl (fun ls hl => ?_)
  have Lp : ∀ (n : Nat) (k : Int32) (v : Int32), k.toInt + n = a2.toInt + 1 ∧ 1 ≤ k.toInt → ∀ ls : Array Slot, lv_has ls 6 [(5, .int k), (4, .int v), (0, .ref h0), (1, .ref a0), (2, .int a1), (3, .int a2)] → f_X6_number_lp f n k v = f_X6_number f a1 a2 → W p l e { frames := 0, cells := 0, slots := 0, locals := 0 } s m args below meth c s.heap [] 0 0 (MQ below (rdQ (some (.int (f_X6_number f a1 a2)))) args s 0 0 (fun _ => False)) (F0 m 6 ls []) := by
    intro n
    induction n with
    | zero =>
      intro k v hi ls hl hE
      refine lv_iload hx hb dX6_number_6 (lv_at hl 0 rfl) ?_
      refine lv_iload_n hx hb dX6_number_8 rfl (lv_at hl 5 rfl) ?_
      refine lv_icmp_gt (tgt := 31) hx hb dX6_number_9 (by decide) (fun c_1 => ?_) (fun c_1 => ?_)
      · refine lv_iload hx hb dX6_number_31 (lv_at hl 1 rfl) ?_
        exact rd_i hx hb hr hlocks (by rw [← hE]; simp only [f_X6_number_lp]) dX6_number_33
      · exact absurd (by rw [fa_lt]; have := hi.1; omega) c_1
    | succ n ih =>
      intro k v hi ls hl hE
      refine lv_iload hx hb dX6_number_6 (lv_at hl 0 rfl) ?_
      refine lv_iload_n hx hb dX6_number_8 rfl (lv_at hl 5 rfl) ?_
      refine lv_icmp_gt (tgt := 31) hx hb dX6_number_9 (by decide) (fun c_2 => ?_) (fun c_2 => ?_)
      · exact absurd c_2 (by rw [fa_lt]; have := hi.1; omega)
      · refine lv_iconst (v := 2) hx hb dX6_number_12 (by decide) ?_
        refine lv_iload hx hb dX6_number_13 (lv_at hl 1 rfl) ?_
        refine lv_imul hx hb dX6_number_15 ?_
        refine lv_aload_n hx hb dX6_number_16 rfl (lv_at hl 3 rfl) ?_
        refine lv_iload hx hb dX6_number_17 (lv_at hl 0 rfl) ?_
        refine lv_iconst (v := 1) hx hb dX6_number_19 (by decide) ?_
        refine lv_isub hx hb dX6_number_20 ?_
        refine va_iald' (v := (f (k - (1 : Int32)).toNatClampNeg)) hx hb hK hP 0 0 rfl rfl (in_iff (by rw [dec1] <;> have := hi.2 <;> omega) (by rw [dec1] <;> have := hi.1 <;> have := hi.2 <;> omega)) rfl dX6_number_21 ?_
        refine lv_iadd hx hb dX6_number_22 ?_
        refine lv_istore (lv' := [(4, .int (((2 : Int32) * v) + (f (k - (1 : Int32)).toNatClampNeg))), (5, .int k), (0, .ref h0), (1, .ref a0), (2, .int a1), (3, .int a2)]) hx hb dX6_number_23 hl (by decide) rfl (fun ls hl => ?_)
        refine lv_iinc (v := (k + (1 : Int32))) (lv' := [(5, .int (k + (1 : Int32))), (4, .int (((2 : Int32) * v) + (f (k - (1 : Int32)).toNatClampNeg))), (0, .ref h0), (1, .ref a0), (2, .int a1), (3, .int a2)]) hx hb dX6_number_25 hl (k := 1) rfl rfl (by decide) rfl (fun ls hl => ?_)
        refine lv_goto (tgt := 6) hx hb dX6_number_28 (by decide) ?_
        exact ih (k + (1 : Int32)) (((2 : Int32) * v) + (f (k - (1 : Int32)).toNatClampNeg)) (by have := hi.1; have := hi.2; rw [inc1 (by omega)]; omega) ls (lv_sub hl [0, 1, 2, 3, 4, 5] rfl) (by rw [← hE]; simp only [f_X6_number_lp])
  exact Lp (a2.toInt + 1 - a1.toInt).toNat a1 (0 : Int32) (by omega) ls (lv_sub hl [0, 1, 2, 3, 4, 5] rfl) (by simp only [f_X6_number])

def f_X6_remainder_lp (bt : Nat → Int32) (sz : Int32) : Nat → (Int32) → (Int32) → Int32
  | 0, i, v => v
  | n + 1, i, v => (f_X6_remainder_lp bt sz n (i + (1 : Int32)) (if (((2 : Int32) * v) + (bt i.toNatClampNeg)) < (16777216 : Int32) then (((2 : Int32) * v) + (bt i.toNatClampNeg)) else ((((2 : Int32) * v) + (bt i.toNatClampNeg)) ^^^ (33551369 : Int32))))
def f_X6_remainder (bt : Nat → Int32) (sz : Int32) : Int32 := (f_X6_remainder_lp bt sz sz.toNatClampNeg (0 : Int32) (0 : Int32))
set_option maxHeartbeats 4000000 in
set_option maxRecDepth 100000 in
theorem c_X6_remainder (l : Launch) (D : va_G) (cI cJ cO : ClassId) (h0 : Nat) (h1 : Nat) (h2 : Nat) (mn : Int32) (lt : Int32) (h3 : Nat) (sz : Int32) (h4 : Nat) (hsz : Int32) (hsy : Int32) (hrt : Int32) (hpl : Int32) (ola : Int32) (olo : Int32) (lat : Int32) (lon : Int32) (bd : Nat → Int64) (rw : Nat → Int32) (bt : Nat → Int32) (hd : Nat → Int32) (hz : 0 ≤ sz.toInt ∧ sz.toInt ≤ 112) : Rd l yX6_remainder cX6_remainder 3 (some .int) 0 0 [.ref h0] (fun U => B0 D cI cJ cO [(h0, .inr (4, [.ref h1, .ref h2, .int mn, .int lt, .ref h3, .int sz, .ref h4, .int hsz, .int hsy, .int hrt, .int hpl, .int ola, .int olo, .int lat, .int lon])), (h1, .inl (cJ, 58, .inr (.inl bd))), (h2, .inl (cI, 800, .inl rw)), (h3, .inl (cI, 112, .inl bt)), (h4, .inl (cI, 112, .inl hd))] U) (some (.int (f_X6_remainder bt sz))) := by
  refine Rd.of (by decide +kernel) (Nat.le_of_ble_eq_true rfl) ?_
  intro p e s m args below meth c hx hb hr hml hown htg hlocks hB ls hl
  obtain ⟨hP, hK⟩ := hB
  have hP : va_P D vwCl [(h0, .inr (4, [.ref h1, .ref h2, .int mn, .int lt, .ref h3, .int sz, .ref h4, .int hsz, .int hsy, .int hrt, .int hpl, .int ola, .int olo, .int lat, .int lon])), (h1, .inl (cJ, 58, .inr (.inl bd))), (h2, .inl (cI, 800, .inl rw)), (h3, .inl (cI, 112, .inl bt)), (h4, .inl (cI, 112, .inl hd))] s.heap := hP
  have hown : s.vm.findClass RX6 = some m.cls := hown
  have hl : lv_has ls 3 [(0, .ref h0)] := hl
  refine lv_iconst (v := 0) hx hb dX6_remainder_0 (by decide) ?_
  refine lv_istore_n (lv' := [(1, .int (0 : Int32)), (0, .ref h0)]) hx hb dX6_remainder_1 rfl hl (by decide) rfl (fun ls hl => ?_)
  refine lv_iconst (v := 0) hx hb dX6_remainder_2 (by decide) ?_
  refine lv_istore_n (lv' := [(2, .int (0 : Int32)), (1, .int (0 : Int32)), (0, .ref h0)]) hx hb dX6_remainder_3 rfl hl (by decide) rfl (fun ls hl => ?_)
  have Lp : ∀ (n : Nat) (i : Int32) (v : Int32), Up n i sz ∧ 0 ≤ i.toInt → ∀ ls : Array Slot, lv_has ls 3 [(2, .int i), (1, .int v), (0, .ref h0)] → f_X6_remainder_lp bt sz n i v = f_X6_remainder bt sz → W p l e { frames := 0, cells := 0, slots := 0, locals := 0 } s m args below meth c s.heap [] 0 0 (MQ below (rdQ (some (.int (f_X6_remainder bt sz)))) args s 0 0 (fun _ => False)) (F0 m 4 ls []) := by
    intro n
    induction n with
    | zero =>
      intro i v hi ls hl hE
      refine lv_iload_n hx hb dX6_remainder_4 rfl (lv_at hl 0 rfl) ?_
      refine lv_aload_n hx hb dX6_remainder_5 rfl (lv_at hl 2 rfl) ?_
      refine va_get (D := D) (ci := 4) (v := .int sz) (C := RX6) (T := TX6) (N := 15) hx hb htg inX6 hown hK hP 0 rfl rfl 5 (by decide) (htg _ fl_X6_143) (fun _ h9 => h9) rfl dX6_remainder_6 ?_
      refine lv_icmp_ge (tgt := 40) hx hb dX6_remainder_9 (by decide) (fun c_1 => ?_) (fun c_1 => ?_)
      · refine lv_iload_n hx hb dX6_remainder_40 rfl (lv_at hl 1 rfl) ?_
        exact rd_i hx hb hr hlocks (by rw [← hE]; simp only [f_X6_remainder_lp]) dX6_remainder_41
      · exact absurd hi.1.z c_1
    | succ n ih =>
      intro i v hi ls hl hE
      refine lv_iload_n hx hb dX6_remainder_4 rfl (lv_at hl 0 rfl) ?_
      refine lv_aload_n hx hb dX6_remainder_5 rfl (lv_at hl 2 rfl) ?_
      refine va_get (D := D) (ci := 4) (v := .int sz) (C := RX6) (T := TX6) (N := 15) hx hb htg inX6 hown hK hP 0 rfl rfl 5 (by decide) (htg _ fl_X6_143) (fun _ h9 => h9) rfl dX6_remainder_6 ?_
      refine lv_icmp_ge (tgt := 40) hx hb dX6_remainder_9 (by decide) (fun c_2 => ?_) (fun c_2 => ?_)
      · exact absurd c_2 hi.1.s
      · refine lv_iconst (v := 2) hx hb dX6_remainder_12 (by decide) ?_
        refine lv_iload_n hx hb dX6_remainder_13 rfl (lv_at hl 1 rfl) ?_
        refine lv_imul hx hb dX6_remainder_14 ?_
        refine lv_aload_n hx hb dX6_remainder_15 rfl (lv_at hl 2 rfl) ?_
        refine va_get (D := D) (ci := 4) (v := .ref h3) (C := RX6) (T := TX6) (N := 15) hx hb htg inX6 hown hK hP 0 rfl rfl 4 (by decide) (htg _ fl_X6_133) (fun _ h9 => h9) rfl dX6_remainder_16 ?_
        refine lv_iload_n hx hb dX6_remainder_19 rfl (lv_at hl 0 rfl) ?_
        refine va_iald' (v := (bt i.toNatClampNeg)) hx hb hK hP 3 0 rfl rfl (hi.1.lt hi.2 (by have := hz.2; omega)) rfl dX6_remainder_20 ?_
        refine lv_iadd hx hb dX6_remainder_21 ?_
        refine lv_istore_n (lv' := [(1, .int (((2 : Int32) * v) + (bt i.toNatClampNeg))), (2, .int i), (0, .ref h0)]) hx hb dX6_remainder_22 rfl hl (by decide) rfl (fun ls hl => ?_)
        refine lv_iload_n hx hb dX6_remainder_23 rfl (lv_at hl 0 rfl) ?_
        refine lv_ldc (v := 16777216) hx hb hown (htg _ ct_X6_146) dX6_remainder_24 ?_
        refine W.join (nL := 3) (lv := [(1, .int (if (((2 : Int32) * v) + (bt i.toNatClampNeg)) < (16777216 : Int32) then (((2 : Int32) * v) + (bt i.toNatClampNeg)) else ((((2 : Int32) * v) + (bt i.toNatClampNeg)) ^^^ (33551369 : Int32)))), (2, .int i), (0, .ref h0)]) (pc2 := 34) (st2 := []) (fun ls hl => ?_) (fun J => ?_)
        · refine lv_iinc (v := (i + (1 : Int32))) (lv' := [(2, .int (i + (1 : Int32))), (1, .int (if (((2 : Int32) * v) + (bt i.toNatClampNeg)) < (16777216 : Int32) then (((2 : Int32) * v) + (bt i.toNatClampNeg)) else ((((2 : Int32) * v) + (bt i.toNatClampNeg)) ^^^ (33551369 : Int32)))), (0, .ref h0)]) hx hb dX6_remainder_34 hl (k := 1) rfl rfl (by decide) rfl (fun ls hl => ?_)
          refine lv_goto (tgt := 4) hx hb dX6_remainder_37 (by decide) ?_
          exact ih (i + (1 : Int32)) (if (((2 : Int32) * v) + (bt i.toNatClampNeg)) < (16777216 : Int32) then (((2 : Int32) * v) + (bt i.toNatClampNeg)) else ((((2 : Int32) * v) + (bt i.toNatClampNeg)) ^^^ (33551369 : Int32))) ⟨hi.1.nx, by have e1 : (i + 1).toInt = i.toInt + 1 := (by have := hi.1.2; have := hi.1.1; rw [fb_addI] <;> rw [i1] <;> omega); have := hi.2; omega⟩ ls (lv_sub hl [0, 1, 2] rfl) (by rw [← hE]; simp only [f_X6_remainder_lp])
        · refine lv_icmp_lt (tgt := 34) hx hb dX6_remainder_26 (by decide) (fun c_3 => ?_) (fun c_3 => ?_)
          · exact J ls (lv_eq (lv_sub (l' := [(1, .int (((2 : Int32) * v) + (bt i.toNatClampNeg))), (2, .int i), (0, .ref h0)]) hl [0, 1, 2] rfl) (by first | simp only [if_pos c_3] | rfl))
          · refine lv_iload_n hx hb dX6_remainder_29 rfl (lv_at hl 0 rfl) ?_
            refine lv_ldc (v := 33551369) hx hb hown (htg _ ct_X6_147) dX6_remainder_30 ?_
            refine lv_ixor hx hb dX6_remainder_32 ?_
            refine lv_istore_n (lv' := [(1, .int ((((2 : Int32) * v) + (bt i.toNatClampNeg)) ^^^ (33551369 : Int32))), (2, .int i), (0, .ref h0)]) hx hb dX6_remainder_33 rfl hl (by decide) rfl (fun ls hl => ?_)
            exact J ls (lv_eq (lv_sub (l' := [(1, .int ((((2 : Int32) * v) + (bt i.toNatClampNeg)) ^^^ (33551369 : Int32))), (2, .int i), (0, .ref h0)]) hl [0, 1, 2] rfl) (by first | simp only [if_neg c_3] | rfl))
  exact Lp sz.toNatClampNeg (0 : Int32) (0 : Int32) ⟨⟨by have := clamp hz.1; rw [i0]; omega, by decide, by have := hz.2; omega⟩, by decide⟩ ls (lv_sub hl [0, 1, 2] rfl) (by simp only [f_X6_remainder])

theorem frame_sz (bt : Nat → Int32) (a0 a1 a2 a3 : Int32) : f_X6_frame_sz bt a0 a1 a2 a3 = 56 ∨ f_X6_frame_sz bt a0 a1 a2 a3 = 112 := by
  unfold f_X6_frame_sz
  split
  · first | exact Or.inl rfl | exact Or.inr rfl
  · first | exact Or.inl rfl | exact Or.inr rfl
theorem sz_rng {x : Int32} (h : x = 56 ∨ x = 112) : 0 ≤ x.toInt ∧ x.toInt ≤ 112 := by rcases h with rfl | rfl <;> decide
theorem seal_st {x : Int32} (h : x = 56 ∨ x = 112) : Up 24 (x - 24) x ∧ 0 ≤ (x - 24).toInt := by rcases h with rfl | rfl <;> exact ⟨⟨by decide, by decide, by decide⟩, by decide⟩
def f_X6_syndrome (bt : Nat → Int32) (a0 : Int32) (a1 : Int32) (a2 : Int32) (a3 : Int32) : Int32 := (f_X6_remainder (f_X6_frame_bt bt a0 a1 a2 a3) (f_X6_frame_sz bt a0 a1 a2 a3))
def f_X6_syndrome_bt (bt : Nat → Int32) (a0 : Int32) (a1 : Int32) (a2 : Int32) (a3 : Int32) : Nat → Int32 := (f_X6_frame_bt bt a0 a1 a2 a3)
def f_X6_syndrome_sz (bt : Nat → Int32) (a0 : Int32) (a1 : Int32) (a2 : Int32) (a3 : Int32) : Int32 := (f_X6_frame_sz bt a0 a1 a2 a3)
set_option maxHeartbeats 4000000 in
set_option maxRecDepth 100000 in
theorem c_X6_syndrome (l : Launch) (D : va_G) (cI cJ cO : ClassId) (h0 : Nat) (h1 : Nat) (h2 : Nat) (mn : Int32) (lt : Int32) (h3 : Nat) (sz : Int32) (h4 : Nat) (hsz : Int32) (hsy : Int32) (hrt : Int32) (hpl : Int32) (ola : Int32) (olo : Int32) (lat : Int32) (lon : Int32) (bd : Nat → Int64) (rw : Nat → Int32) (bt : Nat → Int32) (hd : Nat → Int32) (a0 : Int32) (a1 : Int32) (a2 : Int32) (a3 : Int32) : Wr l yX6_syndrome cX6_syndrome 5 (some .int) 1 26 [.ref h0, .int a0, .int a1, .int a2, .int a3] (fun U => B1 D cI cJ cO [(h0, .inr (4, [.ref h1, .ref h2, .int mn, .int lt, .ref h3, .int sz, .ref h4, .int hsz, .int hsy, .int hrt, .int hpl, .int ola, .int olo, .int lat, .int lon])), (h1, .inl (cJ, 58, .inr (.inl bd))), (h2, .inl (cI, 800, .inl rw)), (h3, .inl (cI, 112, .inl bt)), (h4, .inl (cI, 112, .inl hd))] U ∧ True) D (some (.int (f_X6_syndrome bt a0 a1 a2 a3))) [(h0, .inr (4, [.ref h1, .ref h2, .int mn, .int lt, .ref h3, .int sz, .ref h4, .int hsz, .int hsy, .int hrt, .int hpl, .int ola, .int olo, .int lat, .int lon])), (h1, .inl (cJ, 58, .inr (.inl bd))), (h2, .inl (cI, 800, .inl rw)), (h3, .inl (cI, 112, .inl bt)), (h4, .inl (cI, 112, .inl hd))] [(h0, .inr (4, [.ref h1, .ref h2, .int mn, .int lt, .ref h3, .int (f_X6_syndrome_sz bt a0 a1 a2 a3), .ref h4, .int hsz, .int hsy, .int hrt, .int hpl, .int ola, .int olo, .int lat, .int lon])), (h1, .inl (cJ, 58, .inr (.inl bd))), (h2, .inl (cI, 800, .inl rw)), (h3, .inl (cI, 112, .inl (f_X6_syndrome_bt bt a0 a1 a2 a3))), (h4, .inl (cI, 112, .inl hd))] := by
  refine Wr.of (by decide +kernel) (Nat.le_of_ble_eq_true rfl) ?_
  intro p e s m args below meth c hx hb hr hml hown htg hlocks A hA hP hK hD hX hS ls hl
  have hown : s.vm.findClass RX6 = some m.cls := hown
  have hl : lv_has ls 5 [(0, .ref h0), (1, .int a0), (2, .int a1), (3, .int a2), (4, .int a3)] := hl
  refine lv_aload_n hx hb dX6_syndrome_0 rfl (lv_at hl 0 rfl) ?_
  refine lv_iload_n hx hb dX6_syndrome_1 rfl (lv_at hl 1 rfl) ?_
  refine lv_iload_n hx hb dX6_syndrome_2 rfl (lv_at hl 2 rfl) ?_
  refine lv_iload_n hx hb dX6_syndrome_3 rfl (lv_at hl 3 rfl) ?_
  refine lv_iload hx hb dX6_syndrome_4 (lv_at hl 4 rfl) ?_
  refine wV (As := [.int a0, .int a1, .int a2, .int a3]) (rest := []) hx hb hml hown htg (c_X6_frame l D cI cJ cO h0 h1 h2 mn lt h3 sz h4 hsz hsy hrt hpl ola olo lat lon bd rw bt hd a0 a1 a2 a3) (Blind.and Blind.b1 Blind.tt) ml_X6_148 im_X6_frame se_X6_frame ini_X6 co_X6_frame rfl dn_X6_frame rfl (va_recv hK hP (ci := 4) (q0 := 0) rfl rfl) (fun U hU hW => ⟨⟨by rw [hU]; exact hP, va_K.moved hW.alike hK, (hD).weaken (fun _ _ _ _ => trivial)⟩, trivial⟩) hl.1 rfl (Nat.le_of_ble_eq_true rfl) ⟨Nat.le_of_ble_eq_true rfl, Nat.le_of_ble_eq_true rfl⟩ ⟨Nat.le_of_ble_eq_true rfl, Nat.le_of_ble_eq_true rfl⟩ dX6_syndrome_6 hP hD hS [0, 1, 2, 3, 4] rfl (Eq.trans (b := [h0, h1, h2, h3, h4]) rfl rfl) (fun H locs hP hD hS => ?_)
  have hP : va_P D vwCl [(h0, .inr (4, [.ref h1, .ref h2, .int mn, .int lt, .ref h3, .int (f_X6_frame_sz bt a0 a1 a2 a3), .ref h4, .int hsz, .int hsy, .int hrt, .int hpl, .int ola, .int olo, .int lat, .int lon])), (h1, .inl (cJ, 58, .inr (.inl bd))), (h2, .inl (cI, 800, .inl rw)), (h3, .inl (cI, 112, .inl (f_X6_frame_bt bt a0 a1 a2 a3))), (h4, .inl (cI, 112, .inl hd))] H := hP
  have hD : va_D A [(h0, .inr (4, [.ref h1, .ref h2, .int mn, .int lt, .ref h3, .int (f_X6_frame_sz bt a0 a1 a2 a3), .ref h4, .int hsz, .int hsy, .int hrt, .int hpl, .int ola, .int olo, .int lat, .int lon])), (h1, .inl (cJ, 58, .inr (.inl bd))), (h2, .inl (cI, 800, .inl rw)), (h3, .inl (cI, 112, .inl (f_X6_frame_bt bt a0 a1 a2 a3))), (h4, .inl (cI, 112, .inl hd))] := hD
  refine W.eq (g2 := F0 m 9 ls []) rfl ?_
  refine lv_aload_n hx hb dX6_syndrome_9 rfl (lv_at hl 0 rfl) ?_
  refine rV (As := []) (rest := []) hx hb hml hown htg (c_X6_remainder l D cI cJ cO h0 h1 h2 mn lt h3 (f_X6_frame_sz bt a0 a1 a2 a3) h4 hsz hsy hrt hpl ola olo lat lon bd rw (f_X6_frame_bt bt a0 a1 a2 a3) hd (sz_rng (frame_sz bt a0 a1 a2 a3))) Blind.b0 ml_X6_152 im_X6_remainder se_X6_remainder ini_X6 co_X6_remainder rfl dn_X6_remainder rfl (va_recv hK hP (ci := 4) (q0 := 0) rfl rfl) (fun U hU hW => ⟨by rw [hU]; exact hP, va_K.moved hW.alike hK⟩) hl.1 rfl (Nat.le_of_ble_eq_true rfl) ⟨Nat.le_of_ble_eq_true rfl, Nat.le_of_ble_eq_true rfl⟩ ⟨Nat.le_of_ble_eq_true rfl, Nat.le_of_ble_eq_true rfl⟩ dX6_syndrome_10 ?_
  exact wr_i hx hb hr hlocks hA hS (hP.eq (by simp only [f_X6_syndrome_bt, f_X6_syndrome_sz])) (by simp only [f_X6_syndrome]) dX6_syndrome_13

def f_X6_seal_sl : Nat → (Int32) → (Nat → Int32) → Nat → Int32
  | 0, i, g => g
  | n + 1, i, g => (f_X6_seal_sl n (i + (1 : Int32)) (upd g i.toNatClampNeg (0 : Int32)))
def f_X6_seal (bt : Nat → Int32) (a0 : Int32) (a1 : Int32) (a2 : Int32) (a3 : Int32) : Int32 := (f_X6_remainder (f_X6_seal_sl 24 ((f_X6_frame_sz bt a0 a1 a2 a3) - (24 : Int32)) (f_X6_frame_bt bt a0 a1 a2 a3)) (f_X6_frame_sz bt a0 a1 a2 a3))
def f_X6_seal_bt (bt : Nat → Int32) (a0 : Int32) (a1 : Int32) (a2 : Int32) (a3 : Int32) : Nat → Int32 := (f_X6_seal_sl 24 ((f_X6_frame_sz bt a0 a1 a2 a3) - (24 : Int32)) (f_X6_frame_bt bt a0 a1 a2 a3))
def f_X6_seal_sz (bt : Nat → Int32) (a0 : Int32) (a1 : Int32) (a2 : Int32) (a3 : Int32) : Int32 := (f_X6_frame_sz bt a0 a1 a2 a3)
set_option maxHeartbeats 4000000 in
set_option maxRecDepth 100000 in
theorem c_X6_seal (l : Launch) (D : va_G) (cI cJ cO : ClassId) (h0 : Nat) (h1 : Nat) (h2 : Nat) (mn : Int32) (lt : Int32) (h3 : Nat) (sz : Int32) (h4 : Nat) (hsz : Int32) (hsy : Int32) (hrt : Int32) (hpl : Int32) (ola : Int32) (olo : Int32) (lat : Int32) (lon : Int32) (bd : Nat → Int64) (rw : Nat → Int32) (bt : Nat → Int32) (hd : Nat → Int32) (a0 : Int32) (a1 : Int32) (a2 : Int32) (a3 : Int32) : Wr l yX6_seal cX6_seal 6 (some .int) 1 26 [.ref h0, .int a0, .int a1, .int a2, .int a3] (fun U => B1 D cI cJ cO [(h0, .inr (4, [.ref h1, .ref h2, .int mn, .int lt, .ref h3, .int sz, .ref h4, .int hsz, .int hsy, .int hrt, .int hpl, .int ola, .int olo, .int lat, .int lon])), (h1, .inl (cJ, 58, .inr (.inl bd))), (h2, .inl (cI, 800, .inl rw)), (h3, .inl (cI, 112, .inl bt)), (h4, .inl (cI, 112, .inl hd))] U ∧ True) D (some (.int (f_X6_seal bt a0 a1 a2 a3))) [(h0, .inr (4, [.ref h1, .ref h2, .int mn, .int lt, .ref h3, .int sz, .ref h4, .int hsz, .int hsy, .int hrt, .int hpl, .int ola, .int olo, .int lat, .int lon])), (h1, .inl (cJ, 58, .inr (.inl bd))), (h2, .inl (cI, 800, .inl rw)), (h3, .inl (cI, 112, .inl bt)), (h4, .inl (cI, 112, .inl hd))] [(h0, .inr (4, [.ref h1, .ref h2, .int mn, .int lt, .ref h3, .int (f_X6_seal_sz bt a0 a1 a2 a3), .ref h4, .int hsz, .int hsy, .int hrt, .int hpl, .int ola, .int olo, .int lat, .int lon])), (h1, .inl (cJ, 58, .inr (.inl bd))), (h2, .inl (cI, 800, .inl rw)), (h3, .inl (cI, 112, .inl (f_X6_seal_bt bt a0 a1 a2 a3))), (h4, .inl (cI, 112, .inl hd))] := by
  refine Wr.of (by decide +kernel) (Nat.le_of_ble_eq_true rfl) ?_
  intro p e s m args below meth c hx hb hr hml hown htg hlocks A hA hP hK hD hX hS ls hl
  have hown : s.vm.findClass RX6 = some m.cls := hown
  have hl : lv_has ls 6 [(0, .ref h0), (1, .int a0), (2, .int a1), (3, .int a2), (4, .int a3)] := hl
  refine lv_aload_n hx hb dX6_seal_0 rfl (lv_at hl 0 rfl) ?_
  refine lv_iload_n hx hb dX6_seal_1 rfl (lv_at hl 1 rfl) ?_
  refine lv_iload_n hx hb dX6_seal_2 rfl (lv_at hl 2 rfl) ?_
  refine lv_iload_n hx hb dX6_seal_3 rfl (lv_at hl 3 rfl) ?_
  refine lv_iload hx hb dX6_seal_4 (lv_at hl 4 rfl) ?_
  refine wV (As := [.int a0, .int a1, .int a2, .int a3]) (rest := []) hx hb hml hown htg (c_X6_frame l D cI cJ cO h0 h1 h2 mn lt h3 sz h4 hsz hsy hrt hpl ola olo lat lon bd rw bt hd a0 a1 a2 a3) (Blind.and Blind.b1 Blind.tt) ml_X6_148 im_X6_frame se_X6_frame ini_X6 co_X6_frame rfl dn_X6_frame rfl (va_recv hK hP (ci := 4) (q0 := 0) rfl rfl) (fun U hU hW => ⟨⟨by rw [hU]; exact hP, va_K.moved hW.alike hK, (hD).weaken (fun _ _ _ _ => trivial)⟩, trivial⟩) hl.1 rfl (Nat.le_of_ble_eq_true rfl) ⟨Nat.le_of_ble_eq_true rfl, Nat.le_of_ble_eq_true rfl⟩ ⟨Nat.le_of_ble_eq_true rfl, Nat.le_of_ble_eq_true rfl⟩ dX6_seal_6 hP hD hS [0, 1, 2, 3, 4] rfl (Eq.trans (b := [h0, h1, h2, h3, h4]) rfl rfl) (fun H locs hP hD hS => ?_)
  have hP : va_P D vwCl [(h0, .inr (4, [.ref h1, .ref h2, .int mn, .int lt, .ref h3, .int (f_X6_frame_sz bt a0 a1 a2 a3), .ref h4, .int hsz, .int hsy, .int hrt, .int hpl, .int ola, .int olo, .int lat, .int lon])), (h1, .inl (cJ, 58, .inr (.inl bd))), (h2, .inl (cI, 800, .inl rw)), (h3, .inl (cI, 112, .inl (f_X6_frame_bt bt a0 a1 a2 a3))), (h4, .inl (cI, 112, .inl hd))] H := hP
  have hD : va_D A [(h0, .inr (4, [.ref h1, .ref h2, .int mn, .int lt, .ref h3, .int (f_X6_frame_sz bt a0 a1 a2 a3), .ref h4, .int hsz, .int hsy, .int hrt, .int hpl, .int ola, .int olo, .int lat, .int lon])), (h1, .inl (cJ, 58, .inr (.inl bd))), (h2, .inl (cI, 800, .inl rw)), (h3, .inl (cI, 112, .inl (f_X6_frame_bt bt a0 a1 a2 a3))), (h4, .inl (cI, 112, .inl hd))] := hD
  refine W.eq (g2 := F0 m 9 ls []) rfl ?_
  refine lv_aload_n hx hb dX6_seal_9 rfl (lv_at hl 0 rfl) ?_
  refine va_get (D := D) (ci := 4) (v := .int (f_X6_frame_sz bt a0 a1 a2 a3)) (C := RX6) (T := TX6) (N := 15) hx hb htg inX6 hown hK hP 0 rfl rfl 5 (by decide) (htg _ fl_X6_143) (fun _ h9 => h9) rfl dX6_seal_10 ?_
  refine lv_bipush (v := 24) hx hb dX6_seal_13 (by decide) ?_
  refine lv_isub hx hb dX6_seal_15 ?_
  refine lv_istore (lv' := [(5, .int ((f_X6_frame_sz bt a0 a1 a2 a3) - (24 : Int32))), (0, .ref h0), (1, .int a0), (2, .int a1), (3, .int a2), (4, .int a3)]) hx hb dX6_seal_16 hl (by decide) rfl (fun ls hl => ?_)
  have K : ∀ ls : Array Slot, lv_has ls 6 [(0, .ref h0), (1, .int a0), (2, .int a1), (3, .int a2), (4, .int a3)] → ∀ (H : Heap) (locs : List Loc), va_P D vwCl [(h0, .inr (4, [.ref h1, .ref h2, .int mn, .int lt, .ref h3, .int (f_X6_frame_sz bt a0 a1 a2 a3), .ref h4, .int hsz, .int hsy, .int hrt, .int hpl, .int ola, .int olo, .int lat, .int lon])), (h1, .inl (cJ, 58, .inr (.inl bd))), (h2, .inl (cI, 800, .inl rw)), (h3, .inl (cI, 112, .inl (f_X6_seal_sl 24 ((f_X6_frame_sz bt a0 a1 a2 a3) - (24 : Int32)) (f_X6_frame_bt bt a0 a1 a2 a3)))), (h4, .inl (cI, 112, .inl hd))] H → va_D A [(h0, .inr (4, [.ref h1, .ref h2, .int mn, .int lt, .ref h3, .int (f_X6_frame_sz bt a0 a1 a2 a3), .ref h4, .int hsz, .int hsy, .int hrt, .int hpl, .int ola, .int olo, .int lat, .int lon])), (h1, .inl (cJ, 58, .inr (.inl bd))), (h2, .inl (cI, 800, .inl rw)), (h3, .inl (cI, 112, .inl (f_X6_seal_sl 24 ((f_X6_frame_sz bt a0 a1 a2 a3) - (24 : Int32)) (f_X6_frame_bt bt a0 a1 a2 a3)))), (h4, .inl (cI, 112, .inl hd))] → va_S A s.heap H locs → W p l e { frames := 1, cells := 0, slots := 0, locals := 26 } s m args below meth c H locs 0 0 (MQ below (wrQ D (some (.int (f_X6_seal bt a0 a1 a2 a3))) [(h0, .inr (4, [.ref h1, .ref h2, .int mn, .int lt, .ref h3, .int sz, .ref h4, .int hsz, .int hsy, .int hrt, .int hpl, .int ola, .int olo, .int lat, .int lon])), (h1, .inl (cJ, 58, .inr (.inl bd))), (h2, .inl (cI, 800, .inl rw)), (h3, .inl (cI, 112, .inl bt)), (h4, .inl (cI, 112, .inl hd))] [(h0, .inr (4, [.ref h1, .ref h2, .int mn, .int lt, .ref h3, .int (f_X6_seal_sz bt a0 a1 a2 a3), .ref h4, .int hsz, .int hsy, .int hrt, .int hpl, .int ola, .int olo, .int lat, .int lon])), (h1, .inl (cJ, 58, .inr (.inl bd))), (h2, .inl (cI, 800, .inl rw)), (h3, .inl (cI, 112, .inl (f_X6_seal_bt bt a0 a1 a2 a3))), (h4, .inl (cI, 112, .inl hd))]) args s 0 0 (inW [(h0, .inr (4, [.ref h1, .ref h2, .int mn, .int lt, .ref h3, .int sz, .ref h4, .int hsz, .int hsy, .int hrt, .int hpl, .int ola, .int olo, .int lat, .int lon])), (h1, .inl (cJ, 58, .inr (.inl bd))), (h2, .inl (cI, 800, .inl rw)), (h3, .inl (cI, 112, .inl bt)), (h4, .inl (cI, 112, .inl hd))])) (F0 m 41 ls []) := by
    intro ls hl H locs hP hD hS
    refine lv_aload_n hx hb dX6_seal_41 rfl (lv_at hl 0 rfl) ?_
    refine rV (As := []) (rest := []) hx hb hml hown htg (c_X6_remainder l D cI cJ cO h0 h1 h2 mn lt h3 (f_X6_frame_sz bt a0 a1 a2 a3) h4 hsz hsy hrt hpl ola olo lat lon bd rw (f_X6_seal_sl 24 ((f_X6_frame_sz bt a0 a1 a2 a3) - (24 : Int32)) (f_X6_frame_bt bt a0 a1 a2 a3)) hd (sz_rng (frame_sz bt a0 a1 a2 a3))) Blind.b0 ml_X6_152 im_X6_remainder se_X6_remainder ini_X6 co_X6_remainder rfl dn_X6_remainder rfl (va_recv hK hP (ci := 4) (q0 := 0) rfl rfl) (fun U hU hW => ⟨by rw [hU]; exact hP, va_K.moved hW.alike hK⟩) hl.1 rfl (Nat.le_of_ble_eq_true rfl) ⟨Nat.le_of_ble_eq_true rfl, Nat.le_of_ble_eq_true rfl⟩ ⟨Nat.le_of_ble_eq_true rfl, Nat.le_of_ble_eq_true rfl⟩ dX6_seal_42 ?_
    exact wr_i hx hb hr hlocks hA hS (hP.eq (by simp only [f_X6_seal_bt, f_X6_seal_sz])) (by simp only [f_X6_seal]) dX6_seal_45
  have Lp : ∀ (n : Nat) (i : Int32) (g : Nat → Int32), Up n i (f_X6_frame_sz bt a0 a1 a2 a3) ∧ 0 ≤ i.toInt → ∀ ls : Array Slot, lv_has ls 6 [(5, .int i), (0, .ref h0), (1, .int a0), (2, .int a1), (3, .int a2), (4, .int a3)] → (f_X6_seal_sl n i g) = (f_X6_seal_sl 24 ((f_X6_frame_sz bt a0 a1 a2 a3) - (24 : Int32)) (f_X6_frame_bt bt a0 a1 a2 a3)) → ∀ (H : Heap) (locs : List Loc), va_P D vwCl [(h0, .inr (4, [.ref h1, .ref h2, .int mn, .int lt, .ref h3, .int (f_X6_frame_sz bt a0 a1 a2 a3), .ref h4, .int hsz, .int hsy, .int hrt, .int hpl, .int ola, .int olo, .int lat, .int lon])), (h1, .inl (cJ, 58, .inr (.inl bd))), (h2, .inl (cI, 800, .inl rw)), (h3, .inl (cI, 112, .inl g)), (h4, .inl (cI, 112, .inl hd))] H → va_D A [(h0, .inr (4, [.ref h1, .ref h2, .int mn, .int lt, .ref h3, .int (f_X6_frame_sz bt a0 a1 a2 a3), .ref h4, .int hsz, .int hsy, .int hrt, .int hpl, .int ola, .int olo, .int lat, .int lon])), (h1, .inl (cJ, 58, .inr (.inl bd))), (h2, .inl (cI, 800, .inl rw)), (h3, .inl (cI, 112, .inl g)), (h4, .inl (cI, 112, .inl hd))] → va_S A s.heap H locs → W p l e { frames := 1, cells := 0, slots := 0, locals := 26 } s m args below meth c H locs 0 0 (MQ below (wrQ D (some (.int (f_X6_seal bt a0 a1 a2 a3))) [(h0, .inr (4, [.ref h1, .ref h2, .int mn, .int lt, .ref h3, .int sz, .ref h4, .int hsz, .int hsy, .int hrt, .int hpl, .int ola, .int olo, .int lat, .int lon])), (h1, .inl (cJ, 58, .inr (.inl bd))), (h2, .inl (cI, 800, .inl rw)), (h3, .inl (cI, 112, .inl bt)), (h4, .inl (cI, 112, .inl hd))] [(h0, .inr (4, [.ref h1, .ref h2, .int mn, .int lt, .ref h3, .int (f_X6_seal_sz bt a0 a1 a2 a3), .ref h4, .int hsz, .int hsy, .int hrt, .int hpl, .int ola, .int olo, .int lat, .int lon])), (h1, .inl (cJ, 58, .inr (.inl bd))), (h2, .inl (cI, 800, .inl rw)), (h3, .inl (cI, 112, .inl (f_X6_seal_bt bt a0 a1 a2 a3))), (h4, .inl (cI, 112, .inl hd))]) args s 0 0 (inW [(h0, .inr (4, [.ref h1, .ref h2, .int mn, .int lt, .ref h3, .int sz, .ref h4, .int hsz, .int hsy, .int hrt, .int hpl, .int ola, .int olo, .int lat, .int lon])), (h1, .inl (cJ, 58, .inr (.inl bd))), (h2, .inl (cI, 800, .inl rw)), (h3, .inl (cI, 112, .inl bt)), (h4, .inl (cI, 112, .inl hd))])) (F0 m 18 ls []) := by
    intro n
    induction n with
    | zero =>
      intro i g hi ls hl hG H locs hP hD hS
      refine lv_iload hx hb dX6_seal_18 (lv_at hl 0 rfl) ?_
      refine lv_aload_n hx hb dX6_seal_20 rfl (lv_at hl 1 rfl) ?_
      refine va_get (D := D) (ci := 4) (v := .int (f_X6_frame_sz bt a0 a1 a2 a3)) (C := RX6) (T := TX6) (N := 15) hx hb htg inX6 hown hK hP 0 rfl rfl 5 (by decide) (htg _ fl_X6_143) (fun _ h9 => h9) rfl dX6_seal_21 ?_
      refine lv_icmp_ge (tgt := 41) hx hb dX6_seal_24 (by decide) (fun c_1 => ?_) (fun c_1 => ?_)
      · exact K ls (lv_sub hl [1, 2, 3, 4, 5] rfl) H locs (hP.eq (by rw [← hG]; simp only [f_X6_seal_sl])) (by rw [← hG]; simp only [f_X6_seal_sl]; exact hD) hS
      · exact absurd hi.1.z c_1
    | succ n ih =>
      intro i g hi ls hl hG H locs hP hD hS
      refine lv_iload hx hb dX6_seal_18 (lv_at hl 0 rfl) ?_
      refine lv_aload_n hx hb dX6_seal_20 rfl (lv_at hl 1 rfl) ?_
      refine va_get (D := D) (ci := 4) (v := .int (f_X6_frame_sz bt a0 a1 a2 a3)) (C := RX6) (T := TX6) (N := 15) hx hb htg inX6 hown hK hP 0 rfl rfl 5 (by decide) (htg _ fl_X6_143) (fun _ h9 => h9) rfl dX6_seal_21 ?_
      refine lv_icmp_ge (tgt := 41) hx hb dX6_seal_24 (by decide) (fun c_2 => ?_) (fun c_2 => ?_)
      · exact absurd c_2 hi.1.s
      · refine lv_aload_n hx hb dX6_seal_27 rfl (lv_at hl 1 rfl) ?_
        refine va_get (D := D) (ci := 4) (v := .ref h3) (C := RX6) (T := TX6) (N := 15) hx hb htg inX6 hown hK hP 0 rfl rfl 4 (by decide) (htg _ fl_X6_133) (fun _ h9 => h9) rfl dX6_seal_28 ?_
        refine lv_iload hx hb dX6_seal_31 (lv_at hl 0 rfl) ?_
        refine lv_iconst (v := 0) hx hb dX6_seal_33 (by decide) ?_
        refine va_iast' (j := i.toNatClampNeg) hx hb hK hP hD hS 3 0 rfl rfl (hi.1.lt hi.2 (by have := (sz_rng (frame_sz bt a0 a1 a2 a3)).2; omega)) rfl dX6_seal_34 (fun H locs hP hD hS => ?_)
        have hP : va_P D vwCl [(h0, .inr (4, [.ref h1, .ref h2, .int mn, .int lt, .ref h3, .int (f_X6_frame_sz bt a0 a1 a2 a3), .ref h4, .int hsz, .int hsy, .int hrt, .int hpl, .int ola, .int olo, .int lat, .int lon])), (h1, .inl (cJ, 58, .inr (.inl bd))), (h2, .inl (cI, 800, .inl rw)), (h3, .inl (cI, 112, .inl (upd g i.toNatClampNeg (0 : Int32)))), (h4, .inl (cI, 112, .inl hd))] H := hP
        have hD : va_D A [(h0, .inr (4, [.ref h1, .ref h2, .int mn, .int lt, .ref h3, .int (f_X6_frame_sz bt a0 a1 a2 a3), .ref h4, .int hsz, .int hsy, .int hrt, .int hpl, .int ola, .int olo, .int lat, .int lon])), (h1, .inl (cJ, 58, .inr (.inl bd))), (h2, .inl (cI, 800, .inl rw)), (h3, .inl (cI, 112, .inl (upd g i.toNatClampNeg (0 : Int32)))), (h4, .inl (cI, 112, .inl hd))] := hD
        refine lv_iinc (v := (i + (1 : Int32))) (lv' := [(5, .int (i + (1 : Int32))), (0, .ref h0), (1, .int a0), (2, .int a1), (3, .int a2), (4, .int a3)]) hx hb dX6_seal_35 hl (k := 0) rfl rfl (by decide) rfl (fun ls hl => ?_)
        refine lv_goto (tgt := 18) hx hb dX6_seal_38 (by decide) ?_
        exact ih (i + (1 : Int32)) (upd g i.toNatClampNeg (0 : Int32)) ⟨hi.1.nx, by have e1 : (i + 1).toInt = i.toInt + 1 := (by have := hi.1.2; have := hi.1.1; rw [fb_addI] <;> rw [i1] <;> omega); have := hi.2; omega⟩ ls (lv_sub hl [0, 1, 2, 3, 4, 5] rfl) (by rw [← hG]; simp only [f_X6_seal_sl]) H locs hP hD hS
  exact Lp 24 ((f_X6_frame_sz bt a0 a1 a2 a3) - (24 : Int32)) (f_X6_frame_bt bt a0 a1 a2 a3) (seal_st (frame_sz bt a0 a1 a2 a3)) ls (lv_sub hl [0, 1, 2, 3, 4, 5] rfl) rfl H locs hP hD hS

def f_X6_toTurn_lp (sz : Int32) : Nat → (Int32) → (Int32) → (Nat → Int32) → Int32
  | 0, k, r, g => r
  | n + 1, k, r, g => (if 0 ≤ r then r else (f_X6_toTurn_lp sz n (k + (1 : Int32)) (if (f_X6_remainder (upd g (k - (1 : Int32)).toNatClampNeg ((1 : Int32) - (g (k - (1 : Int32)).toNatClampNeg))) sz) = 0 then k else r) (upd (upd g (k - (1 : Int32)).toNatClampNeg ((1 : Int32) - (g (k - (1 : Int32)).toNatClampNeg))) (k - (1 : Int32)).toNatClampNeg ((1 : Int32) - ((upd g (k - (1 : Int32)).toNatClampNeg ((1 : Int32) - (g (k - (1 : Int32)).toNatClampNeg))) (k - (1 : Int32)).toNatClampNeg)))))
def f_X6_toTurn_lp_bt (sz : Int32) : Nat → (Int32) → (Int32) → (Nat → Int32) → Nat → Int32
  | 0, k, r, g => g
  | n + 1, k, r, g => (if 0 ≤ r then g else (f_X6_toTurn_lp_bt sz n (k + (1 : Int32)) (if (f_X6_remainder (upd g (k - (1 : Int32)).toNatClampNeg ((1 : Int32) - (g (k - (1 : Int32)).toNatClampNeg))) sz) = 0 then k else r) (upd (upd g (k - (1 : Int32)).toNatClampNeg ((1 : Int32) - (g (k - (1 : Int32)).toNatClampNeg))) (k - (1 : Int32)).toNatClampNeg ((1 : Int32) - ((upd g (k - (1 : Int32)).toNatClampNeg ((1 : Int32) - (g (k - (1 : Int32)).toNatClampNeg))) (k - (1 : Int32)).toNatClampNeg)))))
def f_X6_toTurn (bt : Nat → Int32) (sz : Int32) : Int32 := (f_X6_toTurn_lp sz (sz.toInt - 5).toNat (6 : Int32) (-1 : Int32) bt)
def f_X6_toTurn_bt (bt : Nat → Int32) (sz : Int32) : Nat → Int32 := (f_X6_toTurn_lp_bt sz (sz.toInt - 5).toNat (6 : Int32) (-1 : Int32) bt)
set_option maxHeartbeats 4000000 in
set_option maxRecDepth 100000 in
theorem c_X6_toTurn (l : Launch) (D : va_G) (cI cJ cO : ClassId) (h0 : Nat) (h1 : Nat) (h2 : Nat) (mn : Int32) (lt : Int32) (h3 : Nat) (sz : Int32) (h4 : Nat) (hsz : Int32) (hsy : Int32) (hrt : Int32) (hpl : Int32) (ola : Int32) (olo : Int32) (lat : Int32) (lon : Int32) (bd : Nat → Int64) (rw : Nat → Int32) (bt : Nat → Int32) (hd : Nat → Int32) (hz : 0 ≤ sz.toInt ∧ sz.toInt ≤ 112) : Wr l yX6_toTurn cX6_toTurn 3 (some .int) 1 22 [.ref h0] (fun U => B1 D cI cJ cO [(h0, .inr (4, [.ref h1, .ref h2, .int mn, .int lt, .ref h3, .int sz, .ref h4, .int hsz, .int hsy, .int hrt, .int hpl, .int ola, .int olo, .int lat, .int lon])), (h1, .inl (cJ, 58, .inr (.inl bd))), (h2, .inl (cI, 800, .inl rw)), (h3, .inl (cI, 112, .inl bt)), (h4, .inl (cI, 112, .inl hd))] U ∧ True) D (some (.int (f_X6_toTurn bt sz))) [(h0, .inr (4, [.ref h1, .ref h2, .int mn, .int lt, .ref h3, .int sz, .ref h4, .int hsz, .int hsy, .int hrt, .int hpl, .int ola, .int olo, .int lat, .int lon])), (h1, .inl (cJ, 58, .inr (.inl bd))), (h2, .inl (cI, 800, .inl rw)), (h3, .inl (cI, 112, .inl bt)), (h4, .inl (cI, 112, .inl hd))] [(h0, .inr (4, [.ref h1, .ref h2, .int mn, .int lt, .ref h3, .int sz, .ref h4, .int hsz, .int hsy, .int hrt, .int hpl, .int ola, .int olo, .int lat, .int lon])), (h1, .inl (cJ, 58, .inr (.inl bd))), (h2, .inl (cI, 800, .inl rw)), (h3, .inl (cI, 112, .inl (f_X6_toTurn_bt bt sz))), (h4, .inl (cI, 112, .inl hd))] := by
  refine Wr.of (by decide +kernel) (Nat.le_of_ble_eq_true rfl) ?_
  intro p e s m args below meth c hx hb hr hml hown htg hlocks A hA hP hK hD hX hS ls hl
  have hown : s.vm.findClass RX6 = some m.cls := hown
  have hl : lv_has ls 3 [(0, .ref h0)] := hl
  refine lv_iconst (v := (-1)) hx hb dX6_toTurn_0 (by decide) ?_
  refine lv_istore_n (lv' := [(1, .int (-1 : Int32)), (0, .ref h0)]) hx hb dX6_toTurn_1 rfl hl (by decide) rfl (fun ls hl => ?_)
  refine lv_bipush (v := 6) hx hb dX6_toTurn_2 (by decide) ?_
  refine lv_istore_n (lv' := [(2, .int (6 : Int32)), (1, .int (-1 : Int32)), (0, .ref h0)]) hx hb dX6_toTurn_4 rfl hl (by decide) rfl (fun ls hl => ?_)
  have Lp : ∀ (n : Nat) (k : Int32) (r : Int32) (g : Nat → Int32), (k.toInt + n = sz.toInt + 1 ∨ (n = 0 ∧ sz.toInt < k.toInt)) ∧ 6 ≤ k.toInt ∧ k.toInt ≤ 113 → ∀ ls : Array Slot, lv_has ls 3 [(2, .int k), (1, .int r), (0, .ref h0)] → f_X6_toTurn_lp sz n k r g = f_X6_toTurn bt sz → f_X6_toTurn_lp_bt sz n k r g = f_X6_toTurn_bt bt sz → ∀ (H : Heap) (locs : List Loc), va_P D vwCl [(h0, .inr (4, [.ref h1, .ref h2, .int mn, .int lt, .ref h3, .int sz, .ref h4, .int hsz, .int hsy, .int hrt, .int hpl, .int ola, .int olo, .int lat, .int lon])), (h1, .inl (cJ, 58, .inr (.inl bd))), (h2, .inl (cI, 800, .inl rw)), (h3, .inl (cI, 112, .inl g)), (h4, .inl (cI, 112, .inl hd))] H → va_D A [(h0, .inr (4, [.ref h1, .ref h2, .int mn, .int lt, .ref h3, .int sz, .ref h4, .int hsz, .int hsy, .int hrt, .int hpl, .int ola, .int olo, .int lat, .int lon])), (h1, .inl (cJ, 58, .inr (.inl bd))), (h2, .inl (cI, 800, .inl rw)), (h3, .inl (cI, 112, .inl g)), (h4, .inl (cI, 112, .inl hd))] → va_S A s.heap H locs → W p l e { frames := 1, cells := 0, slots := 0, locals := 22 } s m args below meth c H locs 0 0 (MQ below (wrQ D (some (.int (f_X6_toTurn bt sz))) [(h0, .inr (4, [.ref h1, .ref h2, .int mn, .int lt, .ref h3, .int sz, .ref h4, .int hsz, .int hsy, .int hrt, .int hpl, .int ola, .int olo, .int lat, .int lon])), (h1, .inl (cJ, 58, .inr (.inl bd))), (h2, .inl (cI, 800, .inl rw)), (h3, .inl (cI, 112, .inl bt)), (h4, .inl (cI, 112, .inl hd))] [(h0, .inr (4, [.ref h1, .ref h2, .int mn, .int lt, .ref h3, .int sz, .ref h4, .int hsz, .int hsy, .int hrt, .int hpl, .int ola, .int olo, .int lat, .int lon])), (h1, .inl (cJ, 58, .inr (.inl bd))), (h2, .inl (cI, 800, .inl rw)), (h3, .inl (cI, 112, .inl (f_X6_toTurn_bt bt sz))), (h4, .inl (cI, 112, .inl hd))]) args s 0 0 (inW [(h0, .inr (4, [.ref h1, .ref h2, .int mn, .int lt, .ref h3, .int sz, .ref h4, .int hsz, .int hsy, .int hrt, .int hpl, .int ola, .int olo, .int lat, .int lon])), (h1, .inl (cJ, 58, .inr (.inl bd))), (h2, .inl (cI, 800, .inl rw)), (h3, .inl (cI, 112, .inl bt)), (h4, .inl (cI, 112, .inl hd))])) (F0 m 5 ls []) := by
    intro n
    induction n with
    | zero =>
      intro k r g hi ls hl hE hEbt H locs hP hD hS
      refine lv_iload_n hx hb dX6_toTurn_5 rfl (lv_at hl 0 rfl) ?_
      refine lv_aload_n hx hb dX6_toTurn_6 rfl (lv_at hl 2 rfl) ?_
      refine va_get (D := D) (ci := 4) (v := .int sz) (C := RX6) (T := TX6) (N := 15) hx hb htg inX6 hown hK hP 0 rfl rfl 5 (by decide) (htg _ fl_X6_143) (fun _ h9 => h9) rfl dX6_toTurn_7 ?_
      refine lv_icmp_gt (tgt := 68) hx hb dX6_toTurn_10 (by decide) (fun c_1 => ?_) (fun c_1 => ?_)
      · refine lv_iload_n hx hb dX6_toTurn_68 rfl (lv_at hl 1 rfl) ?_
        exact wr_i hx hb hr hlocks hA hS (hP.eq (by rw [← hEbt]; simp only [f_X6_toTurn_lp_bt])) (by rw [← hE]; simp only [f_X6_toTurn_lp]) dX6_toTurn_69
      · exact absurd (by rw [fa_lt]; have := hi.1; omega) c_1
    | succ n ih =>
      intro k r g hi ls hl hE hEbt H locs hP hD hS
      refine lv_iload_n hx hb dX6_toTurn_5 rfl (lv_at hl 0 rfl) ?_
      refine lv_aload_n hx hb dX6_toTurn_6 rfl (lv_at hl 2 rfl) ?_
      refine va_get (D := D) (ci := 4) (v := .int sz) (C := RX6) (T := TX6) (N := 15) hx hb htg inX6 hown hK hP 0 rfl rfl 5 (by decide) (htg _ fl_X6_143) (fun _ h9 => h9) rfl dX6_toTurn_7 ?_
      refine lv_icmp_gt (tgt := 68) hx hb dX6_toTurn_10 (by decide) (fun c_2 => ?_) (fun c_2 => ?_)
      · exact absurd c_2 (by rw [fa_lt]; have := hi.1; omega)
      · refine lv_iload_n hx hb dX6_toTurn_13 rfl (lv_at hl 1 rfl) ?_
        refine lv_if_ge (tgt := 68) hx hb dX6_toTurn_14 (by decide) (fun c_3 => ?_) (fun c_3 => ?_)
        · refine lv_iload_n hx hb dX6_toTurn_68 rfl (lv_at hl 1 rfl) ?_
          exact wr_i hx hb hr hlocks hA hS (hP.eq (by rw [← hEbt]; simp only [f_X6_toTurn_lp_bt, if_pos c_3])) (by rw [← hE]; simp only [f_X6_toTurn_lp, if_pos c_3]) dX6_toTurn_69
        · refine lv_aload_n hx hb dX6_toTurn_17 rfl (lv_at hl 2 rfl) ?_
          refine va_get (D := D) (ci := 4) (v := .ref h3) (C := RX6) (T := TX6) (N := 15) hx hb htg inX6 hown hK hP 0 rfl rfl 4 (by decide) (htg _ fl_X6_133) (fun _ h9 => h9) rfl dX6_toTurn_18 ?_
          refine lv_iload_n hx hb dX6_toTurn_21 rfl (lv_at hl 0 rfl) ?_
          refine lv_iconst (v := 1) hx hb dX6_toTurn_22 (by decide) ?_
          refine lv_isub hx hb dX6_toTurn_23 ?_
          refine lv_iconst (v := 1) hx hb dX6_toTurn_24 (by decide) ?_
          refine lv_aload_n hx hb dX6_toTurn_25 rfl (lv_at hl 2 rfl) ?_
          refine va_get (D := D) (ci := 4) (v := .ref h3) (C := RX6) (T := TX6) (N := 15) hx hb htg inX6 hown hK hP 0 rfl rfl 4 (by decide) (htg _ fl_X6_133) (fun _ h9 => h9) rfl dX6_toTurn_26 ?_
          refine lv_iload_n hx hb dX6_toTurn_29 rfl (lv_at hl 0 rfl) ?_
          refine lv_iconst (v := 1) hx hb dX6_toTurn_30 (by decide) ?_
          refine lv_isub hx hb dX6_toTurn_31 ?_
          refine va_iald' (v := (g (k - (1 : Int32)).toNatClampNeg)) hx hb hK hP 3 0 rfl rfl (in_iff (by have := hi.2; rw [dec1] <;> omega) (by have := hi.1; have := hi.2; rw [dec1] <;> omega)) rfl dX6_toTurn_32 ?_
          refine lv_isub hx hb dX6_toTurn_33 ?_
          refine va_iast' (j := (k - (1 : Int32)).toNatClampNeg) hx hb hK hP hD hS 3 0 rfl rfl (in_iff (by have := hi.2; rw [dec1] <;> omega) (by have := hi.1; have := hi.2; rw [dec1] <;> omega)) rfl dX6_toTurn_34 (fun H locs hP hD hS => ?_)
          have hP : va_P D vwCl [(h0, .inr (4, [.ref h1, .ref h2, .int mn, .int lt, .ref h3, .int sz, .ref h4, .int hsz, .int hsy, .int hrt, .int hpl, .int ola, .int olo, .int lat, .int lon])), (h1, .inl (cJ, 58, .inr (.inl bd))), (h2, .inl (cI, 800, .inl rw)), (h3, .inl (cI, 112, .inl (upd g (k - (1 : Int32)).toNatClampNeg ((1 : Int32) - (g (k - (1 : Int32)).toNatClampNeg))))), (h4, .inl (cI, 112, .inl hd))] H := hP
          have hD : va_D A [(h0, .inr (4, [.ref h1, .ref h2, .int mn, .int lt, .ref h3, .int sz, .ref h4, .int hsz, .int hsy, .int hrt, .int hpl, .int ola, .int olo, .int lat, .int lon])), (h1, .inl (cJ, 58, .inr (.inl bd))), (h2, .inl (cI, 800, .inl rw)), (h3, .inl (cI, 112, .inl (upd g (k - (1 : Int32)).toNatClampNeg ((1 : Int32) - (g (k - (1 : Int32)).toNatClampNeg))))), (h4, .inl (cI, 112, .inl hd))] := hD
          refine lv_aload_n hx hb dX6_toTurn_35 rfl (lv_at hl 2 rfl) ?_
          refine rV (As := []) (rest := []) hx hb hml hown htg (c_X6_remainder l D cI cJ cO h0 h1 h2 mn lt h3 sz h4 hsz hsy hrt hpl ola olo lat lon bd rw (upd g (k - (1 : Int32)).toNatClampNeg ((1 : Int32) - (g (k - (1 : Int32)).toNatClampNeg))) hd hz) Blind.b0 ml_X6_152 im_X6_remainder se_X6_remainder ini_X6 co_X6_remainder rfl dn_X6_remainder rfl (va_recv hK hP (ci := 4) (q0 := 0) rfl rfl) (fun U hU hW => ⟨by rw [hU]; exact hP, va_K.moved hW.alike hK⟩) hl.1 rfl (Nat.le_of_ble_eq_true rfl) ⟨Nat.le_of_ble_eq_true rfl, Nat.le_of_ble_eq_true rfl⟩ ⟨Nat.le_of_ble_eq_true rfl, Nat.le_of_ble_eq_true rfl⟩ dX6_toTurn_36 ?_
          refine W.join (nL := 3) (lv := [(1, .int (if (f_X6_remainder (upd g (k - (1 : Int32)).toNatClampNeg ((1 : Int32) - (g (k - (1 : Int32)).toNatClampNeg))) sz) = 0 then k else r)), (2, .int k), (0, .ref h0)]) (pc2 := 44) (st2 := []) (fun ls hl => ?_) (fun J => ?_)
          · refine lv_aload_n hx hb dX6_toTurn_44 rfl (lv_at hl 2 rfl) ?_
            refine va_get (D := D) (ci := 4) (v := .ref h3) (C := RX6) (T := TX6) (N := 15) hx hb htg inX6 hown hK hP 0 rfl rfl 4 (by decide) (htg _ fl_X6_133) (fun _ h9 => h9) rfl dX6_toTurn_45 ?_
            refine lv_iload_n hx hb dX6_toTurn_48 rfl (lv_at hl 1 rfl) ?_
            refine lv_iconst (v := 1) hx hb dX6_toTurn_49 (by decide) ?_
            refine lv_isub hx hb dX6_toTurn_50 ?_
            refine lv_iconst (v := 1) hx hb dX6_toTurn_51 (by decide) ?_
            refine lv_aload_n hx hb dX6_toTurn_52 rfl (lv_at hl 2 rfl) ?_
            refine va_get (D := D) (ci := 4) (v := .ref h3) (C := RX6) (T := TX6) (N := 15) hx hb htg inX6 hown hK hP 0 rfl rfl 4 (by decide) (htg _ fl_X6_133) (fun _ h9 => h9) rfl dX6_toTurn_53 ?_
            refine lv_iload_n hx hb dX6_toTurn_56 rfl (lv_at hl 1 rfl) ?_
            refine lv_iconst (v := 1) hx hb dX6_toTurn_57 (by decide) ?_
            refine lv_isub hx hb dX6_toTurn_58 ?_
            refine va_iald' (v := ((upd g (k - (1 : Int32)).toNatClampNeg ((1 : Int32) - (g (k - (1 : Int32)).toNatClampNeg))) (k - (1 : Int32)).toNatClampNeg)) hx hb hK hP 3 0 rfl rfl (in_iff (by have := hi.2; rw [dec1] <;> omega) (by have := hi.1; have := hi.2; rw [dec1] <;> omega)) rfl dX6_toTurn_59 ?_
            refine lv_isub hx hb dX6_toTurn_60 ?_
            refine va_iast' (j := (k - (1 : Int32)).toNatClampNeg) hx hb hK hP hD hS 3 0 rfl rfl (in_iff (by have := hi.2; rw [dec1] <;> omega) (by have := hi.1; have := hi.2; rw [dec1] <;> omega)) rfl dX6_toTurn_61 (fun H locs hP hD hS => ?_)
            have hP : va_P D vwCl [(h0, .inr (4, [.ref h1, .ref h2, .int mn, .int lt, .ref h3, .int sz, .ref h4, .int hsz, .int hsy, .int hrt, .int hpl, .int ola, .int olo, .int lat, .int lon])), (h1, .inl (cJ, 58, .inr (.inl bd))), (h2, .inl (cI, 800, .inl rw)), (h3, .inl (cI, 112, .inl (upd (upd g (k - (1 : Int32)).toNatClampNeg ((1 : Int32) - (g (k - (1 : Int32)).toNatClampNeg))) (k - (1 : Int32)).toNatClampNeg ((1 : Int32) - ((upd g (k - (1 : Int32)).toNatClampNeg ((1 : Int32) - (g (k - (1 : Int32)).toNatClampNeg))) (k - (1 : Int32)).toNatClampNeg))))), (h4, .inl (cI, 112, .inl hd))] H := hP
            have hD : va_D A [(h0, .inr (4, [.ref h1, .ref h2, .int mn, .int lt, .ref h3, .int sz, .ref h4, .int hsz, .int hsy, .int hrt, .int hpl, .int ola, .int olo, .int lat, .int lon])), (h1, .inl (cJ, 58, .inr (.inl bd))), (h2, .inl (cI, 800, .inl rw)), (h3, .inl (cI, 112, .inl (upd (upd g (k - (1 : Int32)).toNatClampNeg ((1 : Int32) - (g (k - (1 : Int32)).toNatClampNeg))) (k - (1 : Int32)).toNatClampNeg ((1 : Int32) - ((upd g (k - (1 : Int32)).toNatClampNeg ((1 : Int32) - (g (k - (1 : Int32)).toNatClampNeg))) (k - (1 : Int32)).toNatClampNeg))))), (h4, .inl (cI, 112, .inl hd))] := hD
            refine lv_iinc (v := (k + (1 : Int32))) (lv' := [(2, .int (k + (1 : Int32))), (1, .int (if (f_X6_remainder (upd g (k - (1 : Int32)).toNatClampNeg ((1 : Int32) - (g (k - (1 : Int32)).toNatClampNeg))) sz) = 0 then k else r)), (0, .ref h0)]) hx hb dX6_toTurn_62 hl (k := 1) rfl rfl (by decide) rfl (fun ls hl => ?_)
            refine lv_goto (tgt := 5) hx hb dX6_toTurn_65 (by decide) ?_
            exact ih (k + (1 : Int32)) (if (f_X6_remainder (upd g (k - (1 : Int32)).toNatClampNeg ((1 : Int32) - (g (k - (1 : Int32)).toNatClampNeg))) sz) = 0 then k else r) (upd (upd g (k - (1 : Int32)).toNatClampNeg ((1 : Int32) - (g (k - (1 : Int32)).toNatClampNeg))) (k - (1 : Int32)).toNatClampNeg ((1 : Int32) - ((upd g (k - (1 : Int32)).toNatClampNeg ((1 : Int32) - (g (k - (1 : Int32)).toNatClampNeg))) (k - (1 : Int32)).toNatClampNeg))) (by have := hi.1; have := hi.2; rw [inc1 (by omega)]; omega) ls (lv_sub hl [0, 1, 2] rfl) (by rw [← hE]; simp only [f_X6_toTurn_lp, if_neg c_3]) (by rw [← hEbt]; simp only [f_X6_toTurn_lp_bt, if_neg c_3]) H locs hP hD hS
          · refine lv_if_ne (tgt := 44) hx hb dX6_toTurn_39 (by decide) (fun c_4 => ?_) (fun c_4 => ?_)
            · exact J ls (lv_eq (lv_sub (l' := [(1, .int r), (2, .int k), (0, .ref h0)]) hl [1, 0, 2] rfl) (by first | simp only [if_neg c_4] | rfl))
            · refine lv_iload_n hx hb dX6_toTurn_42 rfl (lv_at hl 0 rfl) ?_
              refine lv_istore_n (lv' := [(1, .int k), (2, .int k), (0, .ref h0)]) hx hb dX6_toTurn_43 rfl hl (by decide) rfl (fun ls hl => ?_)
              exact J ls (lv_eq (lv_sub (l' := [(1, .int k), (2, .int k), (0, .ref h0)]) hl [0, 1, 2] rfl) (by first | simp only [if_pos c_4] | rfl))
  exact Lp (sz.toInt - 5).toNat (6 : Int32) (-1 : Int32) bt (by have e6 : (6 : Int32).toInt = 6 := rfl; rw [e6]; omega) ls (lv_sub hl [0, 1, 2] rfl) (by simp only [f_X6_toTurn]) (by simp only [f_X6_toTurn_bt]) _ _ hP hD hS

def f_X6_repair (bt : Nat → Int32) (a0 : Int32) (a1 : Int32) (a2 : Int32) (a3 : Int32) : Int32 := (if (f_X6_isWrong (f_X6_number (f_X6_frame_bt bt a0 a1 a2 a3) (1 : Int32) (5 : Int32)) (f_X6_remainder (f_X6_frame_bt bt a0 a1 a2 a3) (f_X6_frame_sz bt a0 a1 a2 a3))) = 0 then (-1 : Int32) else (f_X6_toTurn (f_X6_frame_bt bt a0 a1 a2 a3) (f_X6_frame_sz bt a0 a1 a2 a3)))
def f_X6_repair_bt (bt : Nat → Int32) (a0 : Int32) (a1 : Int32) (a2 : Int32) (a3 : Int32) : Nat → Int32 := (if (f_X6_isWrong (f_X6_number (f_X6_frame_bt bt a0 a1 a2 a3) (1 : Int32) (5 : Int32)) (f_X6_remainder (f_X6_frame_bt bt a0 a1 a2 a3) (f_X6_frame_sz bt a0 a1 a2 a3))) = 0 then (f_X6_frame_bt bt a0 a1 a2 a3) else (f_X6_toTurn_bt (f_X6_frame_bt bt a0 a1 a2 a3) (f_X6_frame_sz bt a0 a1 a2 a3)))
def f_X6_repair_sz (bt : Nat → Int32) (a0 : Int32) (a1 : Int32) (a2 : Int32) (a3 : Int32) : Int32 := (f_X6_frame_sz bt a0 a1 a2 a3)
set_option maxHeartbeats 4000000 in
set_option maxRecDepth 100000 in
theorem c_X6_repair (l : Launch) (D : va_G) (cI cJ cO : ClassId) (h0 : Nat) (h1 : Nat) (h2 : Nat) (mn : Int32) (lt : Int32) (h3 : Nat) (sz : Int32) (h4 : Nat) (hsz : Int32) (hsy : Int32) (hrt : Int32) (hpl : Int32) (ola : Int32) (olo : Int32) (lat : Int32) (lon : Int32) (bd : Nat → Int64) (rw : Nat → Int32) (bt : Nat → Int32) (hd : Nat → Int32) (a0 : Int32) (a1 : Int32) (a2 : Int32) (a3 : Int32) : Wr l yX6_repair cX6_repair 5 (some .int) 2 44 [.ref h0, .int a0, .int a1, .int a2, .int a3] (fun U => B1 D cI cJ cO [(h0, .inr (4, [.ref h1, .ref h2, .int mn, .int lt, .ref h3, .int sz, .ref h4, .int hsz, .int hsy, .int hrt, .int hpl, .int ola, .int olo, .int lat, .int lon])), (h1, .inl (cJ, 58, .inr (.inl bd))), (h2, .inl (cI, 800, .inl rw)), (h3, .inl (cI, 112, .inl bt)), (h4, .inl (cI, 112, .inl hd))] U ∧ True) D (some (.int (f_X6_repair bt a0 a1 a2 a3))) [(h0, .inr (4, [.ref h1, .ref h2, .int mn, .int lt, .ref h3, .int sz, .ref h4, .int hsz, .int hsy, .int hrt, .int hpl, .int ola, .int olo, .int lat, .int lon])), (h1, .inl (cJ, 58, .inr (.inl bd))), (h2, .inl (cI, 800, .inl rw)), (h3, .inl (cI, 112, .inl bt)), (h4, .inl (cI, 112, .inl hd))] [(h0, .inr (4, [.ref h1, .ref h2, .int mn, .int lt, .ref h3, .int (f_X6_repair_sz bt a0 a1 a2 a3), .ref h4, .int hsz, .int hsy, .int hrt, .int hpl, .int ola, .int olo, .int lat, .int lon])), (h1, .inl (cJ, 58, .inr (.inl bd))), (h2, .inl (cI, 800, .inl rw)), (h3, .inl (cI, 112, .inl (f_X6_repair_bt bt a0 a1 a2 a3))), (h4, .inl (cI, 112, .inl hd))] := by
  refine Wr.of (by decide +kernel) (Nat.le_of_ble_eq_true rfl) ?_
  intro p e s m args below meth c hx hb hr hml hown htg hlocks A hA hP hK hD hX hS ls hl
  have hown : s.vm.findClass RX6 = some m.cls := hown
  have hl : lv_has ls 5 [(0, .ref h0), (1, .int a0), (2, .int a1), (3, .int a2), (4, .int a3)] := hl
  refine lv_aload_n hx hb dX6_repair_0 rfl (lv_at hl 0 rfl) ?_
  refine lv_iload_n hx hb dX6_repair_1 rfl (lv_at hl 1 rfl) ?_
  refine lv_iload_n hx hb dX6_repair_2 rfl (lv_at hl 2 rfl) ?_
  refine lv_iload_n hx hb dX6_repair_3 rfl (lv_at hl 3 rfl) ?_
  refine lv_iload hx hb dX6_repair_4 (lv_at hl 4 rfl) ?_
  refine wV (As := [.int a0, .int a1, .int a2, .int a3]) (rest := []) hx hb hml hown htg (c_X6_frame l D cI cJ cO h0 h1 h2 mn lt h3 sz h4 hsz hsy hrt hpl ola olo lat lon bd rw bt hd a0 a1 a2 a3) (Blind.and Blind.b1 Blind.tt) ml_X6_148 im_X6_frame se_X6_frame ini_X6 co_X6_frame rfl dn_X6_frame rfl (va_recv hK hP (ci := 4) (q0 := 0) rfl rfl) (fun U hU hW => ⟨⟨by rw [hU]; exact hP, va_K.moved hW.alike hK, (hD).weaken (fun _ _ _ _ => trivial)⟩, trivial⟩) hl.1 rfl (Nat.le_of_ble_eq_true rfl) ⟨Nat.le_of_ble_eq_true rfl, Nat.le_of_ble_eq_true rfl⟩ ⟨Nat.le_of_ble_eq_true rfl, Nat.le_of_ble_eq_true rfl⟩ dX6_repair_6 hP hD hS [0, 1, 2, 3, 4] rfl (Eq.trans (b := [h0, h1, h2, h3, h4]) rfl rfl) (fun H locs hP hD hS => ?_)
  have hP : va_P D vwCl [(h0, .inr (4, [.ref h1, .ref h2, .int mn, .int lt, .ref h3, .int (f_X6_frame_sz bt a0 a1 a2 a3), .ref h4, .int hsz, .int hsy, .int hrt, .int hpl, .int ola, .int olo, .int lat, .int lon])), (h1, .inl (cJ, 58, .inr (.inl bd))), (h2, .inl (cI, 800, .inl rw)), (h3, .inl (cI, 112, .inl (f_X6_frame_bt bt a0 a1 a2 a3))), (h4, .inl (cI, 112, .inl hd))] H := hP
  have hD : va_D A [(h0, .inr (4, [.ref h1, .ref h2, .int mn, .int lt, .ref h3, .int (f_X6_frame_sz bt a0 a1 a2 a3), .ref h4, .int hsz, .int hsy, .int hrt, .int hpl, .int ola, .int olo, .int lat, .int lon])), (h1, .inl (cJ, 58, .inr (.inl bd))), (h2, .inl (cI, 800, .inl rw)), (h3, .inl (cI, 112, .inl (f_X6_frame_bt bt a0 a1 a2 a3))), (h4, .inl (cI, 112, .inl hd))] := hD
  refine W.eq (g2 := F0 m 9 ls []) rfl ?_
  refine lv_aload_n hx hb dX6_repair_9 rfl (lv_at hl 0 rfl) ?_
  refine lv_aload_n hx hb dX6_repair_10 rfl (lv_at hl 0 rfl) ?_
  refine lv_aload_n hx hb dX6_repair_11 rfl (lv_at hl 0 rfl) ?_
  refine va_get (D := D) (ci := 4) (v := .ref h3) (C := RX6) (T := TX6) (N := 15) hx hb htg inX6 hown hK hP 0 rfl rfl 4 (by decide) (htg _ fl_X6_133) (fun _ h9 => h9) rfl dX6_repair_12 ?_
  refine lv_iconst (v := 1) hx hb dX6_repair_15 (by decide) ?_
  refine lv_iconst (v := 5) hx hb dX6_repair_16 (by decide) ?_
  refine rV (As := [.ref h3, .int (1 : Int32), .int (5 : Int32)]) (rest := [.ref h0]) hx hb hml hown htg (c_X6_number l D cI cJ cO h3 (f_X6_frame_bt bt a0 a1 a2 a3) h0 (1 : Int32) (5 : Int32) ⟨by decide, by decide, by decide⟩) Blind.b0 ml_X6_156 im_X6_number se_X6_number ini_X6 co_X6_number rfl dn_X6_number rfl (va_recv hK hP (ci := 4) (q0 := 0) rfl rfl) (fun U hU hW => ⟨by rw [hU]; exact hP.sub [3] rfl, va_K.moved hW.alike hK⟩) hl.1 rfl (Nat.le_of_ble_eq_true rfl) ⟨Nat.le_of_ble_eq_true rfl, Nat.le_of_ble_eq_true rfl⟩ ⟨Nat.le_of_ble_eq_true rfl, Nat.le_of_ble_eq_true rfl⟩ dX6_repair_17 ?_
  refine lv_aload_n hx hb dX6_repair_20 rfl (lv_at hl 0 rfl) ?_
  refine rV (As := []) (rest := [.int (f_X6_number (f_X6_frame_bt bt a0 a1 a2 a3) (1 : Int32) (5 : Int32)), .ref h0]) hx hb hml hown htg (c_X6_remainder l D cI cJ cO h0 h1 h2 mn lt h3 (f_X6_frame_sz bt a0 a1 a2 a3) h4 hsz hsy hrt hpl ola olo lat lon bd rw (f_X6_frame_bt bt a0 a1 a2 a3) hd (sz_rng (frame_sz bt a0 a1 a2 a3))) Blind.b0 ml_X6_152 im_X6_remainder se_X6_remainder ini_X6 co_X6_remainder rfl dn_X6_remainder rfl (va_recv hK hP (ci := 4) (q0 := 0) rfl rfl) (fun U hU hW => ⟨by rw [hU]; exact hP, va_K.moved hW.alike hK⟩) hl.1 rfl (Nat.le_of_ble_eq_true rfl) ⟨Nat.le_of_ble_eq_true rfl, Nat.le_of_ble_eq_true rfl⟩ ⟨Nat.le_of_ble_eq_true rfl, Nat.le_of_ble_eq_true rfl⟩ dX6_repair_21 ?_
  refine rV (As := [.int (f_X6_number (f_X6_frame_bt bt a0 a1 a2 a3) (1 : Int32) (5 : Int32)), .int (f_X6_remainder (f_X6_frame_bt bt a0 a1 a2 a3) (f_X6_frame_sz bt a0 a1 a2 a3))]) (rest := []) hx hb hml hown htg (c_X6_isWrong l h0 (f_X6_number (f_X6_frame_bt bt a0 a1 a2 a3) (1 : Int32) (5 : Int32)) (f_X6_remainder (f_X6_frame_bt bt a0 a1 a2 a3) (f_X6_frame_sz bt a0 a1 a2 a3))) Blind.tt ml_X6_160 im_X6_isWrong se_X6_isWrong ini_X6 co_X6_isWrong rfl dn_X6_isWrong rfl (va_recv hK hP (ci := 4) (q0 := 0) rfl rfl) (fun _ _ _ => trivial) hl.1 rfl (Nat.le_of_ble_eq_true rfl) ⟨Nat.le_of_ble_eq_true rfl, Nat.le_of_ble_eq_true rfl⟩ ⟨Nat.le_of_ble_eq_true rfl, Nat.le_of_ble_eq_true rfl⟩ dX6_repair_24 ?_
  refine lv_if_eq (tgt := 37) hx hb dX6_repair_27 (by decide) (fun c_1 => ?_) (fun c_1 => ?_)
  · refine lv_iconst (v := (-1)) hx hb dX6_repair_37 (by decide) ?_
    exact wr_i hx hb hr hlocks hA hS (hP.eq (by simp only [f_X6_repair_bt, f_X6_repair_sz, if_pos c_1])) (by simp only [f_X6_repair, if_pos c_1]) dX6_repair_38
  · refine lv_aload_n hx hb dX6_repair_30 rfl (lv_at hl 0 rfl) ?_
    refine wV (As := []) (rest := []) hx hb hml hown htg (c_X6_toTurn l D cI cJ cO h0 h1 h2 mn lt h3 (f_X6_frame_sz bt a0 a1 a2 a3) h4 hsz hsy hrt hpl ola olo lat lon bd rw (f_X6_frame_bt bt a0 a1 a2 a3) hd (sz_rng (frame_sz bt a0 a1 a2 a3))) (Blind.and Blind.b1 Blind.tt) ml_X6_164 im_X6_toTurn se_X6_toTurn ini_X6 co_X6_toTurn rfl dn_X6_toTurn rfl (va_recv hK hP (ci := 4) (q0 := 0) rfl rfl) (fun U hU hW => ⟨⟨by rw [hU]; exact hP, va_K.moved hW.alike hK, (hD).weaken (fun _ _ _ _ => trivial)⟩, trivial⟩) hl.1 rfl (Nat.le_of_ble_eq_true rfl) ⟨Nat.le_of_ble_eq_true rfl, Nat.le_of_ble_eq_true rfl⟩ ⟨Nat.le_of_ble_eq_true rfl, Nat.le_of_ble_eq_true rfl⟩ dX6_repair_31 hP hD hS [0, 1, 2, 3, 4] rfl (Eq.trans (b := [h0, h1, h2, h3, h4]) rfl rfl) (fun H locs hP hD hS => ?_)
    have hP : va_P D vwCl [(h0, .inr (4, [.ref h1, .ref h2, .int mn, .int lt, .ref h3, .int (f_X6_frame_sz bt a0 a1 a2 a3), .ref h4, .int hsz, .int hsy, .int hrt, .int hpl, .int ola, .int olo, .int lat, .int lon])), (h1, .inl (cJ, 58, .inr (.inl bd))), (h2, .inl (cI, 800, .inl rw)), (h3, .inl (cI, 112, .inl (f_X6_toTurn_bt (f_X6_frame_bt bt a0 a1 a2 a3) (f_X6_frame_sz bt a0 a1 a2 a3)))), (h4, .inl (cI, 112, .inl hd))] H := hP
    have hD : va_D A [(h0, .inr (4, [.ref h1, .ref h2, .int mn, .int lt, .ref h3, .int (f_X6_frame_sz bt a0 a1 a2 a3), .ref h4, .int hsz, .int hsy, .int hrt, .int hpl, .int ola, .int olo, .int lat, .int lon])), (h1, .inl (cJ, 58, .inr (.inl bd))), (h2, .inl (cI, 800, .inl rw)), (h3, .inl (cI, 112, .inl (f_X6_toTurn_bt (f_X6_frame_bt bt a0 a1 a2 a3) (f_X6_frame_sz bt a0 a1 a2 a3)))), (h4, .inl (cI, 112, .inl hd))] := hD
    refine W.eq (g2 := F0 m 34 ls [.int (f_X6_toTurn (f_X6_frame_bt bt a0 a1 a2 a3) (f_X6_frame_sz bt a0 a1 a2 a3))]) rfl ?_
    refine lv_goto (tgt := 38) hx hb dX6_repair_34 (by decide) ?_
    exact wr_i hx hb hr hlocks hA hS (hP.eq (by simp only [f_X6_repair_bt, f_X6_repair_sz, if_neg c_1])) (by simp only [f_X6_repair, if_neg c_1]) dX6_repair_38

def f_X6_altitude_x100 (a0 : Int32) : Int32 := (((2 : Int32) * (f_X6_of a0 (10 : Int32))) + (f_X6_of a0 (12 : Int32)))
def f_X6_altitude_x122 (a0 : Int32) : Int32 := (((2 : Int32) * (((2 : Int32) * (f_X6_altitude_x100 a0)) + (f_X6_of a0 (1 : Int32)))) + (f_X6_of a0 (3 : Int32)))
def f_X6_altitude_x145 (a0 : Int32) : Int32 := (((2 : Int32) * (((2 : Int32) * (f_X6_altitude_x122 a0)) + (f_X6_of a0 (5 : Int32)))) + (f_X6_of a0 (7 : Int32)))
def f_X6_altitude_x169 (a0 : Int32) : Int32 := (((2 : Int32) * (((2 : Int32) * (f_X6_altitude_x145 a0)) + (f_X6_of a0 (9 : Int32)))) + (f_X6_of a0 (11 : Int32)))
def f_X6_altitude_x207 (a0 : Int32) : Int32 := (f_X6_ungray ((((4 : Int32) * (f_X6_of a0 (0 : Int32))) + ((2 : Int32) * (f_X6_of a0 (2 : Int32)))) + (f_X6_of a0 (4 : Int32))) (3 : Int32))
def f_X6_altitude_x252 (a0 : Int32) : Int32 := ((6 : Int32) - (if (f_X6_altitude_x207 a0) = (7 : Int32) then (5 : Int32) else (f_X6_altitude_x207 a0)))
def f_X6_altitude_x65 (i : Int32) (v : Int32) (a0 : Int32) : Int32 := (if i = (6 : Int32) then v else (if i = (8 : Int32) then v else (((2 : Int32) * v) + (f_X6_of a0 i))))
def f_X6_altitude_lp (a0 : Int32) : Nat → (Int32) → (Int32) → Int32
  | 0, i, v => (((25 : Int32) * v) - (1000 : Int32))
  | n + 1, i, v => (f_X6_altitude_lp a0 n (i + (1 : Int32)) (f_X6_altitude_x65 i v a0))
def f_X6_altitude (a0 : Int32) : Int32 := (if a0 = 0 then (-2147483648 : Int32) else (if (f_X6_of a0 (6 : Int32)) = (1 : Int32) then (-2147483648 : Int32) else (if (f_X6_of a0 (8 : Int32)) = (1 : Int32) then (f_X6_altitude_lp a0 13 (0 : Int32) (0 : Int32)) else (if (f_X6_altitude_x207 a0) = 0 then (-2147483648 : Int32) else (if (f_X6_altitude_x207 a0) = (5 : Int32) then (-2147483648 : Int32) else (if (f_X6_altitude_x207 a0) = (6 : Int32) then (-2147483648 : Int32) else ((((500 : Int32) * (f_X6_ungray (f_X6_altitude_x169 a0) (8 : Int32))) + ((100 : Int32) * (if ((f_X6_ungray (f_X6_altitude_x169 a0) (8 : Int32)) - (f_X6_ungray (f_X6_altitude_x169 a0) (8 : Int32)) / (2 : Int32) * (2 : Int32)) = (1 : Int32) then (f_X6_altitude_x252 a0) else (if (f_X6_altitude_x207 a0) = (7 : Int32) then (5 : Int32) else (f_X6_altitude_x207 a0))))) - (1300 : Int32))))))))
set_option maxHeartbeats 4000000 in
set_option maxRecDepth 100000 in
theorem c_X6_altitude (l : Launch) (D : va_G) (cI cJ cO : ClassId) (h0 : Nat) (h1 : Nat) (h2 : Nat) (mn : Int32) (lt : Int32) (h3 : Nat) (sz : Int32) (h4 : Nat) (hsz : Int32) (hsy : Int32) (hrt : Int32) (hpl : Int32) (ola : Int32) (olo : Int32) (lat : Int32) (lon : Int32) (bd : Nat → Int64) (rw : Nat → Int32) (bt : Nat → Int32) (hd : Nat → Int32) (a0 : Int32) : Rd l yX6_altitude cX6_altitude 5 (some .int) 1 25 [.ref h0, .int a0] (fun U => B0 D cI cJ cO [(h0, .inr (4, [.ref h1, .ref h2, .int mn, .int lt, .ref h3, .int sz, .ref h4, .int hsz, .int hsy, .int hrt, .int hpl, .int ola, .int olo, .int lat, .int lon])), (h1, .inl (cJ, 58, .inr (.inl bd))), (h2, .inl (cI, 800, .inl rw)), (h3, .inl (cI, 112, .inl bt)), (h4, .inl (cI, 112, .inl hd))] U) (some (.int (f_X6_altitude a0))) := by
  refine Rd.of (by decide +kernel) (Nat.le_of_ble_eq_true rfl) ?_
  intro p e s m args below meth c hx hb hr hml hown htg hlocks hB ls hl
  obtain ⟨hP, hK⟩ := hB
  have hP : va_P D vwCl [(h0, .inr (4, [.ref h1, .ref h2, .int mn, .int lt, .ref h3, .int sz, .ref h4, .int hsz, .int hsy, .int hrt, .int hpl, .int ola, .int olo, .int lat, .int lon])), (h1, .inl (cJ, 58, .inr (.inl bd))), (h2, .inl (cI, 800, .inl rw)), (h3, .inl (cI, 112, .inl bt)), (h4, .inl (cI, 112, .inl hd))] s.heap := hP
  have hown : s.vm.findClass RX6 = some m.cls := hown
  have hl : lv_has ls 5 [(0, .ref h0), (1, .int a0)] := hl
  refine lv_iload_n hx hb dX6_altitude_0 rfl (lv_at hl 1 rfl) ?_
  refine lv_if_eq (tgt := 15) hx hb dX6_altitude_1 (by decide) (fun c_1 => ?_) (fun c_1 => ?_)
  · refine lv_ldc (v := (-2147483648)) hx hb hown (htg _ ct_X6_171) dX6_altitude_15 ?_
    exact rd_i hx hb hr hlocks (by simp only [f_X6_altitude, if_pos c_1]) dX6_altitude_17
  · refine lv_aload_n hx hb dX6_altitude_4 rfl (lv_at hl 0 rfl) ?_
    refine lv_iload_n hx hb dX6_altitude_5 rfl (lv_at hl 1 rfl) ?_
    refine lv_bipush (v := 6) hx hb dX6_altitude_6 (by decide) ?_
    refine rV (As := [.int a0, .int (6 : Int32)]) (rest := []) hx hb hml hown htg (c_X6_of l h0 a0 (6 : Int32)) Blind.tt ml_X6_167 im_X6_of se_X6_of ini_X6 co_X6_of rfl dn_X6_of rfl (va_recv hK hP (ci := 4) (q0 := 0) rfl rfl) (fun _ _ _ => trivial) hl.1 rfl (Nat.le_of_ble_eq_true rfl) ⟨Nat.le_of_ble_eq_true rfl, Nat.le_of_ble_eq_true rfl⟩ ⟨Nat.le_of_ble_eq_true rfl, Nat.le_of_ble_eq_true rfl⟩ dX6_altitude_8 ?_
    refine lv_iconst (v := 1) hx hb dX6_altitude_11 (by decide) ?_
    refine lv_icmp_ne (tgt := 18) hx hb dX6_altitude_12 (by decide) (fun c_2 => ?_) (fun c_2 => ?_)
    · refine lv_aload_n hx hb dX6_altitude_18 rfl (lv_at hl 0 rfl) ?_
      refine lv_iload_n hx hb dX6_altitude_19 rfl (lv_at hl 1 rfl) ?_
      refine lv_bipush (v := 8) hx hb dX6_altitude_20 (by decide) ?_
      refine rV (As := [.int a0, .int (8 : Int32)]) (rest := []) hx hb hml hown htg (c_X6_of l h0 a0 (8 : Int32)) Blind.tt ml_X6_167 im_X6_of se_X6_of ini_X6 co_X6_of rfl dn_X6_of rfl (va_recv hK hP (ci := 4) (q0 := 0) rfl rfl) (fun _ _ _ => trivial) hl.1 rfl (Nat.le_of_ble_eq_true rfl) ⟨Nat.le_of_ble_eq_true rfl, Nat.le_of_ble_eq_true rfl⟩ ⟨Nat.le_of_ble_eq_true rfl, Nat.le_of_ble_eq_true rfl⟩ dX6_altitude_22 ?_
      refine lv_iconst (v := 1) hx hb dX6_altitude_25 (by decide) ?_
      refine lv_icmp_ne (tgt := 81) hx hb dX6_altitude_26 (by decide) (fun c_3 => ?_) (fun c_3 => ?_)
      · refine lv_aload_n hx hb dX6_altitude_81 rfl (lv_at hl 0 rfl) ?_
        refine lv_iload_n hx hb dX6_altitude_82 rfl (lv_at hl 1 rfl) ?_
        refine lv_bipush (v := 10) hx hb dX6_altitude_83 (by decide) ?_
        refine rV (As := [.int a0, .int (10 : Int32)]) (rest := []) hx hb hml hown htg (c_X6_of l h0 a0 (10 : Int32)) Blind.tt ml_X6_167 im_X6_of se_X6_of ini_X6 co_X6_of rfl dn_X6_of rfl (va_recv hK hP (ci := 4) (q0 := 0) rfl rfl) (fun _ _ _ => trivial) hl.1 rfl (Nat.le_of_ble_eq_true rfl) ⟨Nat.le_of_ble_eq_true rfl, Nat.le_of_ble_eq_true rfl⟩ ⟨Nat.le_of_ble_eq_true rfl, Nat.le_of_ble_eq_true rfl⟩ dX6_altitude_85 ?_
        refine lv_istore_n (lv' := [(2, .int (f_X6_of a0 (10 : Int32))), (0, .ref h0), (1, .int a0)]) hx hb dX6_altitude_88 rfl hl (by decide) rfl (fun ls hl => ?_)
        refine lv_iconst (v := 2) hx hb dX6_altitude_89 (by decide) ?_
        refine lv_iload_n hx hb dX6_altitude_90 rfl (lv_at hl 0 rfl) ?_
        refine lv_imul hx hb dX6_altitude_91 ?_
        refine lv_aload_n hx hb dX6_altitude_92 rfl (lv_at hl 1 rfl) ?_
        refine lv_iload_n hx hb dX6_altitude_93 rfl (lv_at hl 2 rfl) ?_
        refine lv_bipush (v := 12) hx hb dX6_altitude_94 (by decide) ?_
        refine rV (As := [.int a0, .int (12 : Int32)]) (rest := [.int ((2 : Int32) * (f_X6_of a0 (10 : Int32)))]) hx hb hml hown htg (c_X6_of l h0 a0 (12 : Int32)) Blind.tt ml_X6_167 im_X6_of se_X6_of ini_X6 co_X6_of rfl dn_X6_of rfl (va_recv hK hP (ci := 4) (q0 := 0) rfl rfl) (fun _ _ _ => trivial) hl.1 rfl (Nat.le_of_ble_eq_true rfl) ⟨Nat.le_of_ble_eq_true rfl, Nat.le_of_ble_eq_true rfl⟩ ⟨Nat.le_of_ble_eq_true rfl, Nat.le_of_ble_eq_true rfl⟩ dX6_altitude_96 ?_
        refine lv_iadd hx hb dX6_altitude_99 ?_
        refine lv_istore_n (lv' := [(2, .int (f_X6_altitude_x100 a0)), (0, .ref h0), (1, .int a0)]) hx hb dX6_altitude_100 rfl hl (by decide) rfl (fun ls hl => ?_)
        refine lv_iconst (v := 2) hx hb dX6_altitude_101 (by decide) ?_
        refine lv_iload_n hx hb dX6_altitude_102 rfl (lv_at hl 0 rfl) ?_
        refine lv_imul hx hb dX6_altitude_103 ?_
        refine lv_aload_n hx hb dX6_altitude_104 rfl (lv_at hl 1 rfl) ?_
        refine lv_iload_n hx hb dX6_altitude_105 rfl (lv_at hl 2 rfl) ?_
        refine lv_iconst (v := 1) hx hb dX6_altitude_106 (by decide) ?_
        refine rV (As := [.int a0, .int (1 : Int32)]) (rest := [.int ((2 : Int32) * (f_X6_altitude_x100 a0))]) hx hb hml hown htg (c_X6_of l h0 a0 (1 : Int32)) Blind.tt ml_X6_167 im_X6_of se_X6_of ini_X6 co_X6_of rfl dn_X6_of rfl (va_recv hK hP (ci := 4) (q0 := 0) rfl rfl) (fun _ _ _ => trivial) hl.1 rfl (Nat.le_of_ble_eq_true rfl) ⟨Nat.le_of_ble_eq_true rfl, Nat.le_of_ble_eq_true rfl⟩ ⟨Nat.le_of_ble_eq_true rfl, Nat.le_of_ble_eq_true rfl⟩ dX6_altitude_107 ?_
        refine lv_iadd hx hb dX6_altitude_110 ?_
        refine lv_istore_n (lv' := [(2, .int (((2 : Int32) * (f_X6_altitude_x100 a0)) + (f_X6_of a0 (1 : Int32)))), (0, .ref h0), (1, .int a0)]) hx hb dX6_altitude_111 rfl hl (by decide) rfl (fun ls hl => ?_)
        refine lv_iconst (v := 2) hx hb dX6_altitude_112 (by decide) ?_
        refine lv_iload_n hx hb dX6_altitude_113 rfl (lv_at hl 0 rfl) ?_
        refine lv_imul hx hb dX6_altitude_114 ?_
        refine lv_aload_n hx hb dX6_altitude_115 rfl (lv_at hl 1 rfl) ?_
        refine lv_iload_n hx hb dX6_altitude_116 rfl (lv_at hl 2 rfl) ?_
        refine lv_iconst (v := 3) hx hb dX6_altitude_117 (by decide) ?_
        refine rV (As := [.int a0, .int (3 : Int32)]) (rest := [.int ((2 : Int32) * (((2 : Int32) * (f_X6_altitude_x100 a0)) + (f_X6_of a0 (1 : Int32))))]) hx hb hml hown htg (c_X6_of l h0 a0 (3 : Int32)) Blind.tt ml_X6_167 im_X6_of se_X6_of ini_X6 co_X6_of rfl dn_X6_of rfl (va_recv hK hP (ci := 4) (q0 := 0) rfl rfl) (fun _ _ _ => trivial) hl.1 rfl (Nat.le_of_ble_eq_true rfl) ⟨Nat.le_of_ble_eq_true rfl, Nat.le_of_ble_eq_true rfl⟩ ⟨Nat.le_of_ble_eq_true rfl, Nat.le_of_ble_eq_true rfl⟩ dX6_altitude_118 ?_
        refine lv_iadd hx hb dX6_altitude_121 ?_
        refine lv_istore_n (lv' := [(2, .int (f_X6_altitude_x122 a0)), (0, .ref h0), (1, .int a0)]) hx hb dX6_altitude_122 rfl hl (by decide) rfl (fun ls hl => ?_)
        refine lv_iconst (v := 2) hx hb dX6_altitude_123 (by decide) ?_
        refine lv_iload_n hx hb dX6_altitude_124 rfl (lv_at hl 0 rfl) ?_
        refine lv_imul hx hb dX6_altitude_125 ?_
        refine lv_aload_n hx hb dX6_altitude_126 rfl (lv_at hl 1 rfl) ?_
        refine lv_iload_n hx hb dX6_altitude_127 rfl (lv_at hl 2 rfl) ?_
        refine lv_iconst (v := 5) hx hb dX6_altitude_128 (by decide) ?_
        refine rV (As := [.int a0, .int (5 : Int32)]) (rest := [.int ((2 : Int32) * (f_X6_altitude_x122 a0))]) hx hb hml hown htg (c_X6_of l h0 a0 (5 : Int32)) Blind.tt ml_X6_167 im_X6_of se_X6_of ini_X6 co_X6_of rfl dn_X6_of rfl (va_recv hK hP (ci := 4) (q0 := 0) rfl rfl) (fun _ _ _ => trivial) hl.1 rfl (Nat.le_of_ble_eq_true rfl) ⟨Nat.le_of_ble_eq_true rfl, Nat.le_of_ble_eq_true rfl⟩ ⟨Nat.le_of_ble_eq_true rfl, Nat.le_of_ble_eq_true rfl⟩ dX6_altitude_129 ?_
        refine lv_iadd hx hb dX6_altitude_132 ?_
        refine lv_istore_n (lv' := [(2, .int (((2 : Int32) * (f_X6_altitude_x122 a0)) + (f_X6_of a0 (5 : Int32)))), (0, .ref h0), (1, .int a0)]) hx hb dX6_altitude_133 rfl hl (by decide) rfl (fun ls hl => ?_)
        refine lv_iconst (v := 2) hx hb dX6_altitude_134 (by decide) ?_
        refine lv_iload_n hx hb dX6_altitude_135 rfl (lv_at hl 0 rfl) ?_
        refine lv_imul hx hb dX6_altitude_136 ?_
        refine lv_aload_n hx hb dX6_altitude_137 rfl (lv_at hl 1 rfl) ?_
        refine lv_iload_n hx hb dX6_altitude_138 rfl (lv_at hl 2 rfl) ?_
        refine lv_bipush (v := 7) hx hb dX6_altitude_139 (by decide) ?_
        refine rV (As := [.int a0, .int (7 : Int32)]) (rest := [.int ((2 : Int32) * (((2 : Int32) * (f_X6_altitude_x122 a0)) + (f_X6_of a0 (5 : Int32))))]) hx hb hml hown htg (c_X6_of l h0 a0 (7 : Int32)) Blind.tt ml_X6_167 im_X6_of se_X6_of ini_X6 co_X6_of rfl dn_X6_of rfl (va_recv hK hP (ci := 4) (q0 := 0) rfl rfl) (fun _ _ _ => trivial) hl.1 rfl (Nat.le_of_ble_eq_true rfl) ⟨Nat.le_of_ble_eq_true rfl, Nat.le_of_ble_eq_true rfl⟩ ⟨Nat.le_of_ble_eq_true rfl, Nat.le_of_ble_eq_true rfl⟩ dX6_altitude_141 ?_
        refine lv_iadd hx hb dX6_altitude_144 ?_
        refine lv_istore_n (lv' := [(2, .int (f_X6_altitude_x145 a0)), (0, .ref h0), (1, .int a0)]) hx hb dX6_altitude_145 rfl hl (by decide) rfl (fun ls hl => ?_)
        refine lv_iconst (v := 2) hx hb dX6_altitude_146 (by decide) ?_
        refine lv_iload_n hx hb dX6_altitude_147 rfl (lv_at hl 0 rfl) ?_
        refine lv_imul hx hb dX6_altitude_148 ?_
        refine lv_aload_n hx hb dX6_altitude_149 rfl (lv_at hl 1 rfl) ?_
        refine lv_iload_n hx hb dX6_altitude_150 rfl (lv_at hl 2 rfl) ?_
        refine lv_bipush (v := 9) hx hb dX6_altitude_151 (by decide) ?_
        refine rV (As := [.int a0, .int (9 : Int32)]) (rest := [.int ((2 : Int32) * (f_X6_altitude_x145 a0))]) hx hb hml hown htg (c_X6_of l h0 a0 (9 : Int32)) Blind.tt ml_X6_167 im_X6_of se_X6_of ini_X6 co_X6_of rfl dn_X6_of rfl (va_recv hK hP (ci := 4) (q0 := 0) rfl rfl) (fun _ _ _ => trivial) hl.1 rfl (Nat.le_of_ble_eq_true rfl) ⟨Nat.le_of_ble_eq_true rfl, Nat.le_of_ble_eq_true rfl⟩ ⟨Nat.le_of_ble_eq_true rfl, Nat.le_of_ble_eq_true rfl⟩ dX6_altitude_153 ?_
        refine lv_iadd hx hb dX6_altitude_156 ?_
        refine lv_istore_n (lv' := [(2, .int (((2 : Int32) * (f_X6_altitude_x145 a0)) + (f_X6_of a0 (9 : Int32)))), (0, .ref h0), (1, .int a0)]) hx hb dX6_altitude_157 rfl hl (by decide) rfl (fun ls hl => ?_)
        refine lv_iconst (v := 2) hx hb dX6_altitude_158 (by decide) ?_
        refine lv_iload_n hx hb dX6_altitude_159 rfl (lv_at hl 0 rfl) ?_
        refine lv_imul hx hb dX6_altitude_160 ?_
        refine lv_aload_n hx hb dX6_altitude_161 rfl (lv_at hl 1 rfl) ?_
        refine lv_iload_n hx hb dX6_altitude_162 rfl (lv_at hl 2 rfl) ?_
        refine lv_bipush (v := 11) hx hb dX6_altitude_163 (by decide) ?_
        refine rV (As := [.int a0, .int (11 : Int32)]) (rest := [.int ((2 : Int32) * (((2 : Int32) * (f_X6_altitude_x145 a0)) + (f_X6_of a0 (9 : Int32))))]) hx hb hml hown htg (c_X6_of l h0 a0 (11 : Int32)) Blind.tt ml_X6_167 im_X6_of se_X6_of ini_X6 co_X6_of rfl dn_X6_of rfl (va_recv hK hP (ci := 4) (q0 := 0) rfl rfl) (fun _ _ _ => trivial) hl.1 rfl (Nat.le_of_ble_eq_true rfl) ⟨Nat.le_of_ble_eq_true rfl, Nat.le_of_ble_eq_true rfl⟩ ⟨Nat.le_of_ble_eq_true rfl, Nat.le_of_ble_eq_true rfl⟩ dX6_altitude_165 ?_
        refine lv_iadd hx hb dX6_altitude_168 ?_
        refine lv_istore_n (lv' := [(2, .int (f_X6_altitude_x169 a0)), (0, .ref h0), (1, .int a0)]) hx hb dX6_altitude_169 rfl hl (by decide) rfl (fun ls hl => ?_)
        refine lv_aload_n hx hb dX6_altitude_170 rfl (lv_at hl 1 rfl) ?_
        refine lv_iload_n hx hb dX6_altitude_171 rfl (lv_at hl 0 rfl) ?_
        refine lv_bipush (v := 8) hx hb dX6_altitude_172 (by decide) ?_
        refine rV (As := [.int (f_X6_altitude_x169 a0), .int (8 : Int32)]) (rest := []) hx hb hml hown htg (c_X6_ungray l h0 (f_X6_altitude_x169 a0) (8 : Int32) ⟨by decide, by decide⟩) Blind.tt ml_X6_172 im_X6_ungray se_X6_ungray ini_X6 co_X6_ungray rfl dn_X6_ungray rfl (va_recv hK hP (ci := 4) (q0 := 0) rfl rfl) (fun _ _ _ => trivial) hl.1 rfl (Nat.le_of_ble_eq_true rfl) ⟨Nat.le_of_ble_eq_true rfl, Nat.le_of_ble_eq_true rfl⟩ ⟨Nat.le_of_ble_eq_true rfl, Nat.le_of_ble_eq_true rfl⟩ dX6_altitude_174 ?_
        refine lv_istore_n (lv' := [(3, .int (f_X6_ungray (f_X6_altitude_x169 a0) (8 : Int32))), (2, .int (f_X6_altitude_x169 a0)), (0, .ref h0), (1, .int a0)]) hx hb dX6_altitude_177 rfl hl (by decide) rfl (fun ls hl => ?_)
        refine lv_aload_n hx hb dX6_altitude_178 rfl (lv_at hl 2 rfl) ?_
        refine lv_iconst (v := 4) hx hb dX6_altitude_179 (by decide) ?_
        refine lv_aload_n hx hb dX6_altitude_180 rfl (lv_at hl 2 rfl) ?_
        refine lv_iload_n hx hb dX6_altitude_181 rfl (lv_at hl 3 rfl) ?_
        refine lv_iconst (v := 0) hx hb dX6_altitude_182 (by decide) ?_
        refine rV (As := [.int a0, .int (0 : Int32)]) (rest := [.int (4 : Int32), .ref h0]) hx hb hml hown htg (c_X6_of l h0 a0 (0 : Int32)) Blind.tt ml_X6_167 im_X6_of se_X6_of ini_X6 co_X6_of rfl dn_X6_of rfl (va_recv hK hP (ci := 4) (q0 := 0) rfl rfl) (fun _ _ _ => trivial) hl.1 rfl (Nat.le_of_ble_eq_true rfl) ⟨Nat.le_of_ble_eq_true rfl, Nat.le_of_ble_eq_true rfl⟩ ⟨Nat.le_of_ble_eq_true rfl, Nat.le_of_ble_eq_true rfl⟩ dX6_altitude_183 ?_
        refine lv_imul hx hb dX6_altitude_186 ?_
        refine lv_iconst (v := 2) hx hb dX6_altitude_187 (by decide) ?_
        refine lv_aload_n hx hb dX6_altitude_188 rfl (lv_at hl 2 rfl) ?_
        refine lv_iload_n hx hb dX6_altitude_189 rfl (lv_at hl 3 rfl) ?_
        refine lv_iconst (v := 2) hx hb dX6_altitude_190 (by decide) ?_
        refine rV (As := [.int a0, .int (2 : Int32)]) (rest := [.int (2 : Int32), .int ((4 : Int32) * (f_X6_of a0 (0 : Int32))), .ref h0]) hx hb hml hown htg (c_X6_of l h0 a0 (2 : Int32)) Blind.tt ml_X6_167 im_X6_of se_X6_of ini_X6 co_X6_of rfl dn_X6_of rfl (va_recv hK hP (ci := 4) (q0 := 0) rfl rfl) (fun _ _ _ => trivial) hl.1 rfl (Nat.le_of_ble_eq_true rfl) ⟨Nat.le_of_ble_eq_true rfl, Nat.le_of_ble_eq_true rfl⟩ ⟨Nat.le_of_ble_eq_true rfl, Nat.le_of_ble_eq_true rfl⟩ dX6_altitude_191 ?_
        refine lv_imul hx hb dX6_altitude_194 ?_
        refine lv_iadd hx hb dX6_altitude_195 ?_
        refine lv_aload_n hx hb dX6_altitude_196 rfl (lv_at hl 2 rfl) ?_
        refine lv_iload_n hx hb dX6_altitude_197 rfl (lv_at hl 3 rfl) ?_
        refine lv_iconst (v := 4) hx hb dX6_altitude_198 (by decide) ?_
        refine rV (As := [.int a0, .int (4 : Int32)]) (rest := [.int (((4 : Int32) * (f_X6_of a0 (0 : Int32))) + ((2 : Int32) * (f_X6_of a0 (2 : Int32)))), .ref h0]) hx hb hml hown htg (c_X6_of l h0 a0 (4 : Int32)) Blind.tt ml_X6_167 im_X6_of se_X6_of ini_X6 co_X6_of rfl dn_X6_of rfl (va_recv hK hP (ci := 4) (q0 := 0) rfl rfl) (fun _ _ _ => trivial) hl.1 rfl (Nat.le_of_ble_eq_true rfl) ⟨Nat.le_of_ble_eq_true rfl, Nat.le_of_ble_eq_true rfl⟩ ⟨Nat.le_of_ble_eq_true rfl, Nat.le_of_ble_eq_true rfl⟩ dX6_altitude_199 ?_
        refine lv_iadd hx hb dX6_altitude_202 ?_
        refine lv_iconst (v := 3) hx hb dX6_altitude_203 (by decide) ?_
        refine rV (As := [.int ((((4 : Int32) * (f_X6_of a0 (0 : Int32))) + ((2 : Int32) * (f_X6_of a0 (2 : Int32)))) + (f_X6_of a0 (4 : Int32))), .int (3 : Int32)]) (rest := []) hx hb hml hown htg (c_X6_ungray l h0 ((((4 : Int32) * (f_X6_of a0 (0 : Int32))) + ((2 : Int32) * (f_X6_of a0 (2 : Int32)))) + (f_X6_of a0 (4 : Int32))) (3 : Int32) ⟨by decide, by decide⟩) Blind.tt ml_X6_172 im_X6_ungray se_X6_ungray ini_X6 co_X6_ungray rfl dn_X6_ungray rfl (va_recv hK hP (ci := 4) (q0 := 0) rfl rfl) (fun _ _ _ => trivial) hl.1 rfl (Nat.le_of_ble_eq_true rfl) ⟨Nat.le_of_ble_eq_true rfl, Nat.le_of_ble_eq_true rfl⟩ ⟨Nat.le_of_ble_eq_true rfl, Nat.le_of_ble_eq_true rfl⟩ dX6_altitude_204 ?_
        refine lv_istore (lv' := [(4, .int (f_X6_altitude_x207 a0)), (3, .int (f_X6_ungray (f_X6_altitude_x169 a0) (8 : Int32))), (2, .int (f_X6_altitude_x169 a0)), (0, .ref h0), (1, .int a0)]) hx hb dX6_altitude_207 hl (by decide) rfl (fun ls hl => ?_)
        refine lv_iload hx hb dX6_altitude_209 (lv_at hl 0 rfl) ?_
        refine lv_if_eq (tgt := 227) hx hb dX6_altitude_211 (by decide) (fun c_4 => ?_) (fun c_4 => ?_)
        · refine lv_ldc (v := (-2147483648)) hx hb hown (htg _ ct_X6_171) dX6_altitude_227 ?_
          exact rd_i hx hb hr hlocks (by simp only [f_X6_altitude, if_neg c_1, if_neg c_2, if_neg c_3, if_pos c_4]) dX6_altitude_229
        · refine lv_iload hx hb dX6_altitude_214 (lv_at hl 0 rfl) ?_
          refine lv_iconst (v := 5) hx hb dX6_altitude_216 (by decide) ?_
          refine lv_icmp_eq (tgt := 227) hx hb dX6_altitude_217 (by decide) (fun c_5 => ?_) (fun c_5 => ?_)
          · refine lv_ldc (v := (-2147483648)) hx hb hown (htg _ ct_X6_171) dX6_altitude_227 ?_
            exact rd_i hx hb hr hlocks (by simp only [f_X6_altitude, if_neg c_1, if_neg c_2, if_neg c_3, if_neg c_4, if_pos c_5]) dX6_altitude_229
          · refine lv_iload hx hb dX6_altitude_220 (lv_at hl 0 rfl) ?_
            refine lv_bipush (v := 6) hx hb dX6_altitude_222 (by decide) ?_
            refine lv_icmp_ne (tgt := 230) hx hb dX6_altitude_224 (by decide) (fun c_6 => ?_) (fun c_6 => ?_)
            · refine lv_iload hx hb dX6_altitude_230 (lv_at hl 0 rfl) ?_
              refine lv_bipush (v := 7) hx hb dX6_altitude_232 (by decide) ?_
              refine W.join (nL := 5) (lv := [(4, .int (if (f_X6_altitude_x207 a0) = (7 : Int32) then (5 : Int32) else (f_X6_altitude_x207 a0))), (3, .int (f_X6_ungray (f_X6_altitude_x169 a0) (8 : Int32))), (2, .int (f_X6_altitude_x169 a0)), (0, .ref h0), (1, .int a0)]) (pc2 := 240) (st2 := []) (fun ls hl => ?_) (fun J => ?_)
              · refine lv_iload_n hx hb dX6_altitude_240 rfl (lv_at hl 1 rfl) ?_
                refine lv_iconst (v := 2) hx hb dX6_altitude_241 (by decide) ?_
                refine lv_irem hx hb dX6_altitude_242 (by decide) ?_
                refine lv_iconst (v := 1) hx hb dX6_altitude_243 (by decide) ?_
                refine W.join (nL := 5) (lv := [(4, .int (if ((f_X6_ungray (f_X6_altitude_x169 a0) (8 : Int32)) - (f_X6_ungray (f_X6_altitude_x169 a0) (8 : Int32)) / (2 : Int32) * (2 : Int32)) = (1 : Int32) then (f_X6_altitude_x252 a0) else (if (f_X6_altitude_x207 a0) = (7 : Int32) then (5 : Int32) else (f_X6_altitude_x207 a0)))), (3, .int (f_X6_ungray (f_X6_altitude_x169 a0) (8 : Int32))), (2, .int (f_X6_altitude_x169 a0)), (0, .ref h0), (1, .int a0)]) (pc2 := 254) (st2 := []) (fun ls hl => ?_) (fun J => ?_)
                · refine lv_sipush (v := 500) hx hb dX6_altitude_254 (by decide) ?_
                  refine lv_iload_n hx hb dX6_altitude_257 rfl (lv_at hl 1 rfl) ?_
                  refine lv_imul hx hb dX6_altitude_258 ?_
                  refine lv_bipush (v := 100) hx hb dX6_altitude_259 (by decide) ?_
                  refine lv_iload hx hb dX6_altitude_261 (lv_at hl 0 rfl) ?_
                  refine lv_imul hx hb dX6_altitude_263 ?_
                  refine lv_iadd hx hb dX6_altitude_264 ?_
                  refine lv_sipush (v := 1300) hx hb dX6_altitude_265 (by decide) ?_
                  refine lv_isub hx hb dX6_altitude_268 ?_
                  exact rd_i hx hb hr hlocks (by simp only [f_X6_altitude, if_neg c_1, if_neg c_2, if_neg c_3, if_neg c_4, if_neg c_5, if_neg c_6]) dX6_altitude_269
                · refine lv_icmp_ne (tgt := 254) hx hb dX6_altitude_244 (by decide) (fun c_7 => ?_) (fun c_7 => ?_)
                  · exact J ls (lv_eq (lv_sub (l' := [(4, .int (if (f_X6_altitude_x207 a0) = (7 : Int32) then (5 : Int32) else (f_X6_altitude_x207 a0))), (3, .int (f_X6_ungray (f_X6_altitude_x169 a0) (8 : Int32))), (2, .int (f_X6_altitude_x169 a0)), (0, .ref h0), (1, .int a0)]) hl [0, 1, 2, 3, 4] rfl) (by first | simp only [if_neg c_7] | rfl))
                  · refine lv_bipush (v := 6) hx hb dX6_altitude_247 (by decide) ?_
                    refine lv_iload hx hb dX6_altitude_249 (lv_at hl 0 rfl) ?_
                    refine lv_isub hx hb dX6_altitude_251 ?_
                    refine lv_istore (lv' := [(4, .int (f_X6_altitude_x252 a0)), (3, .int (f_X6_ungray (f_X6_altitude_x169 a0) (8 : Int32))), (2, .int (f_X6_altitude_x169 a0)), (0, .ref h0), (1, .int a0)]) hx hb dX6_altitude_252 hl (by decide) rfl (fun ls hl => ?_)
                    exact J ls (lv_eq (lv_sub (l' := [(4, .int (f_X6_altitude_x252 a0)), (3, .int (f_X6_ungray (f_X6_altitude_x169 a0) (8 : Int32))), (2, .int (f_X6_altitude_x169 a0)), (0, .ref h0), (1, .int a0)]) hl [0, 1, 2, 3, 4] rfl) (by first | simp only [if_pos c_7] | rfl))
              · refine lv_icmp_ne (tgt := 240) hx hb dX6_altitude_234 (by decide) (fun c_8 => ?_) (fun c_8 => ?_)
                · exact J ls (lv_eq (lv_sub (l' := [(4, .int (f_X6_altitude_x207 a0)), (3, .int (f_X6_ungray (f_X6_altitude_x169 a0) (8 : Int32))), (2, .int (f_X6_altitude_x169 a0)), (0, .ref h0), (1, .int a0)]) hl [0, 1, 2, 3, 4] rfl) (by first | simp only [if_neg c_8] | rfl))
                · refine lv_iconst (v := 5) hx hb dX6_altitude_237 (by decide) ?_
                  refine lv_istore (lv' := [(4, .int (5 : Int32)), (3, .int (f_X6_ungray (f_X6_altitude_x169 a0) (8 : Int32))), (2, .int (f_X6_altitude_x169 a0)), (0, .ref h0), (1, .int a0)]) hx hb dX6_altitude_238 hl (by decide) rfl (fun ls hl => ?_)
                  exact J ls (lv_eq (lv_sub (l' := [(4, .int (5 : Int32)), (3, .int (f_X6_ungray (f_X6_altitude_x169 a0) (8 : Int32))), (2, .int (f_X6_altitude_x169 a0)), (0, .ref h0), (1, .int a0)]) hl [0, 1, 2, 3, 4] rfl) (by first | simp only [if_pos c_8] | rfl))
            · refine lv_ldc (v := (-2147483648)) hx hb hown (htg _ ct_X6_171) dX6_altitude_227 ?_
              exact rd_i hx hb hr hlocks (by simp only [f_X6_altitude, if_neg c_1, if_neg c_2, if_neg c_3, if_neg c_4, if_neg c_5, if_pos c_6]) dX6_altitude_229
      · refine lv_iconst (v := 0) hx hb dX6_altitude_29 (by decide) ?_
        refine lv_istore_n (lv' := [(2, .int (0 : Int32)), (0, .ref h0), (1, .int a0)]) hx hb dX6_altitude_30 rfl hl (by decide) rfl (fun ls hl => ?_)
        refine lv_iconst (v := 0) hx hb dX6_altitude_31 (by decide) ?_
        refine lv_istore_n (lv' := [(3, .int (0 : Int32)), (2, .int (0 : Int32)), (0, .ref h0), (1, .int a0)]) hx hb dX6_altitude_32 rfl hl (by decide) rfl (fun ls hl => ?_)
        have Lp : ∀ (n : Nat) (i : Int32) (v : Int32), Up n i 13 ∧ 0 ≤ i.toInt → ∀ ls : Array Slot, lv_has ls 5 [(3, .int i), (2, .int v), (0, .ref h0), (1, .int a0)] → f_X6_altitude_lp a0 n i v = f_X6_altitude a0 → W p l e { frames := 1, cells := 0, slots := 0, locals := 25 } s m args below meth c s.heap [] 0 0 (MQ below (rdQ (some (.int (f_X6_altitude a0)))) args s 0 0 (fun _ => False)) (F0 m 33 ls []) := by
          intro n
          induction n with
          | zero =>
            intro i v hi ls hl hE
            refine lv_iload_n hx hb dX6_altitude_33 rfl (lv_at hl 0 rfl) ?_
            refine lv_bipush (v := 13) hx hb dX6_altitude_34 (by decide) ?_
            refine lv_icmp_ge (tgt := 72) hx hb dX6_altitude_36 (by decide) (fun c_9 => ?_) (fun c_9 => ?_)
            · refine lv_bipush (v := 25) hx hb dX6_altitude_72 (by decide) ?_
              refine lv_iload_n hx hb dX6_altitude_74 rfl (lv_at hl 1 rfl) ?_
              refine lv_imul hx hb dX6_altitude_75 ?_
              refine lv_sipush (v := 1000) hx hb dX6_altitude_76 (by decide) ?_
              refine lv_isub hx hb dX6_altitude_79 ?_
              exact rd_i hx hb hr hlocks (by rw [← hE]; simp only [f_X6_altitude_lp]) dX6_altitude_80
            · exact absurd hi.1.z c_9
          | succ n ih =>
            intro i v hi ls hl hE
            refine lv_iload_n hx hb dX6_altitude_33 rfl (lv_at hl 0 rfl) ?_
            refine lv_bipush (v := 13) hx hb dX6_altitude_34 (by decide) ?_
            refine lv_icmp_ge (tgt := 72) hx hb dX6_altitude_36 (by decide) (fun c_10 => ?_) (fun c_10 => ?_)
            · exact absurd c_10 hi.1.s
            · refine lv_iload_n hx hb dX6_altitude_39 rfl (lv_at hl 0 rfl) ?_
              refine lv_bipush (v := 6) hx hb dX6_altitude_40 (by decide) ?_
              refine W.join (nL := 5) (lv := [(3, .int i), (2, .int v), (0, .ref h0), (1, .int a0)]) (pc2 := 65) (st2 := [.int (if i = (6 : Int32) then v else (if i = (8 : Int32) then v else (((2 : Int32) * v) + (f_X6_of a0 i))))]) (fun ls hl => ?_) (fun J => ?_)
              · refine lv_istore_n (lv' := [(2, .int (f_X6_altitude_x65 i v a0)), (3, .int i), (0, .ref h0), (1, .int a0)]) hx hb dX6_altitude_65 rfl hl (by decide) rfl (fun ls hl => ?_)
                refine lv_iinc (v := (i + (1 : Int32))) (lv' := [(3, .int (i + (1 : Int32))), (2, .int (f_X6_altitude_x65 i v a0)), (0, .ref h0), (1, .int a0)]) hx hb dX6_altitude_66 hl (k := 1) rfl rfl (by decide) rfl (fun ls hl => ?_)
                refine lv_goto (tgt := 33) hx hb dX6_altitude_69 (by decide) ?_
                exact ih (i + (1 : Int32)) (f_X6_altitude_x65 i v a0) ⟨hi.1.nx, by have e1 : (i + 1).toInt = i.toInt + 1 := (by have := hi.1.2; have := hi.1.1; rw [fb_addI] <;> rw [i1] <;> omega); have := hi.2; omega⟩ ls (lv_sub hl [0, 1, 2, 3] rfl) (by rw [← hE]; simp only [f_X6_altitude_lp])
              · refine lv_icmp_eq (tgt := 51) hx hb dX6_altitude_42 (by decide) (fun c_11 => ?_) (fun c_11 => ?_)
                · refine lv_iload_n hx hb dX6_altitude_51 rfl (lv_at hl 1 rfl) ?_
                  refine lv_goto (tgt := 65) hx hb dX6_altitude_52 (by decide) ?_
                  exact W.eq (by first | simp only [if_pos c_11] | rfl) (J ls (lv_sub hl [0, 1, 2, 3] rfl))
                · refine lv_iload_n hx hb dX6_altitude_45 rfl (lv_at hl 0 rfl) ?_
                  refine lv_bipush (v := 8) hx hb dX6_altitude_46 (by decide) ?_
                  refine lv_icmp_ne (tgt := 55) hx hb dX6_altitude_48 (by decide) (fun c_12 => ?_) (fun c_12 => ?_)
                  · refine lv_iconst (v := 2) hx hb dX6_altitude_55 (by decide) ?_
                    refine lv_iload_n hx hb dX6_altitude_56 rfl (lv_at hl 1 rfl) ?_
                    refine lv_imul hx hb dX6_altitude_57 ?_
                    refine lv_aload_n hx hb dX6_altitude_58 rfl (lv_at hl 2 rfl) ?_
                    refine lv_iload_n hx hb dX6_altitude_59 rfl (lv_at hl 3 rfl) ?_
                    refine lv_iload_n hx hb dX6_altitude_60 rfl (lv_at hl 0 rfl) ?_
                    refine rV (As := [.int a0, .int i]) (rest := [.int ((2 : Int32) * v)]) hx hb hml hown htg (c_X6_of l h0 a0 i) Blind.tt ml_X6_167 im_X6_of se_X6_of ini_X6 co_X6_of rfl dn_X6_of rfl (va_recv hK hP (ci := 4) (q0 := 0) rfl rfl) (fun _ _ _ => trivial) hl.1 rfl (Nat.le_of_ble_eq_true rfl) ⟨Nat.le_of_ble_eq_true rfl, Nat.le_of_ble_eq_true rfl⟩ ⟨Nat.le_of_ble_eq_true rfl, Nat.le_of_ble_eq_true rfl⟩ dX6_altitude_61 ?_
                    refine lv_iadd hx hb dX6_altitude_64 ?_
                    exact W.eq (by first | simp only [if_neg c_11, if_neg c_12] | rfl) (J ls (lv_sub hl [0, 1, 2, 3] rfl))
                  · refine lv_iload_n hx hb dX6_altitude_51 rfl (lv_at hl 1 rfl) ?_
                    refine lv_goto (tgt := 65) hx hb dX6_altitude_52 (by decide) ?_
                    exact W.eq (by first | simp only [if_neg c_11, if_pos c_12] | rfl) (J ls (lv_sub hl [0, 1, 2, 3] rfl))
        exact Lp 13 (0 : Int32) (0 : Int32) ⟨⟨by decide, by decide, by decide⟩, by decide⟩ ls (lv_sub hl [0, 1, 2, 3] rfl) (by simp only [f_X6_altitude, if_neg c_1, if_neg c_2, if_pos c_3])
    · refine lv_ldc (v := (-2147483648)) hx hb hown (htg _ ct_X6_171) dX6_altitude_15 ?_
      exact rd_i hx hb hr hlocks (by simp only [f_X6_altitude, if_neg c_1, if_pos c_2]) dX6_altitude_17

def f_X6_squawk_x24 (a0 : Int32) : Int32 := ((((4 : Int32) * (f_X6_of a0 (5 : Int32))) + ((2 : Int32) * (f_X6_of a0 (3 : Int32)))) + (f_X6_of a0 (1 : Int32)))
def f_X6_squawk_x52 (a0 : Int32) : Int32 := ((((4 : Int32) * (f_X6_of a0 (11 : Int32))) + ((2 : Int32) * (f_X6_of a0 (9 : Int32)))) + (f_X6_of a0 (7 : Int32)))
def f_X6_squawk_x77 (a0 : Int32) : Int32 := ((((4 : Int32) * (f_X6_of a0 (4 : Int32))) + ((2 : Int32) * (f_X6_of a0 (2 : Int32)))) + (f_X6_of a0 (0 : Int32)))
def f_X6_squawk_x106 (a0 : Int32) : Int32 := ((((4 : Int32) * (f_X6_of a0 (12 : Int32))) + ((2 : Int32) * (f_X6_of a0 (10 : Int32)))) + (f_X6_of a0 (8 : Int32)))
def f_X6_squawk (a0 : Int32) : Int32 := (((((1000 : Int32) * (f_X6_squawk_x24 a0)) + ((100 : Int32) * (f_X6_squawk_x52 a0))) + ((10 : Int32) * (f_X6_squawk_x77 a0))) + (f_X6_squawk_x106 a0))
set_option maxHeartbeats 4000000 in
set_option maxRecDepth 100000 in
theorem c_X6_squawk (l : Launch) (D : va_G) (cI cJ cO : ClassId) (h0 : Nat) (h1 : Nat) (h2 : Nat) (mn : Int32) (lt : Int32) (h3 : Nat) (sz : Int32) (h4 : Nat) (hsz : Int32) (hsy : Int32) (hrt : Int32) (hpl : Int32) (ola : Int32) (olo : Int32) (lat : Int32) (lon : Int32) (bd : Nat → Int64) (rw : Nat → Int32) (bt : Nat → Int32) (hd : Nat → Int32) (a0 : Int32) : Rd l yX6_squawk cX6_squawk 6 (some .int) 1 22 [.ref h0, .int a0] (fun U => B0 D cI cJ cO [(h0, .inr (4, [.ref h1, .ref h2, .int mn, .int lt, .ref h3, .int sz, .ref h4, .int hsz, .int hsy, .int hrt, .int hpl, .int ola, .int olo, .int lat, .int lon])), (h1, .inl (cJ, 58, .inr (.inl bd))), (h2, .inl (cI, 800, .inl rw)), (h3, .inl (cI, 112, .inl bt)), (h4, .inl (cI, 112, .inl hd))] U) (some (.int (f_X6_squawk a0))) := by
  refine Rd.of (by decide +kernel) (Nat.le_of_ble_eq_true rfl) ?_
  intro p e s m args below meth c hx hb hr hml hown htg hlocks hB ls hl
  obtain ⟨hP, hK⟩ := hB
  have hP : va_P D vwCl [(h0, .inr (4, [.ref h1, .ref h2, .int mn, .int lt, .ref h3, .int sz, .ref h4, .int hsz, .int hsy, .int hrt, .int hpl, .int ola, .int olo, .int lat, .int lon])), (h1, .inl (cJ, 58, .inr (.inl bd))), (h2, .inl (cI, 800, .inl rw)), (h3, .inl (cI, 112, .inl bt)), (h4, .inl (cI, 112, .inl hd))] s.heap := hP
  have hown : s.vm.findClass RX6 = some m.cls := hown
  have hl : lv_has ls 6 [(0, .ref h0), (1, .int a0)] := hl
  refine lv_iconst (v := 4) hx hb dX6_squawk_0 (by decide) ?_
  refine lv_aload_n hx hb dX6_squawk_1 rfl (lv_at hl 0 rfl) ?_
  refine lv_iload_n hx hb dX6_squawk_2 rfl (lv_at hl 1 rfl) ?_
  refine lv_iconst (v := 5) hx hb dX6_squawk_3 (by decide) ?_
  refine rV (As := [.int a0, .int (5 : Int32)]) (rest := [.int (4 : Int32)]) hx hb hml hown htg (c_X6_of l h0 a0 (5 : Int32)) Blind.tt ml_X6_167 im_X6_of se_X6_of ini_X6 co_X6_of rfl dn_X6_of rfl (va_recv hK hP (ci := 4) (q0 := 0) rfl rfl) (fun _ _ _ => trivial) hl.1 rfl (Nat.le_of_ble_eq_true rfl) ⟨Nat.le_of_ble_eq_true rfl, Nat.le_of_ble_eq_true rfl⟩ ⟨Nat.le_of_ble_eq_true rfl, Nat.le_of_ble_eq_true rfl⟩ dX6_squawk_4 ?_
  refine lv_imul hx hb dX6_squawk_7 ?_
  refine lv_iconst (v := 2) hx hb dX6_squawk_8 (by decide) ?_
  refine lv_aload_n hx hb dX6_squawk_9 rfl (lv_at hl 0 rfl) ?_
  refine lv_iload_n hx hb dX6_squawk_10 rfl (lv_at hl 1 rfl) ?_
  refine lv_iconst (v := 3) hx hb dX6_squawk_11 (by decide) ?_
  refine rV (As := [.int a0, .int (3 : Int32)]) (rest := [.int (2 : Int32), .int ((4 : Int32) * (f_X6_of a0 (5 : Int32)))]) hx hb hml hown htg (c_X6_of l h0 a0 (3 : Int32)) Blind.tt ml_X6_167 im_X6_of se_X6_of ini_X6 co_X6_of rfl dn_X6_of rfl (va_recv hK hP (ci := 4) (q0 := 0) rfl rfl) (fun _ _ _ => trivial) hl.1 rfl (Nat.le_of_ble_eq_true rfl) ⟨Nat.le_of_ble_eq_true rfl, Nat.le_of_ble_eq_true rfl⟩ ⟨Nat.le_of_ble_eq_true rfl, Nat.le_of_ble_eq_true rfl⟩ dX6_squawk_12 ?_
  refine lv_imul hx hb dX6_squawk_15 ?_
  refine lv_iadd hx hb dX6_squawk_16 ?_
  refine lv_aload_n hx hb dX6_squawk_17 rfl (lv_at hl 0 rfl) ?_
  refine lv_iload_n hx hb dX6_squawk_18 rfl (lv_at hl 1 rfl) ?_
  refine lv_iconst (v := 1) hx hb dX6_squawk_19 (by decide) ?_
  refine rV (As := [.int a0, .int (1 : Int32)]) (rest := [.int (((4 : Int32) * (f_X6_of a0 (5 : Int32))) + ((2 : Int32) * (f_X6_of a0 (3 : Int32))))]) hx hb hml hown htg (c_X6_of l h0 a0 (1 : Int32)) Blind.tt ml_X6_167 im_X6_of se_X6_of ini_X6 co_X6_of rfl dn_X6_of rfl (va_recv hK hP (ci := 4) (q0 := 0) rfl rfl) (fun _ _ _ => trivial) hl.1 rfl (Nat.le_of_ble_eq_true rfl) ⟨Nat.le_of_ble_eq_true rfl, Nat.le_of_ble_eq_true rfl⟩ ⟨Nat.le_of_ble_eq_true rfl, Nat.le_of_ble_eq_true rfl⟩ dX6_squawk_20 ?_
  refine lv_iadd hx hb dX6_squawk_23 ?_
  refine lv_istore_n (lv' := [(2, .int (f_X6_squawk_x24 a0)), (0, .ref h0), (1, .int a0)]) hx hb dX6_squawk_24 rfl hl (by decide) rfl (fun ls hl => ?_)
  refine lv_iconst (v := 4) hx hb dX6_squawk_25 (by decide) ?_
  refine lv_aload_n hx hb dX6_squawk_26 rfl (lv_at hl 1 rfl) ?_
  refine lv_iload_n hx hb dX6_squawk_27 rfl (lv_at hl 2 rfl) ?_
  refine lv_bipush (v := 11) hx hb dX6_squawk_28 (by decide) ?_
  refine rV (As := [.int a0, .int (11 : Int32)]) (rest := [.int (4 : Int32)]) hx hb hml hown htg (c_X6_of l h0 a0 (11 : Int32)) Blind.tt ml_X6_167 im_X6_of se_X6_of ini_X6 co_X6_of rfl dn_X6_of rfl (va_recv hK hP (ci := 4) (q0 := 0) rfl rfl) (fun _ _ _ => trivial) hl.1 rfl (Nat.le_of_ble_eq_true rfl) ⟨Nat.le_of_ble_eq_true rfl, Nat.le_of_ble_eq_true rfl⟩ ⟨Nat.le_of_ble_eq_true rfl, Nat.le_of_ble_eq_true rfl⟩ dX6_squawk_30 ?_
  refine lv_imul hx hb dX6_squawk_33 ?_
  refine lv_iconst (v := 2) hx hb dX6_squawk_34 (by decide) ?_
  refine lv_aload_n hx hb dX6_squawk_35 rfl (lv_at hl 1 rfl) ?_
  refine lv_iload_n hx hb dX6_squawk_36 rfl (lv_at hl 2 rfl) ?_
  refine lv_bipush (v := 9) hx hb dX6_squawk_37 (by decide) ?_
  refine rV (As := [.int a0, .int (9 : Int32)]) (rest := [.int (2 : Int32), .int ((4 : Int32) * (f_X6_of a0 (11 : Int32)))]) hx hb hml hown htg (c_X6_of l h0 a0 (9 : Int32)) Blind.tt ml_X6_167 im_X6_of se_X6_of ini_X6 co_X6_of rfl dn_X6_of rfl (va_recv hK hP (ci := 4) (q0 := 0) rfl rfl) (fun _ _ _ => trivial) hl.1 rfl (Nat.le_of_ble_eq_true rfl) ⟨Nat.le_of_ble_eq_true rfl, Nat.le_of_ble_eq_true rfl⟩ ⟨Nat.le_of_ble_eq_true rfl, Nat.le_of_ble_eq_true rfl⟩ dX6_squawk_39 ?_
  refine lv_imul hx hb dX6_squawk_42 ?_
  refine lv_iadd hx hb dX6_squawk_43 ?_
  refine lv_aload_n hx hb dX6_squawk_44 rfl (lv_at hl 1 rfl) ?_
  refine lv_iload_n hx hb dX6_squawk_45 rfl (lv_at hl 2 rfl) ?_
  refine lv_bipush (v := 7) hx hb dX6_squawk_46 (by decide) ?_
  refine rV (As := [.int a0, .int (7 : Int32)]) (rest := [.int (((4 : Int32) * (f_X6_of a0 (11 : Int32))) + ((2 : Int32) * (f_X6_of a0 (9 : Int32))))]) hx hb hml hown htg (c_X6_of l h0 a0 (7 : Int32)) Blind.tt ml_X6_167 im_X6_of se_X6_of ini_X6 co_X6_of rfl dn_X6_of rfl (va_recv hK hP (ci := 4) (q0 := 0) rfl rfl) (fun _ _ _ => trivial) hl.1 rfl (Nat.le_of_ble_eq_true rfl) ⟨Nat.le_of_ble_eq_true rfl, Nat.le_of_ble_eq_true rfl⟩ ⟨Nat.le_of_ble_eq_true rfl, Nat.le_of_ble_eq_true rfl⟩ dX6_squawk_48 ?_
  refine lv_iadd hx hb dX6_squawk_51 ?_
  refine lv_istore_n (lv' := [(3, .int (f_X6_squawk_x52 a0)), (2, .int (f_X6_squawk_x24 a0)), (0, .ref h0), (1, .int a0)]) hx hb dX6_squawk_52 rfl hl (by decide) rfl (fun ls hl => ?_)
  refine lv_iconst (v := 4) hx hb dX6_squawk_53 (by decide) ?_
  refine lv_aload_n hx hb dX6_squawk_54 rfl (lv_at hl 2 rfl) ?_
  refine lv_iload_n hx hb dX6_squawk_55 rfl (lv_at hl 3 rfl) ?_
  refine lv_iconst (v := 4) hx hb dX6_squawk_56 (by decide) ?_
  refine rV (As := [.int a0, .int (4 : Int32)]) (rest := [.int (4 : Int32)]) hx hb hml hown htg (c_X6_of l h0 a0 (4 : Int32)) Blind.tt ml_X6_167 im_X6_of se_X6_of ini_X6 co_X6_of rfl dn_X6_of rfl (va_recv hK hP (ci := 4) (q0 := 0) rfl rfl) (fun _ _ _ => trivial) hl.1 rfl (Nat.le_of_ble_eq_true rfl) ⟨Nat.le_of_ble_eq_true rfl, Nat.le_of_ble_eq_true rfl⟩ ⟨Nat.le_of_ble_eq_true rfl, Nat.le_of_ble_eq_true rfl⟩ dX6_squawk_57 ?_
  refine lv_imul hx hb dX6_squawk_60 ?_
  refine lv_iconst (v := 2) hx hb dX6_squawk_61 (by decide) ?_
  refine lv_aload_n hx hb dX6_squawk_62 rfl (lv_at hl 2 rfl) ?_
  refine lv_iload_n hx hb dX6_squawk_63 rfl (lv_at hl 3 rfl) ?_
  refine lv_iconst (v := 2) hx hb dX6_squawk_64 (by decide) ?_
  refine rV (As := [.int a0, .int (2 : Int32)]) (rest := [.int (2 : Int32), .int ((4 : Int32) * (f_X6_of a0 (4 : Int32)))]) hx hb hml hown htg (c_X6_of l h0 a0 (2 : Int32)) Blind.tt ml_X6_167 im_X6_of se_X6_of ini_X6 co_X6_of rfl dn_X6_of rfl (va_recv hK hP (ci := 4) (q0 := 0) rfl rfl) (fun _ _ _ => trivial) hl.1 rfl (Nat.le_of_ble_eq_true rfl) ⟨Nat.le_of_ble_eq_true rfl, Nat.le_of_ble_eq_true rfl⟩ ⟨Nat.le_of_ble_eq_true rfl, Nat.le_of_ble_eq_true rfl⟩ dX6_squawk_65 ?_
  refine lv_imul hx hb dX6_squawk_68 ?_
  refine lv_iadd hx hb dX6_squawk_69 ?_
  refine lv_aload_n hx hb dX6_squawk_70 rfl (lv_at hl 2 rfl) ?_
  refine lv_iload_n hx hb dX6_squawk_71 rfl (lv_at hl 3 rfl) ?_
  refine lv_iconst (v := 0) hx hb dX6_squawk_72 (by decide) ?_
  refine rV (As := [.int a0, .int (0 : Int32)]) (rest := [.int (((4 : Int32) * (f_X6_of a0 (4 : Int32))) + ((2 : Int32) * (f_X6_of a0 (2 : Int32))))]) hx hb hml hown htg (c_X6_of l h0 a0 (0 : Int32)) Blind.tt ml_X6_167 im_X6_of se_X6_of ini_X6 co_X6_of rfl dn_X6_of rfl (va_recv hK hP (ci := 4) (q0 := 0) rfl rfl) (fun _ _ _ => trivial) hl.1 rfl (Nat.le_of_ble_eq_true rfl) ⟨Nat.le_of_ble_eq_true rfl, Nat.le_of_ble_eq_true rfl⟩ ⟨Nat.le_of_ble_eq_true rfl, Nat.le_of_ble_eq_true rfl⟩ dX6_squawk_73 ?_
  refine lv_iadd hx hb dX6_squawk_76 ?_
  refine lv_istore (lv' := [(4, .int (f_X6_squawk_x77 a0)), (3, .int (f_X6_squawk_x52 a0)), (2, .int (f_X6_squawk_x24 a0)), (0, .ref h0), (1, .int a0)]) hx hb dX6_squawk_77 hl (by decide) rfl (fun ls hl => ?_)
  refine lv_iconst (v := 4) hx hb dX6_squawk_79 (by decide) ?_
  refine lv_aload_n hx hb dX6_squawk_80 rfl (lv_at hl 3 rfl) ?_
  refine lv_iload_n hx hb dX6_squawk_81 rfl (lv_at hl 4 rfl) ?_
  refine lv_bipush (v := 12) hx hb dX6_squawk_82 (by decide) ?_
  refine rV (As := [.int a0, .int (12 : Int32)]) (rest := [.int (4 : Int32)]) hx hb hml hown htg (c_X6_of l h0 a0 (12 : Int32)) Blind.tt ml_X6_167 im_X6_of se_X6_of ini_X6 co_X6_of rfl dn_X6_of rfl (va_recv hK hP (ci := 4) (q0 := 0) rfl rfl) (fun _ _ _ => trivial) hl.1 rfl (Nat.le_of_ble_eq_true rfl) ⟨Nat.le_of_ble_eq_true rfl, Nat.le_of_ble_eq_true rfl⟩ ⟨Nat.le_of_ble_eq_true rfl, Nat.le_of_ble_eq_true rfl⟩ dX6_squawk_84 ?_
  refine lv_imul hx hb dX6_squawk_87 ?_
  refine lv_iconst (v := 2) hx hb dX6_squawk_88 (by decide) ?_
  refine lv_aload_n hx hb dX6_squawk_89 rfl (lv_at hl 3 rfl) ?_
  refine lv_iload_n hx hb dX6_squawk_90 rfl (lv_at hl 4 rfl) ?_
  refine lv_bipush (v := 10) hx hb dX6_squawk_91 (by decide) ?_
  refine rV (As := [.int a0, .int (10 : Int32)]) (rest := [.int (2 : Int32), .int ((4 : Int32) * (f_X6_of a0 (12 : Int32)))]) hx hb hml hown htg (c_X6_of l h0 a0 (10 : Int32)) Blind.tt ml_X6_167 im_X6_of se_X6_of ini_X6 co_X6_of rfl dn_X6_of rfl (va_recv hK hP (ci := 4) (q0 := 0) rfl rfl) (fun _ _ _ => trivial) hl.1 rfl (Nat.le_of_ble_eq_true rfl) ⟨Nat.le_of_ble_eq_true rfl, Nat.le_of_ble_eq_true rfl⟩ ⟨Nat.le_of_ble_eq_true rfl, Nat.le_of_ble_eq_true rfl⟩ dX6_squawk_93 ?_
  refine lv_imul hx hb dX6_squawk_96 ?_
  refine lv_iadd hx hb dX6_squawk_97 ?_
  refine lv_aload_n hx hb dX6_squawk_98 rfl (lv_at hl 3 rfl) ?_
  refine lv_iload_n hx hb dX6_squawk_99 rfl (lv_at hl 4 rfl) ?_
  refine lv_bipush (v := 8) hx hb dX6_squawk_100 (by decide) ?_
  refine rV (As := [.int a0, .int (8 : Int32)]) (rest := [.int (((4 : Int32) * (f_X6_of a0 (12 : Int32))) + ((2 : Int32) * (f_X6_of a0 (10 : Int32))))]) hx hb hml hown htg (c_X6_of l h0 a0 (8 : Int32)) Blind.tt ml_X6_167 im_X6_of se_X6_of ini_X6 co_X6_of rfl dn_X6_of rfl (va_recv hK hP (ci := 4) (q0 := 0) rfl rfl) (fun _ _ _ => trivial) hl.1 rfl (Nat.le_of_ble_eq_true rfl) ⟨Nat.le_of_ble_eq_true rfl, Nat.le_of_ble_eq_true rfl⟩ ⟨Nat.le_of_ble_eq_true rfl, Nat.le_of_ble_eq_true rfl⟩ dX6_squawk_102 ?_
  refine lv_iadd hx hb dX6_squawk_105 ?_
  refine lv_istore (lv' := [(5, .int (f_X6_squawk_x106 a0)), (4, .int (f_X6_squawk_x77 a0)), (3, .int (f_X6_squawk_x52 a0)), (2, .int (f_X6_squawk_x24 a0)), (0, .ref h0), (1, .int a0)]) hx hb dX6_squawk_106 hl (by decide) rfl (fun ls hl => ?_)
  refine lv_sipush (v := 1000) hx hb dX6_squawk_108 (by decide) ?_
  refine lv_iload_n hx hb dX6_squawk_111 rfl (lv_at hl 3 rfl) ?_
  refine lv_imul hx hb dX6_squawk_112 ?_
  refine lv_bipush (v := 100) hx hb dX6_squawk_113 (by decide) ?_
  refine lv_iload_n hx hb dX6_squawk_115 rfl (lv_at hl 2 rfl) ?_
  refine lv_imul hx hb dX6_squawk_116 ?_
  refine lv_iadd hx hb dX6_squawk_117 ?_
  refine lv_bipush (v := 10) hx hb dX6_squawk_118 (by decide) ?_
  refine lv_iload hx hb dX6_squawk_120 (lv_at hl 1 rfl) ?_
  refine lv_imul hx hb dX6_squawk_122 ?_
  refine lv_iadd hx hb dX6_squawk_123 ?_
  refine lv_iload hx hb dX6_squawk_124 (lv_at hl 0 rfl) ?_
  refine lv_iadd hx hb dX6_squawk_126 ?_
  exact rd_i hx hb hr hlocks (by simp only [f_X6_squawk]) dX6_squawk_127

def f_X6_part (bt : Nat → Int32) (a0 : Int32) (a1 : Int32) : Int32 := (f_X6_number bt ((32 : Int32) + a0) ((32 : Int32) + a1))
set_option maxHeartbeats 4000000 in
set_option maxRecDepth 100000 in
theorem c_X6_part (l : Launch) (D : va_G) (cI cJ cO : ClassId) (h0 : Nat) (h1 : Nat) (h2 : Nat) (mn : Int32) (lt : Int32) (h3 : Nat) (sz : Int32) (h4 : Nat) (hsz : Int32) (hsy : Int32) (hrt : Int32) (hpl : Int32) (ola : Int32) (olo : Int32) (lat : Int32) (lon : Int32) (bd : Nat → Int64) (rw : Nat → Int32) (bt : Nat → Int32) (hd : Nat → Int32) (a0 : Int32) (a1 : Int32) (hab : 1 ≤ (32 + a0).toInt ∧ (32 + a1).toInt ≤ 112 ∧ (32 + a0).toInt ≤ (32 + a1).toInt + 1) : Rd l yX6_part cX6_part 3 (some .int) 1 25 [.ref h0, .int a0, .int a1] (fun U => B0 D cI cJ cO [(h0, .inr (4, [.ref h1, .ref h2, .int mn, .int lt, .ref h3, .int sz, .ref h4, .int hsz, .int hsy, .int hrt, .int hpl, .int ola, .int olo, .int lat, .int lon])), (h1, .inl (cJ, 58, .inr (.inl bd))), (h2, .inl (cI, 800, .inl rw)), (h3, .inl (cI, 112, .inl bt)), (h4, .inl (cI, 112, .inl hd))] U) (some (.int (f_X6_part bt a0 a1))) := by
  refine Rd.of (by decide +kernel) (Nat.le_of_ble_eq_true rfl) ?_
  intro p e s m args below meth c hx hb hr hml hown htg hlocks hB ls hl
  obtain ⟨hP, hK⟩ := hB
  have hP : va_P D vwCl [(h0, .inr (4, [.ref h1, .ref h2, .int mn, .int lt, .ref h3, .int sz, .ref h4, .int hsz, .int hsy, .int hrt, .int hpl, .int ola, .int olo, .int lat, .int lon])), (h1, .inl (cJ, 58, .inr (.inl bd))), (h2, .inl (cI, 800, .inl rw)), (h3, .inl (cI, 112, .inl bt)), (h4, .inl (cI, 112, .inl hd))] s.heap := hP
  have hown : s.vm.findClass RX6 = some m.cls := hown
  have hl : lv_has ls 3 [(0, .ref h0), (1, .int a0), (2, .int a1)] := hl
  refine lv_aload_n hx hb dX6_part_0 rfl (lv_at hl 0 rfl) ?_
  refine lv_aload_n hx hb dX6_part_1 rfl (lv_at hl 0 rfl) ?_
  refine va_get (D := D) (ci := 4) (v := .ref h3) (C := RX6) (T := TX6) (N := 15) hx hb htg inX6 hown hK hP 0 rfl rfl 4 (by decide) (htg _ fl_X6_133) (fun _ h9 => h9) rfl dX6_part_2 ?_
  refine lv_bipush (v := 32) hx hb dX6_part_5 (by decide) ?_
  refine lv_iload_n hx hb dX6_part_7 rfl (lv_at hl 1 rfl) ?_
  refine lv_iadd hx hb dX6_part_8 ?_
  refine lv_bipush (v := 32) hx hb dX6_part_9 (by decide) ?_
  refine lv_iload_n hx hb dX6_part_11 rfl (lv_at hl 2 rfl) ?_
  refine lv_iadd hx hb dX6_part_12 ?_
  refine rV (As := [.ref h3, .int ((32 : Int32) + a0), .int ((32 : Int32) + a1)]) (rest := []) hx hb hml hown htg (c_X6_number l D cI cJ cO h3 bt h0 ((32 : Int32) + a0) ((32 : Int32) + a1) hab) Blind.b0 ml_X6_156 im_X6_number se_X6_number ini_X6 co_X6_number rfl dn_X6_number rfl (va_recv hK hP (ci := 4) (q0 := 0) rfl rfl) (fun U hU hW => ⟨by rw [hU]; exact hP.sub [3] rfl, va_K.moved hW.alike hK⟩) hl.1 rfl (Nat.le_of_ble_eq_true rfl) ⟨Nat.le_of_ble_eq_true rfl, Nat.le_of_ble_eq_true rfl⟩ ⟨Nat.le_of_ble_eq_true rfl, Nat.le_of_ble_eq_true rfl⟩ dX6_part_13 ?_
  exact rd_i hx hb hr hlocks (by simp only [f_X6_part]) dX6_part_16

def f_X6_toldNow (bt : Nat → Int32) : Int64 := (((f_X6_part bt (23 : Int32) (39 : Int32)).toInt64 * (131072 : Int64)) + (f_X6_part bt (40 : Int32) (56 : Int32)).toInt64)
set_option maxHeartbeats 4000000 in
set_option maxRecDepth 100000 in
theorem c_X6_toldNow (l : Launch) (D : va_G) (cI cJ cO : ClassId) (h0 : Nat) (h1 : Nat) (h2 : Nat) (mn : Int32) (lt : Int32) (h3 : Nat) (sz : Int32) (h4 : Nat) (hsz : Int32) (hsy : Int32) (hrt : Int32) (hpl : Int32) (ola : Int32) (olo : Int32) (lat : Int32) (lon : Int32) (bd : Nat → Int64) (rw : Nat → Int32) (bt : Nat → Int32) (hd : Nat → Int32) : Rd l yX6_toldNow cX6_toldNow 1 (some .long) 2 47 [.ref h0] (fun U => B0 D cI cJ cO [(h0, .inr (4, [.ref h1, .ref h2, .int mn, .int lt, .ref h3, .int sz, .ref h4, .int hsz, .int hsy, .int hrt, .int hpl, .int ola, .int olo, .int lat, .int lon])), (h1, .inl (cJ, 58, .inr (.inl bd))), (h2, .inl (cI, 800, .inl rw)), (h3, .inl (cI, 112, .inl bt)), (h4, .inl (cI, 112, .inl hd))] U) (some (.long (f_X6_toldNow bt))) := by
  refine Rd.of (by decide +kernel) (Nat.le_of_ble_eq_true rfl) ?_
  intro p e s m args below meth c hx hb hr hml hown htg hlocks hB ls hl
  obtain ⟨hP, hK⟩ := hB
  have hP : va_P D vwCl [(h0, .inr (4, [.ref h1, .ref h2, .int mn, .int lt, .ref h3, .int sz, .ref h4, .int hsz, .int hsy, .int hrt, .int hpl, .int ola, .int olo, .int lat, .int lon])), (h1, .inl (cJ, 58, .inr (.inl bd))), (h2, .inl (cI, 800, .inl rw)), (h3, .inl (cI, 112, .inl bt)), (h4, .inl (cI, 112, .inl hd))] s.heap := hP
  have hown : s.vm.findClass RX6 = some m.cls := hown
  have hl : lv_has ls 1 [(0, .ref h0)] := hl
  refine lv_aload_n hx hb dX6_toldNow_0 rfl (lv_at hl 0 rfl) ?_
  refine lv_bipush (v := 23) hx hb dX6_toldNow_1 (by decide) ?_
  refine lv_bipush (v := 39) hx hb dX6_toldNow_3 (by decide) ?_
  refine rV (As := [.int (23 : Int32), .int (39 : Int32)]) (rest := []) hx hb hml hown htg (c_X6_part l D cI cJ cO h0 h1 h2 mn lt h3 sz h4 hsz hsy hrt hpl ola olo lat lon bd rw bt hd (23 : Int32) (39 : Int32) ⟨by decide, by decide, by decide⟩) Blind.b0 ml_X6_320 im_X6_part se_X6_part ini_X6 co_X6_part rfl dn_X6_part rfl (va_recv hK hP (ci := 4) (q0 := 0) rfl rfl) (fun U hU hW => ⟨by rw [hU]; exact hP, va_K.moved hW.alike hK⟩) hl.1 rfl (Nat.le_of_ble_eq_true rfl) ⟨Nat.le_of_ble_eq_true rfl, Nat.le_of_ble_eq_true rfl⟩ ⟨Nat.le_of_ble_eq_true rfl, Nat.le_of_ble_eq_true rfl⟩ dX6_toldNow_5 ?_
  refine lv_i2l (v := (f_X6_part bt (23 : Int32) (39 : Int32)).toInt64) hx hb dX6_toldNow_8 rfl ?_
  refine lv_ldc2 (v := 131072) hx hb hown (htg _ ct_X6_200) dX6_toldNow_9 ?_
  refine lv_lmul hx hb dX6_toldNow_12 ?_
  refine lv_aload_n hx hb dX6_toldNow_13 rfl (lv_at hl 0 rfl) ?_
  refine lv_bipush (v := 40) hx hb dX6_toldNow_14 (by decide) ?_
  refine lv_bipush (v := 56) hx hb dX6_toldNow_16 (by decide) ?_
  refine rV (As := [.int (40 : Int32), .int (56 : Int32)]) (rest := [.long ((f_X6_part bt (23 : Int32) (39 : Int32)).toInt64 * (131072 : Int64))]) hx hb hml hown htg (c_X6_part l D cI cJ cO h0 h1 h2 mn lt h3 sz h4 hsz hsy hrt hpl ola olo lat lon bd rw bt hd (40 : Int32) (56 : Int32) ⟨by decide, by decide, by decide⟩) Blind.b0 ml_X6_320 im_X6_part se_X6_part ini_X6 co_X6_part rfl dn_X6_part rfl (va_recv hK hP (ci := 4) (q0 := 0) rfl rfl) (fun U hU hW => ⟨by rw [hU]; exact hP, va_K.moved hW.alike hK⟩) hl.1 rfl (Nat.le_of_ble_eq_true rfl) ⟨Nat.le_of_ble_eq_true rfl, Nat.le_of_ble_eq_true rfl⟩ ⟨Nat.le_of_ble_eq_true rfl, Nat.le_of_ble_eq_true rfl⟩ dX6_toldNow_18 ?_
  refine lv_i2l (v := (f_X6_part bt (40 : Int32) (56 : Int32)).toInt64) hx hb dX6_toldNow_21 rfl ?_
  refine lv_ladd hx hb dX6_toldNow_22 ?_
  exact rd_l hx hb hr hlocks (by simp only [f_X6_toldNow]) dX6_toldNow_23

theorem zo_in {n : Nat} {k : Int32} (hi : k.toInt = ((n + 1 : Nat) : Int) + 1 ∧ n + 1 ≤ 58) : vp_in (59 - k) 58 := by
  have e59 : (59 : Int32).toInt = 59 := rfl
  have e1 : (59 - k).toInt = 59 - k.toInt := by have := hi.1; rw [fb_subI] <;> rw [e59] <;> omega
  exact in_iff (by rw [e1]; omega) (by rw [e1]; omega)
def f_X6_zonesOf_lp (bd : Nat → Int64) (a0 : Int64) (a1 : Int64) : Nat → (Int32) → Int32
  | 0, k => (1 : Int32)
  | n + 1, k => (if (f_X6_sizeOf a0) < ((bd ((59 : Int32) - k).toNatClampNeg) * a1) then k else (if k = (2 : Int32) then (if (f_X6_sizeOf a0) = ((bd ((59 : Int32) - k).toNatClampNeg) * a1) then k else (f_X6_zonesOf_lp bd a0 a1 n (k + (-1 : Int32)))) else (f_X6_zonesOf_lp bd a0 a1 n (k + (-1 : Int32)))))
def f_X6_zonesOf (bd : Nat → Int64) (a0 : Int64) (a1 : Int64) : Int32 := (f_X6_zonesOf_lp bd a0 a1 58 (59 : Int32))
set_option maxHeartbeats 4000000 in
set_option maxRecDepth 100000 in
theorem c_X6_zonesOf (l : Launch) (D : va_G) (cI cJ cO : ClassId) (h0 : Nat) (h1 : Nat) (h2 : Nat) (mn : Int32) (lt : Int32) (h3 : Nat) (sz : Int32) (h4 : Nat) (hsz : Int32) (hsy : Int32) (hrt : Int32) (hpl : Int32) (ola : Int32) (olo : Int32) (lat : Int32) (lon : Int32) (bd : Nat → Int64) (rw : Nat → Int32) (bt : Nat → Int32) (hd : Nat → Int32) (a0 : Int64) (a1 : Int64) : Rd l yX6_zonesOf cX6_zonesOf 10 (some .int) 1 21 [.ref h0, .long a0, .long a1] (fun U => B0 D cI cJ cO [(h0, .inr (4, [.ref h1, .ref h2, .int mn, .int lt, .ref h3, .int sz, .ref h4, .int hsz, .int hsy, .int hrt, .int hpl, .int ola, .int olo, .int lat, .int lon])), (h1, .inl (cJ, 58, .inr (.inl bd))), (h2, .inl (cI, 800, .inl rw)), (h3, .inl (cI, 112, .inl bt)), (h4, .inl (cI, 112, .inl hd))] U) (some (.int (f_X6_zonesOf bd a0 a1))) := by
  refine Rd.of (by decide +kernel) (Nat.le_of_ble_eq_true rfl) ?_
  intro p e s m args below meth c hx hb hr hml hown htg hlocks hB ls hl
  obtain ⟨hP, hK⟩ := hB
  have hP : va_P D vwCl [(h0, .inr (4, [.ref h1, .ref h2, .int mn, .int lt, .ref h3, .int sz, .ref h4, .int hsz, .int hsy, .int hrt, .int hpl, .int ola, .int olo, .int lat, .int lon])), (h1, .inl (cJ, 58, .inr (.inl bd))), (h2, .inl (cI, 800, .inl rw)), (h3, .inl (cI, 112, .inl bt)), (h4, .inl (cI, 112, .inl hd))] s.heap := hP
  have hown : s.vm.findClass RX6 = some m.cls := hown
  have hl : lv_has ls 10 [(0, .ref h0), (1, .long a0), (3, .long a1)] := hl
  refine lv_lload_n hx hb dX6_zonesOf_0 rfl (lv_at hl 1 rfl) ?_
  refine rS (As := [.long a0]) (rest := []) hx hb hml hown htg (c_X6_sizeOf l a0) Blind.tt ml_X6_180 st_X6_sizeOf ini_X6 co_X6_sizeOf dn_X6_sizeOf rfl (fun _ _ _ => trivial) hl.1 rfl (Nat.le_of_ble_eq_true rfl) ⟨Nat.le_of_ble_eq_true rfl, Nat.le_of_ble_eq_true rfl⟩ ⟨Nat.le_of_ble_eq_true rfl, Nat.le_of_ble_eq_true rfl⟩ dX6_zonesOf_1 ?_
  refine lv_lstore (lv' := [(5, .long (f_X6_sizeOf a0)), (0, .ref h0), (1, .long a0), (3, .long a1)]) hx hb dX6_zonesOf_4 hl (by decide) rfl (fun ls hl => ?_)
  refine lv_bipush (v := 59) hx hb dX6_zonesOf_6 (by decide) ?_
  refine lv_istore (lv' := [(7, .int (59 : Int32)), (5, .long (f_X6_sizeOf a0)), (0, .ref h0), (1, .long a0), (3, .long a1)]) hx hb dX6_zonesOf_8 hl (by decide) rfl (fun ls hl => ?_)
  have Lp : ∀ (n : Nat) (k : Int32), k.toInt = n + 1 ∧ n ≤ 58 → ∀ ls : Array Slot, lv_has ls 10 [(7, .int k), (5, .long (f_X6_sizeOf a0)), (0, .ref h0), (1, .long a0), (3, .long a1)] → f_X6_zonesOf_lp bd a0 a1 n k = f_X6_zonesOf bd a0 a1 → W p l e { frames := 1, cells := 0, slots := 0, locals := 21 } s m args below meth c s.heap [] 0 0 (MQ below (rdQ (some (.int (f_X6_zonesOf bd a0 a1)))) args s 0 0 (fun _ => False)) (F0 m 10 ls []) := by
    intro n
    induction n with
    | zero =>
      intro k hi ls hl hE
      refine lv_iload hx hb dX6_zonesOf_10 (lv_at hl 0 rfl) ?_
      refine lv_iconst (v := 1) hx hb dX6_zonesOf_12 (by decide) ?_
      refine lv_icmp_le (tgt := 61) hx hb dX6_zonesOf_13 (by decide) (fun c_1 => ?_) (fun c_1 => ?_)
      · refine lv_iconst (v := 1) hx hb dX6_zonesOf_61 (by decide) ?_
        exact rd_i hx hb hr hlocks (by rw [← hE]; simp only [f_X6_zonesOf_lp]) dX6_zonesOf_62
      · exact absurd (by rw [fa_le, i1]; have := hi.1; omega) c_1
    | succ n ih =>
      intro k hi ls hl hE
      refine lv_iload hx hb dX6_zonesOf_10 (lv_at hl 0 rfl) ?_
      refine lv_iconst (v := 1) hx hb dX6_zonesOf_12 (by decide) ?_
      refine lv_icmp_le (tgt := 61) hx hb dX6_zonesOf_13 (by decide) (fun c_2 => ?_) (fun c_2 => ?_)
      · exact absurd c_2 (by rw [fa_le, i1]; have := hi.1; omega)
      · refine lv_aload_n hx hb dX6_zonesOf_16 rfl (lv_at hl 2 rfl) ?_
        refine va_get (D := D) (ci := 4) (v := .ref h1) (C := RX6) (T := TX6) (N := 15) hx hb htg inX6 hown hK hP 0 rfl rfl 0 (by decide) (htg _ fl_X6_123) (fun _ h9 => h9) rfl dX6_zonesOf_17 ?_
        refine lv_bipush (v := 59) hx hb dX6_zonesOf_20 (by decide) ?_
        refine lv_iload hx hb dX6_zonesOf_22 (lv_at hl 0 rfl) ?_
        refine lv_isub hx hb dX6_zonesOf_24 ?_
        refine va_lald' (v := (bd ((59 : Int32) - k).toNatClampNeg)) hx hb hK hP 1 1 rfl rfl (zo_in hi) rfl dX6_zonesOf_25 ?_
        refine lv_lload_n hx hb dX6_zonesOf_26 rfl (lv_at hl 4 rfl) ?_
        refine lv_lmul hx hb dX6_zonesOf_27 ?_
        refine lv_lstore (lv' := [(8, .long ((bd ((59 : Int32) - k).toNatClampNeg) * a1)), (7, .int k), (5, .long (f_X6_sizeOf a0)), (0, .ref h0), (1, .long a0), (3, .long a1)]) hx hb dX6_zonesOf_28 hl (by decide) rfl (fun ls hl => ?_)
        refine lv_lload hx hb dX6_zonesOf_30 (lv_at hl 2 rfl) ?_
        refine lv_lload hx hb dX6_zonesOf_32 (lv_at hl 0 rfl) ?_
        refine lc_lt (tgt := 52) hx hb dX6_zonesOf_34 dX6_zonesOf_35 (by decide) (fun c_3 => ?_) (fun c_3 => ?_)
        · refine lv_iload hx hb dX6_zonesOf_52 (lv_at hl 1 rfl) ?_
          exact rd_i hx hb hr hlocks (by rw [← hE]; simp only [f_X6_zonesOf_lp, if_pos c_3]) dX6_zonesOf_54
        · refine lv_iload hx hb dX6_zonesOf_38 (lv_at hl 1 rfl) ?_
          refine lv_iconst (v := 2) hx hb dX6_zonesOf_40 (by decide) ?_
          refine lv_icmp_ne (tgt := 55) hx hb dX6_zonesOf_41 (by decide) (fun c_4 => ?_) (fun c_4 => ?_)
          · refine lv_iinc (v := (k + (-1 : Int32))) (lv' := [(7, .int (k + (-1 : Int32))), (8, .long ((bd ((59 : Int32) - k).toNatClampNeg) * a1)), (5, .long (f_X6_sizeOf a0)), (0, .ref h0), (1, .long a0), (3, .long a1)]) hx hb dX6_zonesOf_55 hl (k := 1) rfl rfl (by decide) rfl (fun ls hl => ?_)
            refine lv_goto (tgt := 10) hx hb dX6_zonesOf_58 (by decide) ?_
            exact ih (k + (-1 : Int32)) (by have em : ((-1) : Int32).toInt = -1 := rfl; have := hi.1; have := hi.2; rw [fb_addI] <;> rw [em] <;> omega) ls (lv_sub hl [0, 2, 3, 4, 5] rfl) (by rw [← hE]; simp only [f_X6_zonesOf_lp, if_neg c_3, if_neg c_4])
          · refine lv_lload hx hb dX6_zonesOf_44 (lv_at hl 2 rfl) ?_
            refine lv_lload hx hb dX6_zonesOf_46 (lv_at hl 0 rfl) ?_
            refine lc_ne (tgt := 55) hx hb dX6_zonesOf_48 dX6_zonesOf_49 (by decide) (fun c_5 => ?_) (fun c_5 => ?_)
            · refine lv_iinc (v := (k + (-1 : Int32))) (lv' := [(7, .int (k + (-1 : Int32))), (8, .long ((bd ((59 : Int32) - k).toNatClampNeg) * a1)), (5, .long (f_X6_sizeOf a0)), (0, .ref h0), (1, .long a0), (3, .long a1)]) hx hb dX6_zonesOf_55 hl (k := 1) rfl rfl (by decide) rfl (fun ls hl => ?_)
              refine lv_goto (tgt := 10) hx hb dX6_zonesOf_58 (by decide) ?_
              exact ih (k + (-1 : Int32)) (by have em : ((-1) : Int32).toInt = -1 := rfl; have := hi.1; have := hi.2; rw [fb_addI] <;> rw [em] <;> omega) ls (lv_sub hl [0, 2, 3, 4, 5] rfl) (by rw [← hE]; simp only [f_X6_zonesOf_lp, if_neg c_3, if_pos c_4, if_neg c_5])
            · refine lv_iload hx hb dX6_zonesOf_52 (lv_at hl 1 rfl) ?_
              exact rd_i hx hb hr hlocks (by rw [← hE]; simp only [f_X6_zonesOf_lp, if_neg c_3, if_pos c_4, if_pos c_5]) dX6_zonesOf_54
  exact Lp 58 (59 : Int32) (by decide) ls (lv_sub hl [0, 1, 2, 3, 4] rfl) (by simp only [f_X6_zonesOf])

def f_X6_zones (bd : Nat → Int64) (a0 : Int32) : Int32 := (if (f_X6_isLatitude a0) = 0 then (-1 : Int32) else (f_X6_zonesOf bd ((100 : Int64) * a0.toInt64) (1 : Int64)))
set_option maxHeartbeats 4000000 in
set_option maxRecDepth 100000 in
theorem c_X6_zones (l : Launch) (D : va_G) (cI cJ cO : ClassId) (h0 : Nat) (h1 : Nat) (h2 : Nat) (mn : Int32) (lt : Int32) (h3 : Nat) (sz : Int32) (h4 : Nat) (hsz : Int32) (hsy : Int32) (hrt : Int32) (hpl : Int32) (ola : Int32) (olo : Int32) (lat : Int32) (lon : Int32) (bd : Nat → Int64) (rw : Nat → Int32) (bt : Nat → Int32) (hd : Nat → Int32) (a0 : Int32) : Rd l yX6_zones cX6_zones 2 (some .int) 2 50 [.ref h0, .int a0] (fun U => B0 D cI cJ cO [(h0, .inr (4, [.ref h1, .ref h2, .int mn, .int lt, .ref h3, .int sz, .ref h4, .int hsz, .int hsy, .int hrt, .int hpl, .int ola, .int olo, .int lat, .int lon])), (h1, .inl (cJ, 58, .inr (.inl bd))), (h2, .inl (cI, 800, .inl rw)), (h3, .inl (cI, 112, .inl bt)), (h4, .inl (cI, 112, .inl hd))] U) (some (.int (f_X6_zones bd a0))) := by
  refine Rd.of (by decide +kernel) (Nat.le_of_ble_eq_true rfl) ?_
  intro p e s m args below meth c hx hb hr hml hown htg hlocks hB ls hl
  obtain ⟨hP, hK⟩ := hB
  have hP : va_P D vwCl [(h0, .inr (4, [.ref h1, .ref h2, .int mn, .int lt, .ref h3, .int sz, .ref h4, .int hsz, .int hsy, .int hrt, .int hpl, .int ola, .int olo, .int lat, .int lon])), (h1, .inl (cJ, 58, .inr (.inl bd))), (h2, .inl (cI, 800, .inl rw)), (h3, .inl (cI, 112, .inl bt)), (h4, .inl (cI, 112, .inl hd))] s.heap := hP
  have hown : s.vm.findClass RX6 = some m.cls := hown
  have hl : lv_has ls 2 [(0, .ref h0), (1, .int a0)] := hl
  refine lv_iload_n hx hb dX6_zones_0 rfl (lv_at hl 1 rfl) ?_
  refine rS (As := [.int a0]) (rest := []) hx hb hml hown htg (c_X6_isLatitude l a0) Blind.tt ml_X6_188 st_X6_isLatitude ini_X6 co_X6_isLatitude dn_X6_isLatitude rfl (fun _ _ _ => trivial) hl.1 rfl (Nat.le_of_ble_eq_true rfl) ⟨Nat.le_of_ble_eq_true rfl, Nat.le_of_ble_eq_true rfl⟩ ⟨Nat.le_of_ble_eq_true rfl, Nat.le_of_ble_eq_true rfl⟩ dX6_zones_1 ?_
  refine lv_if_eq (tgt := 21) hx hb dX6_zones_4 (by decide) (fun c_1 => ?_) (fun c_1 => ?_)
  · refine lv_iconst (v := (-1)) hx hb dX6_zones_21 (by decide) ?_
    exact rd_i hx hb hr hlocks (by simp only [f_X6_zones, if_pos c_1]) dX6_zones_22
  · refine lv_aload_n hx hb dX6_zones_7 rfl (lv_at hl 0 rfl) ?_
    refine lv_ldc2 (v := 100) hx hb hown (htg _ ct_X6_192) dX6_zones_8 ?_
    refine lv_iload_n hx hb dX6_zones_11 rfl (lv_at hl 1 rfl) ?_
    refine lv_i2l (v := a0.toInt64) hx hb dX6_zones_12 rfl ?_
    refine lv_lmul hx hb dX6_zones_13 ?_
    refine lv_lconst (v := 1) hx hb dX6_zones_14 (by decide) ?_
    refine rV (As := [.long ((100 : Int64) * a0.toInt64), .long (1 : Int64)]) (rest := []) hx hb hml hown htg (c_X6_zonesOf l D cI cJ cO h0 h1 h2 mn lt h3 sz h4 hsz hsy hrt hpl ola olo lat lon bd rw bt hd ((100 : Int64) * a0.toInt64) (1 : Int64)) Blind.b0 ml_X6_194 im_X6_zonesOf se_X6_zonesOf ini_X6 co_X6_zonesOf rfl dn_X6_zonesOf rfl (va_recv hK hP (ci := 4) (q0 := 0) rfl rfl) (fun U hU hW => ⟨by rw [hU]; exact hP, va_K.moved hW.alike hK⟩) hl.1 rfl (Nat.le_of_ble_eq_true rfl) ⟨Nat.le_of_ble_eq_true rfl, Nat.le_of_ble_eq_true rfl⟩ ⟨Nat.le_of_ble_eq_true rfl, Nat.le_of_ble_eq_true rfl⟩ dX6_zones_15 ?_
    refine lv_goto (tgt := 22) hx hb dX6_zones_18 (by decide) ?_
    exact rd_i hx hb hr hlocks (by simp only [f_X6_zones, if_neg c_1]) dX6_zones_22

def f_X6_encode_x53 (a0 : Int32) (a3 : Int32) : Int64 := (a0.toInt64 * (if a3 = 0 then (60 : Int32) else (59 : Int32)).toInt64)
def f_X6_encode_x62 (a0 : Int32) (a3 : Int32) (a2 : Int32) : Int64 := (f_X6_down (f_X6_encode_x53 a0 a3) (if a2 = 0 then (360000000 : Int64) else (90000000 : Int64)))
def f_X6_encode_x76 (a0 : Int32) (a3 : Int32) (a2 : Int32) : Int64 := (f_X6_parts (f_X6_rest (f_X6_encode_x53 a0 a3) (if a2 = 0 then (360000000 : Int64) else (90000000 : Int64))) (if a2 = 0 then (360000000 : Int64) else (90000000 : Int64)))
def f_X6_encode_x119 (bd : Nat → Int64) (a2 : Int32) (a0 : Int32) (a3 : Int32) : Int32 := (f_X6_atLeast1 ((f_X6_zonesOf bd (((100 : Int64) * (if a2 = 0 then (360000000 : Int64) else (90000000 : Int64))) * (((f_X6_encode_x62 a0 a3 a2) * (131072 : Int64)) + (f_X6_encode_x76 a0 a3 a2))) ((if a3 = 0 then (60 : Int32) else (59 : Int32)).toInt64 * (131072 : Int64))) - (if a3 = 0 then (0 : Int32) else (1 : Int32))))
def f_X6_encode_x137 (a1 : Int32) (bd : Nat → Int64) (a2 : Int32) (a0 : Int32) (a3 : Int32) : Int64 := (f_X6_parts (f_X6_rest (a1.toInt64 * (f_X6_encode_x119 bd a2 a0 a3).toInt64) (if a2 = 0 then (360000000 : Int64) else (90000000 : Int64))) (if a2 = 0 then (360000000 : Int64) else (90000000 : Int64)))
def f_X6_encode (bd : Nat → Int64) (a0 : Int32) (a1 : Int32) (a2 : Int32) (a3 : Int32) : Int64 := (if (f_X6_isLatitude a0) = 0 then (-1 : Int64) else (if (f_X6_isLongitude a1) = 0 then (-1 : Int64) else ((((f_X6_encode_x76 a0 a3 a2) - (f_X6_encode_x76 a0 a3 a2) / (131072 : Int64) * (131072 : Int64)) * (131072 : Int64)) + ((f_X6_encode_x137 a1 bd a2 a0 a3) - (f_X6_encode_x137 a1 bd a2 a0 a3) / (131072 : Int64) * (131072 : Int64)))))
set_option maxHeartbeats 4000000 in
set_option maxRecDepth 100000 in
theorem c_X6_encode (l : Launch) (D : va_G) (cI cJ cO : ClassId) (h0 : Nat) (h1 : Nat) (h2 : Nat) (mn : Int32) (lt : Int32) (h3 : Nat) (sz : Int32) (h4 : Nat) (hsz : Int32) (hsy : Int32) (hrt : Int32) (hpl : Int32) (ola : Int32) (olo : Int32) (lat : Int32) (lon : Int32) (bd : Nat → Int64) (rw : Nat → Int32) (bt : Nat → Int32) (hd : Nat → Int32) (a0 : Int32) (a1 : Int32) (a2 : Int32) (a3 : Int32) : Rd l yX6_encode cX6_encode 17 (some .long) 3 71 [.ref h0, .int a0, .int a1, .int a2, .int a3] (fun U => B0 D cI cJ cO [(h0, .inr (4, [.ref h1, .ref h2, .int mn, .int lt, .ref h3, .int sz, .ref h4, .int hsz, .int hsy, .int hrt, .int hpl, .int ola, .int olo, .int lat, .int lon])), (h1, .inl (cJ, 58, .inr (.inl bd))), (h2, .inl (cI, 800, .inl rw)), (h3, .inl (cI, 112, .inl bt)), (h4, .inl (cI, 112, .inl hd))] U) (some (.long (f_X6_encode bd a0 a1 a2 a3))) := by
  refine Rd.of (by decide +kernel) (Nat.le_of_ble_eq_true rfl) ?_
  intro p e s m args below meth c hx hb hr hml hown htg hlocks hB ls hl
  obtain ⟨hP, hK⟩ := hB
  have hP : va_P D vwCl [(h0, .inr (4, [.ref h1, .ref h2, .int mn, .int lt, .ref h3, .int sz, .ref h4, .int hsz, .int hsy, .int hrt, .int hpl, .int ola, .int olo, .int lat, .int lon])), (h1, .inl (cJ, 58, .inr (.inl bd))), (h2, .inl (cI, 800, .inl rw)), (h3, .inl (cI, 112, .inl bt)), (h4, .inl (cI, 112, .inl hd))] s.heap := hP
  have hown : s.vm.findClass RX6 = some m.cls := hown
  have hl : lv_has ls 17 [(0, .ref h0), (1, .int a0), (2, .int a1), (3, .int a2), (4, .int a3)] := hl
  refine lv_iload_n hx hb dX6_encode_0 rfl (lv_at hl 1 rfl) ?_
  refine rS (As := [.int a0]) (rest := []) hx hb hml hown htg (c_X6_isLatitude l a0) Blind.tt ml_X6_188 st_X6_isLatitude ini_X6 co_X6_isLatitude dn_X6_isLatitude rfl (fun _ _ _ => trivial) hl.1 rfl (Nat.le_of_ble_eq_true rfl) ⟨Nat.le_of_ble_eq_true rfl, Nat.le_of_ble_eq_true rfl⟩ ⟨Nat.le_of_ble_eq_true rfl, Nat.le_of_ble_eq_true rfl⟩ dX6_encode_1 ?_
  refine lv_if_eq (tgt := 14) hx hb dX6_encode_4 (by decide) (fun c_1 => ?_) (fun c_1 => ?_)
  · refine lv_ldc2 (v := (-1)) hx hb hown (htg _ ct_X6_208) dX6_encode_14 ?_
    exact rd_l hx hb hr hlocks (by simp only [f_X6_encode, if_pos c_1]) dX6_encode_17
  · refine lv_iload_n hx hb dX6_encode_7 rfl (lv_at hl 2 rfl) ?_
    refine rS (As := [.int a1]) (rest := []) hx hb hml hown htg (c_X6_isLongitude l a1) Blind.tt ml_X6_205 st_X6_isLongitude ini_X6 co_X6_isLongitude dn_X6_isLongitude rfl (fun _ _ _ => trivial) hl.1 rfl (Nat.le_of_ble_eq_true rfl) ⟨Nat.le_of_ble_eq_true rfl, Nat.le_of_ble_eq_true rfl⟩ ⟨Nat.le_of_ble_eq_true rfl, Nat.le_of_ble_eq_true rfl⟩ dX6_encode_8 ?_
    refine lv_if_ne (tgt := 18) hx hb dX6_encode_11 (by decide) (fun c_2 => ?_) (fun c_2 => ?_)
    · refine lv_iload_n hx hb dX6_encode_18 rfl (lv_at hl 3 rfl) ?_
      refine W.join (nL := 17) (lv := [(0, .ref h0), (1, .int a0), (2, .int a1), (3, .int a2), (4, .int a3)]) (pc2 := 31) (st2 := [.long (if a2 = 0 then (360000000 : Int64) else (90000000 : Int64))]) (fun ls hl => ?_) (fun J => ?_)
      · refine lv_lstore (lv' := [(5, .long (if a2 = 0 then (360000000 : Int64) else (90000000 : Int64))), (0, .ref h0), (1, .int a0), (2, .int a1), (3, .int a2), (4, .int a3)]) hx hb dX6_encode_31 hl (by decide) rfl (fun ls hl => ?_)
        refine lv_iload hx hb dX6_encode_33 (lv_at hl 5 rfl) ?_
        refine W.join (nL := 17) (lv := [(5, .long (if a2 = 0 then (360000000 : Int64) else (90000000 : Int64))), (0, .ref h0), (1, .int a0), (2, .int a1), (3, .int a2), (4, .int a3)]) (pc2 := 45) (st2 := [.int (if a3 = 0 then (60 : Int32) else (59 : Int32))]) (fun ls hl => ?_) (fun J => ?_)
        · refine lv_istore (lv' := [(7, .int (if a3 = 0 then (60 : Int32) else (59 : Int32))), (5, .long (if a2 = 0 then (360000000 : Int64) else (90000000 : Int64))), (0, .ref h0), (1, .int a0), (2, .int a1), (3, .int a2), (4, .int a3)]) hx hb dX6_encode_45 hl (by decide) rfl (fun ls hl => ?_)
          refine lv_iload_n hx hb dX6_encode_47 rfl (lv_at hl 3 rfl) ?_
          refine lv_i2l (v := a0.toInt64) hx hb dX6_encode_48 rfl ?_
          refine lv_iload hx hb dX6_encode_49 (lv_at hl 0 rfl) ?_
          refine lv_i2l (v := (if a3 = 0 then (60 : Int32) else (59 : Int32)).toInt64) hx hb dX6_encode_51 rfl ?_
          refine lv_lmul hx hb dX6_encode_52 ?_
          refine lv_lstore (lv' := [(8, .long (f_X6_encode_x53 a0 a3)), (7, .int (if a3 = 0 then (60 : Int32) else (59 : Int32))), (5, .long (if a2 = 0 then (360000000 : Int64) else (90000000 : Int64))), (0, .ref h0), (1, .int a0), (2, .int a1), (3, .int a2), (4, .int a3)]) hx hb dX6_encode_53 hl (by decide) rfl (fun ls hl => ?_)
          refine lv_lload hx hb dX6_encode_55 (lv_at hl 0 rfl) ?_
          refine lv_lload hx hb dX6_encode_57 (lv_at hl 2 rfl) ?_
          refine rS (As := [.long (f_X6_encode_x53 a0 a3), .long (if a2 = 0 then (360000000 : Int64) else (90000000 : Int64))]) (rest := []) hx hb hml hown htg (c_X6_down l (f_X6_encode_x53 a0 a3) (if a2 = 0 then (360000000 : Int64) else (90000000 : Int64)) (by split <;> decide)) Blind.tt ml_X6_202 st_X6_down ini_X6 co_X6_down dn_X6_down rfl (fun _ _ _ => trivial) hl.1 rfl (Nat.le_of_ble_eq_true rfl) ⟨Nat.le_of_ble_eq_true rfl, Nat.le_of_ble_eq_true rfl⟩ ⟨Nat.le_of_ble_eq_true rfl, Nat.le_of_ble_eq_true rfl⟩ dX6_encode_59 ?_
          refine lv_lstore (lv' := [(10, .long (f_X6_encode_x62 a0 a3 a2)), (8, .long (f_X6_encode_x53 a0 a3)), (7, .int (if a3 = 0 then (60 : Int32) else (59 : Int32))), (5, .long (if a2 = 0 then (360000000 : Int64) else (90000000 : Int64))), (0, .ref h0), (1, .int a0), (2, .int a1), (3, .int a2), (4, .int a3)]) hx hb dX6_encode_62 hl (by decide) rfl (fun ls hl => ?_)
          refine lv_lload hx hb dX6_encode_64 (lv_at hl 1 rfl) ?_
          refine lv_lload hx hb dX6_encode_66 (lv_at hl 3 rfl) ?_
          refine rS (As := [.long (f_X6_encode_x53 a0 a3), .long (if a2 = 0 then (360000000 : Int64) else (90000000 : Int64))]) (rest := []) hx hb hml hown htg (c_X6_rest l (f_X6_encode_x53 a0 a3) (if a2 = 0 then (360000000 : Int64) else (90000000 : Int64)) (by split <;> decide)) Blind.tt ml_X6_176 st_X6_rest ini_X6 co_X6_rest dn_X6_rest rfl (fun _ _ _ => trivial) hl.1 rfl (Nat.le_of_ble_eq_true rfl) ⟨Nat.le_of_ble_eq_true rfl, Nat.le_of_ble_eq_true rfl⟩ ⟨Nat.le_of_ble_eq_true rfl, Nat.le_of_ble_eq_true rfl⟩ dX6_encode_68 ?_
          refine lv_lload hx hb dX6_encode_71 (lv_at hl 3 rfl) ?_
          refine rS (As := [.long (f_X6_rest (f_X6_encode_x53 a0 a3) (if a2 = 0 then (360000000 : Int64) else (90000000 : Int64))), .long (if a2 = 0 then (360000000 : Int64) else (90000000 : Int64))]) (rest := []) hx hb hml hown htg (c_X6_parts l (f_X6_rest (f_X6_encode_x53 a0 a3) (if a2 = 0 then (360000000 : Int64) else (90000000 : Int64))) (if a2 = 0 then (360000000 : Int64) else (90000000 : Int64)) (by split <;> decide)) Blind.tt ml_X6_214 st_X6_parts ini_X6 co_X6_parts dn_X6_parts rfl (fun _ _ _ => trivial) hl.1 rfl (Nat.le_of_ble_eq_true rfl) ⟨Nat.le_of_ble_eq_true rfl, Nat.le_of_ble_eq_true rfl⟩ ⟨Nat.le_of_ble_eq_true rfl, Nat.le_of_ble_eq_true rfl⟩ dX6_encode_73 ?_
          refine lv_lstore (lv' := [(12, .long (f_X6_encode_x76 a0 a3 a2)), (10, .long (f_X6_encode_x62 a0 a3 a2)), (8, .long (f_X6_encode_x53 a0 a3)), (7, .int (if a3 = 0 then (60 : Int32) else (59 : Int32))), (5, .long (if a2 = 0 then (360000000 : Int64) else (90000000 : Int64))), (0, .ref h0), (1, .int a0), (2, .int a1), (3, .int a2), (4, .int a3)]) hx hb dX6_encode_76 hl (by decide) rfl (fun ls hl => ?_)
          refine lv_aload_n hx hb dX6_encode_78 rfl (lv_at hl 5 rfl) ?_
          refine lv_ldc2 (v := 100) hx hb hown (htg _ ct_X6_192) dX6_encode_79 ?_
          refine lv_lload hx hb dX6_encode_82 (lv_at hl 4 rfl) ?_
          refine lv_lmul hx hb dX6_encode_84 ?_
          refine lv_lload hx hb dX6_encode_85 (lv_at hl 1 rfl) ?_
          refine lv_ldc2 (v := 131072) hx hb hown (htg _ ct_X6_200) dX6_encode_87 ?_
          refine lv_lmul hx hb dX6_encode_90 ?_
          refine lv_lload hx hb dX6_encode_91 (lv_at hl 0 rfl) ?_
          refine lv_ladd hx hb dX6_encode_93 ?_
          refine lv_lmul hx hb dX6_encode_94 ?_
          refine lv_iload hx hb dX6_encode_95 (lv_at hl 3 rfl) ?_
          refine lv_i2l (v := (if a3 = 0 then (60 : Int32) else (59 : Int32)).toInt64) hx hb dX6_encode_97 rfl ?_
          refine lv_ldc2 (v := 131072) hx hb hown (htg _ ct_X6_200) dX6_encode_98 ?_
          refine lv_lmul hx hb dX6_encode_101 ?_
          refine rV (As := [.long (((100 : Int64) * (if a2 = 0 then (360000000 : Int64) else (90000000 : Int64))) * (((f_X6_encode_x62 a0 a3 a2) * (131072 : Int64)) + (f_X6_encode_x76 a0 a3 a2))), .long ((if a3 = 0 then (60 : Int32) else (59 : Int32)).toInt64 * (131072 : Int64))]) (rest := []) hx hb hml hown htg (c_X6_zonesOf l D cI cJ cO h0 h1 h2 mn lt h3 sz h4 hsz hsy hrt hpl ola olo lat lon bd rw bt hd (((100 : Int64) * (if a2 = 0 then (360000000 : Int64) else (90000000 : Int64))) * (((f_X6_encode_x62 a0 a3 a2) * (131072 : Int64)) + (f_X6_encode_x76 a0 a3 a2))) ((if a3 = 0 then (60 : Int32) else (59 : Int32)).toInt64 * (131072 : Int64))) Blind.b0 ml_X6_194 im_X6_zonesOf se_X6_zonesOf ini_X6 co_X6_zonesOf rfl dn_X6_zonesOf rfl (va_recv hK hP (ci := 4) (q0 := 0) rfl rfl) (fun U hU hW => ⟨by rw [hU]; exact hP, va_K.moved hW.alike hK⟩) hl.1 rfl (Nat.le_of_ble_eq_true rfl) ⟨Nat.le_of_ble_eq_true rfl, Nat.le_of_ble_eq_true rfl⟩ ⟨Nat.le_of_ble_eq_true rfl, Nat.le_of_ble_eq_true rfl⟩ dX6_encode_102 ?_
          refine lv_iload hx hb dX6_encode_105 (lv_at hl 9 rfl) ?_
          refine W.join (nL := 17) (lv := [(12, .long (f_X6_encode_x76 a0 a3 a2)), (10, .long (f_X6_encode_x62 a0 a3 a2)), (8, .long (f_X6_encode_x53 a0 a3)), (7, .int (if a3 = 0 then (60 : Int32) else (59 : Int32))), (5, .long (if a2 = 0 then (360000000 : Int64) else (90000000 : Int64))), (0, .ref h0), (1, .int a0), (2, .int a1), (3, .int a2), (4, .int a3)]) (pc2 := 115) (st2 := [.int (if a3 = 0 then (0 : Int32) else (1 : Int32)), .int (f_X6_zonesOf bd (((100 : Int64) * (if a2 = 0 then (360000000 : Int64) else (90000000 : Int64))) * (((f_X6_encode_x62 a0 a3 a2) * (131072 : Int64)) + (f_X6_encode_x76 a0 a3 a2))) ((if a3 = 0 then (60 : Int32) else (59 : Int32)).toInt64 * (131072 : Int64)))]) (fun ls hl => ?_) (fun J => ?_)
          · refine lv_isub hx hb dX6_encode_115 ?_
            refine rS (As := [.int ((f_X6_zonesOf bd (((100 : Int64) * (if a2 = 0 then (360000000 : Int64) else (90000000 : Int64))) * (((f_X6_encode_x62 a0 a3 a2) * (131072 : Int64)) + (f_X6_encode_x76 a0 a3 a2))) ((if a3 = 0 then (60 : Int32) else (59 : Int32)).toInt64 * (131072 : Int64))) - (if a3 = 0 then (0 : Int32) else (1 : Int32)))]) (rest := []) hx hb hml hown htg (c_X6_atLeast1 l ((f_X6_zonesOf bd (((100 : Int64) * (if a2 = 0 then (360000000 : Int64) else (90000000 : Int64))) * (((f_X6_encode_x62 a0 a3 a2) * (131072 : Int64)) + (f_X6_encode_x76 a0 a3 a2))) ((if a3 = 0 then (60 : Int32) else (59 : Int32)).toInt64 * (131072 : Int64))) - (if a3 = 0 then (0 : Int32) else (1 : Int32)))) Blind.tt ml_X6_217 st_X6_atLeast1 ini_X6 co_X6_atLeast1 dn_X6_atLeast1 rfl (fun _ _ _ => trivial) hl.1 rfl (Nat.le_of_ble_eq_true rfl) ⟨Nat.le_of_ble_eq_true rfl, Nat.le_of_ble_eq_true rfl⟩ ⟨Nat.le_of_ble_eq_true rfl, Nat.le_of_ble_eq_true rfl⟩ dX6_encode_116 ?_
            refine lv_istore (lv' := [(14, .int (f_X6_encode_x119 bd a2 a0 a3)), (12, .long (f_X6_encode_x76 a0 a3 a2)), (10, .long (f_X6_encode_x62 a0 a3 a2)), (8, .long (f_X6_encode_x53 a0 a3)), (7, .int (if a3 = 0 then (60 : Int32) else (59 : Int32))), (5, .long (if a2 = 0 then (360000000 : Int64) else (90000000 : Int64))), (0, .ref h0), (1, .int a0), (2, .int a1), (3, .int a2), (4, .int a3)]) hx hb dX6_encode_119 hl (by decide) rfl (fun ls hl => ?_)
            refine lv_iload_n hx hb dX6_encode_121 rfl (lv_at hl 8 rfl) ?_
            refine lv_i2l (v := a1.toInt64) hx hb dX6_encode_122 rfl ?_
            refine lv_iload hx hb dX6_encode_123 (lv_at hl 0 rfl) ?_
            refine lv_i2l (v := (f_X6_encode_x119 bd a2 a0 a3).toInt64) hx hb dX6_encode_125 rfl ?_
            refine lv_lmul hx hb dX6_encode_126 ?_
            refine lv_lload hx hb dX6_encode_127 (lv_at hl 5 rfl) ?_
            refine rS (As := [.long (a1.toInt64 * (f_X6_encode_x119 bd a2 a0 a3).toInt64), .long (if a2 = 0 then (360000000 : Int64) else (90000000 : Int64))]) (rest := []) hx hb hml hown htg (c_X6_rest l (a1.toInt64 * (f_X6_encode_x119 bd a2 a0 a3).toInt64) (if a2 = 0 then (360000000 : Int64) else (90000000 : Int64)) (by split <;> decide)) Blind.tt ml_X6_176 st_X6_rest ini_X6 co_X6_rest dn_X6_rest rfl (fun _ _ _ => trivial) hl.1 rfl (Nat.le_of_ble_eq_true rfl) ⟨Nat.le_of_ble_eq_true rfl, Nat.le_of_ble_eq_true rfl⟩ ⟨Nat.le_of_ble_eq_true rfl, Nat.le_of_ble_eq_true rfl⟩ dX6_encode_129 ?_
            refine lv_lload hx hb dX6_encode_132 (lv_at hl 5 rfl) ?_
            refine rS (As := [.long (f_X6_rest (a1.toInt64 * (f_X6_encode_x119 bd a2 a0 a3).toInt64) (if a2 = 0 then (360000000 : Int64) else (90000000 : Int64))), .long (if a2 = 0 then (360000000 : Int64) else (90000000 : Int64))]) (rest := []) hx hb hml hown htg (c_X6_parts l (f_X6_rest (a1.toInt64 * (f_X6_encode_x119 bd a2 a0 a3).toInt64) (if a2 = 0 then (360000000 : Int64) else (90000000 : Int64))) (if a2 = 0 then (360000000 : Int64) else (90000000 : Int64)) (by split <;> decide)) Blind.tt ml_X6_214 st_X6_parts ini_X6 co_X6_parts dn_X6_parts rfl (fun _ _ _ => trivial) hl.1 rfl (Nat.le_of_ble_eq_true rfl) ⟨Nat.le_of_ble_eq_true rfl, Nat.le_of_ble_eq_true rfl⟩ ⟨Nat.le_of_ble_eq_true rfl, Nat.le_of_ble_eq_true rfl⟩ dX6_encode_134 ?_
            refine lv_lstore (lv' := [(15, .long (f_X6_encode_x137 a1 bd a2 a0 a3)), (14, .int (f_X6_encode_x119 bd a2 a0 a3)), (12, .long (f_X6_encode_x76 a0 a3 a2)), (10, .long (f_X6_encode_x62 a0 a3 a2)), (8, .long (f_X6_encode_x53 a0 a3)), (7, .int (if a3 = 0 then (60 : Int32) else (59 : Int32))), (5, .long (if a2 = 0 then (360000000 : Int64) else (90000000 : Int64))), (0, .ref h0), (1, .int a0), (2, .int a1), (3, .int a2), (4, .int a3)]) hx hb dX6_encode_137 hl (by decide) rfl (fun ls hl => ?_)
            refine lv_lload hx hb dX6_encode_139 (lv_at hl 2 rfl) ?_
            refine lv_ldc2 (v := 131072) hx hb hown (htg _ ct_X6_200) dX6_encode_141 ?_
            refine lv_lrem hx hb dX6_encode_144 (by decide) ?_
            refine lv_ldc2 (v := 131072) hx hb hown (htg _ ct_X6_200) dX6_encode_145 ?_
            refine lv_lmul hx hb dX6_encode_148 ?_
            refine lv_lload hx hb dX6_encode_149 (lv_at hl 0 rfl) ?_
            refine lv_ldc2 (v := 131072) hx hb hown (htg _ ct_X6_200) dX6_encode_151 ?_
            refine lv_lrem hx hb dX6_encode_154 (by decide) ?_
            refine lv_ladd hx hb dX6_encode_155 ?_
            exact rd_l hx hb hr hlocks (by simp only [f_X6_encode, if_neg c_1, if_neg c_2]) dX6_encode_156
          · refine lv_if_eq (tgt := 114) hx hb dX6_encode_107 (by decide) (fun c_3 => ?_) (fun c_3 => ?_)
            · refine lv_iconst (v := 0) hx hb dX6_encode_114 (by decide) ?_
              exact W.eq (by first | simp only [if_pos c_3] | rfl) (J ls (lv_sub hl [0, 1, 2, 3, 4, 5, 6, 7, 8, 9] rfl))
            · refine lv_iconst (v := 1) hx hb dX6_encode_110 (by decide) ?_
              refine lv_goto (tgt := 115) hx hb dX6_encode_111 (by decide) ?_
              exact W.eq (by first | simp only [if_neg c_3] | rfl) (J ls (lv_sub hl [0, 1, 2, 3, 4, 5, 6, 7, 8, 9] rfl))
        · refine lv_if_eq (tgt := 43) hx hb dX6_encode_35 (by decide) (fun c_4 => ?_) (fun c_4 => ?_)
          · refine lv_bipush (v := 60) hx hb dX6_encode_43 (by decide) ?_
            exact W.eq (by first | simp only [if_pos c_4] | rfl) (J ls (lv_sub hl [0, 1, 2, 3, 4, 5] rfl))
          · refine lv_bipush (v := 59) hx hb dX6_encode_38 (by decide) ?_
            refine lv_goto (tgt := 45) hx hb dX6_encode_40 (by decide) ?_
            exact W.eq (by first | simp only [if_neg c_4] | rfl) (J ls (lv_sub hl [0, 1, 2, 3, 4, 5] rfl))
      · refine lv_if_eq (tgt := 28) hx hb dX6_encode_19 (by decide) (fun c_5 => ?_) (fun c_5 => ?_)
        · refine lv_ldc2 (v := 360000000) hx hb hown (htg _ ct_X6_212) dX6_encode_28 ?_
          exact W.eq (by first | simp only [if_pos c_5] | rfl) (J ls (lv_sub hl [0, 1, 2, 3, 4] rfl))
        · refine lv_ldc2 (v := 90000000) hx hb hown (htg _ ct_X6_210) dX6_encode_22 ?_
          refine lv_goto (tgt := 31) hx hb dX6_encode_25 (by decide) ?_
          exact W.eq (by first | simp only [if_neg c_5] | rfl) (J ls (lv_sub hl [0, 1, 2, 3, 4] rfl))
    · refine lv_ldc2 (v := (-1)) hx hb hown (htg _ ct_X6_208) dX6_encode_14 ?_
      exact rd_l hx hb hr hlocks (by simp only [f_X6_encode, if_neg c_1, if_pos c_2]) dX6_encode_17

def f_X6_globalOf_x55 (a0 : Int64) (a1 : Int64) : Int64 := (f_X6_down (((2 : Int64) * (((59 : Int64) * (a0 / (131072 : Int64))) - ((60 : Int64) * (a1 / (131072 : Int64))))) + (131072 : Int64)) (262144 : Int64))
def f_X6_globalOf_x72 (a0 : Int64) (a1 : Int64) : Int64 := (((f_X6_rest (f_X6_globalOf_x55 a0 a1) (60 : Int64)) * (131072 : Int64)) + (a0 / (131072 : Int64)))
def f_X6_globalOf_x89 (a0 : Int64) (a1 : Int64) : Int64 := (((f_X6_rest (f_X6_globalOf_x55 a0 a1) (59 : Int64)) * (131072 : Int64)) + (a1 / (131072 : Int64)))
def f_X6_globalOf_x180 (bd : Nat → Int64) (a0 : Int64) (a1 : Int64) : Int32 := (f_X6_zonesOf bd ((36000000000 : Int64) * (if ((4 : Int64) * (f_X6_globalOf_x72 a0 a1)) < (23592960 : Int64) then (f_X6_globalOf_x72 a0 a1) else ((f_X6_globalOf_x72 a0 a1) - (7864320 : Int64)))) (7864320 : Int64))
def f_X6_globalOf_x219 (a2 : Int32) (bd : Nat → Int64) (a0 : Int64) (a1 : Int64) : Int32 := (f_X6_atLeast1 (if a2 = 0 then (f_X6_globalOf_x180 bd a0 a1) else ((f_X6_globalOf_x180 bd a0 a1) - (1 : Int32))))
def f_X6_globalOf_x250 (a0 : Int64) (bd : Nat → Int64) (a1 : Int64) : Int64 := (f_X6_down (((2 : Int64) * (((a0 - a0 / (131072 : Int64) * (131072 : Int64)) * ((f_X6_globalOf_x180 bd a0 a1) - (1 : Int32)).toInt64) - ((a1 - a1 / (131072 : Int64) * (131072 : Int64)) * (f_X6_globalOf_x180 bd a0 a1).toInt64))) + (131072 : Int64)) (262144 : Int64))
def f_X6_globalOf_x277 (a0 : Int64) (bd : Nat → Int64) (a1 : Int64) (a2 : Int32) : Int64 := (((f_X6_rest (f_X6_globalOf_x250 a0 bd a1) (f_X6_globalOf_x219 a2 bd a0 a1).toInt64) * (131072 : Int64)) + (if a2 = 0 then (a0 - a0 / (131072 : Int64) * (131072 : Int64)) else (a1 - a1 / (131072 : Int64) * (131072 : Int64))))
def f_X6_globalOf_x306 (a0 : Int64) (bd : Nat → Int64) (a1 : Int64) (a2 : Int32) : Int64 := ((f_X6_globalOf_x277 a0 bd a1 a2) - ((f_X6_globalOf_x219 a2 bd a0 a1).toInt64 * (131072 : Int64)))
def f_X6_globalOf (bd : Nat → Int64) (lat : Int32) (lon : Int32) (a0 : Int64) (a1 : Int64) (a2 : Int32) : Int32 := (if (7864320 : Int64) < (f_X6_sizeOf ((4 : Int64) * (if ((4 : Int64) * (f_X6_globalOf_x72 a0 a1)) < (23592960 : Int64) then (f_X6_globalOf_x72 a0 a1) else ((f_X6_globalOf_x72 a0 a1) - (7864320 : Int64))))) then (0 : Int32) else (if (f_X6_sizeOf ((4 : Int64) * (if ((4 : Int64) * (f_X6_globalOf_x89 a0 a1)) < (23199744 : Int64) then (f_X6_globalOf_x89 a0 a1) else ((f_X6_globalOf_x89 a0 a1) - (7733248 : Int64))))) ≤ (7733248 : Int64) then (if (f_X6_globalOf_x180 bd a0 a1) = (f_X6_zonesOf bd ((36000000000 : Int64) * (if ((4 : Int64) * (f_X6_globalOf_x89 a0 a1)) < (23199744 : Int64) then (f_X6_globalOf_x89 a0 a1) else ((f_X6_globalOf_x89 a0 a1) - (7733248 : Int64)))) (7733248 : Int64)) then (1 : Int32) else (0 : Int32)) else (0 : Int32)))
def f_X6_globalOf_lat (bd : Nat → Int64) (lat : Int32) (lon : Int32) (a0 : Int64) (a1 : Int64) (a2 : Int32) : Int32 := (if (7864320 : Int64) < (f_X6_sizeOf ((4 : Int64) * (if ((4 : Int64) * (f_X6_globalOf_x72 a0 a1)) < (23592960 : Int64) then (f_X6_globalOf_x72 a0 a1) else ((f_X6_globalOf_x72 a0 a1) - (7864320 : Int64))))) then lat else (if (f_X6_sizeOf ((4 : Int64) * (if ((4 : Int64) * (f_X6_globalOf_x89 a0 a1)) < (23199744 : Int64) then (f_X6_globalOf_x89 a0 a1) else ((f_X6_globalOf_x89 a0 a1) - (7733248 : Int64))))) ≤ (7733248 : Int64) then (if (f_X6_globalOf_x180 bd a0 a1) = (f_X6_zonesOf bd ((36000000000 : Int64) * (if ((4 : Int64) * (f_X6_globalOf_x89 a0 a1)) < (23199744 : Int64) then (f_X6_globalOf_x89 a0 a1) else ((f_X6_globalOf_x89 a0 a1) - (7733248 : Int64)))) (7733248 : Int64)) then (f_X6_down ((360000000 : Int64) * (if a2 = 0 then (if ((4 : Int64) * (f_X6_globalOf_x72 a0 a1)) < (23592960 : Int64) then (f_X6_globalOf_x72 a0 a1) else ((f_X6_globalOf_x72 a0 a1) - (7864320 : Int64))) else (if ((4 : Int64) * (f_X6_globalOf_x89 a0 a1)) < (23199744 : Int64) then (f_X6_globalOf_x89 a0 a1) else ((f_X6_globalOf_x89 a0 a1) - (7733248 : Int64))))) ((if a2 = 0 then (60 : Int64) else (59 : Int64)) * (131072 : Int64))).toInt32 else lat) else lat))
def f_X6_globalOf_lon (bd : Nat → Int64) (lat : Int32) (lon : Int32) (a0 : Int64) (a1 : Int64) (a2 : Int32) : Int32 := (if (7864320 : Int64) < (f_X6_sizeOf ((4 : Int64) * (if ((4 : Int64) * (f_X6_globalOf_x72 a0 a1)) < (23592960 : Int64) then (f_X6_globalOf_x72 a0 a1) else ((f_X6_globalOf_x72 a0 a1) - (7864320 : Int64))))) then lon else (if (f_X6_sizeOf ((4 : Int64) * (if ((4 : Int64) * (f_X6_globalOf_x89 a0 a1)) < (23199744 : Int64) then (f_X6_globalOf_x89 a0 a1) else ((f_X6_globalOf_x89 a0 a1) - (7733248 : Int64))))) ≤ (7733248 : Int64) then (if (f_X6_globalOf_x180 bd a0 a1) = (f_X6_zonesOf bd ((36000000000 : Int64) * (if ((4 : Int64) * (f_X6_globalOf_x89 a0 a1)) < (23199744 : Int64) then (f_X6_globalOf_x89 a0 a1) else ((f_X6_globalOf_x89 a0 a1) - (7733248 : Int64)))) (7733248 : Int64)) then (f_X6_down ((360000000 : Int64) * (if ((2 : Int64) * (f_X6_globalOf_x277 a0 bd a1 a2)) < ((f_X6_globalOf_x219 a2 bd a0 a1).toInt64 * (131072 : Int64)) then (f_X6_globalOf_x277 a0 bd a1 a2) else (f_X6_globalOf_x306 a0 bd a1 a2))) ((f_X6_globalOf_x219 a2 bd a0 a1).toInt64 * (131072 : Int64))).toInt32 else lon) else lon))
set_option maxHeartbeats 4000000 in
set_option maxRecDepth 100000 in
theorem c_X6_globalOf (l : Launch) (D : va_G) (cI cJ cO : ClassId) (h0 : Nat) (h1 : Nat) (h2 : Nat) (mn : Int32) (lt : Int32) (h3 : Nat) (sz : Int32) (h4 : Nat) (hsz : Int32) (hsy : Int32) (hrt : Int32) (hpl : Int32) (ola : Int32) (olo : Int32) (lat : Int32) (lon : Int32) (bd : Nat → Int64) (rw : Nat → Int32) (bt : Nat → Int32) (hd : Nat → Int32) (a0 : Int64) (a1 : Int64) (a2 : Int32) : Wr l yX6_globalOf cX6_globalOf 26 (some .boolean) 2 50 [.ref h0, .long a0, .long a1, .int a2] (fun U => B1 D cI cJ cO [(h0, .inr (4, [.ref h1, .ref h2, .int mn, .int lt, .ref h3, .int sz, .ref h4, .int hsz, .int hsy, .int hrt, .int hpl, .int ola, .int olo, .int lat, .int lon])), (h1, .inl (cJ, 58, .inr (.inl bd))), (h2, .inl (cI, 800, .inl rw)), (h3, .inl (cI, 112, .inl bt)), (h4, .inl (cI, 112, .inl hd))] U ∧ True) D (some (.int (f_X6_globalOf bd lat lon a0 a1 a2))) [(h0, .inr (4, [.ref h1, .ref h2, .int mn, .int lt, .ref h3, .int sz, .ref h4, .int hsz, .int hsy, .int hrt, .int hpl, .int ola, .int olo, .int lat, .int lon])), (h1, .inl (cJ, 58, .inr (.inl bd))), (h2, .inl (cI, 800, .inl rw)), (h3, .inl (cI, 112, .inl bt)), (h4, .inl (cI, 112, .inl hd))] [(h0, .inr (4, [.ref h1, .ref h2, .int mn, .int lt, .ref h3, .int sz, .ref h4, .int hsz, .int hsy, .int hrt, .int hpl, .int ola, .int olo, .int (f_X6_globalOf_lat bd lat lon a0 a1 a2), .int (f_X6_globalOf_lon bd lat lon a0 a1 a2)])), (h1, .inl (cJ, 58, .inr (.inl bd))), (h2, .inl (cI, 800, .inl rw)), (h3, .inl (cI, 112, .inl bt)), (h4, .inl (cI, 112, .inl hd))] := by
  refine Wr.of (by decide +kernel) (Nat.le_of_ble_eq_true rfl) ?_
  intro p e s m args below meth c hx hb hr hml hown htg hlocks A hA hP hK hD hX hS ls hl
  have hown : s.vm.findClass RX6 = some m.cls := hown
  have hl : lv_has ls 26 [(0, .ref h0), (1, .long a0), (3, .long a1), (5, .int a2)] := hl
  refine lv_lload_n hx hb dX6_globalOf_0 rfl (lv_at hl 1 rfl) ?_
  refine lv_ldc2 (v := 131072) hx hb hown (htg _ ct_X6_200) dX6_globalOf_1 ?_
  refine lv_ldiv hx hb dX6_globalOf_4 (by decide) ?_
  refine lv_lstore (lv' := [(6, .long (a0 / (131072 : Int64))), (0, .ref h0), (1, .long a0), (3, .long a1), (5, .int a2)]) hx hb dX6_globalOf_5 hl (by decide) rfl (fun ls hl => ?_)
  refine lv_lload_n hx hb dX6_globalOf_7 rfl (lv_at hl 3 rfl) ?_
  refine lv_ldc2 (v := 131072) hx hb hown (htg _ ct_X6_200) dX6_globalOf_8 ?_
  refine lv_ldiv hx hb dX6_globalOf_11 (by decide) ?_
  refine lv_lstore (lv' := [(8, .long (a1 / (131072 : Int64))), (6, .long (a0 / (131072 : Int64))), (0, .ref h0), (1, .long a0), (3, .long a1), (5, .int a2)]) hx hb dX6_globalOf_12 hl (by decide) rfl (fun ls hl => ?_)
  refine lv_lload_n hx hb dX6_globalOf_14 rfl (lv_at hl 3 rfl) ?_
  refine lv_ldc2 (v := 131072) hx hb hown (htg _ ct_X6_200) dX6_globalOf_15 ?_
  refine lv_lrem hx hb dX6_globalOf_18 (by decide) ?_
  refine lv_lstore (lv' := [(10, .long (a0 - a0 / (131072 : Int64) * (131072 : Int64))), (8, .long (a1 / (131072 : Int64))), (6, .long (a0 / (131072 : Int64))), (0, .ref h0), (1, .long a0), (3, .long a1), (5, .int a2)]) hx hb dX6_globalOf_19 hl (by decide) rfl (fun ls hl => ?_)
  refine lv_lload_n hx hb dX6_globalOf_21 rfl (lv_at hl 5 rfl) ?_
  refine lv_ldc2 (v := 131072) hx hb hown (htg _ ct_X6_200) dX6_globalOf_22 ?_
  refine lv_lrem hx hb dX6_globalOf_25 (by decide) ?_
  refine lv_lstore (lv' := [(12, .long (a1 - a1 / (131072 : Int64) * (131072 : Int64))), (10, .long (a0 - a0 / (131072 : Int64) * (131072 : Int64))), (8, .long (a1 / (131072 : Int64))), (6, .long (a0 / (131072 : Int64))), (0, .ref h0), (1, .long a0), (3, .long a1), (5, .int a2)]) hx hb dX6_globalOf_26 hl (by decide) rfl (fun ls hl => ?_)
  refine lv_ldc2 (v := 2) hx hb hown (htg _ ct_X6_198) dX6_globalOf_28 ?_
  refine lv_ldc2 (v := 59) hx hb hown (htg _ ct_X6_225) dX6_globalOf_31 ?_
  refine lv_lload hx hb dX6_globalOf_34 (lv_at hl 3 rfl) ?_
  refine lv_lmul hx hb dX6_globalOf_36 ?_
  refine lv_ldc2 (v := 60) hx hb hown (htg _ ct_X6_227) dX6_globalOf_37 ?_
  refine lv_lload hx hb dX6_globalOf_40 (lv_at hl 2 rfl) ?_
  refine lv_lmul hx hb dX6_globalOf_42 ?_
  refine lv_lsub hx hb dX6_globalOf_43 ?_
  refine lv_lmul hx hb dX6_globalOf_44 ?_
  refine lv_ldc2 (v := 131072) hx hb hown (htg _ ct_X6_200) dX6_globalOf_45 ?_
  refine lv_ladd hx hb dX6_globalOf_48 ?_
  refine lv_ldc2 (v := 262144) hx hb hown (htg _ ct_X6_229) dX6_globalOf_49 ?_
  refine rS (As := [.long (((2 : Int64) * (((59 : Int64) * (a0 / (131072 : Int64))) - ((60 : Int64) * (a1 / (131072 : Int64))))) + (131072 : Int64)), .long (262144 : Int64)]) (rest := []) hx hb hml hown htg (c_X6_down l (((2 : Int64) * (((59 : Int64) * (a0 / (131072 : Int64))) - ((60 : Int64) * (a1 / (131072 : Int64))))) + (131072 : Int64)) (262144 : Int64) (by decide)) Blind.tt ml_X6_202 st_X6_down ini_X6 co_X6_down dn_X6_down rfl (fun _ _ _ => trivial) hl.1 rfl (Nat.le_of_ble_eq_true rfl) ⟨Nat.le_of_ble_eq_true rfl, Nat.le_of_ble_eq_true rfl⟩ ⟨Nat.le_of_ble_eq_true rfl, Nat.le_of_ble_eq_true rfl⟩ dX6_globalOf_52 ?_
  refine lv_lstore (lv' := [(14, .long (f_X6_globalOf_x55 a0 a1)), (12, .long (a1 - a1 / (131072 : Int64) * (131072 : Int64))), (10, .long (a0 - a0 / (131072 : Int64) * (131072 : Int64))), (8, .long (a1 / (131072 : Int64))), (6, .long (a0 / (131072 : Int64))), (0, .ref h0), (1, .long a0), (3, .long a1), (5, .int a2)]) hx hb dX6_globalOf_55 hl (by decide) rfl (fun ls hl => ?_)
  refine lv_lload hx hb dX6_globalOf_57 (lv_at hl 0 rfl) ?_
  refine lv_ldc2 (v := 60) hx hb hown (htg _ ct_X6_227) dX6_globalOf_59 ?_
  refine rS (As := [.long (f_X6_globalOf_x55 a0 a1), .long (60 : Int64)]) (rest := []) hx hb hml hown htg (c_X6_rest l (f_X6_globalOf_x55 a0 a1) (60 : Int64) (by decide)) Blind.tt ml_X6_176 st_X6_rest ini_X6 co_X6_rest dn_X6_rest rfl (fun _ _ _ => trivial) hl.1 rfl (Nat.le_of_ble_eq_true rfl) ⟨Nat.le_of_ble_eq_true rfl, Nat.le_of_ble_eq_true rfl⟩ ⟨Nat.le_of_ble_eq_true rfl, Nat.le_of_ble_eq_true rfl⟩ dX6_globalOf_62 ?_
  refine lv_ldc2 (v := 131072) hx hb hown (htg _ ct_X6_200) dX6_globalOf_65 ?_
  refine lv_lmul hx hb dX6_globalOf_68 ?_
  refine lv_lload hx hb dX6_globalOf_69 (lv_at hl 4 rfl) ?_
  refine lv_ladd hx hb dX6_globalOf_71 ?_
  refine lv_lstore (lv' := [(16, .long (f_X6_globalOf_x72 a0 a1)), (14, .long (f_X6_globalOf_x55 a0 a1)), (12, .long (a1 - a1 / (131072 : Int64) * (131072 : Int64))), (10, .long (a0 - a0 / (131072 : Int64) * (131072 : Int64))), (8, .long (a1 / (131072 : Int64))), (6, .long (a0 / (131072 : Int64))), (0, .ref h0), (1, .long a0), (3, .long a1), (5, .int a2)]) hx hb dX6_globalOf_72 hl (by decide) rfl (fun ls hl => ?_)
  refine lv_lload hx hb dX6_globalOf_74 (lv_at hl 1 rfl) ?_
  refine lv_ldc2 (v := 59) hx hb hown (htg _ ct_X6_225) dX6_globalOf_76 ?_
  refine rS (As := [.long (f_X6_globalOf_x55 a0 a1), .long (59 : Int64)]) (rest := []) hx hb hml hown htg (c_X6_rest l (f_X6_globalOf_x55 a0 a1) (59 : Int64) (by decide)) Blind.tt ml_X6_176 st_X6_rest ini_X6 co_X6_rest dn_X6_rest rfl (fun _ _ _ => trivial) hl.1 rfl (Nat.le_of_ble_eq_true rfl) ⟨Nat.le_of_ble_eq_true rfl, Nat.le_of_ble_eq_true rfl⟩ ⟨Nat.le_of_ble_eq_true rfl, Nat.le_of_ble_eq_true rfl⟩ dX6_globalOf_79 ?_
  refine lv_ldc2 (v := 131072) hx hb hown (htg _ ct_X6_200) dX6_globalOf_82 ?_
  refine lv_lmul hx hb dX6_globalOf_85 ?_
  refine lv_lload hx hb dX6_globalOf_86 (lv_at hl 4 rfl) ?_
  refine lv_ladd hx hb dX6_globalOf_88 ?_
  refine lv_lstore (lv' := [(18, .long (f_X6_globalOf_x89 a0 a1)), (16, .long (f_X6_globalOf_x72 a0 a1)), (14, .long (f_X6_globalOf_x55 a0 a1)), (12, .long (a1 - a1 / (131072 : Int64) * (131072 : Int64))), (10, .long (a0 - a0 / (131072 : Int64) * (131072 : Int64))), (8, .long (a1 / (131072 : Int64))), (6, .long (a0 / (131072 : Int64))), (0, .ref h0), (1, .long a0), (3, .long a1), (5, .int a2)]) hx hb dX6_globalOf_89 hl (by decide) rfl (fun ls hl => ?_)
  refine lv_ldc2 (v := 4) hx hb hown (htg _ ct_X6_231) dX6_globalOf_91 ?_
  refine lv_lload hx hb dX6_globalOf_94 (lv_at hl 1 rfl) ?_
  refine lv_lmul hx hb dX6_globalOf_96 ?_
  refine lv_ldc2 (v := 23592960) hx hb hown (htg _ ct_X6_233) dX6_globalOf_97 ?_
  refine W.join (nL := 26) (lv := [(18, .long (f_X6_globalOf_x89 a0 a1)), (16, .long (if ((4 : Int64) * (f_X6_globalOf_x72 a0 a1)) < (23592960 : Int64) then (f_X6_globalOf_x72 a0 a1) else ((f_X6_globalOf_x72 a0 a1) - (7864320 : Int64)))), (14, .long (f_X6_globalOf_x55 a0 a1)), (12, .long (a1 - a1 / (131072 : Int64) * (131072 : Int64))), (10, .long (a0 - a0 / (131072 : Int64) * (131072 : Int64))), (8, .long (a1 / (131072 : Int64))), (6, .long (a0 / (131072 : Int64))), (0, .ref h0), (1, .long a0), (3, .long a1), (5, .int a2)]) (pc2 := 112) (st2 := []) (fun ls hl => ?_) (fun J => ?_)
  · refine lv_ldc2 (v := 4) hx hb hown (htg _ ct_X6_231) dX6_globalOf_112 ?_
    refine lv_lload hx hb dX6_globalOf_115 (lv_at hl 0 rfl) ?_
    refine lv_lmul hx hb dX6_globalOf_117 ?_
    refine lv_ldc2 (v := 23199744) hx hb hown (htg _ ct_X6_237) dX6_globalOf_118 ?_
    refine W.join (nL := 26) (lv := [(18, .long (if ((4 : Int64) * (f_X6_globalOf_x89 a0 a1)) < (23199744 : Int64) then (f_X6_globalOf_x89 a0 a1) else ((f_X6_globalOf_x89 a0 a1) - (7733248 : Int64)))), (16, .long (if ((4 : Int64) * (f_X6_globalOf_x72 a0 a1)) < (23592960 : Int64) then (f_X6_globalOf_x72 a0 a1) else ((f_X6_globalOf_x72 a0 a1) - (7864320 : Int64)))), (14, .long (f_X6_globalOf_x55 a0 a1)), (12, .long (a1 - a1 / (131072 : Int64) * (131072 : Int64))), (10, .long (a0 - a0 / (131072 : Int64) * (131072 : Int64))), (8, .long (a1 / (131072 : Int64))), (6, .long (a0 / (131072 : Int64))), (0, .ref h0), (1, .long a0), (3, .long a1), (5, .int a2)]) (pc2 := 133) (st2 := []) (fun ls hl => ?_) (fun J => ?_)
    · refine lv_ldc2 (v := 4) hx hb hown (htg _ ct_X6_231) dX6_globalOf_133 ?_
      refine lv_lload hx hb dX6_globalOf_136 (lv_at hl 1 rfl) ?_
      refine lv_lmul hx hb dX6_globalOf_138 ?_
      refine rS (As := [.long ((4 : Int64) * (if ((4 : Int64) * (f_X6_globalOf_x72 a0 a1)) < (23592960 : Int64) then (f_X6_globalOf_x72 a0 a1) else ((f_X6_globalOf_x72 a0 a1) - (7864320 : Int64))))]) (rest := []) hx hb hml hown htg (c_X6_sizeOf l ((4 : Int64) * (if ((4 : Int64) * (f_X6_globalOf_x72 a0 a1)) < (23592960 : Int64) then (f_X6_globalOf_x72 a0 a1) else ((f_X6_globalOf_x72 a0 a1) - (7864320 : Int64))))) Blind.tt ml_X6_180 st_X6_sizeOf ini_X6 co_X6_sizeOf dn_X6_sizeOf rfl (fun _ _ _ => trivial) hl.1 rfl (Nat.le_of_ble_eq_true rfl) ⟨Nat.le_of_ble_eq_true rfl, Nat.le_of_ble_eq_true rfl⟩ ⟨Nat.le_of_ble_eq_true rfl, Nat.le_of_ble_eq_true rfl⟩ dX6_globalOf_139 ?_
      refine lv_ldc2 (v := 7864320) hx hb hown (htg _ ct_X6_235) dX6_globalOf_142 ?_
      refine lc_gt (tgt := 165) hx hb dX6_globalOf_145 dX6_globalOf_146 (by decide) (fun c_1 => ?_) (fun c_1 => ?_)
      · refine lv_iconst (v := 0) hx hb dX6_globalOf_165 (by decide) ?_
        exact wr_z hx hb hr hlocks hA hS (hP.eq (by simp only [f_X6_globalOf_lat, f_X6_globalOf_lon, if_pos c_1])) (by decide) (by simp only [f_X6_globalOf, if_pos c_1]) dX6_globalOf_166
      · refine lv_ldc2 (v := 4) hx hb hown (htg _ ct_X6_231) dX6_globalOf_149 ?_
        refine lv_lload hx hb dX6_globalOf_152 (lv_at hl 0 rfl) ?_
        refine lv_lmul hx hb dX6_globalOf_154 ?_
        refine rS (As := [.long ((4 : Int64) * (if ((4 : Int64) * (f_X6_globalOf_x89 a0 a1)) < (23199744 : Int64) then (f_X6_globalOf_x89 a0 a1) else ((f_X6_globalOf_x89 a0 a1) - (7733248 : Int64))))]) (rest := []) hx hb hml hown htg (c_X6_sizeOf l ((4 : Int64) * (if ((4 : Int64) * (f_X6_globalOf_x89 a0 a1)) < (23199744 : Int64) then (f_X6_globalOf_x89 a0 a1) else ((f_X6_globalOf_x89 a0 a1) - (7733248 : Int64))))) Blind.tt ml_X6_180 st_X6_sizeOf ini_X6 co_X6_sizeOf dn_X6_sizeOf rfl (fun _ _ _ => trivial) hl.1 rfl (Nat.le_of_ble_eq_true rfl) ⟨Nat.le_of_ble_eq_true rfl, Nat.le_of_ble_eq_true rfl⟩ ⟨Nat.le_of_ble_eq_true rfl, Nat.le_of_ble_eq_true rfl⟩ dX6_globalOf_155 ?_
        refine lv_ldc2 (v := 7733248) hx hb hown (htg _ ct_X6_239) dX6_globalOf_158 ?_
        refine lc_le (tgt := 167) hx hb dX6_globalOf_161 dX6_globalOf_162 (by decide) (fun c_2 => ?_) (fun c_2 => ?_)
        · refine lv_aload_n hx hb dX6_globalOf_167 rfl (lv_at hl 7 rfl) ?_
          refine lv_ldc2 (v := 36000000000) hx hb hown (htg _ ct_X6_241) dX6_globalOf_168 ?_
          refine lv_lload hx hb dX6_globalOf_171 (lv_at hl 1 rfl) ?_
          refine lv_lmul hx hb dX6_globalOf_173 ?_
          refine lv_ldc2 (v := 7864320) hx hb hown (htg _ ct_X6_235) dX6_globalOf_174 ?_
          refine rV (As := [.long ((36000000000 : Int64) * (if ((4 : Int64) * (f_X6_globalOf_x72 a0 a1)) < (23592960 : Int64) then (f_X6_globalOf_x72 a0 a1) else ((f_X6_globalOf_x72 a0 a1) - (7864320 : Int64)))), .long (7864320 : Int64)]) (rest := []) hx hb hml hown htg (c_X6_zonesOf l D cI cJ cO h0 h1 h2 mn lt h3 sz h4 hsz hsy hrt hpl ola olo lat lon bd rw bt hd ((36000000000 : Int64) * (if ((4 : Int64) * (f_X6_globalOf_x72 a0 a1)) < (23592960 : Int64) then (f_X6_globalOf_x72 a0 a1) else ((f_X6_globalOf_x72 a0 a1) - (7864320 : Int64)))) (7864320 : Int64)) Blind.b0 ml_X6_194 im_X6_zonesOf se_X6_zonesOf ini_X6 co_X6_zonesOf rfl dn_X6_zonesOf rfl (va_recv hK hP (ci := 4) (q0 := 0) rfl rfl) (fun U hU hW => ⟨by rw [hU]; exact hP, va_K.moved hW.alike hK⟩) hl.1 rfl (Nat.le_of_ble_eq_true rfl) ⟨Nat.le_of_ble_eq_true rfl, Nat.le_of_ble_eq_true rfl⟩ ⟨Nat.le_of_ble_eq_true rfl, Nat.le_of_ble_eq_true rfl⟩ dX6_globalOf_177 ?_
          refine lv_istore (lv' := [(20, .int (f_X6_globalOf_x180 bd a0 a1)), (18, .long (if ((4 : Int64) * (f_X6_globalOf_x89 a0 a1)) < (23199744 : Int64) then (f_X6_globalOf_x89 a0 a1) else ((f_X6_globalOf_x89 a0 a1) - (7733248 : Int64)))), (16, .long (if ((4 : Int64) * (f_X6_globalOf_x72 a0 a1)) < (23592960 : Int64) then (f_X6_globalOf_x72 a0 a1) else ((f_X6_globalOf_x72 a0 a1) - (7864320 : Int64)))), (14, .long (f_X6_globalOf_x55 a0 a1)), (12, .long (a1 - a1 / (131072 : Int64) * (131072 : Int64))), (10, .long (a0 - a0 / (131072 : Int64) * (131072 : Int64))), (8, .long (a1 / (131072 : Int64))), (6, .long (a0 / (131072 : Int64))), (0, .ref h0), (1, .long a0), (3, .long a1), (5, .int a2)]) hx hb dX6_globalOf_180 hl (by decide) rfl (fun ls hl => ?_)
          refine lv_iload hx hb dX6_globalOf_182 (lv_at hl 0 rfl) ?_
          refine lv_aload_n hx hb dX6_globalOf_184 rfl (lv_at hl 8 rfl) ?_
          refine lv_ldc2 (v := 36000000000) hx hb hown (htg _ ct_X6_241) dX6_globalOf_185 ?_
          refine lv_lload hx hb dX6_globalOf_188 (lv_at hl 1 rfl) ?_
          refine lv_lmul hx hb dX6_globalOf_190 ?_
          refine lv_ldc2 (v := 7733248) hx hb hown (htg _ ct_X6_239) dX6_globalOf_191 ?_
          refine rV (As := [.long ((36000000000 : Int64) * (if ((4 : Int64) * (f_X6_globalOf_x89 a0 a1)) < (23199744 : Int64) then (f_X6_globalOf_x89 a0 a1) else ((f_X6_globalOf_x89 a0 a1) - (7733248 : Int64)))), .long (7733248 : Int64)]) (rest := [.int (f_X6_globalOf_x180 bd a0 a1)]) hx hb hml hown htg (c_X6_zonesOf l D cI cJ cO h0 h1 h2 mn lt h3 sz h4 hsz hsy hrt hpl ola olo lat lon bd rw bt hd ((36000000000 : Int64) * (if ((4 : Int64) * (f_X6_globalOf_x89 a0 a1)) < (23199744 : Int64) then (f_X6_globalOf_x89 a0 a1) else ((f_X6_globalOf_x89 a0 a1) - (7733248 : Int64)))) (7733248 : Int64)) Blind.b0 ml_X6_194 im_X6_zonesOf se_X6_zonesOf ini_X6 co_X6_zonesOf rfl dn_X6_zonesOf rfl (va_recv hK hP (ci := 4) (q0 := 0) rfl rfl) (fun U hU hW => ⟨by rw [hU]; exact hP, va_K.moved hW.alike hK⟩) hl.1 rfl (Nat.le_of_ble_eq_true rfl) ⟨Nat.le_of_ble_eq_true rfl, Nat.le_of_ble_eq_true rfl⟩ ⟨Nat.le_of_ble_eq_true rfl, Nat.le_of_ble_eq_true rfl⟩ dX6_globalOf_194 ?_
          refine lv_icmp_eq (tgt := 202) hx hb dX6_globalOf_197 (by decide) (fun c_3 => ?_) (fun c_3 => ?_)
          · refine lv_iload hx hb dX6_globalOf_202 (lv_at hl 11 rfl) ?_
            refine W.join (nL := 26) (lv := [(20, .int (f_X6_globalOf_x180 bd a0 a1)), (18, .long (if ((4 : Int64) * (f_X6_globalOf_x89 a0 a1)) < (23199744 : Int64) then (f_X6_globalOf_x89 a0 a1) else ((f_X6_globalOf_x89 a0 a1) - (7733248 : Int64)))), (16, .long (if ((4 : Int64) * (f_X6_globalOf_x72 a0 a1)) < (23592960 : Int64) then (f_X6_globalOf_x72 a0 a1) else ((f_X6_globalOf_x72 a0 a1) - (7864320 : Int64)))), (14, .long (f_X6_globalOf_x55 a0 a1)), (12, .long (a1 - a1 / (131072 : Int64) * (131072 : Int64))), (10, .long (a0 - a0 / (131072 : Int64) * (131072 : Int64))), (8, .long (a1 / (131072 : Int64))), (6, .long (a0 / (131072 : Int64))), (0, .ref h0), (1, .long a0), (3, .long a1), (5, .int a2)]) (pc2 := 216) (st2 := [.int (if a2 = 0 then (f_X6_globalOf_x180 bd a0 a1) else ((f_X6_globalOf_x180 bd a0 a1) - (1 : Int32)))]) (fun ls hl => ?_) (fun J => ?_)
            · refine rS (As := [.int (if a2 = 0 then (f_X6_globalOf_x180 bd a0 a1) else ((f_X6_globalOf_x180 bd a0 a1) - (1 : Int32)))]) (rest := []) hx hb hml hown htg (c_X6_atLeast1 l (if a2 = 0 then (f_X6_globalOf_x180 bd a0 a1) else ((f_X6_globalOf_x180 bd a0 a1) - (1 : Int32)))) Blind.tt ml_X6_217 st_X6_atLeast1 ini_X6 co_X6_atLeast1 dn_X6_atLeast1 rfl (fun _ _ _ => trivial) hl.1 rfl (Nat.le_of_ble_eq_true rfl) ⟨Nat.le_of_ble_eq_true rfl, Nat.le_of_ble_eq_true rfl⟩ ⟨Nat.le_of_ble_eq_true rfl, Nat.le_of_ble_eq_true rfl⟩ dX6_globalOf_216 ?_
              refine lv_istore (lv' := [(21, .int (f_X6_globalOf_x219 a2 bd a0 a1)), (20, .int (f_X6_globalOf_x180 bd a0 a1)), (18, .long (if ((4 : Int64) * (f_X6_globalOf_x89 a0 a1)) < (23199744 : Int64) then (f_X6_globalOf_x89 a0 a1) else ((f_X6_globalOf_x89 a0 a1) - (7733248 : Int64)))), (16, .long (if ((4 : Int64) * (f_X6_globalOf_x72 a0 a1)) < (23592960 : Int64) then (f_X6_globalOf_x72 a0 a1) else ((f_X6_globalOf_x72 a0 a1) - (7864320 : Int64)))), (14, .long (f_X6_globalOf_x55 a0 a1)), (12, .long (a1 - a1 / (131072 : Int64) * (131072 : Int64))), (10, .long (a0 - a0 / (131072 : Int64) * (131072 : Int64))), (8, .long (a1 / (131072 : Int64))), (6, .long (a0 / (131072 : Int64))), (0, .ref h0), (1, .long a0), (3, .long a1), (5, .int a2)]) hx hb dX6_globalOf_219 hl (by decide) rfl (fun ls hl => ?_)
              refine lv_ldc2 (v := 2) hx hb hown (htg _ ct_X6_198) dX6_globalOf_221 ?_
              refine lv_lload hx hb dX6_globalOf_224 (lv_at hl 6 rfl) ?_
              refine lv_iload hx hb dX6_globalOf_226 (lv_at hl 1 rfl) ?_
              refine lv_iconst (v := 1) hx hb dX6_globalOf_228 (by decide) ?_
              refine lv_isub hx hb dX6_globalOf_229 ?_
              refine lv_i2l (v := ((f_X6_globalOf_x180 bd a0 a1) - (1 : Int32)).toInt64) hx hb dX6_globalOf_230 rfl ?_
              refine lv_lmul hx hb dX6_globalOf_231 ?_
              refine lv_lload hx hb dX6_globalOf_232 (lv_at hl 5 rfl) ?_
              refine lv_iload hx hb dX6_globalOf_234 (lv_at hl 1 rfl) ?_
              refine lv_i2l (v := (f_X6_globalOf_x180 bd a0 a1).toInt64) hx hb dX6_globalOf_236 rfl ?_
              refine lv_lmul hx hb dX6_globalOf_237 ?_
              refine lv_lsub hx hb dX6_globalOf_238 ?_
              refine lv_lmul hx hb dX6_globalOf_239 ?_
              refine lv_ldc2 (v := 131072) hx hb hown (htg _ ct_X6_200) dX6_globalOf_240 ?_
              refine lv_ladd hx hb dX6_globalOf_243 ?_
              refine lv_ldc2 (v := 262144) hx hb hown (htg _ ct_X6_229) dX6_globalOf_244 ?_
              refine rS (As := [.long (((2 : Int64) * (((a0 - a0 / (131072 : Int64) * (131072 : Int64)) * ((f_X6_globalOf_x180 bd a0 a1) - (1 : Int32)).toInt64) - ((a1 - a1 / (131072 : Int64) * (131072 : Int64)) * (f_X6_globalOf_x180 bd a0 a1).toInt64))) + (131072 : Int64)), .long (262144 : Int64)]) (rest := []) hx hb hml hown htg (c_X6_down l (((2 : Int64) * (((a0 - a0 / (131072 : Int64) * (131072 : Int64)) * ((f_X6_globalOf_x180 bd a0 a1) - (1 : Int32)).toInt64) - ((a1 - a1 / (131072 : Int64) * (131072 : Int64)) * (f_X6_globalOf_x180 bd a0 a1).toInt64))) + (131072 : Int64)) (262144 : Int64) (by decide)) Blind.tt ml_X6_202 st_X6_down ini_X6 co_X6_down dn_X6_down rfl (fun _ _ _ => trivial) hl.1 rfl (Nat.le_of_ble_eq_true rfl) ⟨Nat.le_of_ble_eq_true rfl, Nat.le_of_ble_eq_true rfl⟩ ⟨Nat.le_of_ble_eq_true rfl, Nat.le_of_ble_eq_true rfl⟩ dX6_globalOf_247 ?_
              refine lv_lstore (lv' := [(22, .long (f_X6_globalOf_x250 a0 bd a1)), (21, .int (f_X6_globalOf_x219 a2 bd a0 a1)), (20, .int (f_X6_globalOf_x180 bd a0 a1)), (18, .long (if ((4 : Int64) * (f_X6_globalOf_x89 a0 a1)) < (23199744 : Int64) then (f_X6_globalOf_x89 a0 a1) else ((f_X6_globalOf_x89 a0 a1) - (7733248 : Int64)))), (16, .long (if ((4 : Int64) * (f_X6_globalOf_x72 a0 a1)) < (23592960 : Int64) then (f_X6_globalOf_x72 a0 a1) else ((f_X6_globalOf_x72 a0 a1) - (7864320 : Int64)))), (14, .long (f_X6_globalOf_x55 a0 a1)), (12, .long (a1 - a1 / (131072 : Int64) * (131072 : Int64))), (10, .long (a0 - a0 / (131072 : Int64) * (131072 : Int64))), (8, .long (a1 / (131072 : Int64))), (6, .long (a0 / (131072 : Int64))), (0, .ref h0), (1, .long a0), (3, .long a1), (5, .int a2)]) hx hb dX6_globalOf_250 hl (by decide) rfl (fun ls hl => ?_)
              refine lv_lload hx hb dX6_globalOf_252 (lv_at hl 0 rfl) ?_
              refine lv_iload hx hb dX6_globalOf_254 (lv_at hl 1 rfl) ?_
              refine lv_i2l (v := (f_X6_globalOf_x219 a2 bd a0 a1).toInt64) hx hb dX6_globalOf_256 rfl ?_
              refine rS (As := [.long (f_X6_globalOf_x250 a0 bd a1), .long (f_X6_globalOf_x219 a2 bd a0 a1).toInt64]) (rest := []) hx hb hml hown htg (c_X6_rest l (f_X6_globalOf_x250 a0 bd a1) (f_X6_globalOf_x219 a2 bd a0 a1).toInt64 (al1_ne _)) Blind.tt ml_X6_176 st_X6_rest ini_X6 co_X6_rest dn_X6_rest rfl (fun _ _ _ => trivial) hl.1 rfl (Nat.le_of_ble_eq_true rfl) ⟨Nat.le_of_ble_eq_true rfl, Nat.le_of_ble_eq_true rfl⟩ ⟨Nat.le_of_ble_eq_true rfl, Nat.le_of_ble_eq_true rfl⟩ dX6_globalOf_257 ?_
              refine lv_ldc2 (v := 131072) hx hb hown (htg _ ct_X6_200) dX6_globalOf_260 ?_
              refine lv_lmul hx hb dX6_globalOf_263 ?_
              refine lv_iload hx hb dX6_globalOf_264 (lv_at hl 13 rfl) ?_
              refine W.join (nL := 26) (lv := [(22, .long (f_X6_globalOf_x250 a0 bd a1)), (21, .int (f_X6_globalOf_x219 a2 bd a0 a1)), (20, .int (f_X6_globalOf_x180 bd a0 a1)), (18, .long (if ((4 : Int64) * (f_X6_globalOf_x89 a0 a1)) < (23199744 : Int64) then (f_X6_globalOf_x89 a0 a1) else ((f_X6_globalOf_x89 a0 a1) - (7733248 : Int64)))), (16, .long (if ((4 : Int64) * (f_X6_globalOf_x72 a0 a1)) < (23592960 : Int64) then (f_X6_globalOf_x72 a0 a1) else ((f_X6_globalOf_x72 a0 a1) - (7864320 : Int64)))), (14, .long (f_X6_globalOf_x55 a0 a1)), (12, .long (a1 - a1 / (131072 : Int64) * (131072 : Int64))), (10, .long (a0 - a0 / (131072 : Int64) * (131072 : Int64))), (8, .long (a1 / (131072 : Int64))), (6, .long (a0 / (131072 : Int64))), (0, .ref h0), (1, .long a0), (3, .long a1), (5, .int a2)]) (pc2 := 276) (st2 := [.long (if a2 = 0 then (a0 - a0 / (131072 : Int64) * (131072 : Int64)) else (a1 - a1 / (131072 : Int64) * (131072 : Int64))), .long ((f_X6_rest (f_X6_globalOf_x250 a0 bd a1) (f_X6_globalOf_x219 a2 bd a0 a1).toInt64) * (131072 : Int64))]) (fun ls hl => ?_) (fun J => ?_)
              · refine lv_ladd hx hb dX6_globalOf_276 ?_
                refine lv_lstore (lv' := [(24, .long (f_X6_globalOf_x277 a0 bd a1 a2)), (22, .long (f_X6_globalOf_x250 a0 bd a1)), (21, .int (f_X6_globalOf_x219 a2 bd a0 a1)), (20, .int (f_X6_globalOf_x180 bd a0 a1)), (18, .long (if ((4 : Int64) * (f_X6_globalOf_x89 a0 a1)) < (23199744 : Int64) then (f_X6_globalOf_x89 a0 a1) else ((f_X6_globalOf_x89 a0 a1) - (7733248 : Int64)))), (16, .long (if ((4 : Int64) * (f_X6_globalOf_x72 a0 a1)) < (23592960 : Int64) then (f_X6_globalOf_x72 a0 a1) else ((f_X6_globalOf_x72 a0 a1) - (7864320 : Int64)))), (14, .long (f_X6_globalOf_x55 a0 a1)), (12, .long (a1 - a1 / (131072 : Int64) * (131072 : Int64))), (10, .long (a0 - a0 / (131072 : Int64) * (131072 : Int64))), (8, .long (a1 / (131072 : Int64))), (6, .long (a0 / (131072 : Int64))), (0, .ref h0), (1, .long a0), (3, .long a1), (5, .int a2)]) hx hb dX6_globalOf_277 hl (by decide) rfl (fun ls hl => ?_)
                refine lv_ldc2 (v := 2) hx hb hown (htg _ ct_X6_198) dX6_globalOf_279 ?_
                refine lv_lload hx hb dX6_globalOf_282 (lv_at hl 0 rfl) ?_
                refine lv_lmul hx hb dX6_globalOf_284 ?_
                refine lv_iload hx hb dX6_globalOf_285 (lv_at hl 2 rfl) ?_
                refine lv_i2l (v := (f_X6_globalOf_x219 a2 bd a0 a1).toInt64) hx hb dX6_globalOf_287 rfl ?_
                refine lv_ldc2 (v := 131072) hx hb hown (htg _ ct_X6_200) dX6_globalOf_288 ?_
                refine lv_lmul hx hb dX6_globalOf_291 ?_
                refine W.join (nL := 26) (lv := [(24, .long (if ((2 : Int64) * (f_X6_globalOf_x277 a0 bd a1 a2)) < ((f_X6_globalOf_x219 a2 bd a0 a1).toInt64 * (131072 : Int64)) then (f_X6_globalOf_x277 a0 bd a1 a2) else (f_X6_globalOf_x306 a0 bd a1 a2))), (22, .long (f_X6_globalOf_x250 a0 bd a1)), (21, .int (f_X6_globalOf_x219 a2 bd a0 a1)), (20, .int (f_X6_globalOf_x180 bd a0 a1)), (18, .long (if ((4 : Int64) * (f_X6_globalOf_x89 a0 a1)) < (23199744 : Int64) then (f_X6_globalOf_x89 a0 a1) else ((f_X6_globalOf_x89 a0 a1) - (7733248 : Int64)))), (16, .long (if ((4 : Int64) * (f_X6_globalOf_x72 a0 a1)) < (23592960 : Int64) then (f_X6_globalOf_x72 a0 a1) else ((f_X6_globalOf_x72 a0 a1) - (7864320 : Int64)))), (14, .long (f_X6_globalOf_x55 a0 a1)), (12, .long (a1 - a1 / (131072 : Int64) * (131072 : Int64))), (10, .long (a0 - a0 / (131072 : Int64) * (131072 : Int64))), (8, .long (a1 / (131072 : Int64))), (6, .long (a0 / (131072 : Int64))), (0, .ref h0), (1, .long a0), (3, .long a1), (5, .int a2)]) (pc2 := 308) (st2 := []) (fun ls hl => ?_) (fun J => ?_)
                · refine lv_aload_n hx hb dX6_globalOf_308 rfl (lv_at hl 11 rfl) ?_
                  refine lv_ldc2 (v := 360000000) hx hb hown (htg _ ct_X6_212) dX6_globalOf_309 ?_
                  refine lv_iload hx hb dX6_globalOf_312 (lv_at hl 14 rfl) ?_
                  refine W.join (nL := 26) (lv := [(24, .long (if ((2 : Int64) * (f_X6_globalOf_x277 a0 bd a1 a2)) < ((f_X6_globalOf_x219 a2 bd a0 a1).toInt64 * (131072 : Int64)) then (f_X6_globalOf_x277 a0 bd a1 a2) else (f_X6_globalOf_x306 a0 bd a1 a2))), (22, .long (f_X6_globalOf_x250 a0 bd a1)), (21, .int (f_X6_globalOf_x219 a2 bd a0 a1)), (20, .int (f_X6_globalOf_x180 bd a0 a1)), (18, .long (if ((4 : Int64) * (f_X6_globalOf_x89 a0 a1)) < (23199744 : Int64) then (f_X6_globalOf_x89 a0 a1) else ((f_X6_globalOf_x89 a0 a1) - (7733248 : Int64)))), (16, .long (if ((4 : Int64) * (f_X6_globalOf_x72 a0 a1)) < (23592960 : Int64) then (f_X6_globalOf_x72 a0 a1) else ((f_X6_globalOf_x72 a0 a1) - (7864320 : Int64)))), (14, .long (f_X6_globalOf_x55 a0 a1)), (12, .long (a1 - a1 / (131072 : Int64) * (131072 : Int64))), (10, .long (a0 - a0 / (131072 : Int64) * (131072 : Int64))), (8, .long (a1 / (131072 : Int64))), (6, .long (a0 / (131072 : Int64))), (0, .ref h0), (1, .long a0), (3, .long a1), (5, .int a2)]) (pc2 := 324) (st2 := [.long (if a2 = 0 then (if ((4 : Int64) * (f_X6_globalOf_x72 a0 a1)) < (23592960 : Int64) then (f_X6_globalOf_x72 a0 a1) else ((f_X6_globalOf_x72 a0 a1) - (7864320 : Int64))) else (if ((4 : Int64) * (f_X6_globalOf_x89 a0 a1)) < (23199744 : Int64) then (f_X6_globalOf_x89 a0 a1) else ((f_X6_globalOf_x89 a0 a1) - (7733248 : Int64)))), .long (360000000 : Int64), .ref h0]) (fun ls hl => ?_) (fun J => ?_)
                  · refine lv_lmul hx hb dX6_globalOf_324 ?_
                    refine lv_iload hx hb dX6_globalOf_325 (lv_at hl 14 rfl) ?_
                    refine W.join (nL := 26) (lv := [(24, .long (if ((2 : Int64) * (f_X6_globalOf_x277 a0 bd a1 a2)) < ((f_X6_globalOf_x219 a2 bd a0 a1).toInt64 * (131072 : Int64)) then (f_X6_globalOf_x277 a0 bd a1 a2) else (f_X6_globalOf_x306 a0 bd a1 a2))), (22, .long (f_X6_globalOf_x250 a0 bd a1)), (21, .int (f_X6_globalOf_x219 a2 bd a0 a1)), (20, .int (f_X6_globalOf_x180 bd a0 a1)), (18, .long (if ((4 : Int64) * (f_X6_globalOf_x89 a0 a1)) < (23199744 : Int64) then (f_X6_globalOf_x89 a0 a1) else ((f_X6_globalOf_x89 a0 a1) - (7733248 : Int64)))), (16, .long (if ((4 : Int64) * (f_X6_globalOf_x72 a0 a1)) < (23592960 : Int64) then (f_X6_globalOf_x72 a0 a1) else ((f_X6_globalOf_x72 a0 a1) - (7864320 : Int64)))), (14, .long (f_X6_globalOf_x55 a0 a1)), (12, .long (a1 - a1 / (131072 : Int64) * (131072 : Int64))), (10, .long (a0 - a0 / (131072 : Int64) * (131072 : Int64))), (8, .long (a1 / (131072 : Int64))), (6, .long (a0 / (131072 : Int64))), (0, .ref h0), (1, .long a0), (3, .long a1), (5, .int a2)]) (pc2 := 339) (st2 := [.long (if a2 = 0 then (60 : Int64) else (59 : Int64)), .long ((360000000 : Int64) * (if a2 = 0 then (if ((4 : Int64) * (f_X6_globalOf_x72 a0 a1)) < (23592960 : Int64) then (f_X6_globalOf_x72 a0 a1) else ((f_X6_globalOf_x72 a0 a1) - (7864320 : Int64))) else (if ((4 : Int64) * (f_X6_globalOf_x89 a0 a1)) < (23199744 : Int64) then (f_X6_globalOf_x89 a0 a1) else ((f_X6_globalOf_x89 a0 a1) - (7733248 : Int64))))), .ref h0]) (fun ls hl => ?_) (fun J => ?_)
                    · refine lv_ldc2 (v := 131072) hx hb hown (htg _ ct_X6_200) dX6_globalOf_339 ?_
                      refine lv_lmul hx hb dX6_globalOf_342 ?_
                      refine rS (As := [.long ((360000000 : Int64) * (if a2 = 0 then (if ((4 : Int64) * (f_X6_globalOf_x72 a0 a1)) < (23592960 : Int64) then (f_X6_globalOf_x72 a0 a1) else ((f_X6_globalOf_x72 a0 a1) - (7864320 : Int64))) else (if ((4 : Int64) * (f_X6_globalOf_x89 a0 a1)) < (23199744 : Int64) then (f_X6_globalOf_x89 a0 a1) else ((f_X6_globalOf_x89 a0 a1) - (7733248 : Int64))))), .long ((if a2 = 0 then (60 : Int64) else (59 : Int64)) * (131072 : Int64))]) (rest := [.ref h0]) hx hb hml hown htg (c_X6_down l ((360000000 : Int64) * (if a2 = 0 then (if ((4 : Int64) * (f_X6_globalOf_x72 a0 a1)) < (23592960 : Int64) then (f_X6_globalOf_x72 a0 a1) else ((f_X6_globalOf_x72 a0 a1) - (7864320 : Int64))) else (if ((4 : Int64) * (f_X6_globalOf_x89 a0 a1)) < (23199744 : Int64) then (f_X6_globalOf_x89 a0 a1) else ((f_X6_globalOf_x89 a0 a1) - (7733248 : Int64))))) ((if a2 = 0 then (60 : Int64) else (59 : Int64)) * (131072 : Int64)) (by split <;> decide)) Blind.tt ml_X6_202 st_X6_down ini_X6 co_X6_down dn_X6_down rfl (fun _ _ _ => trivial) hl.1 rfl (Nat.le_of_ble_eq_true rfl) ⟨Nat.le_of_ble_eq_true rfl, Nat.le_of_ble_eq_true rfl⟩ ⟨Nat.le_of_ble_eq_true rfl, Nat.le_of_ble_eq_true rfl⟩ dX6_globalOf_343 ?_
                      refine lv_l2i (v := (f_X6_down ((360000000 : Int64) * (if a2 = 0 then (if ((4 : Int64) * (f_X6_globalOf_x72 a0 a1)) < (23592960 : Int64) then (f_X6_globalOf_x72 a0 a1) else ((f_X6_globalOf_x72 a0 a1) - (7864320 : Int64))) else (if ((4 : Int64) * (f_X6_globalOf_x89 a0 a1)) < (23199744 : Int64) then (f_X6_globalOf_x89 a0 a1) else ((f_X6_globalOf_x89 a0 a1) - (7733248 : Int64))))) ((if a2 = 0 then (60 : Int64) else (59 : Int64)) * (131072 : Int64))).toInt32) hx hb dX6_globalOf_346 rfl ?_
                      refine va_put (D := D) (ci := 4) (v := .int (f_X6_down ((360000000 : Int64) * (if a2 = 0 then (if ((4 : Int64) * (f_X6_globalOf_x72 a0 a1)) < (23592960 : Int64) then (f_X6_globalOf_x72 a0 a1) else ((f_X6_globalOf_x72 a0 a1) - (7864320 : Int64))) else (if ((4 : Int64) * (f_X6_globalOf_x89 a0 a1)) < (23199744 : Int64) then (f_X6_globalOf_x89 a0 a1) else ((f_X6_globalOf_x89 a0 a1) - (7733248 : Int64))))) ((if a2 = 0 then (60 : Int64) else (59 : Int64)) * (131072 : Int64))).toInt32) (ty := .int) (C := RX6) (T := TX6) (N := 15) hx hb htg inX6 tyX6 tyX6_ok nmX6 hown hK hP hD hS 0 rfl rfl 13 (by decide) (htg _ fl_X6_243) (fun _ h9 => h9) rfl (by decide +kernel) rfl rfl (Nat.le_of_ble_eq_true rfl) dX6_globalOf_347 (fun H locs hP hD hS => ?_)
                      have hP : va_P D vwCl [(h0, .inr (4, [.ref h1, .ref h2, .int mn, .int lt, .ref h3, .int sz, .ref h4, .int hsz, .int hsy, .int hrt, .int hpl, .int ola, .int olo, .int (f_X6_down ((360000000 : Int64) * (if a2 = 0 then (if ((4 : Int64) * (f_X6_globalOf_x72 a0 a1)) < (23592960 : Int64) then (f_X6_globalOf_x72 a0 a1) else ((f_X6_globalOf_x72 a0 a1) - (7864320 : Int64))) else (if ((4 : Int64) * (f_X6_globalOf_x89 a0 a1)) < (23199744 : Int64) then (f_X6_globalOf_x89 a0 a1) else ((f_X6_globalOf_x89 a0 a1) - (7733248 : Int64))))) ((if a2 = 0 then (60 : Int64) else (59 : Int64)) * (131072 : Int64))).toInt32, .int lon])), (h1, .inl (cJ, 58, .inr (.inl bd))), (h2, .inl (cI, 800, .inl rw)), (h3, .inl (cI, 112, .inl bt)), (h4, .inl (cI, 112, .inl hd))] H := hP
                      have hD : va_D A [(h0, .inr (4, [.ref h1, .ref h2, .int mn, .int lt, .ref h3, .int sz, .ref h4, .int hsz, .int hsy, .int hrt, .int hpl, .int ola, .int olo, .int (f_X6_down ((360000000 : Int64) * (if a2 = 0 then (if ((4 : Int64) * (f_X6_globalOf_x72 a0 a1)) < (23592960 : Int64) then (f_X6_globalOf_x72 a0 a1) else ((f_X6_globalOf_x72 a0 a1) - (7864320 : Int64))) else (if ((4 : Int64) * (f_X6_globalOf_x89 a0 a1)) < (23199744 : Int64) then (f_X6_globalOf_x89 a0 a1) else ((f_X6_globalOf_x89 a0 a1) - (7733248 : Int64))))) ((if a2 = 0 then (60 : Int64) else (59 : Int64)) * (131072 : Int64))).toInt32, .int lon])), (h1, .inl (cJ, 58, .inr (.inl bd))), (h2, .inl (cI, 800, .inl rw)), (h3, .inl (cI, 112, .inl bt)), (h4, .inl (cI, 112, .inl hd))] := hD
                      refine lv_aload_n hx hb dX6_globalOf_350 rfl (lv_at hl 11 rfl) ?_
                      refine lv_ldc2 (v := 360000000) hx hb hown (htg _ ct_X6_212) dX6_globalOf_351 ?_
                      refine lv_lload hx hb dX6_globalOf_354 (lv_at hl 0 rfl) ?_
                      refine lv_lmul hx hb dX6_globalOf_356 ?_
                      refine lv_iload hx hb dX6_globalOf_357 (lv_at hl 2 rfl) ?_
                      refine lv_i2l (v := (f_X6_globalOf_x219 a2 bd a0 a1).toInt64) hx hb dX6_globalOf_359 rfl ?_
                      refine lv_ldc2 (v := 131072) hx hb hown (htg _ ct_X6_200) dX6_globalOf_360 ?_
                      refine lv_lmul hx hb dX6_globalOf_363 ?_
                      refine rS (As := [.long ((360000000 : Int64) * (if ((2 : Int64) * (f_X6_globalOf_x277 a0 bd a1 a2)) < ((f_X6_globalOf_x219 a2 bd a0 a1).toInt64 * (131072 : Int64)) then (f_X6_globalOf_x277 a0 bd a1 a2) else (f_X6_globalOf_x306 a0 bd a1 a2))), .long ((f_X6_globalOf_x219 a2 bd a0 a1).toInt64 * (131072 : Int64))]) (rest := [.ref h0]) hx hb hml hown htg (c_X6_down l ((360000000 : Int64) * (if ((2 : Int64) * (f_X6_globalOf_x277 a0 bd a1 a2)) < ((f_X6_globalOf_x219 a2 bd a0 a1).toInt64 * (131072 : Int64)) then (f_X6_globalOf_x277 a0 bd a1 a2) else (f_X6_globalOf_x306 a0 bd a1 a2))) ((f_X6_globalOf_x219 a2 bd a0 a1).toInt64 * (131072 : Int64)) (al1_ne2 _)) Blind.tt ml_X6_202 st_X6_down ini_X6 co_X6_down dn_X6_down rfl (fun _ _ _ => trivial) hl.1 rfl (Nat.le_of_ble_eq_true rfl) ⟨Nat.le_of_ble_eq_true rfl, Nat.le_of_ble_eq_true rfl⟩ ⟨Nat.le_of_ble_eq_true rfl, Nat.le_of_ble_eq_true rfl⟩ dX6_globalOf_364 ?_
                      refine lv_l2i (v := (f_X6_down ((360000000 : Int64) * (if ((2 : Int64) * (f_X6_globalOf_x277 a0 bd a1 a2)) < ((f_X6_globalOf_x219 a2 bd a0 a1).toInt64 * (131072 : Int64)) then (f_X6_globalOf_x277 a0 bd a1 a2) else (f_X6_globalOf_x306 a0 bd a1 a2))) ((f_X6_globalOf_x219 a2 bd a0 a1).toInt64 * (131072 : Int64))).toInt32) hx hb dX6_globalOf_367 rfl ?_
                      refine va_put (D := D) (ci := 4) (v := .int (f_X6_down ((360000000 : Int64) * (if ((2 : Int64) * (f_X6_globalOf_x277 a0 bd a1 a2)) < ((f_X6_globalOf_x219 a2 bd a0 a1).toInt64 * (131072 : Int64)) then (f_X6_globalOf_x277 a0 bd a1 a2) else (f_X6_globalOf_x306 a0 bd a1 a2))) ((f_X6_globalOf_x219 a2 bd a0 a1).toInt64 * (131072 : Int64))).toInt32) (ty := .int) (C := RX6) (T := TX6) (N := 15) hx hb htg inX6 tyX6 tyX6_ok nmX6 hown hK hP hD hS 0 rfl rfl 14 (by decide) (htg _ fl_X6_246) (fun _ h9 => h9) rfl (by decide +kernel) rfl rfl (Nat.le_of_ble_eq_true rfl) dX6_globalOf_368 (fun H locs hP hD hS => ?_)
                      have hP : va_P D vwCl [(h0, .inr (4, [.ref h1, .ref h2, .int mn, .int lt, .ref h3, .int sz, .ref h4, .int hsz, .int hsy, .int hrt, .int hpl, .int ola, .int olo, .int (f_X6_down ((360000000 : Int64) * (if a2 = 0 then (if ((4 : Int64) * (f_X6_globalOf_x72 a0 a1)) < (23592960 : Int64) then (f_X6_globalOf_x72 a0 a1) else ((f_X6_globalOf_x72 a0 a1) - (7864320 : Int64))) else (if ((4 : Int64) * (f_X6_globalOf_x89 a0 a1)) < (23199744 : Int64) then (f_X6_globalOf_x89 a0 a1) else ((f_X6_globalOf_x89 a0 a1) - (7733248 : Int64))))) ((if a2 = 0 then (60 : Int64) else (59 : Int64)) * (131072 : Int64))).toInt32, .int (f_X6_down ((360000000 : Int64) * (if ((2 : Int64) * (f_X6_globalOf_x277 a0 bd a1 a2)) < ((f_X6_globalOf_x219 a2 bd a0 a1).toInt64 * (131072 : Int64)) then (f_X6_globalOf_x277 a0 bd a1 a2) else (f_X6_globalOf_x306 a0 bd a1 a2))) ((f_X6_globalOf_x219 a2 bd a0 a1).toInt64 * (131072 : Int64))).toInt32])), (h1, .inl (cJ, 58, .inr (.inl bd))), (h2, .inl (cI, 800, .inl rw)), (h3, .inl (cI, 112, .inl bt)), (h4, .inl (cI, 112, .inl hd))] H := hP
                      have hD : va_D A [(h0, .inr (4, [.ref h1, .ref h2, .int mn, .int lt, .ref h3, .int sz, .ref h4, .int hsz, .int hsy, .int hrt, .int hpl, .int ola, .int olo, .int (f_X6_down ((360000000 : Int64) * (if a2 = 0 then (if ((4 : Int64) * (f_X6_globalOf_x72 a0 a1)) < (23592960 : Int64) then (f_X6_globalOf_x72 a0 a1) else ((f_X6_globalOf_x72 a0 a1) - (7864320 : Int64))) else (if ((4 : Int64) * (f_X6_globalOf_x89 a0 a1)) < (23199744 : Int64) then (f_X6_globalOf_x89 a0 a1) else ((f_X6_globalOf_x89 a0 a1) - (7733248 : Int64))))) ((if a2 = 0 then (60 : Int64) else (59 : Int64)) * (131072 : Int64))).toInt32, .int (f_X6_down ((360000000 : Int64) * (if ((2 : Int64) * (f_X6_globalOf_x277 a0 bd a1 a2)) < ((f_X6_globalOf_x219 a2 bd a0 a1).toInt64 * (131072 : Int64)) then (f_X6_globalOf_x277 a0 bd a1 a2) else (f_X6_globalOf_x306 a0 bd a1 a2))) ((f_X6_globalOf_x219 a2 bd a0 a1).toInt64 * (131072 : Int64))).toInt32])), (h1, .inl (cJ, 58, .inr (.inl bd))), (h2, .inl (cI, 800, .inl rw)), (h3, .inl (cI, 112, .inl bt)), (h4, .inl (cI, 112, .inl hd))] := hD
                      refine lv_iconst (v := 1) hx hb dX6_globalOf_371 (by decide) ?_
                      exact wr_z hx hb hr hlocks hA hS (hP.eq (by simp only [f_X6_globalOf_lat, f_X6_globalOf_lon, if_neg c_1, if_pos c_2, if_pos c_3])) (by decide) (by simp only [f_X6_globalOf, if_neg c_1, if_pos c_2, if_pos c_3]) dX6_globalOf_372
                    · refine lv_if_eq (tgt := 336) hx hb dX6_globalOf_327 (by decide) (fun c_4 => ?_) (fun c_4 => ?_)
                      · refine lv_ldc2 (v := 60) hx hb hown (htg _ ct_X6_227) dX6_globalOf_336 ?_
                        exact W.eq (by first | simp only [if_pos c_4] | rfl) (J ls (lv_sub hl [0, 1, 2, 3, 4, 5, 6, 7, 8, 9, 10, 11, 12, 13, 14] rfl))
                      · refine lv_ldc2 (v := 59) hx hb hown (htg _ ct_X6_225) dX6_globalOf_330 ?_
                        refine lv_goto (tgt := 339) hx hb dX6_globalOf_333 (by decide) ?_
                        exact W.eq (by first | simp only [if_neg c_4] | rfl) (J ls (lv_sub hl [0, 1, 2, 3, 4, 5, 6, 7, 8, 9, 10, 11, 12, 13, 14] rfl))
                  · refine lv_if_eq (tgt := 322) hx hb dX6_globalOf_314 (by decide) (fun c_5 => ?_) (fun c_5 => ?_)
                    · refine lv_lload hx hb dX6_globalOf_322 (lv_at hl 5 rfl) ?_
                      exact W.eq (by first | simp only [if_pos c_5] | rfl) (J ls (lv_sub hl [0, 1, 2, 3, 4, 5, 6, 7, 8, 9, 10, 11, 12, 13, 14] rfl))
                    · refine lv_lload hx hb dX6_globalOf_317 (lv_at hl 4 rfl) ?_
                      refine lv_goto (tgt := 324) hx hb dX6_globalOf_319 (by decide) ?_
                      exact W.eq (by first | simp only [if_neg c_5] | rfl) (J ls (lv_sub hl [0, 1, 2, 3, 4, 5, 6, 7, 8, 9, 10, 11, 12, 13, 14] rfl))
                · refine lc_lt (tgt := 308) hx hb dX6_globalOf_292 dX6_globalOf_293 (by decide) (fun c_6 => ?_) (fun c_6 => ?_)
                  · exact J ls (lv_eq (lv_sub (l' := [(24, .long (f_X6_globalOf_x277 a0 bd a1 a2)), (22, .long (f_X6_globalOf_x250 a0 bd a1)), (21, .int (f_X6_globalOf_x219 a2 bd a0 a1)), (20, .int (f_X6_globalOf_x180 bd a0 a1)), (18, .long (if ((4 : Int64) * (f_X6_globalOf_x89 a0 a1)) < (23199744 : Int64) then (f_X6_globalOf_x89 a0 a1) else ((f_X6_globalOf_x89 a0 a1) - (7733248 : Int64)))), (16, .long (if ((4 : Int64) * (f_X6_globalOf_x72 a0 a1)) < (23592960 : Int64) then (f_X6_globalOf_x72 a0 a1) else ((f_X6_globalOf_x72 a0 a1) - (7864320 : Int64)))), (14, .long (f_X6_globalOf_x55 a0 a1)), (12, .long (a1 - a1 / (131072 : Int64) * (131072 : Int64))), (10, .long (a0 - a0 / (131072 : Int64) * (131072 : Int64))), (8, .long (a1 / (131072 : Int64))), (6, .long (a0 / (131072 : Int64))), (0, .ref h0), (1, .long a0), (3, .long a1), (5, .int a2)]) hl [0, 1, 2, 3, 4, 5, 6, 7, 8, 9, 10, 11, 12, 13, 14] rfl) (by first | simp only [if_pos c_6] | rfl))
                  · refine lv_lload hx hb dX6_globalOf_296 (lv_at hl 0 rfl) ?_
                    refine lv_iload hx hb dX6_globalOf_298 (lv_at hl 2 rfl) ?_
                    refine lv_i2l (v := (f_X6_globalOf_x219 a2 bd a0 a1).toInt64) hx hb dX6_globalOf_300 rfl ?_
                    refine lv_ldc2 (v := 131072) hx hb hown (htg _ ct_X6_200) dX6_globalOf_301 ?_
                    refine lv_lmul hx hb dX6_globalOf_304 ?_
                    refine lv_lsub hx hb dX6_globalOf_305 ?_
                    refine lv_lstore (lv' := [(24, .long (f_X6_globalOf_x306 a0 bd a1 a2)), (22, .long (f_X6_globalOf_x250 a0 bd a1)), (21, .int (f_X6_globalOf_x219 a2 bd a0 a1)), (20, .int (f_X6_globalOf_x180 bd a0 a1)), (18, .long (if ((4 : Int64) * (f_X6_globalOf_x89 a0 a1)) < (23199744 : Int64) then (f_X6_globalOf_x89 a0 a1) else ((f_X6_globalOf_x89 a0 a1) - (7733248 : Int64)))), (16, .long (if ((4 : Int64) * (f_X6_globalOf_x72 a0 a1)) < (23592960 : Int64) then (f_X6_globalOf_x72 a0 a1) else ((f_X6_globalOf_x72 a0 a1) - (7864320 : Int64)))), (14, .long (f_X6_globalOf_x55 a0 a1)), (12, .long (a1 - a1 / (131072 : Int64) * (131072 : Int64))), (10, .long (a0 - a0 / (131072 : Int64) * (131072 : Int64))), (8, .long (a1 / (131072 : Int64))), (6, .long (a0 / (131072 : Int64))), (0, .ref h0), (1, .long a0), (3, .long a1), (5, .int a2)]) hx hb dX6_globalOf_306 hl (by decide) rfl (fun ls hl => ?_)
                    exact J ls (lv_eq (lv_sub (l' := [(24, .long (f_X6_globalOf_x306 a0 bd a1 a2)), (22, .long (f_X6_globalOf_x250 a0 bd a1)), (21, .int (f_X6_globalOf_x219 a2 bd a0 a1)), (20, .int (f_X6_globalOf_x180 bd a0 a1)), (18, .long (if ((4 : Int64) * (f_X6_globalOf_x89 a0 a1)) < (23199744 : Int64) then (f_X6_globalOf_x89 a0 a1) else ((f_X6_globalOf_x89 a0 a1) - (7733248 : Int64)))), (16, .long (if ((4 : Int64) * (f_X6_globalOf_x72 a0 a1)) < (23592960 : Int64) then (f_X6_globalOf_x72 a0 a1) else ((f_X6_globalOf_x72 a0 a1) - (7864320 : Int64)))), (14, .long (f_X6_globalOf_x55 a0 a1)), (12, .long (a1 - a1 / (131072 : Int64) * (131072 : Int64))), (10, .long (a0 - a0 / (131072 : Int64) * (131072 : Int64))), (8, .long (a1 / (131072 : Int64))), (6, .long (a0 / (131072 : Int64))), (0, .ref h0), (1, .long a0), (3, .long a1), (5, .int a2)]) hl [0, 1, 2, 3, 4, 5, 6, 7, 8, 9, 10, 11, 12, 13, 14] rfl) (by first | simp only [if_neg c_6] | rfl))
              · refine lv_if_eq (tgt := 274) hx hb dX6_globalOf_266 (by decide) (fun c_7 => ?_) (fun c_7 => ?_)
                · refine lv_lload hx hb dX6_globalOf_274 (lv_at hl 7 rfl) ?_
                  exact W.eq (by first | simp only [if_pos c_7] | rfl) (J ls (lv_sub hl [0, 1, 2, 3, 4, 5, 6, 7, 8, 9, 10, 11, 12, 13] rfl))
                · refine lv_lload hx hb dX6_globalOf_269 (lv_at hl 6 rfl) ?_
                  refine lv_goto (tgt := 276) hx hb dX6_globalOf_271 (by decide) ?_
                  exact W.eq (by first | simp only [if_neg c_7] | rfl) (J ls (lv_sub hl [0, 1, 2, 3, 4, 5, 6, 7, 8, 9, 10, 11, 12, 13] rfl))
            · refine lv_if_eq (tgt := 214) hx hb dX6_globalOf_204 (by decide) (fun c_8 => ?_) (fun c_8 => ?_)
              · refine lv_iload hx hb dX6_globalOf_214 (lv_at hl 0 rfl) ?_
                exact W.eq (by first | simp only [if_pos c_8] | rfl) (J ls (lv_sub hl [0, 1, 2, 3, 4, 5, 6, 7, 8, 9, 10, 11] rfl))
              · refine lv_iload hx hb dX6_globalOf_207 (lv_at hl 0 rfl) ?_
                refine lv_iconst (v := 1) hx hb dX6_globalOf_209 (by decide) ?_
                refine lv_isub hx hb dX6_globalOf_210 ?_
                refine lv_goto (tgt := 216) hx hb dX6_globalOf_211 (by decide) ?_
                exact W.eq (by first | simp only [if_neg c_8] | rfl) (J ls (lv_sub hl [0, 1, 2, 3, 4, 5, 6, 7, 8, 9, 10, 11] rfl))
          · refine lv_iconst (v := 0) hx hb dX6_globalOf_200 (by decide) ?_
            exact wr_z hx hb hr hlocks hA hS (hP.eq (by simp only [f_X6_globalOf_lat, f_X6_globalOf_lon, if_neg c_1, if_pos c_2, if_neg c_3])) (by decide) (by simp only [f_X6_globalOf, if_neg c_1, if_pos c_2, if_neg c_3]) dX6_globalOf_201
        · refine lv_iconst (v := 0) hx hb dX6_globalOf_165 (by decide) ?_
          exact wr_z hx hb hr hlocks hA hS (hP.eq (by simp only [f_X6_globalOf_lat, f_X6_globalOf_lon, if_neg c_1, if_neg c_2])) (by decide) (by simp only [f_X6_globalOf, if_neg c_1, if_neg c_2]) dX6_globalOf_166
    · refine lc_lt (tgt := 133) hx hb dX6_globalOf_121 dX6_globalOf_122 (by decide) (fun c_9 => ?_) (fun c_9 => ?_)
      · exact J ls (lv_eq (lv_sub (l' := [(18, .long (f_X6_globalOf_x89 a0 a1)), (16, .long (if ((4 : Int64) * (f_X6_globalOf_x72 a0 a1)) < (23592960 : Int64) then (f_X6_globalOf_x72 a0 a1) else ((f_X6_globalOf_x72 a0 a1) - (7864320 : Int64)))), (14, .long (f_X6_globalOf_x55 a0 a1)), (12, .long (a1 - a1 / (131072 : Int64) * (131072 : Int64))), (10, .long (a0 - a0 / (131072 : Int64) * (131072 : Int64))), (8, .long (a1 / (131072 : Int64))), (6, .long (a0 / (131072 : Int64))), (0, .ref h0), (1, .long a0), (3, .long a1), (5, .int a2)]) hl [0, 1, 2, 3, 4, 5, 6, 7, 8, 9, 10] rfl) (by first | simp only [if_pos c_9] | rfl))
      · refine lv_lload hx hb dX6_globalOf_125 (lv_at hl 0 rfl) ?_
        refine lv_ldc2 (v := 7733248) hx hb hown (htg _ ct_X6_239) dX6_globalOf_127 ?_
        refine lv_lsub hx hb dX6_globalOf_130 ?_
        refine lv_lstore (lv' := [(18, .long ((f_X6_globalOf_x89 a0 a1) - (7733248 : Int64))), (16, .long (if ((4 : Int64) * (f_X6_globalOf_x72 a0 a1)) < (23592960 : Int64) then (f_X6_globalOf_x72 a0 a1) else ((f_X6_globalOf_x72 a0 a1) - (7864320 : Int64)))), (14, .long (f_X6_globalOf_x55 a0 a1)), (12, .long (a1 - a1 / (131072 : Int64) * (131072 : Int64))), (10, .long (a0 - a0 / (131072 : Int64) * (131072 : Int64))), (8, .long (a1 / (131072 : Int64))), (6, .long (a0 / (131072 : Int64))), (0, .ref h0), (1, .long a0), (3, .long a1), (5, .int a2)]) hx hb dX6_globalOf_131 hl (by decide) rfl (fun ls hl => ?_)
        exact J ls (lv_eq (lv_sub (l' := [(18, .long ((f_X6_globalOf_x89 a0 a1) - (7733248 : Int64))), (16, .long (if ((4 : Int64) * (f_X6_globalOf_x72 a0 a1)) < (23592960 : Int64) then (f_X6_globalOf_x72 a0 a1) else ((f_X6_globalOf_x72 a0 a1) - (7864320 : Int64)))), (14, .long (f_X6_globalOf_x55 a0 a1)), (12, .long (a1 - a1 / (131072 : Int64) * (131072 : Int64))), (10, .long (a0 - a0 / (131072 : Int64) * (131072 : Int64))), (8, .long (a1 / (131072 : Int64))), (6, .long (a0 / (131072 : Int64))), (0, .ref h0), (1, .long a0), (3, .long a1), (5, .int a2)]) hl [0, 1, 2, 3, 4, 5, 6, 7, 8, 9, 10] rfl) (by first | simp only [if_neg c_9] | rfl))
  · refine lc_lt (tgt := 112) hx hb dX6_globalOf_100 dX6_globalOf_101 (by decide) (fun c_10 => ?_) (fun c_10 => ?_)
    · exact J ls (lv_eq (lv_sub (l' := [(18, .long (f_X6_globalOf_x89 a0 a1)), (16, .long (f_X6_globalOf_x72 a0 a1)), (14, .long (f_X6_globalOf_x55 a0 a1)), (12, .long (a1 - a1 / (131072 : Int64) * (131072 : Int64))), (10, .long (a0 - a0 / (131072 : Int64) * (131072 : Int64))), (8, .long (a1 / (131072 : Int64))), (6, .long (a0 / (131072 : Int64))), (0, .ref h0), (1, .long a0), (3, .long a1), (5, .int a2)]) hl [0, 1, 2, 3, 4, 5, 6, 7, 8, 9, 10] rfl) (by first | simp only [if_pos c_10] | rfl))
    · refine lv_lload hx hb dX6_globalOf_104 (lv_at hl 1 rfl) ?_
      refine lv_ldc2 (v := 7864320) hx hb hown (htg _ ct_X6_235) dX6_globalOf_106 ?_
      refine lv_lsub hx hb dX6_globalOf_109 ?_
      refine lv_lstore (lv' := [(16, .long ((f_X6_globalOf_x72 a0 a1) - (7864320 : Int64))), (18, .long (f_X6_globalOf_x89 a0 a1)), (14, .long (f_X6_globalOf_x55 a0 a1)), (12, .long (a1 - a1 / (131072 : Int64) * (131072 : Int64))), (10, .long (a0 - a0 / (131072 : Int64) * (131072 : Int64))), (8, .long (a1 / (131072 : Int64))), (6, .long (a0 / (131072 : Int64))), (0, .ref h0), (1, .long a0), (3, .long a1), (5, .int a2)]) hx hb dX6_globalOf_110 hl (by decide) rfl (fun ls hl => ?_)
      exact J ls (lv_eq (lv_sub (l' := [(18, .long (f_X6_globalOf_x89 a0 a1)), (16, .long ((f_X6_globalOf_x72 a0 a1) - (7864320 : Int64))), (14, .long (f_X6_globalOf_x55 a0 a1)), (12, .long (a1 - a1 / (131072 : Int64) * (131072 : Int64))), (10, .long (a0 - a0 / (131072 : Int64) * (131072 : Int64))), (8, .long (a1 / (131072 : Int64))), (6, .long (a0 / (131072 : Int64))), (0, .ref h0), (1, .long a0), (3, .long a1), (5, .int a2)]) hl [1, 0, 2, 3, 4, 5, 6, 7, 8, 9, 10] rfl) (by first | simp only [if_neg c_10] | rfl))

def f_X6_global (bd : Nat → Int64) (lat : Int32) (lon : Int32) (a0 : Int64) (a1 : Int64) (a2 : Int32) : Int64 := (if (f_X6_isTold a0) = 0 then (-9223372036854775808 : Int64) else (if (f_X6_isTold a1) = 0 then (-9223372036854775808 : Int64) else (if (f_X6_globalOf bd lat lon a0 a1 a2) = 0 then (-9223372036854775808 : Int64) else (f_X6_both (f_X6_globalOf_lat bd lat lon a0 a1 a2) (f_X6_globalOf_lon bd lat lon a0 a1 a2)))))
def f_X6_global_lat (bd : Nat → Int64) (lat : Int32) (lon : Int32) (a0 : Int64) (a1 : Int64) (a2 : Int32) : Int32 := (if (f_X6_isTold a0) = 0 then lat else (if (f_X6_isTold a1) = 0 then lat else (f_X6_globalOf_lat bd lat lon a0 a1 a2)))
def f_X6_global_lon (bd : Nat → Int64) (lat : Int32) (lon : Int32) (a0 : Int64) (a1 : Int64) (a2 : Int32) : Int32 := (if (f_X6_isTold a0) = 0 then lon else (if (f_X6_isTold a1) = 0 then lon else (f_X6_globalOf_lon bd lat lon a0 a1 a2)))
set_option maxHeartbeats 4000000 in
set_option maxRecDepth 100000 in
theorem c_X6_global (l : Launch) (D : va_G) (cI cJ cO : ClassId) (h0 : Nat) (h1 : Nat) (h2 : Nat) (mn : Int32) (lt : Int32) (h3 : Nat) (sz : Int32) (h4 : Nat) (hsz : Int32) (hsy : Int32) (hrt : Int32) (hpl : Int32) (ola : Int32) (olo : Int32) (lat : Int32) (lon : Int32) (bd : Nat → Int64) (rw : Nat → Int32) (bt : Nat → Int32) (hd : Nat → Int32) (a0 : Int64) (a1 : Int64) (a2 : Int32) : Wr l yX6_global cX6_global 6 (some .long) 3 95 [.ref h0, .long a0, .long a1, .int a2] (fun U => B1 D cI cJ cO [(h0, .inr (4, [.ref h1, .ref h2, .int mn, .int lt, .ref h3, .int sz, .ref h4, .int hsz, .int hsy, .int hrt, .int hpl, .int ola, .int olo, .int lat, .int lon])), (h1, .inl (cJ, 58, .inr (.inl bd))), (h2, .inl (cI, 800, .inl rw)), (h3, .inl (cI, 112, .inl bt)), (h4, .inl (cI, 112, .inl hd))] U ∧ True) D (some (.long (f_X6_global bd lat lon a0 a1 a2))) [(h0, .inr (4, [.ref h1, .ref h2, .int mn, .int lt, .ref h3, .int sz, .ref h4, .int hsz, .int hsy, .int hrt, .int hpl, .int ola, .int olo, .int lat, .int lon])), (h1, .inl (cJ, 58, .inr (.inl bd))), (h2, .inl (cI, 800, .inl rw)), (h3, .inl (cI, 112, .inl bt)), (h4, .inl (cI, 112, .inl hd))] [(h0, .inr (4, [.ref h1, .ref h2, .int mn, .int lt, .ref h3, .int sz, .ref h4, .int hsz, .int hsy, .int hrt, .int hpl, .int ola, .int olo, .int (f_X6_global_lat bd lat lon a0 a1 a2), .int (f_X6_global_lon bd lat lon a0 a1 a2)])), (h1, .inl (cJ, 58, .inr (.inl bd))), (h2, .inl (cI, 800, .inl rw)), (h3, .inl (cI, 112, .inl bt)), (h4, .inl (cI, 112, .inl hd))] := by
  refine Wr.of (by decide +kernel) (Nat.le_of_ble_eq_true rfl) ?_
  intro p e s m args below meth c hx hb hr hml hown htg hlocks A hA hP hK hD hX hS ls hl
  have hown : s.vm.findClass RX6 = some m.cls := hown
  have hl : lv_has ls 6 [(0, .ref h0), (1, .long a0), (3, .long a1), (5, .int a2)] := hl
  refine lv_aload_n hx hb dX6_global_0 rfl (lv_at hl 0 rfl) ?_
  refine lv_lload_n hx hb dX6_global_1 rfl (lv_at hl 1 rfl) ?_
  refine rV (As := [.long a0]) (rest := []) hx hb hml hown htg (c_X6_isTold l h0 a0) Blind.tt ml_X6_249 im_X6_isTold se_X6_isTold ini_X6 co_X6_isTold rfl dn_X6_isTold rfl (va_recv hK hP (ci := 4) (q0 := 0) rfl rfl) (fun _ _ _ => trivial) hl.1 rfl (Nat.le_of_ble_eq_true rfl) ⟨Nat.le_of_ble_eq_true rfl, Nat.le_of_ble_eq_true rfl⟩ ⟨Nat.le_of_ble_eq_true rfl, Nat.le_of_ble_eq_true rfl⟩ dX6_global_2 ?_
  refine lv_if_eq (tgt := 27) hx hb dX6_global_5 (by decide) (fun c_1 => ?_) (fun c_1 => ?_)
  · refine lv_ldc2 (v := (-9223372036854775808)) hx hb hown (htg _ ct_X6_257) dX6_global_27 ?_
    exact wr_l hx hb hr hlocks hA hS (hP.eq (by simp only [f_X6_global_lat, f_X6_global_lon, if_pos c_1])) (by simp only [f_X6_global, if_pos c_1]) dX6_global_30
  · refine lv_aload_n hx hb dX6_global_8 rfl (lv_at hl 0 rfl) ?_
    refine lv_lload_n hx hb dX6_global_9 rfl (lv_at hl 2 rfl) ?_
    refine rV (As := [.long a1]) (rest := []) hx hb hml hown htg (c_X6_isTold l h0 a1) Blind.tt ml_X6_249 im_X6_isTold se_X6_isTold ini_X6 co_X6_isTold rfl dn_X6_isTold rfl (va_recv hK hP (ci := 4) (q0 := 0) rfl rfl) (fun _ _ _ => trivial) hl.1 rfl (Nat.le_of_ble_eq_true rfl) ⟨Nat.le_of_ble_eq_true rfl, Nat.le_of_ble_eq_true rfl⟩ ⟨Nat.le_of_ble_eq_true rfl, Nat.le_of_ble_eq_true rfl⟩ dX6_global_10 ?_
    refine lv_if_eq (tgt := 27) hx hb dX6_global_13 (by decide) (fun c_2 => ?_) (fun c_2 => ?_)
    · refine lv_ldc2 (v := (-9223372036854775808)) hx hb hown (htg _ ct_X6_257) dX6_global_27 ?_
      exact wr_l hx hb hr hlocks hA hS (hP.eq (by simp only [f_X6_global_lat, f_X6_global_lon, if_neg c_1, if_pos c_2])) (by simp only [f_X6_global, if_neg c_1, if_pos c_2]) dX6_global_30
    · refine lv_aload_n hx hb dX6_global_16 rfl (lv_at hl 0 rfl) ?_
      refine lv_lload_n hx hb dX6_global_17 rfl (lv_at hl 1 rfl) ?_
      refine lv_lload_n hx hb dX6_global_18 rfl (lv_at hl 2 rfl) ?_
      refine lv_iload hx hb dX6_global_19 (lv_at hl 3 rfl) ?_
      refine wV (As := [.long a0, .long a1, .int a2]) (rest := []) hx hb hml hown htg (c_X6_globalOf l D cI cJ cO h0 h1 h2 mn lt h3 sz h4 hsz hsy hrt hpl ola olo lat lon bd rw bt hd a0 a1 a2) (Blind.and Blind.b1 Blind.tt) ml_X6_253 im_X6_globalOf se_X6_globalOf ini_X6 co_X6_globalOf rfl dn_X6_globalOf rfl (va_recv hK hP (ci := 4) (q0 := 0) rfl rfl) (fun U hU hW => ⟨⟨by rw [hU]; exact hP, va_K.moved hW.alike hK, (hD).weaken (fun _ _ _ _ => trivial)⟩, trivial⟩) hl.1 rfl (Nat.le_of_ble_eq_true rfl) ⟨Nat.le_of_ble_eq_true rfl, Nat.le_of_ble_eq_true rfl⟩ ⟨Nat.le_of_ble_eq_true rfl, Nat.le_of_ble_eq_true rfl⟩ dX6_global_21 hP hD hS [0, 1, 2, 3, 4] rfl (Eq.trans (b := [h0, h1, h2, h3, h4]) rfl rfl) (fun H locs hP hD hS => ?_)
      have hP : va_P D vwCl [(h0, .inr (4, [.ref h1, .ref h2, .int mn, .int lt, .ref h3, .int sz, .ref h4, .int hsz, .int hsy, .int hrt, .int hpl, .int ola, .int olo, .int (f_X6_globalOf_lat bd lat lon a0 a1 a2), .int (f_X6_globalOf_lon bd lat lon a0 a1 a2)])), (h1, .inl (cJ, 58, .inr (.inl bd))), (h2, .inl (cI, 800, .inl rw)), (h3, .inl (cI, 112, .inl bt)), (h4, .inl (cI, 112, .inl hd))] H := hP
      have hD : va_D A [(h0, .inr (4, [.ref h1, .ref h2, .int mn, .int lt, .ref h3, .int sz, .ref h4, .int hsz, .int hsy, .int hrt, .int hpl, .int ola, .int olo, .int (f_X6_globalOf_lat bd lat lon a0 a1 a2), .int (f_X6_globalOf_lon bd lat lon a0 a1 a2)])), (h1, .inl (cJ, 58, .inr (.inl bd))), (h2, .inl (cI, 800, .inl rw)), (h3, .inl (cI, 112, .inl bt)), (h4, .inl (cI, 112, .inl hd))] := hD
      refine W.eq (g2 := F0 m 24 ls [.int (f_X6_globalOf bd lat lon a0 a1 a2)]) rfl ?_
      refine lv_if_ne (tgt := 31) hx hb dX6_global_24 (by decide) (fun c_3 => ?_) (fun c_3 => ?_)
      · refine lv_aload_n hx hb dX6_global_31 rfl (lv_at hl 0 rfl) ?_
        refine va_get (D := D) (ci := 4) (v := .int (f_X6_globalOf_lat bd lat lon a0 a1 a2)) (C := RX6) (T := TX6) (N := 15) hx hb htg inX6 hown hK hP 0 rfl rfl 13 (by decide) (htg _ fl_X6_243) (fun _ h9 => h9) rfl dX6_global_32 ?_
        refine lv_aload_n hx hb dX6_global_35 rfl (lv_at hl 0 rfl) ?_
        refine va_get (D := D) (ci := 4) (v := .int (f_X6_globalOf_lon bd lat lon a0 a1 a2)) (C := RX6) (T := TX6) (N := 15) hx hb htg inX6 hown hK hP 0 rfl rfl 14 (by decide) (htg _ fl_X6_246) (fun _ h9 => h9) rfl dX6_global_36 ?_
        refine rS (As := [.int (f_X6_globalOf_lat bd lat lon a0 a1 a2), .int (f_X6_globalOf_lon bd lat lon a0 a1 a2)]) (rest := []) hx hb hml hown htg (c_X6_both l (f_X6_globalOf_lat bd lat lon a0 a1 a2) (f_X6_globalOf_lon bd lat lon a0 a1 a2)) Blind.tt ml_X6_259 st_X6_both ini_X6 co_X6_both dn_X6_both rfl (fun _ _ _ => trivial) hl.1 rfl (Nat.le_of_ble_eq_true rfl) ⟨Nat.le_of_ble_eq_true rfl, Nat.le_of_ble_eq_true rfl⟩ ⟨Nat.le_of_ble_eq_true rfl, Nat.le_of_ble_eq_true rfl⟩ dX6_global_39 ?_
        exact wr_l hx hb hr hlocks hA hS (hP.eq (by simp only [f_X6_global_lat, f_X6_global_lon, if_neg c_1, if_neg c_2, if_neg c_3])) (by simp only [f_X6_global, if_neg c_1, if_neg c_2, if_neg c_3]) dX6_global_42
      · refine lv_ldc2 (v := (-9223372036854775808)) hx hb hown (htg _ ct_X6_257) dX6_global_27 ?_
        exact wr_l hx hb hr hlocks hA hS (hP.eq (by simp only [f_X6_global_lat, f_X6_global_lon, if_neg c_1, if_neg c_2, if_pos c_3])) (by simp only [f_X6_global, if_neg c_1, if_neg c_2, if_pos c_3]) dX6_global_30

def f_X6_place (hpl : Int32) (ola : Int32) (olo : Int32) (a0 : Int32) (a1 : Int32) : Int32 := (if (f_X6_isLatitude a0) = 0 then (0 : Int32) else (if (f_X6_isLongitude a1) = 0 then (0 : Int32) else (1 : Int32)))
def f_X6_place_hpl (hpl : Int32) (ola : Int32) (olo : Int32) (a0 : Int32) (a1 : Int32) : Int32 := (if (f_X6_isLatitude a0) = 0 then hpl else (if (f_X6_isLongitude a1) = 0 then hpl else (1 : Int32)))
def f_X6_place_ola (hpl : Int32) (ola : Int32) (olo : Int32) (a0 : Int32) (a1 : Int32) : Int32 := (if (f_X6_isLatitude a0) = 0 then ola else (if (f_X6_isLongitude a1) = 0 then ola else a0))
def f_X6_place_olo (hpl : Int32) (ola : Int32) (olo : Int32) (a0 : Int32) (a1 : Int32) : Int32 := (if (f_X6_isLatitude a0) = 0 then olo else (if (f_X6_isLongitude a1) = 0 then olo else a1))
set_option maxHeartbeats 4000000 in
set_option maxRecDepth 100000 in
theorem c_X6_place (l : Launch) (D : va_G) (cI cJ cO : ClassId) (h0 : Nat) (h1 : Nat) (h2 : Nat) (mn : Int32) (lt : Int32) (h3 : Nat) (sz : Int32) (h4 : Nat) (hsz : Int32) (hsy : Int32) (hrt : Int32) (hpl : Int32) (ola : Int32) (olo : Int32) (lat : Int32) (lon : Int32) (bd : Nat → Int64) (rw : Nat → Int32) (bt : Nat → Int32) (hd : Nat → Int32) (a0 : Int32) (a1 : Int32) : Wr l yX6_place cX6_place 3 (some .boolean) 1 20 [.ref h0, .int a0, .int a1] (fun U => B1 D cI cJ cO [(h0, .inr (4, [.ref h1, .ref h2, .int mn, .int lt, .ref h3, .int sz, .ref h4, .int hsz, .int hsy, .int hrt, .int hpl, .int ola, .int olo, .int lat, .int lon])), (h1, .inl (cJ, 58, .inr (.inl bd))), (h2, .inl (cI, 800, .inl rw)), (h3, .inl (cI, 112, .inl bt)), (h4, .inl (cI, 112, .inl hd))] U ∧ True) D (some (.int (f_X6_place hpl ola olo a0 a1))) [(h0, .inr (4, [.ref h1, .ref h2, .int mn, .int lt, .ref h3, .int sz, .ref h4, .int hsz, .int hsy, .int hrt, .int hpl, .int ola, .int olo, .int lat, .int lon])), (h1, .inl (cJ, 58, .inr (.inl bd))), (h2, .inl (cI, 800, .inl rw)), (h3, .inl (cI, 112, .inl bt)), (h4, .inl (cI, 112, .inl hd))] [(h0, .inr (4, [.ref h1, .ref h2, .int mn, .int lt, .ref h3, .int sz, .ref h4, .int hsz, .int hsy, .int hrt, .int (f_X6_place_hpl hpl ola olo a0 a1), .int (f_X6_place_ola hpl ola olo a0 a1), .int (f_X6_place_olo hpl ola olo a0 a1), .int lat, .int lon])), (h1, .inl (cJ, 58, .inr (.inl bd))), (h2, .inl (cI, 800, .inl rw)), (h3, .inl (cI, 112, .inl bt)), (h4, .inl (cI, 112, .inl hd))] := by
  refine Wr.of (by decide +kernel) (Nat.le_of_ble_eq_true rfl) ?_
  intro p e s m args below meth c hx hb hr hml hown htg hlocks A hA hP hK hD hX hS ls hl
  have hown : s.vm.findClass RX6 = some m.cls := hown
  have hl : lv_has ls 3 [(0, .ref h0), (1, .int a0), (2, .int a1)] := hl
  refine lv_iload_n hx hb dX6_place_0 rfl (lv_at hl 1 rfl) ?_
  refine rS (As := [.int a0]) (rest := []) hx hb hml hown htg (c_X6_isLatitude l a0) Blind.tt ml_X6_188 st_X6_isLatitude ini_X6 co_X6_isLatitude dn_X6_isLatitude rfl (fun _ _ _ => trivial) hl.1 rfl (Nat.le_of_ble_eq_true rfl) ⟨Nat.le_of_ble_eq_true rfl, Nat.le_of_ble_eq_true rfl⟩ ⟨Nat.le_of_ble_eq_true rfl, Nat.le_of_ble_eq_true rfl⟩ dX6_place_1 ?_
  refine lv_if_eq (tgt := 14) hx hb dX6_place_4 (by decide) (fun c_1 => ?_) (fun c_1 => ?_)
  · refine lv_iconst (v := 0) hx hb dX6_place_14 (by decide) ?_
    exact wr_z hx hb hr hlocks hA hS (hP.eq (by simp only [f_X6_place_hpl, f_X6_place_ola, f_X6_place_olo, if_pos c_1])) (by decide) (by simp only [f_X6_place, if_pos c_1]) dX6_place_15
  · refine lv_iload_n hx hb dX6_place_7 rfl (lv_at hl 2 rfl) ?_
    refine rS (As := [.int a1]) (rest := []) hx hb hml hown htg (c_X6_isLongitude l a1) Blind.tt ml_X6_205 st_X6_isLongitude ini_X6 co_X6_isLongitude dn_X6_isLongitude rfl (fun _ _ _ => trivial) hl.1 rfl (Nat.le_of_ble_eq_true rfl) ⟨Nat.le_of_ble_eq_true rfl, Nat.le_of_ble_eq_true rfl⟩ ⟨Nat.le_of_ble_eq_true rfl, Nat.le_of_ble_eq_true rfl⟩ dX6_place_8 ?_
    refine lv_if_ne (tgt := 16) hx hb dX6_place_11 (by decide) (fun c_2 => ?_) (fun c_2 => ?_)
    · refine lv_aload_n hx hb dX6_place_16 rfl (lv_at hl 0 rfl) ?_
      refine lv_iconst (v := 1) hx hb dX6_place_17 (by decide) ?_
      refine va_put (D := D) (ci := 4) (v := .int (1 : Int32)) (ty := .boolean) (C := RX6) (T := TX6) (N := 15) hx hb htg inX6 tyX6 tyX6_ok nmX6 hown hK hP hD hS 0 rfl rfl 10 (by decide) (htg _ fl_X6_271) (fun _ h9 => h9) rfl (by decide +kernel) rfl rfl (Nat.le_of_ble_eq_true rfl) dX6_place_18 (fun H locs hP hD hS => ?_)
      have hP : va_P D vwCl [(h0, .inr (4, [.ref h1, .ref h2, .int mn, .int lt, .ref h3, .int sz, .ref h4, .int hsz, .int hsy, .int hrt, .int (1 : Int32), .int ola, .int olo, .int lat, .int lon])), (h1, .inl (cJ, 58, .inr (.inl bd))), (h2, .inl (cI, 800, .inl rw)), (h3, .inl (cI, 112, .inl bt)), (h4, .inl (cI, 112, .inl hd))] H := hP
      have hD : va_D A [(h0, .inr (4, [.ref h1, .ref h2, .int mn, .int lt, .ref h3, .int sz, .ref h4, .int hsz, .int hsy, .int hrt, .int (1 : Int32), .int ola, .int olo, .int lat, .int lon])), (h1, .inl (cJ, 58, .inr (.inl bd))), (h2, .inl (cI, 800, .inl rw)), (h3, .inl (cI, 112, .inl bt)), (h4, .inl (cI, 112, .inl hd))] := hD
      refine lv_aload_n hx hb dX6_place_21 rfl (lv_at hl 0 rfl) ?_
      refine lv_iload_n hx hb dX6_place_22 rfl (lv_at hl 1 rfl) ?_
      refine va_put (D := D) (ci := 4) (v := .int a0) (ty := .int) (C := RX6) (T := TX6) (N := 15) hx hb htg inX6 tyX6 tyX6_ok nmX6 hown hK hP hD hS 0 rfl rfl 11 (by decide) (htg _ fl_X6_275) (fun _ h9 => h9) rfl (by decide +kernel) rfl rfl (Nat.le_of_ble_eq_true rfl) dX6_place_23 (fun H locs hP hD hS => ?_)
      have hP : va_P D vwCl [(h0, .inr (4, [.ref h1, .ref h2, .int mn, .int lt, .ref h3, .int sz, .ref h4, .int hsz, .int hsy, .int hrt, .int (1 : Int32), .int a0, .int olo, .int lat, .int lon])), (h1, .inl (cJ, 58, .inr (.inl bd))), (h2, .inl (cI, 800, .inl rw)), (h3, .inl (cI, 112, .inl bt)), (h4, .inl (cI, 112, .inl hd))] H := hP
      have hD : va_D A [(h0, .inr (4, [.ref h1, .ref h2, .int mn, .int lt, .ref h3, .int sz, .ref h4, .int hsz, .int hsy, .int hrt, .int (1 : Int32), .int a0, .int olo, .int lat, .int lon])), (h1, .inl (cJ, 58, .inr (.inl bd))), (h2, .inl (cI, 800, .inl rw)), (h3, .inl (cI, 112, .inl bt)), (h4, .inl (cI, 112, .inl hd))] := hD
      refine lv_aload_n hx hb dX6_place_26 rfl (lv_at hl 0 rfl) ?_
      refine lv_iload_n hx hb dX6_place_27 rfl (lv_at hl 2 rfl) ?_
      refine va_put (D := D) (ci := 4) (v := .int a1) (ty := .int) (C := RX6) (T := TX6) (N := 15) hx hb htg inX6 tyX6 tyX6_ok nmX6 hown hK hP hD hS 0 rfl rfl 12 (by decide) (htg _ fl_X6_278) (fun _ h9 => h9) rfl (by decide +kernel) rfl rfl (Nat.le_of_ble_eq_true rfl) dX6_place_28 (fun H locs hP hD hS => ?_)
      have hP : va_P D vwCl [(h0, .inr (4, [.ref h1, .ref h2, .int mn, .int lt, .ref h3, .int sz, .ref h4, .int hsz, .int hsy, .int hrt, .int (1 : Int32), .int a0, .int a1, .int lat, .int lon])), (h1, .inl (cJ, 58, .inr (.inl bd))), (h2, .inl (cI, 800, .inl rw)), (h3, .inl (cI, 112, .inl bt)), (h4, .inl (cI, 112, .inl hd))] H := hP
      have hD : va_D A [(h0, .inr (4, [.ref h1, .ref h2, .int mn, .int lt, .ref h3, .int sz, .ref h4, .int hsz, .int hsy, .int hrt, .int (1 : Int32), .int a0, .int a1, .int lat, .int lon])), (h1, .inl (cJ, 58, .inr (.inl bd))), (h2, .inl (cI, 800, .inl rw)), (h3, .inl (cI, 112, .inl bt)), (h4, .inl (cI, 112, .inl hd))] := hD
      refine lv_iconst (v := 1) hx hb dX6_place_31 (by decide) ?_
      exact wr_z hx hb hr hlocks hA hS (hP.eq (by simp only [f_X6_place_hpl, f_X6_place_ola, f_X6_place_olo, if_neg c_1, if_neg c_2])) (by decide) (by simp only [f_X6_place, if_neg c_1, if_neg c_2]) dX6_place_32
    · refine lv_iconst (v := 0) hx hb dX6_place_14 (by decide) ?_
      exact wr_z hx hb hr hlocks hA hS (hP.eq (by simp only [f_X6_place_hpl, f_X6_place_ola, f_X6_place_olo, if_neg c_1, if_pos c_2])) (by decide) (by simp only [f_X6_place, if_neg c_1, if_pos c_2]) dX6_place_15

def f_X6_find_lp (rw : Nat → Int32) (a0 : Int32) : Nat → (Int32) → (Int32) → Int32
  | 0, i, v => v
  | n + 1, i, v => (f_X6_find_lp rw a0 n (i + (1 : Int32)) (if (rw (f_X6_at i (0 : Int32)).toNatClampNeg) = a0 then i else v))
def f_X6_find (mn : Int32) (rw : Nat → Int32) (a0 : Int32) : Int32 := (f_X6_find_lp rw a0 mn.toNatClampNeg (0 : Int32) (-1 : Int32))
set_option maxHeartbeats 4000000 in
set_option maxRecDepth 100000 in
theorem c_X6_find (l : Launch) (D : va_G) (cI cJ cO : ClassId) (h0 : Nat) (h1 : Nat) (h2 : Nat) (mn : Int32) (lt : Int32) (h3 : Nat) (sz : Int32) (h4 : Nat) (hsz : Int32) (hsy : Int32) (hrt : Int32) (hpl : Int32) (ola : Int32) (olo : Int32) (lat : Int32) (lon : Int32) (bd : Nat → Int64) (rw : Nat → Int32) (bt : Nat → Int32) (hd : Nat → Int32) (a0 : Int32) (hm : 0 ≤ mn.toInt ∧ mn.toInt ≤ 20) : Rd l yX6_find cX6_find 4 (some .int) 1 22 [.ref h0, .int a0] (fun U => B0 D cI cJ cO [(h0, .inr (4, [.ref h1, .ref h2, .int mn, .int lt, .ref h3, .int sz, .ref h4, .int hsz, .int hsy, .int hrt, .int hpl, .int ola, .int olo, .int lat, .int lon])), (h1, .inl (cJ, 58, .inr (.inl bd))), (h2, .inl (cI, 800, .inl rw)), (h3, .inl (cI, 112, .inl bt)), (h4, .inl (cI, 112, .inl hd))] U) (some (.int (f_X6_find mn rw a0))) := by
  refine Rd.of (by decide +kernel) (Nat.le_of_ble_eq_true rfl) ?_
  intro p e s m args below meth c hx hb hr hml hown htg hlocks hB ls hl
  obtain ⟨hP, hK⟩ := hB
  have hP : va_P D vwCl [(h0, .inr (4, [.ref h1, .ref h2, .int mn, .int lt, .ref h3, .int sz, .ref h4, .int hsz, .int hsy, .int hrt, .int hpl, .int ola, .int olo, .int lat, .int lon])), (h1, .inl (cJ, 58, .inr (.inl bd))), (h2, .inl (cI, 800, .inl rw)), (h3, .inl (cI, 112, .inl bt)), (h4, .inl (cI, 112, .inl hd))] s.heap := hP
  have hown : s.vm.findClass RX6 = some m.cls := hown
  have hl : lv_has ls 4 [(0, .ref h0), (1, .int a0)] := hl
  refine lv_iconst (v := (-1)) hx hb dX6_find_0 (by decide) ?_
  refine lv_istore_n (lv' := [(2, .int (-1 : Int32)), (0, .ref h0), (1, .int a0)]) hx hb dX6_find_1 rfl hl (by decide) rfl (fun ls hl => ?_)
  refine lv_iconst (v := 0) hx hb dX6_find_2 (by decide) ?_
  refine lv_istore_n (lv' := [(3, .int (0 : Int32)), (2, .int (-1 : Int32)), (0, .ref h0), (1, .int a0)]) hx hb dX6_find_3 rfl hl (by decide) rfl (fun ls hl => ?_)
  have Lp : ∀ (n : Nat) (i : Int32) (v : Int32), Up n i mn ∧ 0 ≤ i.toInt → ∀ ls : Array Slot, lv_has ls 4 [(3, .int i), (2, .int v), (0, .ref h0), (1, .int a0)] → f_X6_find_lp rw a0 n i v = f_X6_find mn rw a0 → W p l e { frames := 1, cells := 0, slots := 0, locals := 22 } s m args below meth c s.heap [] 0 0 (MQ below (rdQ (some (.int (f_X6_find mn rw a0)))) args s 0 0 (fun _ => False)) (F0 m 4 ls []) := by
    intro n
    induction n with
    | zero =>
      intro i v hi ls hl hE
      refine lv_iload_n hx hb dX6_find_4 rfl (lv_at hl 0 rfl) ?_
      refine lv_aload_n hx hb dX6_find_5 rfl (lv_at hl 2 rfl) ?_
      refine va_get (D := D) (ci := 4) (v := .int mn) (C := RX6) (T := TX6) (N := 15) hx hb htg inX6 hown hK hP 0 rfl rfl 2 (by decide) (htg _ fl_X6_281) (fun _ h9 => h9) rfl dX6_find_6 ?_
      refine lv_icmp_ge (tgt := 39) hx hb dX6_find_9 (by decide) (fun c_1 => ?_) (fun c_1 => ?_)
      · refine lv_iload_n hx hb dX6_find_39 rfl (lv_at hl 1 rfl) ?_
        exact rd_i hx hb hr hlocks (by rw [← hE]; simp only [f_X6_find_lp]) dX6_find_40
      · exact absurd hi.1.z c_1
    | succ n ih =>
      intro i v hi ls hl hE
      refine lv_iload_n hx hb dX6_find_4 rfl (lv_at hl 0 rfl) ?_
      refine lv_aload_n hx hb dX6_find_5 rfl (lv_at hl 2 rfl) ?_
      refine va_get (D := D) (ci := 4) (v := .int mn) (C := RX6) (T := TX6) (N := 15) hx hb htg inX6 hown hK hP 0 rfl rfl 2 (by decide) (htg _ fl_X6_281) (fun _ h9 => h9) rfl dX6_find_6 ?_
      refine lv_icmp_ge (tgt := 39) hx hb dX6_find_9 (by decide) (fun c_2 => ?_) (fun c_2 => ?_)
      · exact absurd c_2 hi.1.s
      · refine lv_aload_n hx hb dX6_find_12 rfl (lv_at hl 2 rfl) ?_
        refine va_get (D := D) (ci := 4) (v := .ref h2) (C := RX6) (T := TX6) (N := 15) hx hb htg inX6 hown hK hP 0 rfl rfl 1 (by decide) (htg _ fl_X6_129) (fun _ h9 => h9) rfl dX6_find_13 ?_
        refine lv_aload_n hx hb dX6_find_16 rfl (lv_at hl 2 rfl) ?_
        refine lv_iload_n hx hb dX6_find_17 rfl (lv_at hl 0 rfl) ?_
        refine lv_iconst (v := 0) hx hb dX6_find_18 (by decide) ?_
        refine rV (As := [.int i, .int (0 : Int32)]) (rest := [.ref h2]) hx hb hml hown htg (c_X6_at l h0 i (0 : Int32)) Blind.tt ml_X6_284 im_X6_at se_X6_at ini_X6 co_X6_at rfl dn_X6_at rfl (va_recv hK hP (ci := 4) (q0 := 0) rfl rfl) (fun _ _ _ => trivial) hl.1 rfl (Nat.le_of_ble_eq_true rfl) ⟨Nat.le_of_ble_eq_true rfl, Nat.le_of_ble_eq_true rfl⟩ ⟨Nat.le_of_ble_eq_true rfl, Nat.le_of_ble_eq_true rfl⟩ dX6_find_19 ?_
        refine va_iald' (v := (rw (f_X6_at i (0 : Int32)).toNatClampNeg)) hx hb hK hP 2 0 rfl rfl (atIn ⟨hi.2, by have := hi.1.1; have := hm.2; omega⟩ (by decide) (by decide)) rfl dX6_find_22 ?_
        refine lv_iload_n hx hb dX6_find_23 rfl (lv_at hl 3 rfl) ?_
        refine W.join (nL := 4) (lv := [(3, .int i), (2, .int v), (0, .ref h0), (1, .int a0)]) (pc2 := 32) (st2 := [.int (if (rw (f_X6_at i (0 : Int32)).toNatClampNeg) = a0 then i else v)]) (fun ls hl => ?_) (fun J => ?_)
        · refine lv_istore_n (lv' := [(2, .int (if (rw (f_X6_at i (0 : Int32)).toNatClampNeg) = a0 then i else v)), (3, .int i), (0, .ref h0), (1, .int a0)]) hx hb dX6_find_32 rfl hl (by decide) rfl (fun ls hl => ?_)
          refine lv_iinc (v := (i + (1 : Int32))) (lv' := [(3, .int (i + (1 : Int32))), (2, .int (if (rw (f_X6_at i (0 : Int32)).toNatClampNeg) = a0 then i else v)), (0, .ref h0), (1, .int a0)]) hx hb dX6_find_33 hl (k := 1) rfl rfl (by decide) rfl (fun ls hl => ?_)
          refine lv_goto (tgt := 4) hx hb dX6_find_36 (by decide) ?_
          exact ih (i + (1 : Int32)) (if (rw (f_X6_at i (0 : Int32)).toNatClampNeg) = a0 then i else v) ⟨hi.1.nx, by have e1 : (i + 1).toInt = i.toInt + 1 := (by have := hi.1.2; have := hi.1.1; rw [fb_addI] <;> rw [i1] <;> omega); have := hi.2; omega⟩ ls (lv_sub hl [0, 1, 2, 3] rfl) (by rw [← hE]; simp only [f_X6_find_lp])
        · refine lv_icmp_ne (tgt := 31) hx hb dX6_find_24 (by decide) (fun c_3 => ?_) (fun c_3 => ?_)
          · refine lv_iload_n hx hb dX6_find_31 rfl (lv_at hl 1 rfl) ?_
            exact W.eq (by first | simp only [if_neg c_3] | rfl) (J ls (lv_sub hl [0, 1, 2, 3] rfl))
          · refine lv_iload_n hx hb dX6_find_27 rfl (lv_at hl 0 rfl) ?_
            refine lv_goto (tgt := 32) hx hb dX6_find_28 (by decide) ?_
            exact W.eq (by first | simp only [if_pos c_3] | rfl) (J ls (lv_sub hl [0, 1, 2, 3] rfl))
  exact Lp mn.toNatClampNeg (0 : Int32) (-1 : Int32) ⟨⟨by have := clamp hm.1; rw [i0]; omega, by decide, by have := hm.2; omega⟩, by decide⟩ ls (lv_sub hl [0, 1, 2, 3] rfl) (by simp only [f_X6_find])

def f_X6_isFresh (rw : Nat → Int32) (a0 : Int32) (a1 : Int32) : Int32 := (if (rw (f_X6_at a0 (17 : Int32)).toNatClampNeg) = (-2147483648 : Int32) then (0 : Int32) else (if (300 : Int32) < (a1 - (rw (f_X6_at a0 (17 : Int32)).toNatClampNeg)) then (0 : Int32) else (1 : Int32)))
set_option maxHeartbeats 4000000 in
set_option maxRecDepth 100000 in
theorem c_X6_isFresh (l : Launch) (D : va_G) (cI cJ cO : ClassId) (h0 : Nat) (h1 : Nat) (h2 : Nat) (mn : Int32) (lt : Int32) (h3 : Nat) (sz : Int32) (h4 : Nat) (hsz : Int32) (hsy : Int32) (hrt : Int32) (hpl : Int32) (ola : Int32) (olo : Int32) (lat : Int32) (lon : Int32) (bd : Nat → Int64) (rw : Nat → Int32) (bt : Nat → Int32) (hd : Nat → Int32) (a0 : Int32) (a1 : Int32) (hix : 0 ≤ a0.toInt ∧ a0.toInt < 20) : Rd l yX6_isFresh cX6_isFresh 3 (some .boolean) 1 22 [.ref h0, .int a0, .int a1] (fun U => B0 D cI cJ cO [(h0, .inr (4, [.ref h1, .ref h2, .int mn, .int lt, .ref h3, .int sz, .ref h4, .int hsz, .int hsy, .int hrt, .int hpl, .int ola, .int olo, .int lat, .int lon])), (h1, .inl (cJ, 58, .inr (.inl bd))), (h2, .inl (cI, 800, .inl rw)), (h3, .inl (cI, 112, .inl bt)), (h4, .inl (cI, 112, .inl hd))] U) (some (.int (f_X6_isFresh rw a0 a1))) := by
  refine Rd.of (by decide +kernel) (Nat.le_of_ble_eq_true rfl) ?_
  intro p e s m args below meth c hx hb hr hml hown htg hlocks hB ls hl
  obtain ⟨hP, hK⟩ := hB
  have hP : va_P D vwCl [(h0, .inr (4, [.ref h1, .ref h2, .int mn, .int lt, .ref h3, .int sz, .ref h4, .int hsz, .int hsy, .int hrt, .int hpl, .int ola, .int olo, .int lat, .int lon])), (h1, .inl (cJ, 58, .inr (.inl bd))), (h2, .inl (cI, 800, .inl rw)), (h3, .inl (cI, 112, .inl bt)), (h4, .inl (cI, 112, .inl hd))] s.heap := hP
  have hown : s.vm.findClass RX6 = some m.cls := hown
  have hl : lv_has ls 3 [(0, .ref h0), (1, .int a0), (2, .int a1)] := hl
  refine lv_aload_n hx hb dX6_isFresh_0 rfl (lv_at hl 0 rfl) ?_
  refine va_get (D := D) (ci := 4) (v := .ref h2) (C := RX6) (T := TX6) (N := 15) hx hb htg inX6 hown hK hP 0 rfl rfl 1 (by decide) (htg _ fl_X6_129) (fun _ h9 => h9) rfl dX6_isFresh_1 ?_
  refine lv_aload_n hx hb dX6_isFresh_4 rfl (lv_at hl 0 rfl) ?_
  refine lv_iload_n hx hb dX6_isFresh_5 rfl (lv_at hl 1 rfl) ?_
  refine lv_bipush (v := 17) hx hb dX6_isFresh_6 (by decide) ?_
  refine rV (As := [.int a0, .int (17 : Int32)]) (rest := [.ref h2]) hx hb hml hown htg (c_X6_at l h0 a0 (17 : Int32)) Blind.tt ml_X6_284 im_X6_at se_X6_at ini_X6 co_X6_at rfl dn_X6_at rfl (va_recv hK hP (ci := 4) (q0 := 0) rfl rfl) (fun _ _ _ => trivial) hl.1 rfl (Nat.le_of_ble_eq_true rfl) ⟨Nat.le_of_ble_eq_true rfl, Nat.le_of_ble_eq_true rfl⟩ ⟨Nat.le_of_ble_eq_true rfl, Nat.le_of_ble_eq_true rfl⟩ dX6_isFresh_8 ?_
  refine va_iald' (v := (rw (f_X6_at a0 (17 : Int32)).toNatClampNeg)) hx hb hK hP 2 0 rfl rfl (atIn hix (by decide) (by decide)) rfl dX6_isFresh_11 ?_
  refine lv_ldc (v := (-2147483648)) hx hb hown (htg _ ct_X6_171) dX6_isFresh_12 ?_
  refine lv_icmp_eq (tgt := 41) hx hb dX6_isFresh_14 (by decide) (fun c_1 => ?_) (fun c_1 => ?_)
  · refine lv_iconst (v := 0) hx hb dX6_isFresh_41 (by decide) ?_
    exact rd_z hx hb hr hlocks (by decide) (by simp only [f_X6_isFresh, if_pos c_1]) dX6_isFresh_42
  · refine lv_iload_n hx hb dX6_isFresh_17 rfl (lv_at hl 2 rfl) ?_
    refine lv_aload_n hx hb dX6_isFresh_18 rfl (lv_at hl 0 rfl) ?_
    refine va_get (D := D) (ci := 4) (v := .ref h2) (C := RX6) (T := TX6) (N := 15) hx hb htg inX6 hown hK hP 0 rfl rfl 1 (by decide) (htg _ fl_X6_129) (fun _ h9 => h9) rfl dX6_isFresh_19 ?_
    refine lv_aload_n hx hb dX6_isFresh_22 rfl (lv_at hl 0 rfl) ?_
    refine lv_iload_n hx hb dX6_isFresh_23 rfl (lv_at hl 1 rfl) ?_
    refine lv_bipush (v := 17) hx hb dX6_isFresh_24 (by decide) ?_
    refine rV (As := [.int a0, .int (17 : Int32)]) (rest := [.ref h2, .int a1]) hx hb hml hown htg (c_X6_at l h0 a0 (17 : Int32)) Blind.tt ml_X6_284 im_X6_at se_X6_at ini_X6 co_X6_at rfl dn_X6_at rfl (va_recv hK hP (ci := 4) (q0 := 0) rfl rfl) (fun _ _ _ => trivial) hl.1 rfl (Nat.le_of_ble_eq_true rfl) ⟨Nat.le_of_ble_eq_true rfl, Nat.le_of_ble_eq_true rfl⟩ ⟨Nat.le_of_ble_eq_true rfl, Nat.le_of_ble_eq_true rfl⟩ dX6_isFresh_26 ?_
    refine va_iald' (v := (rw (f_X6_at a0 (17 : Int32)).toNatClampNeg)) hx hb hK hP 2 0 rfl rfl (atIn hix (by decide) (by decide)) rfl dX6_isFresh_29 ?_
    refine lv_isub hx hb dX6_isFresh_30 ?_
    refine lv_sipush (v := 300) hx hb dX6_isFresh_31 (by decide) ?_
    refine lv_icmp_gt (tgt := 41) hx hb dX6_isFresh_34 (by decide) (fun c_2 => ?_) (fun c_2 => ?_)
    · refine lv_iconst (v := 0) hx hb dX6_isFresh_41 (by decide) ?_
      exact rd_z hx hb hr hlocks (by decide) (by simp only [f_X6_isFresh, if_neg c_1, if_pos c_2]) dX6_isFresh_42
    · refine lv_iconst (v := 1) hx hb dX6_isFresh_37 (by decide) ?_
      refine lv_goto (tgt := 42) hx hb dX6_isFresh_38 (by decide) ?_
      exact rd_z hx hb hr hlocks (by decide) (by simp only [f_X6_isFresh, if_neg c_1, if_neg c_2]) dX6_isFresh_42

def f_X6_comes_rw (rw : Nat → Int32) (lat : Int32) (lon : Int32) (a0 : Int32) (a1 : Int32) (a2 : Int32) : Nat → Int32 := (if a2 = 0 then rw else (upd (upd (upd rw (f_X6_at a0 (15 : Int32)).toNatClampNeg lat) (f_X6_at a0 (16 : Int32)).toNatClampNeg lon) (f_X6_at a0 (17 : Int32)).toNatClampNeg a1))
set_option maxHeartbeats 4000000 in
set_option maxRecDepth 100000 in
theorem c_X6_comes (l : Launch) (D : va_G) (cI cJ cO : ClassId) (h0 : Nat) (h1 : Nat) (h2 : Nat) (mn : Int32) (lt : Int32) (h3 : Nat) (sz : Int32) (h4 : Nat) (hsz : Int32) (hsy : Int32) (hrt : Int32) (hpl : Int32) (ola : Int32) (olo : Int32) (lat : Int32) (lon : Int32) (bd : Nat → Int64) (rw : Nat → Int32) (bt : Nat → Int32) (hd : Nat → Int32) (a0 : Int32) (a1 : Int32) (a2 : Int32) (hix : 0 ≤ a0.toInt ∧ a0.toInt < 20) : Wr l yX6_comes cX6_comes 4 none 1 22 [.ref h0, .int a0, .int a1, .int a2] (fun U => B1 D cI cJ cO [(h0, .inr (4, [.ref h1, .ref h2, .int mn, .int lt, .ref h3, .int sz, .ref h4, .int hsz, .int hsy, .int hrt, .int hpl, .int ola, .int olo, .int lat, .int lon])), (h1, .inl (cJ, 58, .inr (.inl bd))), (h2, .inl (cI, 800, .inl rw)), (h3, .inl (cI, 112, .inl bt)), (h4, .inl (cI, 112, .inl hd))] U ∧ True) D none [(h0, .inr (4, [.ref h1, .ref h2, .int mn, .int lt, .ref h3, .int sz, .ref h4, .int hsz, .int hsy, .int hrt, .int hpl, .int ola, .int olo, .int lat, .int lon])), (h1, .inl (cJ, 58, .inr (.inl bd))), (h2, .inl (cI, 800, .inl rw)), (h3, .inl (cI, 112, .inl bt)), (h4, .inl (cI, 112, .inl hd))] [(h0, .inr (4, [.ref h1, .ref h2, .int mn, .int lt, .ref h3, .int sz, .ref h4, .int hsz, .int hsy, .int hrt, .int hpl, .int ola, .int olo, .int lat, .int lon])), (h1, .inl (cJ, 58, .inr (.inl bd))), (h2, .inl (cI, 800, .inl (f_X6_comes_rw rw lat lon a0 a1 a2))), (h3, .inl (cI, 112, .inl bt)), (h4, .inl (cI, 112, .inl hd))] := by
  refine Wr.of (by decide +kernel) (Nat.le_of_ble_eq_true rfl) ?_
  intro p e s m args below meth c hx hb hr hml hown htg hlocks A hA hP hK hD hX hS ls hl
  have hown : s.vm.findClass RX6 = some m.cls := hown
  have hl : lv_has ls 4 [(0, .ref h0), (1, .int a0), (2, .int a1), (3, .int a2)] := hl
  refine lv_iload_n hx hb dX6_comes_0 rfl (lv_at hl 3 rfl) ?_
  refine lv_if_ne (tgt := 5) hx hb dX6_comes_1 (by decide) (fun c_1 => ?_) (fun c_1 => ?_)
  · refine lv_aload_n hx hb dX6_comes_5 rfl (lv_at hl 0 rfl) ?_
    refine va_get (D := D) (ci := 4) (v := .ref h2) (C := RX6) (T := TX6) (N := 15) hx hb htg inX6 hown hK hP 0 rfl rfl 1 (by decide) (htg _ fl_X6_129) (fun _ h9 => h9) rfl dX6_comes_6 ?_
    refine lv_aload_n hx hb dX6_comes_9 rfl (lv_at hl 0 rfl) ?_
    refine lv_iload_n hx hb dX6_comes_10 rfl (lv_at hl 1 rfl) ?_
    refine lv_bipush (v := 15) hx hb dX6_comes_11 (by decide) ?_
    refine rV (As := [.int a0, .int (15 : Int32)]) (rest := [.ref h2]) hx hb hml hown htg (c_X6_at l h0 a0 (15 : Int32)) Blind.tt ml_X6_284 im_X6_at se_X6_at ini_X6 co_X6_at rfl dn_X6_at rfl (va_recv hK hP (ci := 4) (q0 := 0) rfl rfl) (fun _ _ _ => trivial) hl.1 rfl (Nat.le_of_ble_eq_true rfl) ⟨Nat.le_of_ble_eq_true rfl, Nat.le_of_ble_eq_true rfl⟩ ⟨Nat.le_of_ble_eq_true rfl, Nat.le_of_ble_eq_true rfl⟩ dX6_comes_13 ?_
    refine lv_aload_n hx hb dX6_comes_16 rfl (lv_at hl 0 rfl) ?_
    refine va_get (D := D) (ci := 4) (v := .int lat) (C := RX6) (T := TX6) (N := 15) hx hb htg inX6 hown hK hP 0 rfl rfl 13 (by decide) (htg _ fl_X6_243) (fun _ h9 => h9) rfl dX6_comes_17 ?_
    refine va_iast' (j := (f_X6_at a0 (15 : Int32)).toNatClampNeg) hx hb hK hP hD hS 2 0 rfl rfl (atIn hix (by decide) (by decide)) rfl dX6_comes_20 (fun H locs hP hD hS => ?_)
    have hP : va_P D vwCl [(h0, .inr (4, [.ref h1, .ref h2, .int mn, .int lt, .ref h3, .int sz, .ref h4, .int hsz, .int hsy, .int hrt, .int hpl, .int ola, .int olo, .int lat, .int lon])), (h1, .inl (cJ, 58, .inr (.inl bd))), (h2, .inl (cI, 800, .inl (upd rw (f_X6_at a0 (15 : Int32)).toNatClampNeg lat))), (h3, .inl (cI, 112, .inl bt)), (h4, .inl (cI, 112, .inl hd))] H := hP
    have hD : va_D A [(h0, .inr (4, [.ref h1, .ref h2, .int mn, .int lt, .ref h3, .int sz, .ref h4, .int hsz, .int hsy, .int hrt, .int hpl, .int ola, .int olo, .int lat, .int lon])), (h1, .inl (cJ, 58, .inr (.inl bd))), (h2, .inl (cI, 800, .inl (upd rw (f_X6_at a0 (15 : Int32)).toNatClampNeg lat))), (h3, .inl (cI, 112, .inl bt)), (h4, .inl (cI, 112, .inl hd))] := hD
    refine lv_aload_n hx hb dX6_comes_21 rfl (lv_at hl 0 rfl) ?_
    refine va_get (D := D) (ci := 4) (v := .ref h2) (C := RX6) (T := TX6) (N := 15) hx hb htg inX6 hown hK hP 0 rfl rfl 1 (by decide) (htg _ fl_X6_129) (fun _ h9 => h9) rfl dX6_comes_22 ?_
    refine lv_aload_n hx hb dX6_comes_25 rfl (lv_at hl 0 rfl) ?_
    refine lv_iload_n hx hb dX6_comes_26 rfl (lv_at hl 1 rfl) ?_
    refine lv_bipush (v := 16) hx hb dX6_comes_27 (by decide) ?_
    refine rV (As := [.int a0, .int (16 : Int32)]) (rest := [.ref h2]) hx hb hml hown htg (c_X6_at l h0 a0 (16 : Int32)) Blind.tt ml_X6_284 im_X6_at se_X6_at ini_X6 co_X6_at rfl dn_X6_at rfl (va_recv hK hP (ci := 4) (q0 := 0) rfl rfl) (fun _ _ _ => trivial) hl.1 rfl (Nat.le_of_ble_eq_true rfl) ⟨Nat.le_of_ble_eq_true rfl, Nat.le_of_ble_eq_true rfl⟩ ⟨Nat.le_of_ble_eq_true rfl, Nat.le_of_ble_eq_true rfl⟩ dX6_comes_29 ?_
    refine lv_aload_n hx hb dX6_comes_32 rfl (lv_at hl 0 rfl) ?_
    refine va_get (D := D) (ci := 4) (v := .int lon) (C := RX6) (T := TX6) (N := 15) hx hb htg inX6 hown hK hP 0 rfl rfl 14 (by decide) (htg _ fl_X6_246) (fun _ h9 => h9) rfl dX6_comes_33 ?_
    refine va_iast' (j := (f_X6_at a0 (16 : Int32)).toNatClampNeg) hx hb hK hP hD hS 2 0 rfl rfl (atIn hix (by decide) (by decide)) rfl dX6_comes_36 (fun H locs hP hD hS => ?_)
    have hP : va_P D vwCl [(h0, .inr (4, [.ref h1, .ref h2, .int mn, .int lt, .ref h3, .int sz, .ref h4, .int hsz, .int hsy, .int hrt, .int hpl, .int ola, .int olo, .int lat, .int lon])), (h1, .inl (cJ, 58, .inr (.inl bd))), (h2, .inl (cI, 800, .inl (upd (upd rw (f_X6_at a0 (15 : Int32)).toNatClampNeg lat) (f_X6_at a0 (16 : Int32)).toNatClampNeg lon))), (h3, .inl (cI, 112, .inl bt)), (h4, .inl (cI, 112, .inl hd))] H := hP
    have hD : va_D A [(h0, .inr (4, [.ref h1, .ref h2, .int mn, .int lt, .ref h3, .int sz, .ref h4, .int hsz, .int hsy, .int hrt, .int hpl, .int ola, .int olo, .int lat, .int lon])), (h1, .inl (cJ, 58, .inr (.inl bd))), (h2, .inl (cI, 800, .inl (upd (upd rw (f_X6_at a0 (15 : Int32)).toNatClampNeg lat) (f_X6_at a0 (16 : Int32)).toNatClampNeg lon))), (h3, .inl (cI, 112, .inl bt)), (h4, .inl (cI, 112, .inl hd))] := hD
    refine lv_aload_n hx hb dX6_comes_37 rfl (lv_at hl 0 rfl) ?_
    refine va_get (D := D) (ci := 4) (v := .ref h2) (C := RX6) (T := TX6) (N := 15) hx hb htg inX6 hown hK hP 0 rfl rfl 1 (by decide) (htg _ fl_X6_129) (fun _ h9 => h9) rfl dX6_comes_38 ?_
    refine lv_aload_n hx hb dX6_comes_41 rfl (lv_at hl 0 rfl) ?_
    refine lv_iload_n hx hb dX6_comes_42 rfl (lv_at hl 1 rfl) ?_
    refine lv_bipush (v := 17) hx hb dX6_comes_43 (by decide) ?_
    refine rV (As := [.int a0, .int (17 : Int32)]) (rest := [.ref h2]) hx hb hml hown htg (c_X6_at l h0 a0 (17 : Int32)) Blind.tt ml_X6_284 im_X6_at se_X6_at ini_X6 co_X6_at rfl dn_X6_at rfl (va_recv hK hP (ci := 4) (q0 := 0) rfl rfl) (fun _ _ _ => trivial) hl.1 rfl (Nat.le_of_ble_eq_true rfl) ⟨Nat.le_of_ble_eq_true rfl, Nat.le_of_ble_eq_true rfl⟩ ⟨Nat.le_of_ble_eq_true rfl, Nat.le_of_ble_eq_true rfl⟩ dX6_comes_45 ?_
    refine lv_iload_n hx hb dX6_comes_48 rfl (lv_at hl 2 rfl) ?_
    refine va_iast' (j := (f_X6_at a0 (17 : Int32)).toNatClampNeg) hx hb hK hP hD hS 2 0 rfl rfl (atIn hix (by decide) (by decide)) rfl dX6_comes_49 (fun H locs hP hD hS => ?_)
    have hP : va_P D vwCl [(h0, .inr (4, [.ref h1, .ref h2, .int mn, .int lt, .ref h3, .int sz, .ref h4, .int hsz, .int hsy, .int hrt, .int hpl, .int ola, .int olo, .int lat, .int lon])), (h1, .inl (cJ, 58, .inr (.inl bd))), (h2, .inl (cI, 800, .inl (upd (upd (upd rw (f_X6_at a0 (15 : Int32)).toNatClampNeg lat) (f_X6_at a0 (16 : Int32)).toNatClampNeg lon) (f_X6_at a0 (17 : Int32)).toNatClampNeg a1))), (h3, .inl (cI, 112, .inl bt)), (h4, .inl (cI, 112, .inl hd))] H := hP
    have hD : va_D A [(h0, .inr (4, [.ref h1, .ref h2, .int mn, .int lt, .ref h3, .int sz, .ref h4, .int hsz, .int hsy, .int hrt, .int hpl, .int ola, .int olo, .int lat, .int lon])), (h1, .inl (cJ, 58, .inr (.inl bd))), (h2, .inl (cI, 800, .inl (upd (upd (upd rw (f_X6_at a0 (15 : Int32)).toNatClampNeg lat) (f_X6_at a0 (16 : Int32)).toNatClampNeg lon) (f_X6_at a0 (17 : Int32)).toNatClampNeg a1))), (h3, .inl (cI, 112, .inl bt)), (h4, .inl (cI, 112, .inl hd))] := hD
    exact wr_v hx hb hr hlocks hA hS (hP.eq (by simp only [f_X6_comes_rw, if_neg c_1])) dX6_comes_50
  · exact wr_v hx hb hr hlocks hA hS (hP.eq (by simp only [f_X6_comes_rw, if_pos c_1])) dX6_comes_4

def f_X6_moves_x11 (a1 : Int32) : Int32 := (if (a1 - a1 / (2 : Int32) * (2 : Int32)) = 0 then (4 : Int32) else (1 : Int32))
def f_X6_moves_x71 (a1 : Int32) (bt : Nat → Int32) : Int32 := (((f_X6_moves_x11 a1) * ((f_X6_part bt (15 : Int32) (24 : Int32)) - (1 : Int32))) * (1 : Int32))
def f_X6_moves_x107 (a1 : Int32) (bt : Nat → Int32) : Int32 := (((f_X6_moves_x11 a1) * ((f_X6_part bt (26 : Int32) (35 : Int32)) - (1 : Int32))) * (1 : Int32))
def f_X6_moves_x107a (a1 : Int32) (bt : Nat → Int32) : Int32 := (((f_X6_moves_x11 a1) * ((f_X6_part bt (26 : Int32) (35 : Int32)) - (1 : Int32))) * (-1 : Int32))
def f_X6_moves_x71a (a1 : Int32) (bt : Nat → Int32) : Int32 := (((f_X6_moves_x11 a1) * ((f_X6_part bt (15 : Int32) (24 : Int32)) - (1 : Int32))) * (-1 : Int32))
def f_X6_moves_x71b (bt : Nat → Int32) (a1 : Int32) : Int32 := (if (f_X6_part bt (15 : Int32) (24 : Int32)) = 0 then (-2147483648 : Int32) else (if (f_X6_part bt (14 : Int32) (14 : Int32)) = (1 : Int32) then (((f_X6_moves_x11 a1) * ((f_X6_part bt (15 : Int32) (24 : Int32)) - (1 : Int32))) * (-1 : Int32)) else (((f_X6_moves_x11 a1) * ((f_X6_part bt (15 : Int32) (24 : Int32)) - (1 : Int32))) * (1 : Int32))))
def f_X6_moves_x107b (bt : Nat → Int32) (a1 : Int32) : Int32 := (if (f_X6_part bt (26 : Int32) (35 : Int32)) = 0 then (-2147483648 : Int32) else (if (f_X6_part bt (25 : Int32) (25 : Int32)) = (1 : Int32) then (((f_X6_moves_x11 a1) * ((f_X6_part bt (26 : Int32) (35 : Int32)) - (1 : Int32))) * (-1 : Int32)) else (((f_X6_moves_x11 a1) * ((f_X6_part bt (26 : Int32) (35 : Int32)) - (1 : Int32))) * (1 : Int32))))
def f_X6_moves_rw (rw : Nat → Int32) (bt : Nat → Int32) (a0 : Int32) (a1 : Int32) : Nat → Int32 := (if (3 : Int32) ≤ a1 then (upd (upd (upd rw (f_X6_at a0 (10 : Int32)).toNatClampNeg (if (f_X6_part bt (14 : Int32) (14 : Int32)) = 0 then (-2147483648 : Int32) else (((360000 : Int32) * (f_X6_part bt (15 : Int32) (24 : Int32))) / (1024 : Int32)))) (f_X6_at a0 (9 : Int32)).toNatClampNeg (if (f_X6_part bt (26 : Int32) (35 : Int32)) = 0 then (-2147483648 : Int32) else (((8 : Int32) * (f_X6_moves_x11 a1)) * ((f_X6_part bt (26 : Int32) (35 : Int32)) - (1 : Int32))))) (f_X6_at a0 (11 : Int32)).toNatClampNeg (if (f_X6_part bt (38 : Int32) (46 : Int32)) = 0 then (-2147483648 : Int32) else (if (f_X6_part bt (37 : Int32) (37 : Int32)) = (1 : Int32) then (((64 : Int32) * ((f_X6_part bt (38 : Int32) (46 : Int32)) - (1 : Int32))) * (-1 : Int32)) else (((64 : Int32) * ((f_X6_part bt (38 : Int32) (46 : Int32)) - (1 : Int32))) * (1 : Int32))))) else (upd (upd (upd (upd rw (f_X6_at a0 (7 : Int32)).toNatClampNeg (f_X6_moves_x71b bt a1)) (f_X6_at a0 (8 : Int32)).toNatClampNeg (f_X6_moves_x107b bt a1)) (f_X6_at a0 (9 : Int32)).toNatClampNeg (if (f_X6_part bt (15 : Int32) (24 : Int32)) = 0 then (-2147483648 : Int32) else (if (f_X6_part bt (26 : Int32) (35 : Int32)) = 0 then (-2147483648 : Int32) else (f_X6_root ((64 : Int32) * (((f_X6_moves_x71b bt a1) * (f_X6_moves_x71b bt a1)) + ((f_X6_moves_x107b bt a1) * (f_X6_moves_x107b bt a1)))))))) (f_X6_at a0 (11 : Int32)).toNatClampNeg (if (f_X6_part bt (38 : Int32) (46 : Int32)) = 0 then (-2147483648 : Int32) else (if (f_X6_part bt (37 : Int32) (37 : Int32)) = (1 : Int32) then (((64 : Int32) * ((f_X6_part bt (38 : Int32) (46 : Int32)) - (1 : Int32))) * (-1 : Int32)) else (((64 : Int32) * ((f_X6_part bt (38 : Int32) (46 : Int32)) - (1 : Int32))) * (1 : Int32))))))
set_option maxHeartbeats 4000000 in
set_option maxRecDepth 100000 in
theorem c_X6_moves (l : Launch) (D : va_G) (cI cJ cO : ClassId) (h0 : Nat) (h1 : Nat) (h2 : Nat) (mn : Int32) (lt : Int32) (h3 : Nat) (sz : Int32) (h4 : Nat) (hsz : Int32) (hsy : Int32) (hrt : Int32) (hpl : Int32) (ola : Int32) (olo : Int32) (lat : Int32) (lon : Int32) (bd : Nat → Int64) (rw : Nat → Int32) (bt : Nat → Int32) (hd : Nat → Int32) (a0 : Int32) (a1 : Int32) (hix : 0 ≤ a0.toInt ∧ a0.toInt < 20) : Wr l yX6_moves cX6_moves 8 none 2 47 [.ref h0, .int a0, .int a1] (fun U => B1 D cI cJ cO [(h0, .inr (4, [.ref h1, .ref h2, .int mn, .int lt, .ref h3, .int sz, .ref h4, .int hsz, .int hsy, .int hrt, .int hpl, .int ola, .int olo, .int lat, .int lon])), (h1, .inl (cJ, 58, .inr (.inl bd))), (h2, .inl (cI, 800, .inl rw)), (h3, .inl (cI, 112, .inl bt)), (h4, .inl (cI, 112, .inl hd))] U ∧ True) D none [(h0, .inr (4, [.ref h1, .ref h2, .int mn, .int lt, .ref h3, .int sz, .ref h4, .int hsz, .int hsy, .int hrt, .int hpl, .int ola, .int olo, .int lat, .int lon])), (h1, .inl (cJ, 58, .inr (.inl bd))), (h2, .inl (cI, 800, .inl rw)), (h3, .inl (cI, 112, .inl bt)), (h4, .inl (cI, 112, .inl hd))] [(h0, .inr (4, [.ref h1, .ref h2, .int mn, .int lt, .ref h3, .int sz, .ref h4, .int hsz, .int hsy, .int hrt, .int hpl, .int ola, .int olo, .int lat, .int lon])), (h1, .inl (cJ, 58, .inr (.inl bd))), (h2, .inl (cI, 800, .inl (f_X6_moves_rw rw bt a0 a1))), (h3, .inl (cI, 112, .inl bt)), (h4, .inl (cI, 112, .inl hd))] := by
  refine Wr.of (by decide +kernel) (Nat.le_of_ble_eq_true rfl) ?_
  intro p e s m args below meth c hx hb hr hml hown htg hlocks A hA hP hK hD hX hS ls hl
  have hown : s.vm.findClass RX6 = some m.cls := hown
  have hl : lv_has ls 8 [(0, .ref h0), (1, .int a0), (2, .int a1)] := hl
  refine lv_iload_n hx hb dX6_moves_0 rfl (lv_at hl 2 rfl) ?_
  refine lv_iconst (v := 2) hx hb dX6_moves_1 (by decide) ?_
  refine lv_irem hx hb dX6_moves_2 (by decide) ?_
  refine W.join (nL := 8) (lv := [(0, .ref h0), (1, .int a0), (2, .int a1)]) (pc2 := 11) (st2 := [.int (if (a1 - a1 / (2 : Int32) * (2 : Int32)) = 0 then (4 : Int32) else (1 : Int32))]) (fun ls hl => ?_) (fun J => ?_)
  · refine lv_istore_n (lv' := [(3, .int (f_X6_moves_x11 a1)), (0, .ref h0), (1, .int a0), (2, .int a1)]) hx hb dX6_moves_11 rfl hl (by decide) rfl (fun ls hl => ?_)
    refine lv_aload_n hx hb dX6_moves_12 rfl (lv_at hl 1 rfl) ?_
    refine lv_bipush (v := 15) hx hb dX6_moves_13 (by decide) ?_
    refine lv_bipush (v := 24) hx hb dX6_moves_15 (by decide) ?_
    refine rV (As := [.int (15 : Int32), .int (24 : Int32)]) (rest := []) hx hb hml hown htg (c_X6_part l D cI cJ cO h0 h1 h2 mn lt h3 sz h4 hsz hsy hrt hpl ola olo lat lon bd rw bt hd (15 : Int32) (24 : Int32) ⟨by decide, by decide, by decide⟩) Blind.b0 ml_X6_320 im_X6_part se_X6_part ini_X6 co_X6_part rfl dn_X6_part rfl (va_recv hK hP (ci := 4) (q0 := 0) rfl rfl) (fun U hU hW => ⟨by rw [hU]; exact hP, va_K.moved hW.alike hK⟩) hl.1 rfl (Nat.le_of_ble_eq_true rfl) ⟨Nat.le_of_ble_eq_true rfl, Nat.le_of_ble_eq_true rfl⟩ ⟨Nat.le_of_ble_eq_true rfl, Nat.le_of_ble_eq_true rfl⟩ dX6_moves_17 ?_
    refine lv_istore (lv' := [(4, .int (f_X6_part bt (15 : Int32) (24 : Int32))), (3, .int (f_X6_moves_x11 a1)), (0, .ref h0), (1, .int a0), (2, .int a1)]) hx hb dX6_moves_20 hl (by decide) rfl (fun ls hl => ?_)
    refine lv_aload_n hx hb dX6_moves_22 rfl (lv_at hl 2 rfl) ?_
    refine lv_bipush (v := 26) hx hb dX6_moves_23 (by decide) ?_
    refine lv_bipush (v := 35) hx hb dX6_moves_25 (by decide) ?_
    refine rV (As := [.int (26 : Int32), .int (35 : Int32)]) (rest := []) hx hb hml hown htg (c_X6_part l D cI cJ cO h0 h1 h2 mn lt h3 sz h4 hsz hsy hrt hpl ola olo lat lon bd rw bt hd (26 : Int32) (35 : Int32) ⟨by decide, by decide, by decide⟩) Blind.b0 ml_X6_320 im_X6_part se_X6_part ini_X6 co_X6_part rfl dn_X6_part rfl (va_recv hK hP (ci := 4) (q0 := 0) rfl rfl) (fun U hU hW => ⟨by rw [hU]; exact hP, va_K.moved hW.alike hK⟩) hl.1 rfl (Nat.le_of_ble_eq_true rfl) ⟨Nat.le_of_ble_eq_true rfl, Nat.le_of_ble_eq_true rfl⟩ ⟨Nat.le_of_ble_eq_true rfl, Nat.le_of_ble_eq_true rfl⟩ dX6_moves_27 ?_
    refine lv_istore (lv' := [(5, .int (f_X6_part bt (26 : Int32) (35 : Int32))), (4, .int (f_X6_part bt (15 : Int32) (24 : Int32))), (3, .int (f_X6_moves_x11 a1)), (0, .ref h0), (1, .int a0), (2, .int a1)]) hx hb dX6_moves_30 hl (by decide) rfl (fun ls hl => ?_)
    refine lv_iload_n hx hb dX6_moves_32 rfl (lv_at hl 5 rfl) ?_
    refine lv_iconst (v := 3) hx hb dX6_moves_33 (by decide) ?_
    refine lv_icmp_ge (tgt := 184) hx hb dX6_moves_34 (by decide) (fun c_1 => ?_) (fun c_1 => ?_)
    · refine lv_aload_n hx hb dX6_moves_184 rfl (lv_at hl 3 rfl) ?_
      refine va_get (D := D) (ci := 4) (v := .ref h2) (C := RX6) (T := TX6) (N := 15) hx hb htg inX6 hown hK hP 0 rfl rfl 1 (by decide) (htg _ fl_X6_129) (fun _ h9 => h9) rfl dX6_moves_185 ?_
      refine lv_aload_n hx hb dX6_moves_188 rfl (lv_at hl 3 rfl) ?_
      refine lv_iload_n hx hb dX6_moves_189 rfl (lv_at hl 4 rfl) ?_
      refine lv_bipush (v := 10) hx hb dX6_moves_190 (by decide) ?_
      refine rV (As := [.int a0, .int (10 : Int32)]) (rest := [.ref h2]) hx hb hml hown htg (c_X6_at l h0 a0 (10 : Int32)) Blind.tt ml_X6_284 im_X6_at se_X6_at ini_X6 co_X6_at rfl dn_X6_at rfl (va_recv hK hP (ci := 4) (q0 := 0) rfl rfl) (fun _ _ _ => trivial) hl.1 rfl (Nat.le_of_ble_eq_true rfl) ⟨Nat.le_of_ble_eq_true rfl, Nat.le_of_ble_eq_true rfl⟩ ⟨Nat.le_of_ble_eq_true rfl, Nat.le_of_ble_eq_true rfl⟩ dX6_moves_192 ?_
      refine lv_aload_n hx hb dX6_moves_195 rfl (lv_at hl 3 rfl) ?_
      refine lv_bipush (v := 14) hx hb dX6_moves_196 (by decide) ?_
      refine lv_bipush (v := 14) hx hb dX6_moves_198 (by decide) ?_
      refine rV (As := [.int (14 : Int32), .int (14 : Int32)]) (rest := [.int (f_X6_at a0 (10 : Int32)), .ref h2]) hx hb hml hown htg (c_X6_part l D cI cJ cO h0 h1 h2 mn lt h3 sz h4 hsz hsy hrt hpl ola olo lat lon bd rw bt hd (14 : Int32) (14 : Int32) ⟨by decide, by decide, by decide⟩) Blind.b0 ml_X6_320 im_X6_part se_X6_part ini_X6 co_X6_part rfl dn_X6_part rfl (va_recv hK hP (ci := 4) (q0 := 0) rfl rfl) (fun U hU hW => ⟨by rw [hU]; exact hP, va_K.moved hW.alike hK⟩) hl.1 rfl (Nat.le_of_ble_eq_true rfl) ⟨Nat.le_of_ble_eq_true rfl, Nat.le_of_ble_eq_true rfl⟩ ⟨Nat.le_of_ble_eq_true rfl, Nat.le_of_ble_eq_true rfl⟩ dX6_moves_200 ?_
      refine W.join (nL := 8) (lv := [(5, .int (f_X6_part bt (26 : Int32) (35 : Int32))), (4, .int (f_X6_part bt (15 : Int32) (24 : Int32))), (3, .int (f_X6_moves_x11 a1)), (0, .ref h0), (1, .int a0), (2, .int a1)]) (pc2 := 221) (st2 := [.int (if (f_X6_part bt (14 : Int32) (14 : Int32)) = 0 then (-2147483648 : Int32) else (((360000 : Int32) * (f_X6_part bt (15 : Int32) (24 : Int32))) / (1024 : Int32))), .int (f_X6_at a0 (10 : Int32)), .ref h2]) (fun ls hl => ?_) (fun J => ?_)
      · refine va_iast' (j := (f_X6_at a0 (10 : Int32)).toNatClampNeg) hx hb hK hP hD hS 2 0 rfl rfl (atIn hix (by decide) (by decide)) rfl dX6_moves_221 (fun H locs hP hD hS => ?_)
        have hP : va_P D vwCl [(h0, .inr (4, [.ref h1, .ref h2, .int mn, .int lt, .ref h3, .int sz, .ref h4, .int hsz, .int hsy, .int hrt, .int hpl, .int ola, .int olo, .int lat, .int lon])), (h1, .inl (cJ, 58, .inr (.inl bd))), (h2, .inl (cI, 800, .inl (upd rw (f_X6_at a0 (10 : Int32)).toNatClampNeg (if (f_X6_part bt (14 : Int32) (14 : Int32)) = 0 then (-2147483648 : Int32) else (((360000 : Int32) * (f_X6_part bt (15 : Int32) (24 : Int32))) / (1024 : Int32)))))), (h3, .inl (cI, 112, .inl bt)), (h4, .inl (cI, 112, .inl hd))] H := hP
        have hD : va_D A [(h0, .inr (4, [.ref h1, .ref h2, .int mn, .int lt, .ref h3, .int sz, .ref h4, .int hsz, .int hsy, .int hrt, .int hpl, .int ola, .int olo, .int lat, .int lon])), (h1, .inl (cJ, 58, .inr (.inl bd))), (h2, .inl (cI, 800, .inl (upd rw (f_X6_at a0 (10 : Int32)).toNatClampNeg (if (f_X6_part bt (14 : Int32) (14 : Int32)) = 0 then (-2147483648 : Int32) else (((360000 : Int32) * (f_X6_part bt (15 : Int32) (24 : Int32))) / (1024 : Int32)))))), (h3, .inl (cI, 112, .inl bt)), (h4, .inl (cI, 112, .inl hd))] := hD
        refine lv_aload_n hx hb dX6_moves_222 rfl (lv_at hl 3 rfl) ?_
        refine va_get (D := D) (ci := 4) (v := .ref h2) (C := RX6) (T := TX6) (N := 15) hx hb htg inX6 hown hK hP 0 rfl rfl 1 (by decide) (htg _ fl_X6_129) (fun _ h9 => h9) rfl dX6_moves_223 ?_
        refine lv_aload_n hx hb dX6_moves_226 rfl (lv_at hl 3 rfl) ?_
        refine lv_iload_n hx hb dX6_moves_227 rfl (lv_at hl 4 rfl) ?_
        refine lv_bipush (v := 9) hx hb dX6_moves_228 (by decide) ?_
        refine rV (As := [.int a0, .int (9 : Int32)]) (rest := [.ref h2]) hx hb hml hown htg (c_X6_at l h0 a0 (9 : Int32)) Blind.tt ml_X6_284 im_X6_at se_X6_at ini_X6 co_X6_at rfl dn_X6_at rfl (va_recv hK hP (ci := 4) (q0 := 0) rfl rfl) (fun _ _ _ => trivial) hl.1 rfl (Nat.le_of_ble_eq_true rfl) ⟨Nat.le_of_ble_eq_true rfl, Nat.le_of_ble_eq_true rfl⟩ ⟨Nat.le_of_ble_eq_true rfl, Nat.le_of_ble_eq_true rfl⟩ dX6_moves_230 ?_
        refine lv_iload hx hb dX6_moves_233 (lv_at hl 0 rfl) ?_
        refine W.join (nL := 8) (lv := [(5, .int (f_X6_part bt (26 : Int32) (35 : Int32))), (4, .int (f_X6_part bt (15 : Int32) (24 : Int32))), (3, .int (f_X6_moves_x11 a1)), (0, .ref h0), (1, .int a0), (2, .int a1)]) (pc2 := 252) (st2 := [.int (if (f_X6_part bt (26 : Int32) (35 : Int32)) = 0 then (-2147483648 : Int32) else (((8 : Int32) * (f_X6_moves_x11 a1)) * ((f_X6_part bt (26 : Int32) (35 : Int32)) - (1 : Int32)))), .int (f_X6_at a0 (9 : Int32)), .ref h2]) (fun ls hl => ?_) (fun J => ?_)
        · refine va_iast' (j := (f_X6_at a0 (9 : Int32)).toNatClampNeg) hx hb hK hP hD hS 2 0 rfl rfl (atIn hix (by decide) (by decide)) rfl dX6_moves_252 (fun H locs hP hD hS => ?_)
          have hP : va_P D vwCl [(h0, .inr (4, [.ref h1, .ref h2, .int mn, .int lt, .ref h3, .int sz, .ref h4, .int hsz, .int hsy, .int hrt, .int hpl, .int ola, .int olo, .int lat, .int lon])), (h1, .inl (cJ, 58, .inr (.inl bd))), (h2, .inl (cI, 800, .inl (upd (upd rw (f_X6_at a0 (10 : Int32)).toNatClampNeg (if (f_X6_part bt (14 : Int32) (14 : Int32)) = 0 then (-2147483648 : Int32) else (((360000 : Int32) * (f_X6_part bt (15 : Int32) (24 : Int32))) / (1024 : Int32)))) (f_X6_at a0 (9 : Int32)).toNatClampNeg (if (f_X6_part bt (26 : Int32) (35 : Int32)) = 0 then (-2147483648 : Int32) else (((8 : Int32) * (f_X6_moves_x11 a1)) * ((f_X6_part bt (26 : Int32) (35 : Int32)) - (1 : Int32))))))), (h3, .inl (cI, 112, .inl bt)), (h4, .inl (cI, 112, .inl hd))] H := hP
          have hD : va_D A [(h0, .inr (4, [.ref h1, .ref h2, .int mn, .int lt, .ref h3, .int sz, .ref h4, .int hsz, .int hsy, .int hrt, .int hpl, .int ola, .int olo, .int lat, .int lon])), (h1, .inl (cJ, 58, .inr (.inl bd))), (h2, .inl (cI, 800, .inl (upd (upd rw (f_X6_at a0 (10 : Int32)).toNatClampNeg (if (f_X6_part bt (14 : Int32) (14 : Int32)) = 0 then (-2147483648 : Int32) else (((360000 : Int32) * (f_X6_part bt (15 : Int32) (24 : Int32))) / (1024 : Int32)))) (f_X6_at a0 (9 : Int32)).toNatClampNeg (if (f_X6_part bt (26 : Int32) (35 : Int32)) = 0 then (-2147483648 : Int32) else (((8 : Int32) * (f_X6_moves_x11 a1)) * ((f_X6_part bt (26 : Int32) (35 : Int32)) - (1 : Int32))))))), (h3, .inl (cI, 112, .inl bt)), (h4, .inl (cI, 112, .inl hd))] := hD
          refine lv_aload_n hx hb dX6_moves_253 rfl (lv_at hl 3 rfl) ?_
          refine lv_bipush (v := 38) hx hb dX6_moves_254 (by decide) ?_
          refine lv_bipush (v := 46) hx hb dX6_moves_256 (by decide) ?_
          refine rV (As := [.int (38 : Int32), .int (46 : Int32)]) (rest := []) hx hb hml hown htg (c_X6_part l D cI cJ cO h0 h1 h2 mn lt h3 sz h4 hsz hsy hrt hpl ola olo lat lon bd (upd (upd rw (f_X6_at a0 (10 : Int32)).toNatClampNeg (if (f_X6_part bt (14 : Int32) (14 : Int32)) = 0 then (-2147483648 : Int32) else (((360000 : Int32) * (f_X6_part bt (15 : Int32) (24 : Int32))) / (1024 : Int32)))) (f_X6_at a0 (9 : Int32)).toNatClampNeg (if (f_X6_part bt (26 : Int32) (35 : Int32)) = 0 then (-2147483648 : Int32) else (((8 : Int32) * (f_X6_moves_x11 a1)) * ((f_X6_part bt (26 : Int32) (35 : Int32)) - (1 : Int32))))) bt hd (38 : Int32) (46 : Int32) ⟨by decide, by decide, by decide⟩) Blind.b0 ml_X6_320 im_X6_part se_X6_part ini_X6 co_X6_part rfl dn_X6_part rfl (va_recv hK hP (ci := 4) (q0 := 0) rfl rfl) (fun U hU hW => ⟨by rw [hU]; exact hP, va_K.moved hW.alike hK⟩) hl.1 rfl (Nat.le_of_ble_eq_true rfl) ⟨Nat.le_of_ble_eq_true rfl, Nat.le_of_ble_eq_true rfl⟩ ⟨Nat.le_of_ble_eq_true rfl, Nat.le_of_ble_eq_true rfl⟩ dX6_moves_258 ?_
          refine lv_istore (lv' := [(6, .int (f_X6_part bt (38 : Int32) (46 : Int32))), (5, .int (f_X6_part bt (26 : Int32) (35 : Int32))), (4, .int (f_X6_part bt (15 : Int32) (24 : Int32))), (3, .int (f_X6_moves_x11 a1)), (0, .ref h0), (1, .int a0), (2, .int a1)]) hx hb dX6_moves_261 hl (by decide) rfl (fun ls hl => ?_)
          refine lv_aload_n hx hb dX6_moves_263 rfl (lv_at hl 4 rfl) ?_
          refine va_get (D := D) (ci := 4) (v := .ref h2) (C := RX6) (T := TX6) (N := 15) hx hb htg inX6 hown hK hP 0 rfl rfl 1 (by decide) (htg _ fl_X6_129) (fun _ h9 => h9) rfl dX6_moves_264 ?_
          refine lv_aload_n hx hb dX6_moves_267 rfl (lv_at hl 4 rfl) ?_
          refine lv_iload_n hx hb dX6_moves_268 rfl (lv_at hl 5 rfl) ?_
          refine lv_bipush (v := 11) hx hb dX6_moves_269 (by decide) ?_
          refine rV (As := [.int a0, .int (11 : Int32)]) (rest := [.ref h2]) hx hb hml hown htg (c_X6_at l h0 a0 (11 : Int32)) Blind.tt ml_X6_284 im_X6_at se_X6_at ini_X6 co_X6_at rfl dn_X6_at rfl (va_recv hK hP (ci := 4) (q0 := 0) rfl rfl) (fun _ _ _ => trivial) hl.1 rfl (Nat.le_of_ble_eq_true rfl) ⟨Nat.le_of_ble_eq_true rfl, Nat.le_of_ble_eq_true rfl⟩ ⟨Nat.le_of_ble_eq_true rfl, Nat.le_of_ble_eq_true rfl⟩ dX6_moves_271 ?_
          refine lv_iload hx hb dX6_moves_274 (lv_at hl 0 rfl) ?_
          refine W.join (nL := 8) (lv := [(6, .int (f_X6_part bt (38 : Int32) (46 : Int32))), (5, .int (f_X6_part bt (26 : Int32) (35 : Int32))), (4, .int (f_X6_part bt (15 : Int32) (24 : Int32))), (3, .int (f_X6_moves_x11 a1)), (0, .ref h0), (1, .int a0), (2, .int a1)]) (pc2 := 309) (st2 := [.int (if (f_X6_part bt (38 : Int32) (46 : Int32)) = 0 then (-2147483648 : Int32) else (if (f_X6_part bt (37 : Int32) (37 : Int32)) = (1 : Int32) then (((64 : Int32) * ((f_X6_part bt (38 : Int32) (46 : Int32)) - (1 : Int32))) * (-1 : Int32)) else (((64 : Int32) * ((f_X6_part bt (38 : Int32) (46 : Int32)) - (1 : Int32))) * (1 : Int32)))), .int (f_X6_at a0 (11 : Int32)), .ref h2]) (fun ls hl => ?_) (fun J => ?_)
          · refine va_iast' (j := (f_X6_at a0 (11 : Int32)).toNatClampNeg) hx hb hK hP hD hS 2 0 rfl rfl (atIn hix (by decide) (by decide)) rfl dX6_moves_309 (fun H locs hP hD hS => ?_)
            have hP : va_P D vwCl [(h0, .inr (4, [.ref h1, .ref h2, .int mn, .int lt, .ref h3, .int sz, .ref h4, .int hsz, .int hsy, .int hrt, .int hpl, .int ola, .int olo, .int lat, .int lon])), (h1, .inl (cJ, 58, .inr (.inl bd))), (h2, .inl (cI, 800, .inl (upd (upd (upd rw (f_X6_at a0 (10 : Int32)).toNatClampNeg (if (f_X6_part bt (14 : Int32) (14 : Int32)) = 0 then (-2147483648 : Int32) else (((360000 : Int32) * (f_X6_part bt (15 : Int32) (24 : Int32))) / (1024 : Int32)))) (f_X6_at a0 (9 : Int32)).toNatClampNeg (if (f_X6_part bt (26 : Int32) (35 : Int32)) = 0 then (-2147483648 : Int32) else (((8 : Int32) * (f_X6_moves_x11 a1)) * ((f_X6_part bt (26 : Int32) (35 : Int32)) - (1 : Int32))))) (f_X6_at a0 (11 : Int32)).toNatClampNeg (if (f_X6_part bt (38 : Int32) (46 : Int32)) = 0 then (-2147483648 : Int32) else (if (f_X6_part bt (37 : Int32) (37 : Int32)) = (1 : Int32) then (((64 : Int32) * ((f_X6_part bt (38 : Int32) (46 : Int32)) - (1 : Int32))) * (-1 : Int32)) else (((64 : Int32) * ((f_X6_part bt (38 : Int32) (46 : Int32)) - (1 : Int32))) * (1 : Int32))))))), (h3, .inl (cI, 112, .inl bt)), (h4, .inl (cI, 112, .inl hd))] H := hP
            have hD : va_D A [(h0, .inr (4, [.ref h1, .ref h2, .int mn, .int lt, .ref h3, .int sz, .ref h4, .int hsz, .int hsy, .int hrt, .int hpl, .int ola, .int olo, .int lat, .int lon])), (h1, .inl (cJ, 58, .inr (.inl bd))), (h2, .inl (cI, 800, .inl (upd (upd (upd rw (f_X6_at a0 (10 : Int32)).toNatClampNeg (if (f_X6_part bt (14 : Int32) (14 : Int32)) = 0 then (-2147483648 : Int32) else (((360000 : Int32) * (f_X6_part bt (15 : Int32) (24 : Int32))) / (1024 : Int32)))) (f_X6_at a0 (9 : Int32)).toNatClampNeg (if (f_X6_part bt (26 : Int32) (35 : Int32)) = 0 then (-2147483648 : Int32) else (((8 : Int32) * (f_X6_moves_x11 a1)) * ((f_X6_part bt (26 : Int32) (35 : Int32)) - (1 : Int32))))) (f_X6_at a0 (11 : Int32)).toNatClampNeg (if (f_X6_part bt (38 : Int32) (46 : Int32)) = 0 then (-2147483648 : Int32) else (if (f_X6_part bt (37 : Int32) (37 : Int32)) = (1 : Int32) then (((64 : Int32) * ((f_X6_part bt (38 : Int32) (46 : Int32)) - (1 : Int32))) * (-1 : Int32)) else (((64 : Int32) * ((f_X6_part bt (38 : Int32) (46 : Int32)) - (1 : Int32))) * (1 : Int32))))))), (h3, .inl (cI, 112, .inl bt)), (h4, .inl (cI, 112, .inl hd))] := hD
            exact wr_v hx hb hr hlocks hA hS (hP.eq (by simp only [f_X6_moves_rw, if_pos c_1])) dX6_moves_310
          · refine lv_if_ne (tgt := 284) hx hb dX6_moves_276 (by decide) (fun c_2 => ?_) (fun c_2 => ?_)
            · refine lv_bipush (v := 64) hx hb dX6_moves_284 (by decide) ?_
              refine lv_iload hx hb dX6_moves_286 (lv_at hl 0 rfl) ?_
              refine lv_iconst (v := 1) hx hb dX6_moves_288 (by decide) ?_
              refine lv_isub hx hb dX6_moves_289 ?_
              refine lv_imul hx hb dX6_moves_290 ?_
              refine lv_aload_n hx hb dX6_moves_291 rfl (lv_at hl 4 rfl) ?_
              refine lv_bipush (v := 37) hx hb dX6_moves_292 (by decide) ?_
              refine lv_bipush (v := 37) hx hb dX6_moves_294 (by decide) ?_
              refine rV (As := [.int (37 : Int32), .int (37 : Int32)]) (rest := [.int ((64 : Int32) * ((f_X6_part bt (38 : Int32) (46 : Int32)) - (1 : Int32))), .int (f_X6_at a0 (11 : Int32)), .ref h2]) hx hb hml hown htg (c_X6_part l D cI cJ cO h0 h1 h2 mn lt h3 sz h4 hsz hsy hrt hpl ola olo lat lon bd (upd (upd rw (f_X6_at a0 (10 : Int32)).toNatClampNeg (if (f_X6_part bt (14 : Int32) (14 : Int32)) = 0 then (-2147483648 : Int32) else (((360000 : Int32) * (f_X6_part bt (15 : Int32) (24 : Int32))) / (1024 : Int32)))) (f_X6_at a0 (9 : Int32)).toNatClampNeg (if (f_X6_part bt (26 : Int32) (35 : Int32)) = 0 then (-2147483648 : Int32) else (((8 : Int32) * (f_X6_moves_x11 a1)) * ((f_X6_part bt (26 : Int32) (35 : Int32)) - (1 : Int32))))) bt hd (37 : Int32) (37 : Int32) ⟨by decide, by decide, by decide⟩) Blind.b0 ml_X6_320 im_X6_part se_X6_part ini_X6 co_X6_part rfl dn_X6_part rfl (va_recv hK hP (ci := 4) (q0 := 0) rfl rfl) (fun U hU hW => ⟨by rw [hU]; exact hP, va_K.moved hW.alike hK⟩) hl.1 rfl (Nat.le_of_ble_eq_true rfl) ⟨Nat.le_of_ble_eq_true rfl, Nat.le_of_ble_eq_true rfl⟩ ⟨Nat.le_of_ble_eq_true rfl, Nat.le_of_ble_eq_true rfl⟩ dX6_moves_296 ?_
              refine lv_iconst (v := 1) hx hb dX6_moves_299 (by decide) ?_
              refine lv_icmp_ne (tgt := 307) hx hb dX6_moves_300 (by decide) (fun c_3 => ?_) (fun c_3 => ?_)
              · refine lv_iconst (v := 1) hx hb dX6_moves_307 (by decide) ?_
                refine lv_imul hx hb dX6_moves_308 ?_
                exact W.eq (by first | simp only [if_neg c_2, if_neg c_3] | rfl) (J ls (lv_sub hl [0, 1, 2, 3, 4, 5, 6] rfl))
              · refine lv_iconst (v := (-1)) hx hb dX6_moves_303 (by decide) ?_
                refine lv_goto (tgt := 308) hx hb dX6_moves_304 (by decide) ?_
                refine lv_imul hx hb dX6_moves_308 ?_
                exact W.eq (by first | simp only [if_neg c_2, if_pos c_3] | rfl) (J ls (lv_sub hl [0, 1, 2, 3, 4, 5, 6] rfl))
            · refine lv_ldc (v := (-2147483648)) hx hb hown (htg _ ct_X6_171) dX6_moves_279 ?_
              refine lv_goto (tgt := 309) hx hb dX6_moves_281 (by decide) ?_
              exact W.eq (by first | simp only [if_pos c_2] | rfl) (J ls (lv_sub hl [0, 1, 2, 3, 4, 5, 6] rfl))
        · refine lv_if_ne (tgt := 243) hx hb dX6_moves_235 (by decide) (fun c_4 => ?_) (fun c_4 => ?_)
          · refine lv_bipush (v := 8) hx hb dX6_moves_243 (by decide) ?_
            refine lv_iload_n hx hb dX6_moves_245 rfl (lv_at hl 2 rfl) ?_
            refine lv_imul hx hb dX6_moves_246 ?_
            refine lv_iload hx hb dX6_moves_247 (lv_at hl 0 rfl) ?_
            refine lv_iconst (v := 1) hx hb dX6_moves_249 (by decide) ?_
            refine lv_isub hx hb dX6_moves_250 ?_
            refine lv_imul hx hb dX6_moves_251 ?_
            exact W.eq (by first | simp only [if_neg c_4] | rfl) (J ls (lv_sub hl [0, 1, 2, 3, 4, 5] rfl))
          · refine lv_ldc (v := (-2147483648)) hx hb hown (htg _ ct_X6_171) dX6_moves_238 ?_
            refine lv_goto (tgt := 252) hx hb dX6_moves_240 (by decide) ?_
            exact W.eq (by first | simp only [if_pos c_4] | rfl) (J ls (lv_sub hl [0, 1, 2, 3, 4, 5] rfl))
      · refine lv_if_ne (tgt := 211) hx hb dX6_moves_203 (by decide) (fun c_5 => ?_) (fun c_5 => ?_)
        · refine lv_ldcw (v := 360000) hx hb hown (htg _ ct_X6_326) dX6_moves_211 ?_
          refine lv_iload hx hb dX6_moves_214 (lv_at hl 1 rfl) ?_
          refine lv_imul hx hb dX6_moves_216 ?_
          refine lv_sipush (v := 1024) hx hb dX6_moves_217 (by decide) ?_
          refine lv_idiv hx hb dX6_moves_220 (by decide) ?_
          exact W.eq (by first | simp only [if_neg c_5] | rfl) (J ls (lv_sub hl [0, 1, 2, 3, 4, 5] rfl))
        · refine lv_ldc (v := (-2147483648)) hx hb hown (htg _ ct_X6_171) dX6_moves_206 ?_
          refine lv_goto (tgt := 221) hx hb dX6_moves_208 (by decide) ?_
          exact W.eq (by first | simp only [if_pos c_5] | rfl) (J ls (lv_sub hl [0, 1, 2, 3, 4, 5] rfl))
    · refine lv_iload hx hb dX6_moves_37 (lv_at hl 1 rfl) ?_
      refine W.join (nL := 8) (lv := [(5, .int (f_X6_part bt (26 : Int32) (35 : Int32))), (4, .int (f_X6_part bt (15 : Int32) (24 : Int32))), (3, .int (f_X6_moves_x11 a1)), (0, .ref h0), (1, .int a0), (2, .int a1)]) (pc2 := 71) (st2 := [.int (if (f_X6_part bt (15 : Int32) (24 : Int32)) = 0 then (-2147483648 : Int32) else (if (f_X6_part bt (14 : Int32) (14 : Int32)) = (1 : Int32) then (((f_X6_moves_x11 a1) * ((f_X6_part bt (15 : Int32) (24 : Int32)) - (1 : Int32))) * (-1 : Int32)) else (((f_X6_moves_x11 a1) * ((f_X6_part bt (15 : Int32) (24 : Int32)) - (1 : Int32))) * (1 : Int32))))]) (fun ls hl => ?_) (fun J => ?_)
      · refine lv_istore (lv' := [(6, .int (f_X6_moves_x71b bt a1)), (5, .int (f_X6_part bt (26 : Int32) (35 : Int32))), (4, .int (f_X6_part bt (15 : Int32) (24 : Int32))), (3, .int (f_X6_moves_x11 a1)), (0, .ref h0), (1, .int a0), (2, .int a1)]) hx hb dX6_moves_71 hl (by decide) rfl (fun ls hl => ?_)
        refine lv_iload hx hb dX6_moves_73 (lv_at hl 1 rfl) ?_
        refine W.join (nL := 8) (lv := [(6, .int (f_X6_moves_x71b bt a1)), (5, .int (f_X6_part bt (26 : Int32) (35 : Int32))), (4, .int (f_X6_part bt (15 : Int32) (24 : Int32))), (3, .int (f_X6_moves_x11 a1)), (0, .ref h0), (1, .int a0), (2, .int a1)]) (pc2 := 107) (st2 := [.int (if (f_X6_part bt (26 : Int32) (35 : Int32)) = 0 then (-2147483648 : Int32) else (if (f_X6_part bt (25 : Int32) (25 : Int32)) = (1 : Int32) then (((f_X6_moves_x11 a1) * ((f_X6_part bt (26 : Int32) (35 : Int32)) - (1 : Int32))) * (-1 : Int32)) else (((f_X6_moves_x11 a1) * ((f_X6_part bt (26 : Int32) (35 : Int32)) - (1 : Int32))) * (1 : Int32))))]) (fun ls hl => ?_) (fun J => ?_)
        · refine lv_istore (lv' := [(7, .int (f_X6_moves_x107b bt a1)), (6, .int (f_X6_moves_x71b bt a1)), (5, .int (f_X6_part bt (26 : Int32) (35 : Int32))), (4, .int (f_X6_part bt (15 : Int32) (24 : Int32))), (3, .int (f_X6_moves_x11 a1)), (0, .ref h0), (1, .int a0), (2, .int a1)]) hx hb dX6_moves_107 hl (by decide) rfl (fun ls hl => ?_)
          refine lv_aload_n hx hb dX6_moves_109 rfl (lv_at hl 5 rfl) ?_
          refine va_get (D := D) (ci := 4) (v := .ref h2) (C := RX6) (T := TX6) (N := 15) hx hb htg inX6 hown hK hP 0 rfl rfl 1 (by decide) (htg _ fl_X6_129) (fun _ h9 => h9) rfl dX6_moves_110 ?_
          refine lv_aload_n hx hb dX6_moves_113 rfl (lv_at hl 5 rfl) ?_
          refine lv_iload_n hx hb dX6_moves_114 rfl (lv_at hl 6 rfl) ?_
          refine lv_bipush (v := 7) hx hb dX6_moves_115 (by decide) ?_
          refine rV (As := [.int a0, .int (7 : Int32)]) (rest := [.ref h2]) hx hb hml hown htg (c_X6_at l h0 a0 (7 : Int32)) Blind.tt ml_X6_284 im_X6_at se_X6_at ini_X6 co_X6_at rfl dn_X6_at rfl (va_recv hK hP (ci := 4) (q0 := 0) rfl rfl) (fun _ _ _ => trivial) hl.1 rfl (Nat.le_of_ble_eq_true rfl) ⟨Nat.le_of_ble_eq_true rfl, Nat.le_of_ble_eq_true rfl⟩ ⟨Nat.le_of_ble_eq_true rfl, Nat.le_of_ble_eq_true rfl⟩ dX6_moves_117 ?_
          refine lv_iload hx hb dX6_moves_120 (lv_at hl 1 rfl) ?_
          refine va_iast' (j := (f_X6_at a0 (7 : Int32)).toNatClampNeg) hx hb hK hP hD hS 2 0 rfl rfl (atIn hix (by decide) (by decide)) rfl dX6_moves_122 (fun H locs hP hD hS => ?_)
          have hP : va_P D vwCl [(h0, .inr (4, [.ref h1, .ref h2, .int mn, .int lt, .ref h3, .int sz, .ref h4, .int hsz, .int hsy, .int hrt, .int hpl, .int ola, .int olo, .int lat, .int lon])), (h1, .inl (cJ, 58, .inr (.inl bd))), (h2, .inl (cI, 800, .inl (upd rw (f_X6_at a0 (7 : Int32)).toNatClampNeg (f_X6_moves_x71b bt a1)))), (h3, .inl (cI, 112, .inl bt)), (h4, .inl (cI, 112, .inl hd))] H := hP
          have hD : va_D A [(h0, .inr (4, [.ref h1, .ref h2, .int mn, .int lt, .ref h3, .int sz, .ref h4, .int hsz, .int hsy, .int hrt, .int hpl, .int ola, .int olo, .int lat, .int lon])), (h1, .inl (cJ, 58, .inr (.inl bd))), (h2, .inl (cI, 800, .inl (upd rw (f_X6_at a0 (7 : Int32)).toNatClampNeg (f_X6_moves_x71b bt a1)))), (h3, .inl (cI, 112, .inl bt)), (h4, .inl (cI, 112, .inl hd))] := hD
          refine lv_aload_n hx hb dX6_moves_123 rfl (lv_at hl 5 rfl) ?_
          refine va_get (D := D) (ci := 4) (v := .ref h2) (C := RX6) (T := TX6) (N := 15) hx hb htg inX6 hown hK hP 0 rfl rfl 1 (by decide) (htg _ fl_X6_129) (fun _ h9 => h9) rfl dX6_moves_124 ?_
          refine lv_aload_n hx hb dX6_moves_127 rfl (lv_at hl 5 rfl) ?_
          refine lv_iload_n hx hb dX6_moves_128 rfl (lv_at hl 6 rfl) ?_
          refine lv_bipush (v := 8) hx hb dX6_moves_129 (by decide) ?_
          refine rV (As := [.int a0, .int (8 : Int32)]) (rest := [.ref h2]) hx hb hml hown htg (c_X6_at l h0 a0 (8 : Int32)) Blind.tt ml_X6_284 im_X6_at se_X6_at ini_X6 co_X6_at rfl dn_X6_at rfl (va_recv hK hP (ci := 4) (q0 := 0) rfl rfl) (fun _ _ _ => trivial) hl.1 rfl (Nat.le_of_ble_eq_true rfl) ⟨Nat.le_of_ble_eq_true rfl, Nat.le_of_ble_eq_true rfl⟩ ⟨Nat.le_of_ble_eq_true rfl, Nat.le_of_ble_eq_true rfl⟩ dX6_moves_131 ?_
          refine lv_iload hx hb dX6_moves_134 (lv_at hl 0 rfl) ?_
          refine va_iast' (j := (f_X6_at a0 (8 : Int32)).toNatClampNeg) hx hb hK hP hD hS 2 0 rfl rfl (atIn hix (by decide) (by decide)) rfl dX6_moves_136 (fun H locs hP hD hS => ?_)
          have hP : va_P D vwCl [(h0, .inr (4, [.ref h1, .ref h2, .int mn, .int lt, .ref h3, .int sz, .ref h4, .int hsz, .int hsy, .int hrt, .int hpl, .int ola, .int olo, .int lat, .int lon])), (h1, .inl (cJ, 58, .inr (.inl bd))), (h2, .inl (cI, 800, .inl (upd (upd rw (f_X6_at a0 (7 : Int32)).toNatClampNeg (f_X6_moves_x71b bt a1)) (f_X6_at a0 (8 : Int32)).toNatClampNeg (f_X6_moves_x107b bt a1)))), (h3, .inl (cI, 112, .inl bt)), (h4, .inl (cI, 112, .inl hd))] H := hP
          have hD : va_D A [(h0, .inr (4, [.ref h1, .ref h2, .int mn, .int lt, .ref h3, .int sz, .ref h4, .int hsz, .int hsy, .int hrt, .int hpl, .int ola, .int olo, .int lat, .int lon])), (h1, .inl (cJ, 58, .inr (.inl bd))), (h2, .inl (cI, 800, .inl (upd (upd rw (f_X6_at a0 (7 : Int32)).toNatClampNeg (f_X6_moves_x71b bt a1)) (f_X6_at a0 (8 : Int32)).toNatClampNeg (f_X6_moves_x107b bt a1)))), (h3, .inl (cI, 112, .inl bt)), (h4, .inl (cI, 112, .inl hd))] := hD
          refine lv_aload_n hx hb dX6_moves_137 rfl (lv_at hl 5 rfl) ?_
          refine va_get (D := D) (ci := 4) (v := .ref h2) (C := RX6) (T := TX6) (N := 15) hx hb htg inX6 hown hK hP 0 rfl rfl 1 (by decide) (htg _ fl_X6_129) (fun _ h9 => h9) rfl dX6_moves_138 ?_
          refine lv_aload_n hx hb dX6_moves_141 rfl (lv_at hl 5 rfl) ?_
          refine lv_iload_n hx hb dX6_moves_142 rfl (lv_at hl 6 rfl) ?_
          refine lv_bipush (v := 9) hx hb dX6_moves_143 (by decide) ?_
          refine rV (As := [.int a0, .int (9 : Int32)]) (rest := [.ref h2]) hx hb hml hown htg (c_X6_at l h0 a0 (9 : Int32)) Blind.tt ml_X6_284 im_X6_at se_X6_at ini_X6 co_X6_at rfl dn_X6_at rfl (va_recv hK hP (ci := 4) (q0 := 0) rfl rfl) (fun _ _ _ => trivial) hl.1 rfl (Nat.le_of_ble_eq_true rfl) ⟨Nat.le_of_ble_eq_true rfl, Nat.le_of_ble_eq_true rfl⟩ ⟨Nat.le_of_ble_eq_true rfl, Nat.le_of_ble_eq_true rfl⟩ dX6_moves_145 ?_
          refine lv_iload hx hb dX6_moves_148 (lv_at hl 3 rfl) ?_
          refine W.join (nL := 8) (lv := [(7, .int (f_X6_moves_x107b bt a1)), (6, .int (f_X6_moves_x71b bt a1)), (5, .int (f_X6_part bt (26 : Int32) (35 : Int32))), (4, .int (f_X6_part bt (15 : Int32) (24 : Int32))), (3, .int (f_X6_moves_x11 a1)), (0, .ref h0), (1, .int a0), (2, .int a1)]) (pc2 := 180) (st2 := [.int (if (f_X6_part bt (15 : Int32) (24 : Int32)) = 0 then (-2147483648 : Int32) else (if (f_X6_part bt (26 : Int32) (35 : Int32)) = 0 then (-2147483648 : Int32) else (f_X6_root ((64 : Int32) * (((f_X6_moves_x71b bt a1) * (f_X6_moves_x71b bt a1)) + ((f_X6_moves_x107b bt a1) * (f_X6_moves_x107b bt a1))))))), .int (f_X6_at a0 (9 : Int32)), .ref h2]) (fun ls hl => ?_) (fun J => ?_)
          · refine va_iast' (j := (f_X6_at a0 (9 : Int32)).toNatClampNeg) hx hb hK hP hD hS 2 0 rfl rfl (atIn hix (by decide) (by decide)) rfl dX6_moves_180 (fun H locs hP hD hS => ?_)
            have hP : va_P D vwCl [(h0, .inr (4, [.ref h1, .ref h2, .int mn, .int lt, .ref h3, .int sz, .ref h4, .int hsz, .int hsy, .int hrt, .int hpl, .int ola, .int olo, .int lat, .int lon])), (h1, .inl (cJ, 58, .inr (.inl bd))), (h2, .inl (cI, 800, .inl (upd (upd (upd rw (f_X6_at a0 (7 : Int32)).toNatClampNeg (f_X6_moves_x71b bt a1)) (f_X6_at a0 (8 : Int32)).toNatClampNeg (f_X6_moves_x107b bt a1)) (f_X6_at a0 (9 : Int32)).toNatClampNeg (if (f_X6_part bt (15 : Int32) (24 : Int32)) = 0 then (-2147483648 : Int32) else (if (f_X6_part bt (26 : Int32) (35 : Int32)) = 0 then (-2147483648 : Int32) else (f_X6_root ((64 : Int32) * (((f_X6_moves_x71b bt a1) * (f_X6_moves_x71b bt a1)) + ((f_X6_moves_x107b bt a1) * (f_X6_moves_x107b bt a1)))))))))), (h3, .inl (cI, 112, .inl bt)), (h4, .inl (cI, 112, .inl hd))] H := hP
            have hD : va_D A [(h0, .inr (4, [.ref h1, .ref h2, .int mn, .int lt, .ref h3, .int sz, .ref h4, .int hsz, .int hsy, .int hrt, .int hpl, .int ola, .int olo, .int lat, .int lon])), (h1, .inl (cJ, 58, .inr (.inl bd))), (h2, .inl (cI, 800, .inl (upd (upd (upd rw (f_X6_at a0 (7 : Int32)).toNatClampNeg (f_X6_moves_x71b bt a1)) (f_X6_at a0 (8 : Int32)).toNatClampNeg (f_X6_moves_x107b bt a1)) (f_X6_at a0 (9 : Int32)).toNatClampNeg (if (f_X6_part bt (15 : Int32) (24 : Int32)) = 0 then (-2147483648 : Int32) else (if (f_X6_part bt (26 : Int32) (35 : Int32)) = 0 then (-2147483648 : Int32) else (f_X6_root ((64 : Int32) * (((f_X6_moves_x71b bt a1) * (f_X6_moves_x71b bt a1)) + ((f_X6_moves_x107b bt a1) * (f_X6_moves_x107b bt a1)))))))))), (h3, .inl (cI, 112, .inl bt)), (h4, .inl (cI, 112, .inl hd))] := hD
            refine lv_goto (tgt := 253) hx hb dX6_moves_181 (by decide) ?_
            refine lv_aload_n hx hb dX6_moves_253 rfl (lv_at hl 5 rfl) ?_
            refine lv_bipush (v := 38) hx hb dX6_moves_254 (by decide) ?_
            refine lv_bipush (v := 46) hx hb dX6_moves_256 (by decide) ?_
            refine rV (As := [.int (38 : Int32), .int (46 : Int32)]) (rest := []) hx hb hml hown htg (c_X6_part l D cI cJ cO h0 h1 h2 mn lt h3 sz h4 hsz hsy hrt hpl ola olo lat lon bd (upd (upd (upd rw (f_X6_at a0 (7 : Int32)).toNatClampNeg (f_X6_moves_x71b bt a1)) (f_X6_at a0 (8 : Int32)).toNatClampNeg (f_X6_moves_x107b bt a1)) (f_X6_at a0 (9 : Int32)).toNatClampNeg (if (f_X6_part bt (15 : Int32) (24 : Int32)) = 0 then (-2147483648 : Int32) else (if (f_X6_part bt (26 : Int32) (35 : Int32)) = 0 then (-2147483648 : Int32) else (f_X6_root ((64 : Int32) * (((f_X6_moves_x71b bt a1) * (f_X6_moves_x71b bt a1)) + ((f_X6_moves_x107b bt a1) * (f_X6_moves_x107b bt a1)))))))) bt hd (38 : Int32) (46 : Int32) ⟨by decide, by decide, by decide⟩) Blind.b0 ml_X6_320 im_X6_part se_X6_part ini_X6 co_X6_part rfl dn_X6_part rfl (va_recv hK hP (ci := 4) (q0 := 0) rfl rfl) (fun U hU hW => ⟨by rw [hU]; exact hP, va_K.moved hW.alike hK⟩) hl.1 rfl (Nat.le_of_ble_eq_true rfl) ⟨Nat.le_of_ble_eq_true rfl, Nat.le_of_ble_eq_true rfl⟩ ⟨Nat.le_of_ble_eq_true rfl, Nat.le_of_ble_eq_true rfl⟩ dX6_moves_258 ?_
            refine lv_istore (lv' := [(6, .int (f_X6_part bt (38 : Int32) (46 : Int32))), (7, .int (f_X6_moves_x107b bt a1)), (5, .int (f_X6_part bt (26 : Int32) (35 : Int32))), (4, .int (f_X6_part bt (15 : Int32) (24 : Int32))), (3, .int (f_X6_moves_x11 a1)), (0, .ref h0), (1, .int a0), (2, .int a1)]) hx hb dX6_moves_261 hl (by decide) rfl (fun ls hl => ?_)
            refine lv_aload_n hx hb dX6_moves_263 rfl (lv_at hl 5 rfl) ?_
            refine va_get (D := D) (ci := 4) (v := .ref h2) (C := RX6) (T := TX6) (N := 15) hx hb htg inX6 hown hK hP 0 rfl rfl 1 (by decide) (htg _ fl_X6_129) (fun _ h9 => h9) rfl dX6_moves_264 ?_
            refine lv_aload_n hx hb dX6_moves_267 rfl (lv_at hl 5 rfl) ?_
            refine lv_iload_n hx hb dX6_moves_268 rfl (lv_at hl 6 rfl) ?_
            refine lv_bipush (v := 11) hx hb dX6_moves_269 (by decide) ?_
            refine rV (As := [.int a0, .int (11 : Int32)]) (rest := [.ref h2]) hx hb hml hown htg (c_X6_at l h0 a0 (11 : Int32)) Blind.tt ml_X6_284 im_X6_at se_X6_at ini_X6 co_X6_at rfl dn_X6_at rfl (va_recv hK hP (ci := 4) (q0 := 0) rfl rfl) (fun _ _ _ => trivial) hl.1 rfl (Nat.le_of_ble_eq_true rfl) ⟨Nat.le_of_ble_eq_true rfl, Nat.le_of_ble_eq_true rfl⟩ ⟨Nat.le_of_ble_eq_true rfl, Nat.le_of_ble_eq_true rfl⟩ dX6_moves_271 ?_
            refine lv_iload hx hb dX6_moves_274 (lv_at hl 0 rfl) ?_
            refine W.join (nL := 8) (lv := [(6, .int (f_X6_part bt (38 : Int32) (46 : Int32))), (7, .int (f_X6_moves_x107b bt a1)), (5, .int (f_X6_part bt (26 : Int32) (35 : Int32))), (4, .int (f_X6_part bt (15 : Int32) (24 : Int32))), (3, .int (f_X6_moves_x11 a1)), (0, .ref h0), (1, .int a0), (2, .int a1)]) (pc2 := 309) (st2 := [.int (if (f_X6_part bt (38 : Int32) (46 : Int32)) = 0 then (-2147483648 : Int32) else (if (f_X6_part bt (37 : Int32) (37 : Int32)) = (1 : Int32) then (((64 : Int32) * ((f_X6_part bt (38 : Int32) (46 : Int32)) - (1 : Int32))) * (-1 : Int32)) else (((64 : Int32) * ((f_X6_part bt (38 : Int32) (46 : Int32)) - (1 : Int32))) * (1 : Int32)))), .int (f_X6_at a0 (11 : Int32)), .ref h2]) (fun ls hl => ?_) (fun J => ?_)
            · refine va_iast' (j := (f_X6_at a0 (11 : Int32)).toNatClampNeg) hx hb hK hP hD hS 2 0 rfl rfl (atIn hix (by decide) (by decide)) rfl dX6_moves_309 (fun H locs hP hD hS => ?_)
              have hP : va_P D vwCl [(h0, .inr (4, [.ref h1, .ref h2, .int mn, .int lt, .ref h3, .int sz, .ref h4, .int hsz, .int hsy, .int hrt, .int hpl, .int ola, .int olo, .int lat, .int lon])), (h1, .inl (cJ, 58, .inr (.inl bd))), (h2, .inl (cI, 800, .inl (upd (upd (upd (upd rw (f_X6_at a0 (7 : Int32)).toNatClampNeg (f_X6_moves_x71b bt a1)) (f_X6_at a0 (8 : Int32)).toNatClampNeg (f_X6_moves_x107b bt a1)) (f_X6_at a0 (9 : Int32)).toNatClampNeg (if (f_X6_part bt (15 : Int32) (24 : Int32)) = 0 then (-2147483648 : Int32) else (if (f_X6_part bt (26 : Int32) (35 : Int32)) = 0 then (-2147483648 : Int32) else (f_X6_root ((64 : Int32) * (((f_X6_moves_x71b bt a1) * (f_X6_moves_x71b bt a1)) + ((f_X6_moves_x107b bt a1) * (f_X6_moves_x107b bt a1)))))))) (f_X6_at a0 (11 : Int32)).toNatClampNeg (if (f_X6_part bt (38 : Int32) (46 : Int32)) = 0 then (-2147483648 : Int32) else (if (f_X6_part bt (37 : Int32) (37 : Int32)) = (1 : Int32) then (((64 : Int32) * ((f_X6_part bt (38 : Int32) (46 : Int32)) - (1 : Int32))) * (-1 : Int32)) else (((64 : Int32) * ((f_X6_part bt (38 : Int32) (46 : Int32)) - (1 : Int32))) * (1 : Int32))))))), (h3, .inl (cI, 112, .inl bt)), (h4, .inl (cI, 112, .inl hd))] H := hP
              have hD : va_D A [(h0, .inr (4, [.ref h1, .ref h2, .int mn, .int lt, .ref h3, .int sz, .ref h4, .int hsz, .int hsy, .int hrt, .int hpl, .int ola, .int olo, .int lat, .int lon])), (h1, .inl (cJ, 58, .inr (.inl bd))), (h2, .inl (cI, 800, .inl (upd (upd (upd (upd rw (f_X6_at a0 (7 : Int32)).toNatClampNeg (f_X6_moves_x71b bt a1)) (f_X6_at a0 (8 : Int32)).toNatClampNeg (f_X6_moves_x107b bt a1)) (f_X6_at a0 (9 : Int32)).toNatClampNeg (if (f_X6_part bt (15 : Int32) (24 : Int32)) = 0 then (-2147483648 : Int32) else (if (f_X6_part bt (26 : Int32) (35 : Int32)) = 0 then (-2147483648 : Int32) else (f_X6_root ((64 : Int32) * (((f_X6_moves_x71b bt a1) * (f_X6_moves_x71b bt a1)) + ((f_X6_moves_x107b bt a1) * (f_X6_moves_x107b bt a1)))))))) (f_X6_at a0 (11 : Int32)).toNatClampNeg (if (f_X6_part bt (38 : Int32) (46 : Int32)) = 0 then (-2147483648 : Int32) else (if (f_X6_part bt (37 : Int32) (37 : Int32)) = (1 : Int32) then (((64 : Int32) * ((f_X6_part bt (38 : Int32) (46 : Int32)) - (1 : Int32))) * (-1 : Int32)) else (((64 : Int32) * ((f_X6_part bt (38 : Int32) (46 : Int32)) - (1 : Int32))) * (1 : Int32))))))), (h3, .inl (cI, 112, .inl bt)), (h4, .inl (cI, 112, .inl hd))] := hD
              exact wr_v hx hb hr hlocks hA hS (hP.eq (by simp only [f_X6_moves_rw, if_neg c_1])) dX6_moves_310
            · refine lv_if_ne (tgt := 284) hx hb dX6_moves_276 (by decide) (fun c_6 => ?_) (fun c_6 => ?_)
              · refine lv_bipush (v := 64) hx hb dX6_moves_284 (by decide) ?_
                refine lv_iload hx hb dX6_moves_286 (lv_at hl 0 rfl) ?_
                refine lv_iconst (v := 1) hx hb dX6_moves_288 (by decide) ?_
                refine lv_isub hx hb dX6_moves_289 ?_
                refine lv_imul hx hb dX6_moves_290 ?_
                refine lv_aload_n hx hb dX6_moves_291 rfl (lv_at hl 5 rfl) ?_
                refine lv_bipush (v := 37) hx hb dX6_moves_292 (by decide) ?_
                refine lv_bipush (v := 37) hx hb dX6_moves_294 (by decide) ?_
                refine rV (As := [.int (37 : Int32), .int (37 : Int32)]) (rest := [.int ((64 : Int32) * ((f_X6_part bt (38 : Int32) (46 : Int32)) - (1 : Int32))), .int (f_X6_at a0 (11 : Int32)), .ref h2]) hx hb hml hown htg (c_X6_part l D cI cJ cO h0 h1 h2 mn lt h3 sz h4 hsz hsy hrt hpl ola olo lat lon bd (upd (upd (upd rw (f_X6_at a0 (7 : Int32)).toNatClampNeg (f_X6_moves_x71b bt a1)) (f_X6_at a0 (8 : Int32)).toNatClampNeg (f_X6_moves_x107b bt a1)) (f_X6_at a0 (9 : Int32)).toNatClampNeg (if (f_X6_part bt (15 : Int32) (24 : Int32)) = 0 then (-2147483648 : Int32) else (if (f_X6_part bt (26 : Int32) (35 : Int32)) = 0 then (-2147483648 : Int32) else (f_X6_root ((64 : Int32) * (((f_X6_moves_x71b bt a1) * (f_X6_moves_x71b bt a1)) + ((f_X6_moves_x107b bt a1) * (f_X6_moves_x107b bt a1)))))))) bt hd (37 : Int32) (37 : Int32) ⟨by decide, by decide, by decide⟩) Blind.b0 ml_X6_320 im_X6_part se_X6_part ini_X6 co_X6_part rfl dn_X6_part rfl (va_recv hK hP (ci := 4) (q0 := 0) rfl rfl) (fun U hU hW => ⟨by rw [hU]; exact hP, va_K.moved hW.alike hK⟩) hl.1 rfl (Nat.le_of_ble_eq_true rfl) ⟨Nat.le_of_ble_eq_true rfl, Nat.le_of_ble_eq_true rfl⟩ ⟨Nat.le_of_ble_eq_true rfl, Nat.le_of_ble_eq_true rfl⟩ dX6_moves_296 ?_
                refine lv_iconst (v := 1) hx hb dX6_moves_299 (by decide) ?_
                refine lv_icmp_ne (tgt := 307) hx hb dX6_moves_300 (by decide) (fun c_7 => ?_) (fun c_7 => ?_)
                · refine lv_iconst (v := 1) hx hb dX6_moves_307 (by decide) ?_
                  refine lv_imul hx hb dX6_moves_308 ?_
                  exact W.eq (by first | simp only [if_neg c_6, if_neg c_7] | rfl) (J ls (lv_sub hl [0, 1, 2, 3, 4, 5, 6, 7] rfl))
                · refine lv_iconst (v := (-1)) hx hb dX6_moves_303 (by decide) ?_
                  refine lv_goto (tgt := 308) hx hb dX6_moves_304 (by decide) ?_
                  refine lv_imul hx hb dX6_moves_308 ?_
                  exact W.eq (by first | simp only [if_neg c_6, if_pos c_7] | rfl) (J ls (lv_sub hl [0, 1, 2, 3, 4, 5, 6, 7] rfl))
              · refine lv_ldc (v := (-2147483648)) hx hb hown (htg _ ct_X6_171) dX6_moves_279 ?_
                refine lv_goto (tgt := 309) hx hb dX6_moves_281 (by decide) ?_
                exact W.eq (by first | simp only [if_pos c_6] | rfl) (J ls (lv_sub hl [0, 1, 2, 3, 4, 5, 6, 7] rfl))
          · refine lv_if_eq (tgt := 158) hx hb dX6_moves_150 (by decide) (fun c_8 => ?_) (fun c_8 => ?_)
            · refine lv_ldc (v := (-2147483648)) hx hb hown (htg _ ct_X6_171) dX6_moves_158 ?_
              refine lv_goto (tgt := 180) hx hb dX6_moves_160 (by decide) ?_
              exact W.eq (by first | simp only [if_pos c_8] | rfl) (J ls (lv_sub hl [0, 1, 2, 3, 4, 5, 6, 7] rfl))
            · refine lv_iload hx hb dX6_moves_153 (lv_at hl 2 rfl) ?_
              refine lv_if_ne (tgt := 163) hx hb dX6_moves_155 (by decide) (fun c_9 => ?_) (fun c_9 => ?_)
              · refine lv_bipush (v := 64) hx hb dX6_moves_163 (by decide) ?_
                refine lv_iload hx hb dX6_moves_165 (lv_at hl 1 rfl) ?_
                refine lv_iload hx hb dX6_moves_167 (lv_at hl 1 rfl) ?_
                refine lv_imul hx hb dX6_moves_169 ?_
                refine lv_iload hx hb dX6_moves_170 (lv_at hl 0 rfl) ?_
                refine lv_iload hx hb dX6_moves_172 (lv_at hl 0 rfl) ?_
                refine lv_imul hx hb dX6_moves_174 ?_
                refine lv_iadd hx hb dX6_moves_175 ?_
                refine lv_imul hx hb dX6_moves_176 ?_
                refine rS (As := [.int ((64 : Int32) * (((f_X6_moves_x71b bt a1) * (f_X6_moves_x71b bt a1)) + ((f_X6_moves_x107b bt a1) * (f_X6_moves_x107b bt a1))))]) (rest := [.int (f_X6_at a0 (9 : Int32)), .ref h2]) hx hb hml hown htg (c_X6_root l ((64 : Int32) * (((f_X6_moves_x71b bt a1) * (f_X6_moves_x71b bt a1)) + ((f_X6_moves_x107b bt a1) * (f_X6_moves_x107b bt a1))))) Blind.tt ml_X6_336 st_X6_root ini_X6 co_X6_root dn_X6_root rfl (fun _ _ _ => trivial) hl.1 rfl (Nat.le_of_ble_eq_true rfl) ⟨Nat.le_of_ble_eq_true rfl, Nat.le_of_ble_eq_true rfl⟩ ⟨Nat.le_of_ble_eq_true rfl, Nat.le_of_ble_eq_true rfl⟩ dX6_moves_177 ?_
                exact W.eq (by first | simp only [if_neg c_8, if_neg c_9] | rfl) (J ls (lv_sub hl [0, 1, 2, 3, 4, 5, 6, 7] rfl))
              · refine lv_ldc (v := (-2147483648)) hx hb hown (htg _ ct_X6_171) dX6_moves_158 ?_
                refine lv_goto (tgt := 180) hx hb dX6_moves_160 (by decide) ?_
                exact W.eq (by first | simp only [if_neg c_8, if_pos c_9] | rfl) (J ls (lv_sub hl [0, 1, 2, 3, 4, 5, 6, 7] rfl))
        · refine lv_if_ne (tgt := 83) hx hb dX6_moves_75 (by decide) (fun c_10 => ?_) (fun c_10 => ?_)
          · refine lv_iload_n hx hb dX6_moves_83 rfl (lv_at hl 3 rfl) ?_
            refine lv_iload hx hb dX6_moves_84 (lv_at hl 1 rfl) ?_
            refine lv_iconst (v := 1) hx hb dX6_moves_86 (by decide) ?_
            refine lv_isub hx hb dX6_moves_87 ?_
            refine lv_imul hx hb dX6_moves_88 ?_
            refine lv_aload_n hx hb dX6_moves_89 rfl (lv_at hl 4 rfl) ?_
            refine lv_bipush (v := 25) hx hb dX6_moves_90 (by decide) ?_
            refine lv_bipush (v := 25) hx hb dX6_moves_92 (by decide) ?_
            refine rV (As := [.int (25 : Int32), .int (25 : Int32)]) (rest := [.int ((f_X6_moves_x11 a1) * ((f_X6_part bt (26 : Int32) (35 : Int32)) - (1 : Int32)))]) hx hb hml hown htg (c_X6_part l D cI cJ cO h0 h1 h2 mn lt h3 sz h4 hsz hsy hrt hpl ola olo lat lon bd rw bt hd (25 : Int32) (25 : Int32) ⟨by decide, by decide, by decide⟩) Blind.b0 ml_X6_320 im_X6_part se_X6_part ini_X6 co_X6_part rfl dn_X6_part rfl (va_recv hK hP (ci := 4) (q0 := 0) rfl rfl) (fun U hU hW => ⟨by rw [hU]; exact hP, va_K.moved hW.alike hK⟩) hl.1 rfl (Nat.le_of_ble_eq_true rfl) ⟨Nat.le_of_ble_eq_true rfl, Nat.le_of_ble_eq_true rfl⟩ ⟨Nat.le_of_ble_eq_true rfl, Nat.le_of_ble_eq_true rfl⟩ dX6_moves_94 ?_
            refine lv_iconst (v := 1) hx hb dX6_moves_97 (by decide) ?_
            refine lv_icmp_ne (tgt := 105) hx hb dX6_moves_98 (by decide) (fun c_11 => ?_) (fun c_11 => ?_)
            · refine lv_iconst (v := 1) hx hb dX6_moves_105 (by decide) ?_
              refine lv_imul hx hb dX6_moves_106 ?_
              exact W.eq (by first | simp only [if_neg c_10, if_neg c_11] | rfl) (J ls (lv_sub hl [0, 1, 2, 3, 4, 5, 6] rfl))
            · refine lv_iconst (v := (-1)) hx hb dX6_moves_101 (by decide) ?_
              refine lv_goto (tgt := 106) hx hb dX6_moves_102 (by decide) ?_
              refine lv_imul hx hb dX6_moves_106 ?_
              exact W.eq (by first | simp only [if_neg c_10, if_pos c_11] | rfl) (J ls (lv_sub hl [0, 1, 2, 3, 4, 5, 6] rfl))
          · refine lv_ldc (v := (-2147483648)) hx hb hown (htg _ ct_X6_171) dX6_moves_78 ?_
            refine lv_goto (tgt := 107) hx hb dX6_moves_80 (by decide) ?_
            exact W.eq (by first | simp only [if_pos c_10] | rfl) (J ls (lv_sub hl [0, 1, 2, 3, 4, 5, 6] rfl))
      · refine lv_if_ne (tgt := 47) hx hb dX6_moves_39 (by decide) (fun c_12 => ?_) (fun c_12 => ?_)
        · refine lv_iload_n hx hb dX6_moves_47 rfl (lv_at hl 2 rfl) ?_
          refine lv_iload hx hb dX6_moves_48 (lv_at hl 1 rfl) ?_
          refine lv_iconst (v := 1) hx hb dX6_moves_50 (by decide) ?_
          refine lv_isub hx hb dX6_moves_51 ?_
          refine lv_imul hx hb dX6_moves_52 ?_
          refine lv_aload_n hx hb dX6_moves_53 rfl (lv_at hl 3 rfl) ?_
          refine lv_bipush (v := 14) hx hb dX6_moves_54 (by decide) ?_
          refine lv_bipush (v := 14) hx hb dX6_moves_56 (by decide) ?_
          refine rV (As := [.int (14 : Int32), .int (14 : Int32)]) (rest := [.int ((f_X6_moves_x11 a1) * ((f_X6_part bt (15 : Int32) (24 : Int32)) - (1 : Int32)))]) hx hb hml hown htg (c_X6_part l D cI cJ cO h0 h1 h2 mn lt h3 sz h4 hsz hsy hrt hpl ola olo lat lon bd rw bt hd (14 : Int32) (14 : Int32) ⟨by decide, by decide, by decide⟩) Blind.b0 ml_X6_320 im_X6_part se_X6_part ini_X6 co_X6_part rfl dn_X6_part rfl (va_recv hK hP (ci := 4) (q0 := 0) rfl rfl) (fun U hU hW => ⟨by rw [hU]; exact hP, va_K.moved hW.alike hK⟩) hl.1 rfl (Nat.le_of_ble_eq_true rfl) ⟨Nat.le_of_ble_eq_true rfl, Nat.le_of_ble_eq_true rfl⟩ ⟨Nat.le_of_ble_eq_true rfl, Nat.le_of_ble_eq_true rfl⟩ dX6_moves_58 ?_
          refine lv_iconst (v := 1) hx hb dX6_moves_61 (by decide) ?_
          refine lv_icmp_ne (tgt := 69) hx hb dX6_moves_62 (by decide) (fun c_13 => ?_) (fun c_13 => ?_)
          · refine lv_iconst (v := 1) hx hb dX6_moves_69 (by decide) ?_
            refine lv_imul hx hb dX6_moves_70 ?_
            exact W.eq (by first | simp only [if_neg c_12, if_neg c_13] | rfl) (J ls (lv_sub hl [0, 1, 2, 3, 4, 5] rfl))
          · refine lv_iconst (v := (-1)) hx hb dX6_moves_65 (by decide) ?_
            refine lv_goto (tgt := 70) hx hb dX6_moves_66 (by decide) ?_
            refine lv_imul hx hb dX6_moves_70 ?_
            exact W.eq (by first | simp only [if_neg c_12, if_pos c_13] | rfl) (J ls (lv_sub hl [0, 1, 2, 3, 4, 5] rfl))
        · refine lv_ldc (v := (-2147483648)) hx hb hown (htg _ ct_X6_171) dX6_moves_42 ?_
          refine lv_goto (tgt := 71) hx hb dX6_moves_44 (by decide) ?_
          exact W.eq (by first | simp only [if_pos c_12] | rfl) (J ls (lv_sub hl [0, 1, 2, 3, 4, 5] rfl))
  · refine lv_if_ne (tgt := 10) hx hb dX6_moves_3 (by decide) (fun c_14 => ?_) (fun c_14 => ?_)
    · refine lv_iconst (v := 1) hx hb dX6_moves_10 (by decide) ?_
      exact W.eq (by first | simp only [if_neg c_14] | rfl) (J ls (lv_sub hl [0, 1, 2] rfl))
    · refine lv_iconst (v := 4) hx hb dX6_moves_6 (by decide) ?_
      refine lv_goto (tgt := 11) hx hb dX6_moves_7 (by decide) ?_
      exact W.eq (by first | simp only [if_pos c_14] | rfl) (J ls (lv_sub hl [0, 1, 2] rfl))

def f_X6_crafts (mn : Int32) : Int32 := mn
set_option maxHeartbeats 4000000 in
set_option maxRecDepth 100000 in
theorem c_X6_crafts (l : Launch) (D : va_G) (cI cJ cO : ClassId) (h0 : Nat) (h1 : Nat) (h2 : Nat) (mn : Int32) (lt : Int32) (h3 : Nat) (sz : Int32) (h4 : Nat) (hsz : Int32) (hsy : Int32) (hrt : Int32) (hpl : Int32) (ola : Int32) (olo : Int32) (lat : Int32) (lon : Int32) (bd : Nat → Int64) (rw : Nat → Int32) (bt : Nat → Int32) (hd : Nat → Int32) : Rd l yX6_crafts cX6_crafts 1 (some .int) 0 0 [.ref h0] (fun U => B0 D cI cJ cO [(h0, .inr (4, [.ref h1, .ref h2, .int mn, .int lt, .ref h3, .int sz, .ref h4, .int hsz, .int hsy, .int hrt, .int hpl, .int ola, .int olo, .int lat, .int lon])), (h1, .inl (cJ, 58, .inr (.inl bd))), (h2, .inl (cI, 800, .inl rw)), (h3, .inl (cI, 112, .inl bt)), (h4, .inl (cI, 112, .inl hd))] U) (some (.int (f_X6_crafts mn))) := by
  refine Rd.of (by decide +kernel) (Nat.le_of_ble_eq_true rfl) ?_
  intro p e s m args below meth c hx hb hr hml hown htg hlocks hB ls hl
  obtain ⟨hP, hK⟩ := hB
  have hP : va_P D vwCl [(h0, .inr (4, [.ref h1, .ref h2, .int mn, .int lt, .ref h3, .int sz, .ref h4, .int hsz, .int hsy, .int hrt, .int hpl, .int ola, .int olo, .int lat, .int lon])), (h1, .inl (cJ, 58, .inr (.inl bd))), (h2, .inl (cI, 800, .inl rw)), (h3, .inl (cI, 112, .inl bt)), (h4, .inl (cI, 112, .inl hd))] s.heap := hP
  have hown : s.vm.findClass RX6 = some m.cls := hown
  have hl : lv_has ls 1 [(0, .ref h0)] := hl
  refine lv_aload_n hx hb dX6_crafts_0 rfl (lv_at hl 0 rfl) ?_
  refine va_get (D := D) (ci := 4) (v := .int mn) (C := RX6) (T := TX6) (N := 15) hx hb htg inX6 hown hK hP 0 rfl rfl 2 (by decide) (htg _ fl_X6_281) (fun _ h9 => h9) rfl dX6_crafts_1 ?_
  exact rd_i hx hb hr hlocks (by simp only [f_X6_crafts]) dX6_crafts_4

def f_X6_isCraft (mn : Int32) (a0 : Int32) : Int32 := (if a0 < 0 then (0 : Int32) else (if mn ≤ a0 then (0 : Int32) else (1 : Int32)))
set_option maxHeartbeats 4000000 in
set_option maxRecDepth 100000 in
theorem c_X6_isCraft (l : Launch) (D : va_G) (cI cJ cO : ClassId) (h0 : Nat) (h1 : Nat) (h2 : Nat) (mn : Int32) (lt : Int32) (h3 : Nat) (sz : Int32) (h4 : Nat) (hsz : Int32) (hsy : Int32) (hrt : Int32) (hpl : Int32) (ola : Int32) (olo : Int32) (lat : Int32) (lon : Int32) (bd : Nat → Int64) (rw : Nat → Int32) (bt : Nat → Int32) (hd : Nat → Int32) (a0 : Int32) : Rd l yX6_isCraft cX6_isCraft 2 (some .boolean) 0 0 [.ref h0, .int a0] (fun U => B0 D cI cJ cO [(h0, .inr (4, [.ref h1, .ref h2, .int mn, .int lt, .ref h3, .int sz, .ref h4, .int hsz, .int hsy, .int hrt, .int hpl, .int ola, .int olo, .int lat, .int lon])), (h1, .inl (cJ, 58, .inr (.inl bd))), (h2, .inl (cI, 800, .inl rw)), (h3, .inl (cI, 112, .inl bt)), (h4, .inl (cI, 112, .inl hd))] U) (some (.int (f_X6_isCraft mn a0))) := by
  refine Rd.of (by decide +kernel) (Nat.le_of_ble_eq_true rfl) ?_
  intro p e s m args below meth c hx hb hr hml hown htg hlocks hB ls hl
  obtain ⟨hP, hK⟩ := hB
  have hP : va_P D vwCl [(h0, .inr (4, [.ref h1, .ref h2, .int mn, .int lt, .ref h3, .int sz, .ref h4, .int hsz, .int hsy, .int hrt, .int hpl, .int ola, .int olo, .int lat, .int lon])), (h1, .inl (cJ, 58, .inr (.inl bd))), (h2, .inl (cI, 800, .inl rw)), (h3, .inl (cI, 112, .inl bt)), (h4, .inl (cI, 112, .inl hd))] s.heap := hP
  have hown : s.vm.findClass RX6 = some m.cls := hown
  have hl : lv_has ls 2 [(0, .ref h0), (1, .int a0)] := hl
  refine lv_iload_n hx hb dX6_isCraft_0 rfl (lv_at hl 1 rfl) ?_
  refine lv_if_lt (tgt := 16) hx hb dX6_isCraft_1 (by decide) (fun c_1 => ?_) (fun c_1 => ?_)
  · refine lv_iconst (v := 0) hx hb dX6_isCraft_16 (by decide) ?_
    exact rd_z hx hb hr hlocks (by decide) (by simp only [f_X6_isCraft, if_pos c_1]) dX6_isCraft_17
  · refine lv_iload_n hx hb dX6_isCraft_4 rfl (lv_at hl 1 rfl) ?_
    refine lv_aload_n hx hb dX6_isCraft_5 rfl (lv_at hl 0 rfl) ?_
    refine va_get (D := D) (ci := 4) (v := .int mn) (C := RX6) (T := TX6) (N := 15) hx hb htg inX6 hown hK hP 0 rfl rfl 2 (by decide) (htg _ fl_X6_281) (fun _ h9 => h9) rfl dX6_isCraft_6 ?_
    refine lv_icmp_ge (tgt := 16) hx hb dX6_isCraft_9 (by decide) (fun c_2 => ?_) (fun c_2 => ?_)
    · refine lv_iconst (v := 0) hx hb dX6_isCraft_16 (by decide) ?_
      exact rd_z hx hb hr hlocks (by decide) (by simp only [f_X6_isCraft, if_neg c_1, if_pos c_2]) dX6_isCraft_17
    · refine lv_iconst (v := 1) hx hb dX6_isCraft_12 (by decide) ?_
      refine lv_goto (tgt := 17) hx hb dX6_isCraft_13 (by decide) ?_
      exact rd_z hx hb hr hlocks (by decide) (by simp only [f_X6_isCraft, if_neg c_1, if_neg c_2]) dX6_isCraft_17

theorem ct_in0 {mn a0 : Int32} (hm : 0 ≤ mn.toInt ∧ mn.toInt ≤ 20) (h : ¬ f_X6_isCraft mn a0 = 0) : 0 ≤ a0.toInt ∧ a0.toInt < 20 := by
  unfold f_X6_isCraft at h
  split at h
  · exact absurd rfl h
  · rename_i q1
    split at h
    · exact absurd rfl h
    · rename_i q2
      rw [fa_lt, i0] at q1
      rw [fa_le] at q2
      omega
theorem ct_in {mn a0 a1 : Int32} (hm : 0 ≤ mn.toInt ∧ mn.toInt ≤ 20) (h1 : ¬ f_X6_isCraft mn a0 = 0) (h2 : ¬ a1 < 0) (h3 : ¬ 18 ≤ a1) : vp_in (f_X6_at a0 a1) 800 := by
  rw [fa_lt, i0] at h2
  rw [fa_le] at h3
  have e18 : (18 : Int32).toInt = 18 := rfl
  exact atIn (ct_in0 hm h1) (by omega) (by omega)
theorem sg_in {mn a0 a1 : Int32} (hm : 0 ≤ mn.toInt ∧ mn.toInt ≤ 20) (h1 : ¬ f_X6_isCraft mn a0 = 0) (h2 : ¬ a1 < 0) (h3 : ¬ 8 ≤ a1) : vp_in (f_X6_at a0 (19 + a1)) 800 := by
  rw [fa_lt, i0] at h2
  rw [fa_le] at h3
  have e8 : (8 : Int32).toInt = 8 := rfl
  have e19 : (19 : Int32).toInt = 19 := rfl
  have e1 : (19 + a1).toInt = 19 + a1.toInt := by rw [fb_addI] <;> rw [e19] <;> omega
  exact atIn (ct_in0 hm h1) (by rw [e1]; omega) (by rw [e1]; omega)
def f_X6_craft (mn : Int32) (rw : Nat → Int32) (a0 : Int32) (a1 : Int32) : Int32 := (if (f_X6_isCraft mn a0) = 0 then (-1 : Int32) else (if a1 < 0 then (-1 : Int32) else (if (18 : Int32) ≤ a1 then (-1 : Int32) else (rw (f_X6_at a0 a1).toNatClampNeg))))
set_option maxHeartbeats 4000000 in
set_option maxRecDepth 100000 in
theorem c_X6_craft (l : Launch) (D : va_G) (cI cJ cO : ClassId) (h0 : Nat) (h1 : Nat) (h2 : Nat) (mn : Int32) (lt : Int32) (h3 : Nat) (sz : Int32) (h4 : Nat) (hsz : Int32) (hsy : Int32) (hrt : Int32) (hpl : Int32) (ola : Int32) (olo : Int32) (lat : Int32) (lon : Int32) (bd : Nat → Int64) (rw : Nat → Int32) (bt : Nat → Int32) (hd : Nat → Int32) (a0 : Int32) (a1 : Int32) (hm : 0 ≤ mn.toInt ∧ mn.toInt ≤ 20) : Rd l yX6_craft cX6_craft 3 (some .int) 1 22 [.ref h0, .int a0, .int a1] (fun U => B0 D cI cJ cO [(h0, .inr (4, [.ref h1, .ref h2, .int mn, .int lt, .ref h3, .int sz, .ref h4, .int hsz, .int hsy, .int hrt, .int hpl, .int ola, .int olo, .int lat, .int lon])), (h1, .inl (cJ, 58, .inr (.inl bd))), (h2, .inl (cI, 800, .inl rw)), (h3, .inl (cI, 112, .inl bt)), (h4, .inl (cI, 112, .inl hd))] U) (some (.int (f_X6_craft mn rw a0 a1))) := by
  refine Rd.of (by decide +kernel) (Nat.le_of_ble_eq_true rfl) ?_
  intro p e s m args below meth c hx hb hr hml hown htg hlocks hB ls hl
  obtain ⟨hP, hK⟩ := hB
  have hP : va_P D vwCl [(h0, .inr (4, [.ref h1, .ref h2, .int mn, .int lt, .ref h3, .int sz, .ref h4, .int hsz, .int hsy, .int hrt, .int hpl, .int ola, .int olo, .int lat, .int lon])), (h1, .inl (cJ, 58, .inr (.inl bd))), (h2, .inl (cI, 800, .inl rw)), (h3, .inl (cI, 112, .inl bt)), (h4, .inl (cI, 112, .inl hd))] s.heap := hP
  have hown : s.vm.findClass RX6 = some m.cls := hown
  have hl : lv_has ls 3 [(0, .ref h0), (1, .int a0), (2, .int a1)] := hl
  refine lv_aload_n hx hb dX6_craft_0 rfl (lv_at hl 0 rfl) ?_
  refine lv_iload_n hx hb dX6_craft_1 rfl (lv_at hl 1 rfl) ?_
  refine rV (As := [.int a0]) (rest := []) hx hb hml hown htg (c_X6_isCraft l D cI cJ cO h0 h1 h2 mn lt h3 sz h4 hsz hsy hrt hpl ola olo lat lon bd rw bt hd a0) Blind.b0 ml_X6_350 im_X6_isCraft se_X6_isCraft ini_X6 co_X6_isCraft rfl dn_X6_isCraft rfl (va_recv hK hP (ci := 4) (q0 := 0) rfl rfl) (fun U hU hW => ⟨by rw [hU]; exact hP, va_K.moved hW.alike hK⟩) hl.1 rfl (Nat.le_of_ble_eq_true rfl) ⟨Nat.le_of_ble_eq_true rfl, Nat.le_of_ble_eq_true rfl⟩ ⟨Nat.le_of_ble_eq_true rfl, Nat.le_of_ble_eq_true rfl⟩ dX6_craft_2 ?_
  refine lv_if_eq (tgt := 32) hx hb dX6_craft_5 (by decide) (fun c_1 => ?_) (fun c_1 => ?_)
  · refine lv_iconst (v := (-1)) hx hb dX6_craft_32 (by decide) ?_
    exact rd_i hx hb hr hlocks (by simp only [f_X6_craft, if_pos c_1]) dX6_craft_33
  · refine lv_iload_n hx hb dX6_craft_8 rfl (lv_at hl 2 rfl) ?_
    refine lv_if_lt (tgt := 32) hx hb dX6_craft_9 (by decide) (fun c_2 => ?_) (fun c_2 => ?_)
    · refine lv_iconst (v := (-1)) hx hb dX6_craft_32 (by decide) ?_
      exact rd_i hx hb hr hlocks (by simp only [f_X6_craft, if_neg c_1, if_pos c_2]) dX6_craft_33
    · refine lv_iload_n hx hb dX6_craft_12 rfl (lv_at hl 2 rfl) ?_
      refine lv_bipush (v := 18) hx hb dX6_craft_13 (by decide) ?_
      refine lv_icmp_ge (tgt := 32) hx hb dX6_craft_15 (by decide) (fun c_3 => ?_) (fun c_3 => ?_)
      · refine lv_iconst (v := (-1)) hx hb dX6_craft_32 (by decide) ?_
        exact rd_i hx hb hr hlocks (by simp only [f_X6_craft, if_neg c_1, if_neg c_2, if_pos c_3]) dX6_craft_33
      · refine lv_aload_n hx hb dX6_craft_18 rfl (lv_at hl 0 rfl) ?_
        refine va_get (D := D) (ci := 4) (v := .ref h2) (C := RX6) (T := TX6) (N := 15) hx hb htg inX6 hown hK hP 0 rfl rfl 1 (by decide) (htg _ fl_X6_129) (fun _ h9 => h9) rfl dX6_craft_19 ?_
        refine lv_aload_n hx hb dX6_craft_22 rfl (lv_at hl 0 rfl) ?_
        refine lv_iload_n hx hb dX6_craft_23 rfl (lv_at hl 1 rfl) ?_
        refine lv_iload_n hx hb dX6_craft_24 rfl (lv_at hl 2 rfl) ?_
        refine rV (As := [.int a0, .int a1]) (rest := [.ref h2]) hx hb hml hown htg (c_X6_at l h0 a0 a1) Blind.tt ml_X6_284 im_X6_at se_X6_at ini_X6 co_X6_at rfl dn_X6_at rfl (va_recv hK hP (ci := 4) (q0 := 0) rfl rfl) (fun _ _ _ => trivial) hl.1 rfl (Nat.le_of_ble_eq_true rfl) ⟨Nat.le_of_ble_eq_true rfl, Nat.le_of_ble_eq_true rfl⟩ ⟨Nat.le_of_ble_eq_true rfl, Nat.le_of_ble_eq_true rfl⟩ dX6_craft_25 ?_
        refine va_iald' (v := (rw (f_X6_at a0 a1).toNatClampNeg)) hx hb hK hP 2 0 rfl rfl (ct_in hm c_1 c_2 c_3) rfl dX6_craft_28 ?_
        refine lv_goto (tgt := 33) hx hb dX6_craft_29 (by decide) ?_
        exact rd_i hx hb hr hlocks (by simp only [f_X6_craft, if_neg c_1, if_neg c_2, if_neg c_3]) dX6_craft_33

def f_X6_sign (mn : Int32) (rw : Nat → Int32) (a0 : Int32) (a1 : Int32) : Int32 := (if (f_X6_isCraft mn a0) = 0 then (-1 : Int32) else (if a1 < 0 then (-1 : Int32) else (if (8 : Int32) ≤ a1 then (-1 : Int32) else (if (rw (f_X6_at a0 (18 : Int32)).toNatClampNeg) = (1 : Int32) then (rw (f_X6_at a0 ((19 : Int32) + a1)).toNatClampNeg) else (-1 : Int32)))))
set_option maxHeartbeats 4000000 in
set_option maxRecDepth 100000 in
theorem c_X6_sign (l : Launch) (D : va_G) (cI cJ cO : ClassId) (h0 : Nat) (h1 : Nat) (h2 : Nat) (mn : Int32) (lt : Int32) (h3 : Nat) (sz : Int32) (h4 : Nat) (hsz : Int32) (hsy : Int32) (hrt : Int32) (hpl : Int32) (ola : Int32) (olo : Int32) (lat : Int32) (lon : Int32) (bd : Nat → Int64) (rw : Nat → Int32) (bt : Nat → Int32) (hd : Nat → Int32) (a0 : Int32) (a1 : Int32) (hm : 0 ≤ mn.toInt ∧ mn.toInt ≤ 20) : Rd l yX6_sign cX6_sign 3 (some .int) 1 22 [.ref h0, .int a0, .int a1] (fun U => B0 D cI cJ cO [(h0, .inr (4, [.ref h1, .ref h2, .int mn, .int lt, .ref h3, .int sz, .ref h4, .int hsz, .int hsy, .int hrt, .int hpl, .int ola, .int olo, .int lat, .int lon])), (h1, .inl (cJ, 58, .inr (.inl bd))), (h2, .inl (cI, 800, .inl rw)), (h3, .inl (cI, 112, .inl bt)), (h4, .inl (cI, 112, .inl hd))] U) (some (.int (f_X6_sign mn rw a0 a1))) := by
  refine Rd.of (by decide +kernel) (Nat.le_of_ble_eq_true rfl) ?_
  intro p e s m args below meth c hx hb hr hml hown htg hlocks hB ls hl
  obtain ⟨hP, hK⟩ := hB
  have hP : va_P D vwCl [(h0, .inr (4, [.ref h1, .ref h2, .int mn, .int lt, .ref h3, .int sz, .ref h4, .int hsz, .int hsy, .int hrt, .int hpl, .int ola, .int olo, .int lat, .int lon])), (h1, .inl (cJ, 58, .inr (.inl bd))), (h2, .inl (cI, 800, .inl rw)), (h3, .inl (cI, 112, .inl bt)), (h4, .inl (cI, 112, .inl hd))] s.heap := hP
  have hown : s.vm.findClass RX6 = some m.cls := hown
  have hl : lv_has ls 3 [(0, .ref h0), (1, .int a0), (2, .int a1)] := hl
  refine lv_aload_n hx hb dX6_sign_0 rfl (lv_at hl 0 rfl) ?_
  refine lv_iload_n hx hb dX6_sign_1 rfl (lv_at hl 1 rfl) ?_
  refine rV (As := [.int a0]) (rest := []) hx hb hml hown htg (c_X6_isCraft l D cI cJ cO h0 h1 h2 mn lt h3 sz h4 hsz hsy hrt hpl ola olo lat lon bd rw bt hd a0) Blind.b0 ml_X6_350 im_X6_isCraft se_X6_isCraft ini_X6 co_X6_isCraft rfl dn_X6_isCraft rfl (va_recv hK hP (ci := 4) (q0 := 0) rfl rfl) (fun U hU hW => ⟨by rw [hU]; exact hP, va_K.moved hW.alike hK⟩) hl.1 rfl (Nat.le_of_ble_eq_true rfl) ⟨Nat.le_of_ble_eq_true rfl, Nat.le_of_ble_eq_true rfl⟩ ⟨Nat.le_of_ble_eq_true rfl, Nat.le_of_ble_eq_true rfl⟩ dX6_sign_2 ?_
  refine lv_if_eq (tgt := 51) hx hb dX6_sign_5 (by decide) (fun c_1 => ?_) (fun c_1 => ?_)
  · refine lv_iconst (v := (-1)) hx hb dX6_sign_51 (by decide) ?_
    exact rd_i hx hb hr hlocks (by simp only [f_X6_sign, if_pos c_1]) dX6_sign_52
  · refine lv_iload_n hx hb dX6_sign_8 rfl (lv_at hl 2 rfl) ?_
    refine lv_if_lt (tgt := 51) hx hb dX6_sign_9 (by decide) (fun c_2 => ?_) (fun c_2 => ?_)
    · refine lv_iconst (v := (-1)) hx hb dX6_sign_51 (by decide) ?_
      exact rd_i hx hb hr hlocks (by simp only [f_X6_sign, if_neg c_1, if_pos c_2]) dX6_sign_52
    · refine lv_iload_n hx hb dX6_sign_12 rfl (lv_at hl 2 rfl) ?_
      refine lv_bipush (v := 8) hx hb dX6_sign_13 (by decide) ?_
      refine lv_icmp_ge (tgt := 51) hx hb dX6_sign_15 (by decide) (fun c_3 => ?_) (fun c_3 => ?_)
      · refine lv_iconst (v := (-1)) hx hb dX6_sign_51 (by decide) ?_
        exact rd_i hx hb hr hlocks (by simp only [f_X6_sign, if_neg c_1, if_neg c_2, if_pos c_3]) dX6_sign_52
      · refine lv_aload_n hx hb dX6_sign_18 rfl (lv_at hl 0 rfl) ?_
        refine va_get (D := D) (ci := 4) (v := .ref h2) (C := RX6) (T := TX6) (N := 15) hx hb htg inX6 hown hK hP 0 rfl rfl 1 (by decide) (htg _ fl_X6_129) (fun _ h9 => h9) rfl dX6_sign_19 ?_
        refine lv_aload_n hx hb dX6_sign_22 rfl (lv_at hl 0 rfl) ?_
        refine lv_iload_n hx hb dX6_sign_23 rfl (lv_at hl 1 rfl) ?_
        refine lv_bipush (v := 18) hx hb dX6_sign_24 (by decide) ?_
        refine rV (As := [.int a0, .int (18 : Int32)]) (rest := [.ref h2]) hx hb hml hown htg (c_X6_at l h0 a0 (18 : Int32)) Blind.tt ml_X6_284 im_X6_at se_X6_at ini_X6 co_X6_at rfl dn_X6_at rfl (va_recv hK hP (ci := 4) (q0 := 0) rfl rfl) (fun _ _ _ => trivial) hl.1 rfl (Nat.le_of_ble_eq_true rfl) ⟨Nat.le_of_ble_eq_true rfl, Nat.le_of_ble_eq_true rfl⟩ ⟨Nat.le_of_ble_eq_true rfl, Nat.le_of_ble_eq_true rfl⟩ dX6_sign_26 ?_
        refine va_iald' (v := (rw (f_X6_at a0 (18 : Int32)).toNatClampNeg)) hx hb hK hP 2 0 rfl rfl (atIn (ct_in0 hm c_1) (by decide) (by decide)) rfl dX6_sign_29 ?_
        refine lv_iconst (v := 1) hx hb dX6_sign_30 (by decide) ?_
        refine lv_icmp_ne (tgt := 51) hx hb dX6_sign_31 (by decide) (fun c_4 => ?_) (fun c_4 => ?_)
        · refine lv_iconst (v := (-1)) hx hb dX6_sign_51 (by decide) ?_
          exact rd_i hx hb hr hlocks (by simp only [f_X6_sign, if_neg c_1, if_neg c_2, if_neg c_3, if_neg c_4]) dX6_sign_52
        · refine lv_aload_n hx hb dX6_sign_34 rfl (lv_at hl 0 rfl) ?_
          refine va_get (D := D) (ci := 4) (v := .ref h2) (C := RX6) (T := TX6) (N := 15) hx hb htg inX6 hown hK hP 0 rfl rfl 1 (by decide) (htg _ fl_X6_129) (fun _ h9 => h9) rfl dX6_sign_35 ?_
          refine lv_aload_n hx hb dX6_sign_38 rfl (lv_at hl 0 rfl) ?_
          refine lv_iload_n hx hb dX6_sign_39 rfl (lv_at hl 1 rfl) ?_
          refine lv_bipush (v := 19) hx hb dX6_sign_40 (by decide) ?_
          refine lv_iload_n hx hb dX6_sign_42 rfl (lv_at hl 2 rfl) ?_
          refine lv_iadd hx hb dX6_sign_43 ?_
          refine rV (As := [.int a0, .int ((19 : Int32) + a1)]) (rest := [.ref h2]) hx hb hml hown htg (c_X6_at l h0 a0 ((19 : Int32) + a1)) Blind.tt ml_X6_284 im_X6_at se_X6_at ini_X6 co_X6_at rfl dn_X6_at rfl (va_recv hK hP (ci := 4) (q0 := 0) rfl rfl) (fun _ _ _ => trivial) hl.1 rfl (Nat.le_of_ble_eq_true rfl) ⟨Nat.le_of_ble_eq_true rfl, Nat.le_of_ble_eq_true rfl⟩ ⟨Nat.le_of_ble_eq_true rfl, Nat.le_of_ble_eq_true rfl⟩ dX6_sign_44 ?_
          refine va_iald' (v := (rw (f_X6_at a0 ((19 : Int32) + a1)).toNatClampNeg)) hx hb hK hP 2 0 rfl rfl (sg_in hm c_1 c_2 c_3) rfl dX6_sign_47 ?_
          refine lv_goto (tgt := 52) hx hb dX6_sign_48 (by decide) ?_
          exact rd_i hx hb hr hlocks (by simp only [f_X6_sign, if_neg c_1, if_neg c_2, if_neg c_3, if_pos c_4]) dX6_sign_52

theorem bits_ok {hsz a0 a1 : Int32} (hz : 0 ≤ hsz.toInt ∧ hsz.toInt ≤ 112) (h1 : ¬ a0 < 1) (h2 : ¬ a1 < 1) (h3 : ¬ 32 < a1) (h4 : a0 ≤ hsz - a1 + 1) : 1 ≤ a0.toInt ∧ (a0 + a1 - 1).toInt ≤ 112 ∧ a0.toInt ≤ (a0 + a1 - 1).toInt + 1 := by
  rw [fa_lt, i1] at h1 h2
  rw [fa_lt] at h3
  have e32 : (32 : Int32).toInt = 32 := rfl
  have e1 : (hsz - a1).toInt = hsz.toInt - a1.toInt := by rw [fb_subI] <;> omega
  have e2 : (hsz - a1 + 1).toInt = hsz.toInt - a1.toInt + 1 := by rw [inc1 (by omega)]; omega
  rw [fa_le, e2] at h4
  have e3 : (a0 + a1).toInt = a0.toInt + a1.toInt := by rw [fb_addI] <;> omega
  have e4 : (a0 + a1 - 1).toInt = a0.toInt + a1.toInt - 1 := by rw [dec1 (by omega)]; omega
  omega
def f_X6_bits (hd : Nat → Int32) (hsz : Int32) (a0 : Int32) (a1 : Int32) : Int32 := (if a0 < (1 : Int32) then (0 : Int32) else (if a1 < (1 : Int32) then (0 : Int32) else (if (32 : Int32) < a1 then (0 : Int32) else (if a0 ≤ ((hsz - a1) + (1 : Int32)) then (f_X6_number hd a0 ((a0 + a1) - (1 : Int32))) else (0 : Int32)))))
set_option maxHeartbeats 4000000 in
set_option maxRecDepth 100000 in
theorem c_X6_bits (l : Launch) (D : va_G) (cI cJ cO : ClassId) (h0 : Nat) (h1 : Nat) (h2 : Nat) (mn : Int32) (lt : Int32) (h3 : Nat) (sz : Int32) (h4 : Nat) (hsz : Int32) (hsy : Int32) (hrt : Int32) (hpl : Int32) (ola : Int32) (olo : Int32) (lat : Int32) (lon : Int32) (bd : Nat → Int64) (rw : Nat → Int32) (bt : Nat → Int32) (hd : Nat → Int32) (a0 : Int32) (a1 : Int32) (hhz : 0 ≤ hsz.toInt ∧ hsz.toInt ≤ 112) : Rd l yX6_bits cX6_bits 3 (some .int) 1 25 [.ref h0, .int a0, .int a1] (fun U => B0 D cI cJ cO [(h0, .inr (4, [.ref h1, .ref h2, .int mn, .int lt, .ref h3, .int sz, .ref h4, .int hsz, .int hsy, .int hrt, .int hpl, .int ola, .int olo, .int lat, .int lon])), (h1, .inl (cJ, 58, .inr (.inl bd))), (h2, .inl (cI, 800, .inl rw)), (h3, .inl (cI, 112, .inl bt)), (h4, .inl (cI, 112, .inl hd))] U) (some (.int (f_X6_bits hd hsz a0 a1))) := by
  refine Rd.of (by decide +kernel) (Nat.le_of_ble_eq_true rfl) ?_
  intro p e s m args below meth c hx hb hr hml hown htg hlocks hB ls hl
  obtain ⟨hP, hK⟩ := hB
  have hP : va_P D vwCl [(h0, .inr (4, [.ref h1, .ref h2, .int mn, .int lt, .ref h3, .int sz, .ref h4, .int hsz, .int hsy, .int hrt, .int hpl, .int ola, .int olo, .int lat, .int lon])), (h1, .inl (cJ, 58, .inr (.inl bd))), (h2, .inl (cI, 800, .inl rw)), (h3, .inl (cI, 112, .inl bt)), (h4, .inl (cI, 112, .inl hd))] s.heap := hP
  have hown : s.vm.findClass RX6 = some m.cls := hown
  have hl : lv_has ls 3 [(0, .ref h0), (1, .int a0), (2, .int a1)] := hl
  refine lv_iload_n hx hb dX6_bits_0 rfl (lv_at hl 1 rfl) ?_
  refine lv_iconst (v := 1) hx hb dX6_bits_1 (by decide) ?_
  refine lv_icmp_lt (tgt := 28) hx hb dX6_bits_2 (by decide) (fun c_1 => ?_) (fun c_1 => ?_)
  · refine lv_iconst (v := 0) hx hb dX6_bits_28 (by decide) ?_
    exact rd_i hx hb hr hlocks (by simp only [f_X6_bits, if_pos c_1]) dX6_bits_29
  · refine lv_iload_n hx hb dX6_bits_5 rfl (lv_at hl 2 rfl) ?_
    refine lv_iconst (v := 1) hx hb dX6_bits_6 (by decide) ?_
    refine lv_icmp_lt (tgt := 28) hx hb dX6_bits_7 (by decide) (fun c_2 => ?_) (fun c_2 => ?_)
    · refine lv_iconst (v := 0) hx hb dX6_bits_28 (by decide) ?_
      exact rd_i hx hb hr hlocks (by simp only [f_X6_bits, if_neg c_1, if_pos c_2]) dX6_bits_29
    · refine lv_iload_n hx hb dX6_bits_10 rfl (lv_at hl 2 rfl) ?_
      refine lv_bipush (v := 32) hx hb dX6_bits_11 (by decide) ?_
      refine lv_icmp_gt (tgt := 28) hx hb dX6_bits_13 (by decide) (fun c_3 => ?_) (fun c_3 => ?_)
      · refine lv_iconst (v := 0) hx hb dX6_bits_28 (by decide) ?_
        exact rd_i hx hb hr hlocks (by simp only [f_X6_bits, if_neg c_1, if_neg c_2, if_pos c_3]) dX6_bits_29
      · refine lv_iload_n hx hb dX6_bits_16 rfl (lv_at hl 1 rfl) ?_
        refine lv_aload_n hx hb dX6_bits_17 rfl (lv_at hl 0 rfl) ?_
        refine va_get (D := D) (ci := 4) (v := .int hsz) (C := RX6) (T := TX6) (N := 15) hx hb htg inX6 hown hK hP 0 rfl rfl 7 (by decide) (htg _ fl_X6_304) (fun _ h9 => h9) rfl dX6_bits_18 ?_
        refine lv_iload_n hx hb dX6_bits_21 rfl (lv_at hl 2 rfl) ?_
        refine lv_isub hx hb dX6_bits_22 ?_
        refine lv_iconst (v := 1) hx hb dX6_bits_23 (by decide) ?_
        refine lv_iadd hx hb dX6_bits_24 ?_
        refine lv_icmp_le (tgt := 30) hx hb dX6_bits_25 (by decide) (fun c_4 => ?_) (fun c_4 => ?_)
        · refine lv_aload_n hx hb dX6_bits_30 rfl (lv_at hl 0 rfl) ?_
          refine lv_aload_n hx hb dX6_bits_31 rfl (lv_at hl 0 rfl) ?_
          refine va_get (D := D) (ci := 4) (v := .ref h4) (C := RX6) (T := TX6) (N := 15) hx hb htg inX6 hown hK hP 0 rfl rfl 6 (by decide) (htg _ fl_X6_136) (fun _ h9 => h9) rfl dX6_bits_32 ?_
          refine lv_iload_n hx hb dX6_bits_35 rfl (lv_at hl 1 rfl) ?_
          refine lv_iload_n hx hb dX6_bits_36 rfl (lv_at hl 1 rfl) ?_
          refine lv_iload_n hx hb dX6_bits_37 rfl (lv_at hl 2 rfl) ?_
          refine lv_iadd hx hb dX6_bits_38 ?_
          refine lv_iconst (v := 1) hx hb dX6_bits_39 (by decide) ?_
          refine lv_isub hx hb dX6_bits_40 ?_
          refine rV (As := [.ref h4, .int a0, .int ((a0 + a1) - (1 : Int32))]) (rest := []) hx hb hml hown htg (c_X6_number l D cI cJ cO h4 hd h0 a0 ((a0 + a1) - (1 : Int32)) (bits_ok hhz c_1 c_2 c_3 c_4)) Blind.b0 ml_X6_156 im_X6_number se_X6_number ini_X6 co_X6_number rfl dn_X6_number rfl (va_recv hK hP (ci := 4) (q0 := 0) rfl rfl) (fun U hU hW => ⟨by rw [hU]; exact hP.sub [4] rfl, va_K.moved hW.alike hK⟩) hl.1 rfl (Nat.le_of_ble_eq_true rfl) ⟨Nat.le_of_ble_eq_true rfl, Nat.le_of_ble_eq_true rfl⟩ ⟨Nat.le_of_ble_eq_true rfl, Nat.le_of_ble_eq_true rfl⟩ dX6_bits_41 ?_
          exact rd_i hx hb hr hlocks (by simp only [f_X6_bits, if_neg c_1, if_neg c_2, if_neg c_3, if_pos c_4]) dX6_bits_44
        · refine lv_iconst (v := 0) hx hb dX6_bits_28 (by decide) ?_
          exact rd_i hx hb hr hlocks (by simp only [f_X6_bits, if_neg c_1, if_neg c_2, if_neg c_3, if_neg c_4]) dX6_bits_29
