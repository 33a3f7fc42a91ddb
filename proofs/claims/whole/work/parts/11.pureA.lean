/-! methods that touch no cell: the class -/
def f_J9_floorDiv_f86c9 (a0 : Int64) (a1 : Int64) : Int64 := (if (0 : Int64) ≤ (a0 ^^^ a1) then (a0 / a1) else (if ((a0 / a1) * a1) = a0 then (a0 / a1) else ((a0 / a1) - (1 : Int64))))
set_option maxHeartbeats 4000000 in
set_option maxRecDepth 100000 in
theorem c_J9_floorDiv_f86c9 (l : Launch) (a0 : Int64) (a1 : Int64) (hn : ¬ a1 = 0) : Rd l yJ9_floorDiv_f86c9 cJ9_floorDiv_f86c9 6 (some .long) 0 0 [.long a0, .long a1] (fun _ => True) (some (.long (f_J9_floorDiv_f86c9 a0 a1))) := by
  refine Rd.of (by decide +kernel) (Nat.le_of_ble_eq_true rfl) ?_
  intro p e s m args below meth c hx hb hr hml hown htg hlocks hB ls hl
  have hown : s.vm.findClass RJ9 = some m.cls := hown
  have hl : lv_has ls 6 [(0, .long a0), (2, .long a1)] := hl
  refine lv_lload_n hx hb dJ9_floorDiv_f86c9_0 rfl (lv_at hl 0 rfl) ?_
  refine lv_lload_n hx hb dJ9_floorDiv_f86c9_1 rfl (lv_at hl 1 rfl) ?_
  refine lv_ldiv hx hb dJ9_floorDiv_f86c9_2 hn ?_
  refine lv_lstore (lv' := [(4, .long (a0 / a1)), (0, .long a0), (2, .long a1)]) hx hb dJ9_floorDiv_f86c9_3 hl (by decide) rfl (fun ls hl => ?_)
  refine lv_lload_n hx hb dJ9_floorDiv_f86c9_5 rfl (lv_at hl 1 rfl) ?_
  refine lv_lload_n hx hb dJ9_floorDiv_f86c9_6 rfl (lv_at hl 2 rfl) ?_
  refine lv_lxor hx hb dJ9_floorDiv_f86c9_7 ?_
  refine lv_lconst (v := 0) hx hb dJ9_floorDiv_f86c9_8 (by decide) ?_
  refine lc_ge (tgt := 27) hx hb dJ9_floorDiv_f86c9_9 dJ9_floorDiv_f86c9_10 (by decide) (fun c_1 => ?_) (fun c_1 => ?_)
  · refine lv_lload hx hb dJ9_floorDiv_f86c9_27 (lv_at hl 0 rfl) ?_
    exact rd_l hx hb hr hlocks (by simp only [f_J9_floorDiv_f86c9, if_pos c_1]) dJ9_floorDiv_f86c9_29
  · refine lv_lload hx hb dJ9_floorDiv_f86c9_13 (lv_at hl 0 rfl) ?_
    refine lv_lload_n hx hb dJ9_floorDiv_f86c9_15 rfl (lv_at hl 2 rfl) ?_
    refine lv_lmul hx hb dJ9_floorDiv_f86c9_16 ?_
    refine lv_lload_n hx hb dJ9_floorDiv_f86c9_17 rfl (lv_at hl 1 rfl) ?_
    refine lc_eq (tgt := 27) hx hb dJ9_floorDiv_f86c9_18 dJ9_floorDiv_f86c9_19 (by decide) (fun c_2 => ?_) (fun c_2 => ?_)
    · refine lv_lload hx hb dJ9_floorDiv_f86c9_27 (lv_at hl 0 rfl) ?_
      exact rd_l hx hb hr hlocks (by simp only [f_J9_floorDiv_f86c9, if_neg c_1, if_pos c_2]) dJ9_floorDiv_f86c9_29
    · refine lv_lload hx hb dJ9_floorDiv_f86c9_22 (lv_at hl 0 rfl) ?_
      refine lv_lconst (v := 1) hx hb dJ9_floorDiv_f86c9_24 (by decide) ?_
      refine lv_lsub hx hb dJ9_floorDiv_f86c9_25 ?_
      exact rd_l hx hb hr hlocks (by simp only [f_J9_floorDiv_f86c9, if_neg c_1, if_neg c_2]) dJ9_floorDiv_f86c9_26

def f_J9_floorMod_f86c9 (a0 : Int64) (a1 : Int64) : Int64 := (if (0 : Int64) ≤ (a0 ^^^ a1) then (a0 - a0 / a1 * a1) else (if (a0 - a0 / a1 * a1) = (0 : Int64) then (a0 - a0 / a1 * a1) else ((a0 - a0 / a1 * a1) + a1)))
set_option maxHeartbeats 4000000 in
set_option maxRecDepth 100000 in
theorem c_J9_floorMod_f86c9 (l : Launch) (a0 : Int64) (a1 : Int64) (hn : ¬ a1 = 0) : Rd l yJ9_floorMod_f86c9 cJ9_floorMod_f86c9 6 (some .long) 0 0 [.long a0, .long a1] (fun _ => True) (some (.long (f_J9_floorMod_f86c9 a0 a1))) := by
  refine Rd.of (by decide +kernel) (Nat.le_of_ble_eq_true rfl) ?_
  intro p e s m args below meth c hx hb hr hml hown htg hlocks hB ls hl
  have hown : s.vm.findClass RJ9 = some m.cls := hown
  have hl : lv_has ls 6 [(0, .long a0), (2, .long a1)] := hl
  refine lv_lload_n hx hb dJ9_floorMod_f86c9_0 rfl (lv_at hl 0 rfl) ?_
  refine lv_lload_n hx hb dJ9_floorMod_f86c9_1 rfl (lv_at hl 1 rfl) ?_
  refine lv_lrem hx hb dJ9_floorMod_f86c9_2 hn ?_
  refine lv_lstore (lv' := [(4, .long (a0 - a0 / a1 * a1)), (0, .long a0), (2, .long a1)]) hx hb dJ9_floorMod_f86c9_3 hl (by decide) rfl (fun ls hl => ?_)
  refine lv_lload_n hx hb dJ9_floorMod_f86c9_5 rfl (lv_at hl 1 rfl) ?_
  refine lv_lload_n hx hb dJ9_floorMod_f86c9_6 rfl (lv_at hl 2 rfl) ?_
  refine lv_lxor hx hb dJ9_floorMod_f86c9_7 ?_
  refine lv_lconst (v := 0) hx hb dJ9_floorMod_f86c9_8 (by decide) ?_
  refine lc_ge (tgt := 25) hx hb dJ9_floorMod_f86c9_9 dJ9_floorMod_f86c9_10 (by decide) (fun c_1 => ?_) (fun c_1 => ?_)
  · refine lv_lload hx hb dJ9_floorMod_f86c9_25 (lv_at hl 0 rfl) ?_
    exact rd_l hx hb hr hlocks (by simp only [f_J9_floorMod_f86c9, if_pos c_1]) dJ9_floorMod_f86c9_27
  · refine lv_lload hx hb dJ9_floorMod_f86c9_13 (lv_at hl 0 rfl) ?_
    refine lv_lconst (v := 0) hx hb dJ9_floorMod_f86c9_15 (by decide) ?_
    refine lc_eq (tgt := 25) hx hb dJ9_floorMod_f86c9_16 dJ9_floorMod_f86c9_17 (by decide) (fun c_2 => ?_) (fun c_2 => ?_)
    · refine lv_lload hx hb dJ9_floorMod_f86c9_25 (lv_at hl 0 rfl) ?_
      exact rd_l hx hb hr hlocks (by simp only [f_J9_floorMod_f86c9, if_neg c_1, if_pos c_2]) dJ9_floorMod_f86c9_27
    · refine lv_lload hx hb dJ9_floorMod_f86c9_20 (lv_at hl 0 rfl) ?_
      refine lv_lload_n hx hb dJ9_floorMod_f86c9_22 rfl (lv_at hl 2 rfl) ?_
      refine lv_ladd hx hb dJ9_floorMod_f86c9_23 ?_
      exact rd_l hx hb hr hlocks (by simp only [f_J9_floorMod_f86c9, if_neg c_1, if_neg c_2]) dJ9_floorMod_f86c9_24

def f_J9_abs_067f4 (a0 : Int64) : Int64 := (if (0 : Int64) ≤ a0 then a0 else (-a0))
set_option maxHeartbeats 4000000 in
set_option maxRecDepth 100000 in
theorem c_J9_abs_067f4 (l : Launch) (a0 : Int64) : Rd l yJ9_abs_067f4 cJ9_abs_067f4 2 (some .long) 0 0 [.long a0] (fun _ => True) (some (.long (f_J9_abs_067f4 a0))) := by
  refine Rd.of (by decide +kernel) (Nat.le_of_ble_eq_true rfl) ?_
  intro p e s m args below meth c hx hb hr hml hown htg hlocks hB ls hl
  have hown : s.vm.findClass RJ9 = some m.cls := hown
  have hl : lv_has ls 2 [(0, .long a0)] := hl
  refine lv_lload_n hx hb dJ9_abs_067f4_0 rfl (lv_at hl 0 rfl) ?_
  refine lv_lconst (v := 0) hx hb dJ9_abs_067f4_1 (by decide) ?_
  refine lc_ge (tgt := 11) hx hb dJ9_abs_067f4_2 dJ9_abs_067f4_3 (by decide) (fun c_1 => ?_) (fun c_1 => ?_)
  · refine lv_lload_n hx hb dJ9_abs_067f4_11 rfl (lv_at hl 0 rfl) ?_
    exact rd_l hx hb hr hlocks (by simp only [f_J9_abs_067f4, if_pos c_1]) dJ9_abs_067f4_12
  · refine lv_lload_n hx hb dJ9_abs_067f4_6 rfl (lv_at hl 0 rfl) ?_
    refine lv_lneg hx hb dJ9_abs_067f4_7 ?_
    refine lv_goto (tgt := 12) hx hb dJ9_abs_067f4_8 (by decide) ?_
    exact rd_l hx hb hr hlocks (by simp only [f_J9_abs_067f4, if_neg c_1]) dJ9_abs_067f4_12

def f_J9_max_7cf53 (a0 : Int32) (a1 : Int32) : Int32 := (if a0 < a1 then a1 else a0)
set_option maxHeartbeats 4000000 in
set_option maxRecDepth 100000 in
theorem c_J9_max_7cf53 (l : Launch) (a0 : Int32) (a1 : Int32) : Rd l yJ9_max_7cf53 cJ9_max_7cf53 2 (some .int) 0 0 [.int a0, .int a1] (fun _ => True) (some (.int (f_J9_max_7cf53 a0 a1))) := by
  refine Rd.of (by decide +kernel) (Nat.le_of_ble_eq_true rfl) ?_
  intro p e s m args below meth c hx hb hr hml hown htg hlocks hB ls hl
  have hown : s.vm.findClass RJ9 = some m.cls := hown
  have hl : lv_has ls 2 [(0, .int a0), (1, .int a1)] := hl
  refine lv_iload_n hx hb dJ9_max_7cf53_0 rfl (lv_at hl 0 rfl) ?_
  refine lv_iload_n hx hb dJ9_max_7cf53_1 rfl (lv_at hl 1 rfl) ?_
  refine lv_icmp_lt (tgt := 9) hx hb dJ9_max_7cf53_2 (by decide) (fun c_1 => ?_) (fun c_1 => ?_)
  · refine lv_iload_n hx hb dJ9_max_7cf53_9 rfl (lv_at hl 1 rfl) ?_
    exact rd_i hx hb hr hlocks (by simp only [f_J9_max_7cf53, if_pos c_1]) dJ9_max_7cf53_10
  · refine lv_iload_n hx hb dJ9_max_7cf53_5 rfl (lv_at hl 0 rfl) ?_
    refine lv_goto (tgt := 10) hx hb dJ9_max_7cf53_6 (by decide) ?_
    exact rd_i hx hb hr hlocks (by simp only [f_J9_max_7cf53, if_neg c_1]) dJ9_max_7cf53_10

def f_X1_three (a0 : Int32) (a1 : Int32) (a2 : Int32) (a3 : Int32) : Int32 := (((((a0 >>> (a1 &&& 31)) &&& (1 : Int32)) <<< ((2 : Int32) &&& 31)) ||| (((a0 >>> (a2 &&& 31)) &&& (1 : Int32)) <<< ((1 : Int32) &&& 31))) ||| ((a0 >>> (a3 &&& 31)) &&& (1 : Int32)))
set_option maxHeartbeats 4000000 in
set_option maxRecDepth 100000 in
theorem c_X1_three (l : Launch) (a0 : Int32) (a1 : Int32) (a2 : Int32) (a3 : Int32) : Rd l yX1_three cX1_three 4 (some .int) 0 0 [.int a0, .int a1, .int a2, .int a3] (fun _ => True) (some (.int (f_X1_three a0 a1 a2 a3))) := by
  refine Rd.of (by decide +kernel) (Nat.le_of_ble_eq_true rfl) ?_
  intro p e s m args below meth c hx hb hr hml hown htg hlocks hB ls hl
  have hown : s.vm.findClass RX1 = some m.cls := hown
  have hl : lv_has ls 4 [(0, .int a0), (1, .int a1), (2, .int a2), (3, .int a3)] := hl
  refine lv_iload_n hx hb dX1_three_0 rfl (lv_at hl 0 rfl) ?_
  refine lv_iload_n hx hb dX1_three_1 rfl (lv_at hl 1 rfl) ?_
  refine lv_ishr hx hb dX1_three_2 ?_
  refine lv_iconst (v := 1) hx hb dX1_three_3 (by decide) ?_
  refine lv_iand hx hb dX1_three_4 ?_
  refine lv_iconst (v := 2) hx hb dX1_three_5 (by decide) ?_
  refine lv_ishl hx hb dX1_three_6 ?_
  refine lv_iload_n hx hb dX1_three_7 rfl (lv_at hl 0 rfl) ?_
  refine lv_iload_n hx hb dX1_three_8 rfl (lv_at hl 2 rfl) ?_
  refine lv_ishr hx hb dX1_three_9 ?_
  refine lv_iconst (v := 1) hx hb dX1_three_10 (by decide) ?_
  refine lv_iand hx hb dX1_three_11 ?_
  refine lv_iconst (v := 1) hx hb dX1_three_12 (by decide) ?_
  refine lv_ishl hx hb dX1_three_13 ?_
  refine lv_ior hx hb dX1_three_14 ?_
  refine lv_iload_n hx hb dX1_three_15 rfl (lv_at hl 0 rfl) ?_
  refine lv_iload_n hx hb dX1_three_16 rfl (lv_at hl 3 rfl) ?_
  refine lv_ishr hx hb dX1_three_17 ?_
  refine lv_iconst (v := 1) hx hb dX1_three_18 (by decide) ?_
  refine lv_iand hx hb dX1_three_19 ?_
  refine lv_ior hx hb dX1_three_20 ?_
  exact rd_i hx hb hr hlocks (by simp only [f_X1_three]) dX1_three_21

def f_X1_ofGray (a0 : Int32) : Int32 := (((a0 ^^^ (a0 >>> ((4 : Int32) &&& 31))) ^^^ ((a0 ^^^ (a0 >>> ((4 : Int32) &&& 31))) >>> ((2 : Int32) &&& 31))) ^^^ (((a0 ^^^ (a0 >>> ((4 : Int32) &&& 31))) ^^^ ((a0 ^^^ (a0 >>> ((4 : Int32) &&& 31))) >>> ((2 : Int32) &&& 31))) >>> ((1 : Int32) &&& 31)))
set_option maxHeartbeats 4000000 in
set_option maxRecDepth 100000 in
theorem c_X1_ofGray (l : Launch) (a0 : Int32) : Rd l yX1_ofGray cX1_ofGray 2 (some .int) 0 0 [.int a0] (fun _ => True) (some (.int (f_X1_ofGray a0))) := by
  refine Rd.of (by decide +kernel) (Nat.le_of_ble_eq_true rfl) ?_
  intro p e s m args below meth c hx hb hr hml hown htg hlocks hB ls hl
  have hown : s.vm.findClass RX1 = some m.cls := hown
  have hl : lv_has ls 2 [(0, .int a0)] := hl
  refine lv_iload_n hx hb dX1_ofGray_0 rfl (lv_at hl 0 rfl) ?_
  refine lv_iload_n hx hb dX1_ofGray_1 rfl (lv_at hl 0 rfl) ?_
  refine lv_iconst (v := 4) hx hb dX1_ofGray_2 (by decide) ?_
  refine lv_ishr hx hb dX1_ofGray_3 ?_
  refine lv_ixor hx hb dX1_ofGray_4 ?_
  refine lv_istore_n (lv' := [(1, .int (a0 ^^^ (a0 >>> ((4 : Int32) &&& 31)))), (0, .int a0)]) hx hb dX1_ofGray_5 rfl hl (by decide) rfl (fun ls hl => ?_)
  refine lv_iload_n hx hb dX1_ofGray_6 rfl (lv_at hl 0 rfl) ?_
  refine lv_iload_n hx hb dX1_ofGray_7 rfl (lv_at hl 0 rfl) ?_
  refine lv_iconst (v := 2) hx hb dX1_ofGray_8 (by decide) ?_
  refine lv_ishr hx hb dX1_ofGray_9 ?_
  refine lv_ixor hx hb dX1_ofGray_10 ?_
  refine lv_istore_n (lv' := [(1, .int ((a0 ^^^ (a0 >>> ((4 : Int32) &&& 31))) ^^^ ((a0 ^^^ (a0 >>> ((4 : Int32) &&& 31))) >>> ((2 : Int32) &&& 31)))), (0, .int a0)]) hx hb dX1_ofGray_11 rfl hl (by decide) rfl (fun ls hl => ?_)
  refine lv_iload_n hx hb dX1_ofGray_12 rfl (lv_at hl 0 rfl) ?_
  refine lv_iload_n hx hb dX1_ofGray_13 rfl (lv_at hl 0 rfl) ?_
  refine lv_iconst (v := 1) hx hb dX1_ofGray_14 (by decide) ?_
  refine lv_ishr hx hb dX1_ofGray_15 ?_
  refine lv_ixor hx hb dX1_ofGray_16 ?_
  exact rd_i hx hb hr hlocks (by simp only [f_X1_ofGray]) dX1_ofGray_17

def f_X1_altitudeOfGray (a0 : Int32) : Int32 := (if (f_X1_ofGray (f_X1_three a0 (12 : Int32) (10 : Int32) (8 : Int32))) = 0 then (-2147483648 : Int32) else (if (f_X1_ofGray (f_X1_three a0 (12 : Int32) (10 : Int32) (8 : Int32))) = (5 : Int32) then (-2147483648 : Int32) else (if (f_X1_ofGray (f_X1_three a0 (12 : Int32) (10 : Int32) (8 : Int32))) = (6 : Int32) then (-2147483648 : Int32) else ((((500 : Int32) * (f_X1_ofGray (((((((a0 >>> ((2 : Int32) &&& 31)) &&& (1 : Int32)) <<< ((1 : Int32) &&& 31)) ||| (a0 &&& (1 : Int32))) <<< ((6 : Int32) &&& 31)) ||| ((f_X1_three a0 (11 : Int32) (9 : Int32) (7 : Int32)) <<< ((3 : Int32) &&& 31))) ||| (f_X1_three a0 (5 : Int32) (3 : Int32) (1 : Int32))))) + ((100 : Int32) * (if ((f_X1_ofGray (((((((a0 >>> ((2 : Int32) &&& 31)) &&& (1 : Int32)) <<< ((1 : Int32) &&& 31)) ||| (a0 &&& (1 : Int32))) <<< ((6 : Int32) &&& 31)) ||| ((f_X1_three a0 (11 : Int32) (9 : Int32) (7 : Int32)) <<< ((3 : Int32) &&& 31))) ||| (f_X1_three a0 (5 : Int32) (3 : Int32) (1 : Int32)))) &&& (1 : Int32)) = (1 : Int32) then ((6 : Int32) - (if (f_X1_ofGray (f_X1_three a0 (12 : Int32) (10 : Int32) (8 : Int32))) = (7 : Int32) then (5 : Int32) else (f_X1_ofGray (f_X1_three a0 (12 : Int32) (10 : Int32) (8 : Int32))))) else (if (f_X1_ofGray (f_X1_three a0 (12 : Int32) (10 : Int32) (8 : Int32))) = (7 : Int32) then (5 : Int32) else (f_X1_ofGray (f_X1_three a0 (12 : Int32) (10 : Int32) (8 : Int32))))))) - (1300 : Int32)))))
set_option maxHeartbeats 4000000 in
set_option maxRecDepth 100000 in
theorem c_X1_altitudeOfGray (l : Launch) (a0 : Int32) : Rd l yX1_altitudeOfGray cX1_altitudeOfGray 4 (some .int) 1 23 [.int a0] (fun _ => True) (some (.int (f_X1_altitudeOfGray a0))) := by
  refine Rd.of (by decide +kernel) (Nat.le_of_ble_eq_true rfl) ?_
  intro p e s m args below meth c hx hb hr hml hown htg hlocks hB ls hl
  have hown : s.vm.findClass RX1 = some m.cls := hown
  have hl : lv_has ls 4 [(0, .int a0)] := hl
  refine lv_iload_n hx hb dX1_altitudeOfGray_0 rfl (lv_at hl 0 rfl) ?_
  refine lv_iconst (v := 2) hx hb dX1_altitudeOfGray_1 (by decide) ?_
  refine lv_ishr hx hb dX1_altitudeOfGray_2 ?_
  refine lv_iconst (v := 1) hx hb dX1_altitudeOfGray_3 (by decide) ?_
  refine lv_iand hx hb dX1_altitudeOfGray_4 ?_
  refine lv_iconst (v := 1) hx hb dX1_altitudeOfGray_5 (by decide) ?_
  refine lv_ishl hx hb dX1_altitudeOfGray_6 ?_
  refine lv_iload_n hx hb dX1_altitudeOfGray_7 rfl (lv_at hl 0 rfl) ?_
  refine lv_iconst (v := 1) hx hb dX1_altitudeOfGray_8 (by decide) ?_
  refine lv_iand hx hb dX1_altitudeOfGray_9 ?_
  refine lv_ior hx hb dX1_altitudeOfGray_10 ?_
  refine lv_istore_n (lv' := [(1, .int ((((a0 >>> ((2 : Int32) &&& 31)) &&& (1 : Int32)) <<< ((1 : Int32) &&& 31)) ||| (a0 &&& (1 : Int32)))), (0, .int a0)]) hx hb dX1_altitudeOfGray_11 rfl hl (by decide) rfl (fun ls hl => ?_)
  refine lv_iload_n hx hb dX1_altitudeOfGray_12 rfl (lv_at hl 0 rfl) ?_
  refine lv_bipush (v := 6) hx hb dX1_altitudeOfGray_13 (by decide) ?_
  refine lv_ishl hx hb dX1_altitudeOfGray_15 ?_
  refine lv_iload_n hx hb dX1_altitudeOfGray_16 rfl (lv_at hl 1 rfl) ?_
  refine lv_bipush (v := 11) hx hb dX1_altitudeOfGray_17 (by decide) ?_
  refine lv_bipush (v := 9) hx hb dX1_altitudeOfGray_19 (by decide) ?_
  refine lv_bipush (v := 7) hx hb dX1_altitudeOfGray_21 (by decide) ?_
  refine rS (As := [.int a0, .int (11 : Int32), .int (9 : Int32), .int (7 : Int32)]) (rest := [.int (((((a0 >>> ((2 : Int32) &&& 31)) &&& (1 : Int32)) <<< ((1 : Int32) &&& 31)) ||| (a0 &&& (1 : Int32))) <<< ((6 : Int32) &&& 31))]) hx hb hml hown htg (c_X1_three l a0 (11 : Int32) (9 : Int32) (7 : Int32)) Blind.tt ml_X1_16 st_X1_three ini_X1 co_X1_three dn_X1_three rfl (fun _ _ _ => trivial) hl.1 rfl (Nat.le_of_ble_eq_true rfl) ⟨Nat.le_of_ble_eq_true rfl, Nat.le_of_ble_eq_true rfl⟩ ⟨Nat.le_of_ble_eq_true rfl, Nat.le_of_ble_eq_true rfl⟩ dX1_altitudeOfGray_23 ?_
  refine lv_iconst (v := 3) hx hb dX1_altitudeOfGray_26 (by decide) ?_
  refine lv_ishl hx hb dX1_altitudeOfGray_27 ?_
  refine lv_ior hx hb dX1_altitudeOfGray_28 ?_
  refine lv_iload_n hx hb dX1_altitudeOfGray_29 rfl (lv_at hl 1 rfl) ?_
  refine lv_iconst (v := 5) hx hb dX1_altitudeOfGray_30 (by decide) ?_
  refine lv_iconst (v := 3) hx hb dX1_altitudeOfGray_31 (by decide) ?_
  refine lv_iconst (v := 1) hx hb dX1_altitudeOfGray_32 (by decide) ?_
  refine rS (As := [.int a0, .int (5 : Int32), .int (3 : Int32), .int (1 : Int32)]) (rest := [.int ((((((a0 >>> ((2 : Int32) &&& 31)) &&& (1 : Int32)) <<< ((1 : Int32) &&& 31)) ||| (a0 &&& (1 : Int32))) <<< ((6 : Int32) &&& 31)) ||| ((f_X1_three a0 (11 : Int32) (9 : Int32) (7 : Int32)) <<< ((3 : Int32) &&& 31)))]) hx hb hml hown htg (c_X1_three l a0 (5 : Int32) (3 : Int32) (1 : Int32)) Blind.tt ml_X1_16 st_X1_three ini_X1 co_X1_three dn_X1_three rfl (fun _ _ _ => trivial) hl.1 rfl (Nat.le_of_ble_eq_true rfl) ⟨Nat.le_of_ble_eq_true rfl, Nat.le_of_ble_eq_true rfl⟩ ⟨Nat.le_of_ble_eq_true rfl, Nat.le_of_ble_eq_true rfl⟩ dX1_altitudeOfGray_33 ?_
  refine lv_ior hx hb dX1_altitudeOfGray_36 ?_
  refine rS (As := [.int (((((((a0 >>> ((2 : Int32) &&& 31)) &&& (1 : Int32)) <<< ((1 : Int32) &&& 31)) ||| (a0 &&& (1 : Int32))) <<< ((6 : Int32) &&& 31)) ||| ((f_X1_three a0 (11 : Int32) (9 : Int32) (7 : Int32)) <<< ((3 : Int32) &&& 31))) ||| (f_X1_three a0 (5 : Int32) (3 : Int32) (1 : Int32)))]) (rest := []) hx hb hml hown htg (c_X1_ofGray l (((((((a0 >>> ((2 : Int32) &&& 31)) &&& (1 : Int32)) <<< ((1 : Int32) &&& 31)) ||| (a0 &&& (1 : Int32))) <<< ((6 : Int32) &&& 31)) ||| ((f_X1_three a0 (11 : Int32) (9 : Int32) (7 : Int32)) <<< ((3 : Int32) &&& 31))) ||| (f_X1_three a0 (5 : Int32) (3 : Int32) (1 : Int32)))) Blind.tt ml_X1_20 st_X1_ofGray ini_X1 co_X1_ofGray dn_X1_ofGray rfl (fun _ _ _ => trivial) hl.1 rfl (Nat.le_of_ble_eq_true rfl) ⟨Nat.le_of_ble_eq_true rfl, Nat.le_of_ble_eq_true rfl⟩ ⟨Nat.le_of_ble_eq_true rfl, Nat.le_of_ble_eq_true rfl⟩ dX1_altitudeOfGray_37 ?_
  refine lv_istore_n (lv' := [(2, .int (f_X1_ofGray (((((((a0 >>> ((2 : Int32) &&& 31)) &&& (1 : Int32)) <<< ((1 : Int32) &&& 31)) ||| (a0 &&& (1 : Int32))) <<< ((6 : Int32) &&& 31)) ||| ((f_X1_three a0 (11 : Int32) (9 : Int32) (7 : Int32)) <<< ((3 : Int32) &&& 31))) ||| (f_X1_three a0 (5 : Int32) (3 : Int32) (1 : Int32))))), (1, .int ((((a0 >>> ((2 : Int32) &&& 31)) &&& (1 : Int32)) <<< ((1 : Int32) &&& 31)) ||| (a0 &&& (1 : Int32)))), (0, .int a0)]) hx hb dX1_altitudeOfGray_40 rfl hl (by decide) rfl (fun ls hl => ?_)
  refine lv_iload_n hx hb dX1_altitudeOfGray_41 rfl (lv_at hl 2 rfl) ?_
  refine lv_bipush (v := 12) hx hb dX1_altitudeOfGray_42 (by decide) ?_
  refine lv_bipush (v := 10) hx hb dX1_altitudeOfGray_44 (by decide) ?_
  refine lv_bipush (v := 8) hx hb dX1_altitudeOfGray_46 (by decide) ?_
  refine rS (As := [.int a0, .int (12 : Int32), .int (10 : Int32), .int (8 : Int32)]) (rest := []) hx hb hml hown htg (c_X1_three l a0 (12 : Int32) (10 : Int32) (8 : Int32)) Blind.tt ml_X1_16 st_X1_three ini_X1 co_X1_three dn_X1_three rfl (fun _ _ _ => trivial) hl.1 rfl (Nat.le_of_ble_eq_true rfl) ⟨Nat.le_of_ble_eq_true rfl, Nat.le_of_ble_eq_true rfl⟩ ⟨Nat.le_of_ble_eq_true rfl, Nat.le_of_ble_eq_true rfl⟩ dX1_altitudeOfGray_48 ?_
  refine rS (As := [.int (f_X1_three a0 (12 : Int32) (10 : Int32) (8 : Int32))]) (rest := []) hx hb hml hown htg (c_X1_ofGray l (f_X1_three a0 (12 : Int32) (10 : Int32) (8 : Int32))) Blind.tt ml_X1_20 st_X1_ofGray ini_X1 co_X1_ofGray dn_X1_ofGray rfl (fun _ _ _ => trivial) hl.1 rfl (Nat.le_of_ble_eq_true rfl) ⟨Nat.le_of_ble_eq_true rfl, Nat.le_of_ble_eq_true rfl⟩ ⟨Nat.le_of_ble_eq_true rfl, Nat.le_of_ble_eq_true rfl⟩ dX1_altitudeOfGray_51 ?_
  refine lv_istore_n (lv' := [(3, .int (f_X1_ofGray (f_X1_three a0 (12 : Int32) (10 : Int32) (8 : Int32)))), (2, .int (f_X1_ofGray (((((((a0 >>> ((2 : Int32) &&& 31)) &&& (1 : Int32)) <<< ((1 : Int32) &&& 31)) ||| (a0 &&& (1 : Int32))) <<< ((6 : Int32) &&& 31)) ||| ((f_X1_three a0 (11 : Int32) (9 : Int32) (7 : Int32)) <<< ((3 : Int32) &&& 31))) ||| (f_X1_three a0 (5 : Int32) (3 : Int32) (1 : Int32))))), (1, .int ((((a0 >>> ((2 : Int32) &&& 31)) &&& (1 : Int32)) <<< ((1 : Int32) &&& 31)) ||| (a0 &&& (1 : Int32)))), (0, .int a0)]) hx hb dX1_altitudeOfGray_54 rfl hl (by decide) rfl (fun ls hl => ?_)
  refine lv_iload_n hx hb dX1_altitudeOfGray_55 rfl (lv_at hl 0 rfl) ?_
  refine lv_if_eq (tgt := 70) hx hb dX1_altitudeOfGray_56 (by decide) (fun c_1 => ?_) (fun c_1 => ?_)
  · refine lv_ldc (v := (-2147483648)) hx hb hown (htg _ ct_X1_11) dX1_altitudeOfGray_70 ?_
    exact rd_i hx hb hr hlocks (by simp only [f_X1_altitudeOfGray, if_pos c_1]) dX1_altitudeOfGray_72
  · refine lv_iload_n hx hb dX1_altitudeOfGray_59 rfl (lv_at hl 0 rfl) ?_
    refine lv_iconst (v := 5) hx hb dX1_altitudeOfGray_60 (by decide) ?_
    refine lv_icmp_eq (tgt := 70) hx hb dX1_altitudeOfGray_61 (by decide) (fun c_2 => ?_) (fun c_2 => ?_)
    · refine lv_ldc (v := (-2147483648)) hx hb hown (htg _ ct_X1_11) dX1_altitudeOfGray_70 ?_
      exact rd_i hx hb hr hlocks (by simp only [f_X1_altitudeOfGray, if_neg c_1, if_pos c_2]) dX1_altitudeOfGray_72
    · refine lv_iload_n hx hb dX1_altitudeOfGray_64 rfl (lv_at hl 0 rfl) ?_
      refine lv_bipush (v := 6) hx hb dX1_altitudeOfGray_65 (by decide) ?_
      refine lv_icmp_ne (tgt := 73) hx hb dX1_altitudeOfGray_67 (by decide) (fun c_3 => ?_) (fun c_3 => ?_)
      · refine lv_iload_n hx hb dX1_altitudeOfGray_73 rfl (lv_at hl 0 rfl) ?_
        refine lv_bipush (v := 7) hx hb dX1_altitudeOfGray_74 (by decide) ?_
        refine W.join (nL := 4) (lv := [(3, .int (if (f_X1_ofGray (f_X1_three a0 (12 : Int32) (10 : Int32) (8 : Int32))) = (7 : Int32) then (5 : Int32) else (f_X1_ofGray (f_X1_three a0 (12 : Int32) (10 : Int32) (8 : Int32))))), (2, .int (f_X1_ofGray (((((((a0 >>> ((2 : Int32) &&& 31)) &&& (1 : Int32)) <<< ((1 : Int32) &&& 31)) ||| (a0 &&& (1 : Int32))) <<< ((6 : Int32) &&& 31)) ||| ((f_X1_three a0 (11 : Int32) (9 : Int32) (7 : Int32)) <<< ((3 : Int32) &&& 31))) ||| (f_X1_three a0 (5 : Int32) (3 : Int32) (1 : Int32))))), (1, .int ((((a0 >>> ((2 : Int32) &&& 31)) &&& (1 : Int32)) <<< ((1 : Int32) &&& 31)) ||| (a0 &&& (1 : Int32)))), (0, .int a0)]) (pc2 := 81) (st2 := []) (fun ls hl => ?_) (fun J => ?_)
        · refine lv_iload_n hx hb dX1_altitudeOfGray_81 rfl (lv_at hl 1 rfl) ?_
          refine lv_iconst (v := 1) hx hb dX1_altitudeOfGray_82 (by decide) ?_
          refine lv_iand hx hb dX1_altitudeOfGray_83 ?_
          refine lv_iconst (v := 1) hx hb dX1_altitudeOfGray_84 (by decide) ?_
          refine W.join (nL := 4) (lv := [(3, .int (if ((f_X1_ofGray (((((((a0 >>> ((2 : Int32) &&& 31)) &&& (1 : Int32)) <<< ((1 : Int32) &&& 31)) ||| (a0 &&& (1 : Int32))) <<< ((6 : Int32) &&& 31)) ||| ((f_X1_three a0 (11 : Int32) (9 : Int32) (7 : Int32)) <<< ((3 : Int32) &&& 31))) ||| (f_X1_three a0 (5 : Int32) (3 : Int32) (1 : Int32)))) &&& (1 : Int32)) = (1 : Int32) then ((6 : Int32) - (if (f_X1_ofGray (f_X1_three a0 (12 : Int32) (10 : Int32) (8 : Int32))) = (7 : Int32) then (5 : Int32) else (f_X1_ofGray (f_X1_three a0 (12 : Int32) (10 : Int32) (8 : Int32))))) else (if (f_X1_ofGray (f_X1_three a0 (12 : Int32) (10 : Int32) (8 : Int32))) = (7 : Int32) then (5 : Int32) else (f_X1_ofGray (f_X1_three a0 (12 : Int32) (10 : Int32) (8 : Int32)))))), (2, .int (f_X1_ofGray (((((((a0 >>> ((2 : Int32) &&& 31)) &&& (1 : Int32)) <<< ((1 : Int32) &&& 31)) ||| (a0 &&& (1 : Int32))) <<< ((6 : Int32) &&& 31)) ||| ((f_X1_three a0 (11 : Int32) (9 : Int32) (7 : Int32)) <<< ((3 : Int32) &&& 31))) ||| (f_X1_three a0 (5 : Int32) (3 : Int32) (1 : Int32))))), (1, .int ((((a0 >>> ((2 : Int32) &&& 31)) &&& (1 : Int32)) <<< ((1 : Int32) &&& 31)) ||| (a0 &&& (1 : Int32)))), (0, .int a0)]) (pc2 := 93) (st2 := []) (fun ls hl => ?_) (fun J => ?_)
          · refine lv_sipush (v := 500) hx hb dX1_altitudeOfGray_93 (by decide) ?_
            refine lv_iload_n hx hb dX1_altitudeOfGray_96 rfl (lv_at hl 1 rfl) ?_
            refine lv_imul hx hb dX1_altitudeOfGray_97 ?_
            refine lv_bipush (v := 100) hx hb dX1_altitudeOfGray_98 (by decide) ?_
            refine lv_iload_n hx hb dX1_altitudeOfGray_100 rfl (lv_at hl 0 rfl) ?_
            refine lv_imul hx hb dX1_altitudeOfGray_101 ?_
            refine lv_iadd hx hb dX1_altitudeOfGray_102 ?_
            refine lv_sipush (v := 1300) hx hb dX1_altitudeOfGray_103 (by decide) ?_
            refine lv_isub hx hb dX1_altitudeOfGray_106 ?_
            exact rd_i hx hb hr hlocks (by simp only [f_X1_altitudeOfGray, if_neg c_1, if_neg c_2, if_neg c_3]) dX1_altitudeOfGray_107
          · refine lv_icmp_ne (tgt := 93) hx hb dX1_altitudeOfGray_85 (by decide) (fun c_4 => ?_) (fun c_4 => ?_)
            · exact J ls (lv_eq (lv_sub (l' := [(3, .int (if (f_X1_ofGray (f_X1_three a0 (12 : Int32) (10 : Int32) (8 : Int32))) = (7 : Int32) then (5 : Int32) else (f_X1_ofGray (f_X1_three a0 (12 : Int32) (10 : Int32) (8 : Int32))))), (2, .int (f_X1_ofGray (((((((a0 >>> ((2 : Int32) &&& 31)) &&& (1 : Int32)) <<< ((1 : Int32) &&& 31)) ||| (a0 &&& (1 : Int32))) <<< ((6 : Int32) &&& 31)) ||| ((f_X1_three a0 (11 : Int32) (9 : Int32) (7 : Int32)) <<< ((3 : Int32) &&& 31))) ||| (f_X1_three a0 (5 : Int32) (3 : Int32) (1 : Int32))))), (1, .int ((((a0 >>> ((2 : Int32) &&& 31)) &&& (1 : Int32)) <<< ((1 : Int32) &&& 31)) ||| (a0 &&& (1 : Int32)))), (0, .int a0)]) hl [0, 1, 2, 3] rfl) (by first | simp only [if_neg c_4] | rfl))
            · refine lv_bipush (v := 6) hx hb dX1_altitudeOfGray_88 (by decide) ?_
              refine lv_iload_n hx hb dX1_altitudeOfGray_90 rfl (lv_at hl 0 rfl) ?_
              refine lv_isub hx hb dX1_altitudeOfGray_91 ?_
              refine lv_istore_n (lv' := [(3, .int ((6 : Int32) - (if (f_X1_ofGray (f_X1_three a0 (12 : Int32) (10 : Int32) (8 : Int32))) = (7 : Int32) then (5 : Int32) else (f_X1_ofGray (f_X1_three a0 (12 : Int32) (10 : Int32) (8 : Int32)))))), (2, .int (f_X1_ofGray (((((((a0 >>> ((2 : Int32) &&& 31)) &&& (1 : Int32)) <<< ((1 : Int32) &&& 31)) ||| (a0 &&& (1 : Int32))) <<< ((6 : Int32) &&& 31)) ||| ((f_X1_three a0 (11 : Int32) (9 : Int32) (7 : Int32)) <<< ((3 : Int32) &&& 31))) ||| (f_X1_three a0 (5 : Int32) (3 : Int32) (1 : Int32))))), (1, .int ((((a0 >>> ((2 : Int32) &&& 31)) &&& (1 : Int32)) <<< ((1 : Int32) &&& 31)) ||| (a0 &&& (1 : Int32)))), (0, .int a0)]) hx hb dX1_altitudeOfGray_92 rfl hl (by decide) rfl (fun ls hl => ?_)
              exact J ls (lv_eq (lv_sub (l' := [(3, .int ((6 : Int32) - (if (f_X1_ofGray (f_X1_three a0 (12 : Int32) (10 : Int32) (8 : Int32))) = (7 : Int32) then (5 : Int32) else (f_X1_ofGray (f_X1_three a0 (12 : Int32) (10 : Int32) (8 : Int32)))))), (2, .int (f_X1_ofGray (((((((a0 >>> ((2 : Int32) &&& 31)) &&& (1 : Int32)) <<< ((1 : Int32) &&& 31)) ||| (a0 &&& (1 : Int32))) <<< ((6 : Int32) &&& 31)) ||| ((f_X1_three a0 (11 : Int32) (9 : Int32) (7 : Int32)) <<< ((3 : Int32) &&& 31))) ||| (f_X1_three a0 (5 : Int32) (3 : Int32) (1 : Int32))))), (1, .int ((((a0 >>> ((2 : Int32) &&& 31)) &&& (1 : Int32)) <<< ((1 : Int32) &&& 31)) ||| (a0 &&& (1 : Int32)))), (0, .int a0)]) hl [0, 1, 2, 3] rfl) (by first | simp only [if_pos c_4] | rfl))
        · refine lv_icmp_ne (tgt := 81) hx hb dX1_altitudeOfGray_76 (by decide) (fun c_5 => ?_) (fun c_5 => ?_)
          · exact J ls (lv_eq (lv_sub (l' := [(3, .int (f_X1_ofGray (f_X1_three a0 (12 : Int32) (10 : Int32) (8 : Int32)))), (2, .int (f_X1_ofGray (((((((a0 >>> ((2 : Int32) &&& 31)) &&& (1 : Int32)) <<< ((1 : Int32) &&& 31)) ||| (a0 &&& (1 : Int32))) <<< ((6 : Int32) &&& 31)) ||| ((f_X1_three a0 (11 : Int32) (9 : Int32) (7 : Int32)) <<< ((3 : Int32) &&& 31))) ||| (f_X1_three a0 (5 : Int32) (3 : Int32) (1 : Int32))))), (1, .int ((((a0 >>> ((2 : Int32) &&& 31)) &&& (1 : Int32)) <<< ((1 : Int32) &&& 31)) ||| (a0 &&& (1 : Int32)))), (0, .int a0)]) hl [0, 1, 2, 3] rfl) (by first | simp only [if_neg c_5] | rfl))
          · refine lv_iconst (v := 5) hx hb dX1_altitudeOfGray_79 (by decide) ?_
            refine lv_istore_n (lv' := [(3, .int (5 : Int32)), (2, .int (f_X1_ofGray (((((((a0 >>> ((2 : Int32) &&& 31)) &&& (1 : Int32)) <<< ((1 : Int32) &&& 31)) ||| (a0 &&& (1 : Int32))) <<< ((6 : Int32) &&& 31)) ||| ((f_X1_three a0 (11 : Int32) (9 : Int32) (7 : Int32)) <<< ((3 : Int32) &&& 31))) ||| (f_X1_three a0 (5 : Int32) (3 : Int32) (1 : Int32))))), (1, .int ((((a0 >>> ((2 : Int32) &&& 31)) &&& (1 : Int32)) <<< ((1 : Int32) &&& 31)) ||| (a0 &&& (1 : Int32)))), (0, .int a0)]) hx hb dX1_altitudeOfGray_80 rfl hl (by decide) rfl (fun ls hl => ?_)
            exact J ls (lv_eq (lv_sub (l' := [(3, .int (5 : Int32)), (2, .int (f_X1_ofGray (((((((a0 >>> ((2 : Int32) &&& 31)) &&& (1 : Int32)) <<< ((1 : Int32) &&& 31)) ||| (a0 &&& (1 : Int32))) <<< ((6 : Int32) &&& 31)) ||| ((f_X1_three a0 (11 : Int32) (9 : Int32) (7 : Int32)) <<< ((3 : Int32) &&& 31))) ||| (f_X1_three a0 (5 : Int32) (3 : Int32) (1 : Int32))))), (1, .int ((((a0 >>> ((2 : Int32) &&& 31)) &&& (1 : Int32)) <<< ((1 : Int32) &&& 31)) ||| (a0 &&& (1 : Int32)))), (0, .int a0)]) hl [0, 1, 2, 3] rfl) (by first | simp only [if_pos c_5] | rfl))
      · refine lv_ldc (v := (-2147483648)) hx hb hown (htg _ ct_X1_11) dX1_altitudeOfGray_70 ?_
        exact rd_i hx hb hr hlocks (by simp only [f_X1_altitudeOfGray, if_neg c_1, if_neg c_2, if_pos c_3]) dX1_altitudeOfGray_72

def f_X1_altitude (a0 : Int32) : Int32 := (if a0 = 0 then (-2147483648 : Int32) else (if (a0 &&& (64 : Int32)) = 0 then (if (a0 &&& (16 : Int32)) = 0 then (f_X1_altitudeOfGray a0) else (((25 : Int32) * ((((a0 >>> ((2 : Int32) &&& 31)) &&& (2016 : Int32)) ||| ((a0 >>> ((1 : Int32) &&& 31)) &&& (16 : Int32))) ||| (a0 &&& (15 : Int32)))) - (1000 : Int32))) else (-2147483648 : Int32)))
set_option maxHeartbeats 4000000 in
set_option maxRecDepth 100000 in
theorem c_X1_altitude (l : Launch) (a0 : Int32) : Rd l yX1_altitude cX1_altitude 1 (some .int) 2 46 [.int a0] (fun _ => True) (some (.int (f_X1_altitude a0))) := by
  refine Rd.of (by decide +kernel) (Nat.le_of_ble_eq_true rfl) ?_
  intro p e s m args below meth c hx hb hr hml hown htg hlocks hB ls hl
  have hown : s.vm.findClass RX1 = some m.cls := hown
  have hl : lv_has ls 1 [(0, .int a0)] := hl
  refine lv_iload_n hx hb dX1_altitude_0 rfl (lv_at hl 0 rfl) ?_
  refine lv_if_eq (tgt := 11) hx hb dX1_altitude_1 (by decide) (fun c_1 => ?_) (fun c_1 => ?_)
  · refine lv_ldc (v := (-2147483648)) hx hb hown (htg _ ct_X1_11) dX1_altitude_11 ?_
    exact rd_i hx hb hr hlocks (by simp only [f_X1_altitude, if_pos c_1]) dX1_altitude_13
  · refine lv_iload_n hx hb dX1_altitude_4 rfl (lv_at hl 0 rfl) ?_
    refine lv_bipush (v := 64) hx hb dX1_altitude_5 (by decide) ?_
    refine lv_iand hx hb dX1_altitude_7 ?_
    refine lv_if_eq (tgt := 14) hx hb dX1_altitude_8 (by decide) (fun c_2 => ?_) (fun c_2 => ?_)
    · refine lv_iload_n hx hb dX1_altitude_14 rfl (lv_at hl 0 rfl) ?_
      refine lv_bipush (v := 16) hx hb dX1_altitude_15 (by decide) ?_
      refine lv_iand hx hb dX1_altitude_17 ?_
      refine lv_if_eq (tgt := 48) hx hb dX1_altitude_18 (by decide) (fun c_3 => ?_) (fun c_3 => ?_)
      · refine lv_iload_n hx hb dX1_altitude_48 rfl (lv_at hl 0 rfl) ?_
        refine rS (As := [.int a0]) (rest := []) hx hb hml hown htg (c_X1_altitudeOfGray l a0) Blind.tt ml_X1_12 st_X1_altitudeOfGray ini_X1 co_X1_altitudeOfGray dn_X1_altitudeOfGray rfl (fun _ _ _ => trivial) hl.1 rfl (Nat.le_of_ble_eq_true rfl) ⟨Nat.le_of_ble_eq_true rfl, Nat.le_of_ble_eq_true rfl⟩ ⟨Nat.le_of_ble_eq_true rfl, Nat.le_of_ble_eq_true rfl⟩ dX1_altitude_49 ?_
        exact rd_i hx hb hr hlocks (by simp only [f_X1_altitude, if_neg c_1, if_pos c_2, if_pos c_3]) dX1_altitude_52
      · refine lv_bipush (v := 25) hx hb dX1_altitude_21 (by decide) ?_
        refine lv_iload_n hx hb dX1_altitude_23 rfl (lv_at hl 0 rfl) ?_
        refine lv_iconst (v := 2) hx hb dX1_altitude_24 (by decide) ?_
        refine lv_ishr hx hb dX1_altitude_25 ?_
        refine lv_sipush (v := 2016) hx hb dX1_altitude_26 (by decide) ?_
        refine lv_iand hx hb dX1_altitude_29 ?_
        refine lv_iload_n hx hb dX1_altitude_30 rfl (lv_at hl 0 rfl) ?_
        refine lv_iconst (v := 1) hx hb dX1_altitude_31 (by decide) ?_
        refine lv_ishr hx hb dX1_altitude_32 ?_
        refine lv_bipush (v := 16) hx hb dX1_altitude_33 (by decide) ?_
        refine lv_iand hx hb dX1_altitude_35 ?_
        refine lv_ior hx hb dX1_altitude_36 ?_
        refine lv_iload_n hx hb dX1_altitude_37 rfl (lv_at hl 0 rfl) ?_
        refine lv_bipush (v := 15) hx hb dX1_altitude_38 (by decide) ?_
        refine lv_iand hx hb dX1_altitude_40 ?_
        refine lv_ior hx hb dX1_altitude_41 ?_
        refine lv_imul hx hb dX1_altitude_42 ?_
        refine lv_sipush (v := 1000) hx hb dX1_altitude_43 (by decide) ?_
        refine lv_isub hx hb dX1_altitude_46 ?_
        exact rd_i hx hb hr hlocks (by simp only [f_X1_altitude, if_neg c_1, if_pos c_2, if_neg c_3]) dX1_altitude_47
    · refine lv_ldc (v := (-2147483648)) hx hb hown (htg _ ct_X1_11) dX1_altitude_11 ?_
      exact rd_i hx hb hr hlocks (by simp only [f_X1_altitude, if_neg c_1, if_neg c_2]) dX1_altitude_13

def f_X1_withM (a0 : Int32) : Int32 := (((a0 &&& (4032 : Int32)) <<< ((1 : Int32) &&& 31)) ||| (a0 &&& (63 : Int32)))
set_option maxHeartbeats 4000000 in
set_option maxRecDepth 100000 in
theorem c_X1_withM (l : Launch) (a0 : Int32) : Rd l yX1_withM cX1_withM 1 (some .int) 0 0 [.int a0] (fun _ => True) (some (.int (f_X1_withM a0))) := by
  refine Rd.of (by decide +kernel) (Nat.le_of_ble_eq_true rfl) ?_
  intro p e s m args below meth c hx hb hr hml hown htg hlocks hB ls hl
  have hown : s.vm.findClass RX1 = some m.cls := hown
  have hl : lv_has ls 1 [(0, .int a0)] := hl
  refine lv_iload_n hx hb dX1_withM_0 rfl (lv_at hl 0 rfl) ?_
  refine lv_sipush (v := 4032) hx hb dX1_withM_1 (by decide) ?_
  refine lv_iand hx hb dX1_withM_4 ?_
  refine lv_iconst (v := 1) hx hb dX1_withM_5 (by decide) ?_
  refine lv_ishl hx hb dX1_withM_6 ?_
  refine lv_iload_n hx hb dX1_withM_7 rfl (lv_at hl 0 rfl) ?_
  refine lv_bipush (v := 63) hx hb dX1_withM_8 (by decide) ?_
  refine lv_iand hx hb dX1_withM_10 ?_
  refine lv_ior hx hb dX1_withM_11 ?_
  exact rd_i hx hb hr hlocks (by simp only [f_X1_withM]) dX1_withM_12

def f_X1_squawk (a0 : Int32) : Int32 := (((((1000 : Int32) * (f_X1_three a0 (7 : Int32) (9 : Int32) (11 : Int32))) + ((100 : Int32) * (f_X1_three a0 (1 : Int32) (3 : Int32) (5 : Int32)))) + ((10 : Int32) * (f_X1_three a0 (8 : Int32) (10 : Int32) (12 : Int32)))) + (f_X1_three a0 (0 : Int32) (2 : Int32) (4 : Int32)))
set_option maxHeartbeats 4000000 in
set_option maxRecDepth 100000 in
theorem c_X1_squawk (l : Launch) (a0 : Int32) : Rd l yX1_squawk cX1_squawk 5 (some .int) 1 23 [.int a0] (fun _ => True) (some (.int (f_X1_squawk a0))) := by
  refine Rd.of (by decide +kernel) (Nat.le_of_ble_eq_true rfl) ?_
  intro p e s m args below meth c hx hb hr hml hown htg hlocks hB ls hl
  have hown : s.vm.findClass RX1 = some m.cls := hown
  have hl : lv_has ls 5 [(0, .int a0)] := hl
  refine lv_iload_n hx hb dX1_squawk_0 rfl (lv_at hl 0 rfl) ?_
  refine lv_bipush (v := 7) hx hb dX1_squawk_1 (by decide) ?_
  refine lv_bipush (v := 9) hx hb dX1_squawk_3 (by decide) ?_
  refine lv_bipush (v := 11) hx hb dX1_squawk_5 (by decide) ?_
  refine rS (As := [.int a0, .int (7 : Int32), .int (9 : Int32), .int (11 : Int32)]) (rest := []) hx hb hml hown htg (c_X1_three l a0 (7 : Int32) (9 : Int32) (11 : Int32)) Blind.tt ml_X1_16 st_X1_three ini_X1 co_X1_three dn_X1_three rfl (fun _ _ _ => trivial) hl.1 rfl (Nat.le_of_ble_eq_true rfl) ⟨Nat.le_of_ble_eq_true rfl, Nat.le_of_ble_eq_true rfl⟩ ⟨Nat.le_of_ble_eq_true rfl, Nat.le_of_ble_eq_true rfl⟩ dX1_squawk_7 ?_
  refine lv_istore_n (lv' := [(1, .int (f_X1_three a0 (7 : Int32) (9 : Int32) (11 : Int32))), (0, .int a0)]) hx hb dX1_squawk_10 rfl hl (by decide) rfl (fun ls hl => ?_)
  refine lv_iload_n hx hb dX1_squawk_11 rfl (lv_at hl 1 rfl) ?_
  refine lv_iconst (v := 1) hx hb dX1_squawk_12 (by decide) ?_
  refine lv_iconst (v := 3) hx hb dX1_squawk_13 (by decide) ?_
  refine lv_iconst (v := 5) hx hb dX1_squawk_14 (by decide) ?_
  refine rS (As := [.int a0, .int (1 : Int32), .int (3 : Int32), .int (5 : Int32)]) (rest := []) hx hb hml hown htg (c_X1_three l a0 (1 : Int32) (3 : Int32) (5 : Int32)) Blind.tt ml_X1_16 st_X1_three ini_X1 co_X1_three dn_X1_three rfl (fun _ _ _ => trivial) hl.1 rfl (Nat.le_of_ble_eq_true rfl) ⟨Nat.le_of_ble_eq_true rfl, Nat.le_of_ble_eq_true rfl⟩ ⟨Nat.le_of_ble_eq_true rfl, Nat.le_of_ble_eq_true rfl⟩ dX1_squawk_15 ?_
  refine lv_istore_n (lv' := [(2, .int (f_X1_three a0 (1 : Int32) (3 : Int32) (5 : Int32))), (1, .int (f_X1_three a0 (7 : Int32) (9 : Int32) (11 : Int32))), (0, .int a0)]) hx hb dX1_squawk_18 rfl hl (by decide) rfl (fun ls hl => ?_)
  refine lv_iload_n hx hb dX1_squawk_19 rfl (lv_at hl 2 rfl) ?_
  refine lv_bipush (v := 8) hx hb dX1_squawk_20 (by decide) ?_
  refine lv_bipush (v := 10) hx hb dX1_squawk_22 (by decide) ?_
  refine lv_bipush (v := 12) hx hb dX1_squawk_24 (by decide) ?_
  refine rS (As := [.int a0, .int (8 : Int32), .int (10 : Int32), .int (12 : Int32)]) (rest := []) hx hb hml hown htg (c_X1_three l a0 (8 : Int32) (10 : Int32) (12 : Int32)) Blind.tt ml_X1_16 st_X1_three ini_X1 co_X1_three dn_X1_three rfl (fun _ _ _ => trivial) hl.1 rfl (Nat.le_of_ble_eq_true rfl) ⟨Nat.le_of_ble_eq_true rfl, Nat.le_of_ble_eq_true rfl⟩ ⟨Nat.le_of_ble_eq_true rfl, Nat.le_of_ble_eq_true rfl⟩ dX1_squawk_26 ?_
  refine lv_istore_n (lv' := [(3, .int (f_X1_three a0 (8 : Int32) (10 : Int32) (12 : Int32))), (2, .int (f_X1_three a0 (1 : Int32) (3 : Int32) (5 : Int32))), (1, .int (f_X1_three a0 (7 : Int32) (9 : Int32) (11 : Int32))), (0, .int a0)]) hx hb dX1_squawk_29 rfl hl (by decide) rfl (fun ls hl => ?_)
  refine lv_iload_n hx hb dX1_squawk_30 rfl (lv_at hl 3 rfl) ?_
  refine lv_iconst (v := 0) hx hb dX1_squawk_31 (by decide) ?_
  refine lv_iconst (v := 2) hx hb dX1_squawk_32 (by decide) ?_
  refine lv_iconst (v := 4) hx hb dX1_squawk_33 (by decide) ?_
  refine rS (As := [.int a0, .int (0 : Int32), .int (2 : Int32), .int (4 : Int32)]) (rest := []) hx hb hml hown htg (c_X1_three l a0 (0 : Int32) (2 : Int32) (4 : Int32)) Blind.tt ml_X1_16 st_X1_three ini_X1 co_X1_three dn_X1_three rfl (fun _ _ _ => trivial) hl.1 rfl (Nat.le_of_ble_eq_true rfl) ⟨Nat.le_of_ble_eq_true rfl, Nat.le_of_ble_eq_true rfl⟩ ⟨Nat.le_of_ble_eq_true rfl, Nat.le_of_ble_eq_true rfl⟩ dX1_squawk_34 ?_
  refine lv_istore (lv' := [(4, .int (f_X1_three a0 (0 : Int32) (2 : Int32) (4 : Int32))), (3, .int (f_X1_three a0 (8 : Int32) (10 : Int32) (12 : Int32))), (2, .int (f_X1_three a0 (1 : Int32) (3 : Int32) (5 : Int32))), (1, .int (f_X1_three a0 (7 : Int32) (9 : Int32) (11 : Int32))), (0, .int a0)]) hx hb dX1_squawk_37 hl (by decide) rfl (fun ls hl => ?_)
  refine lv_sipush (v := 1000) hx hb dX1_squawk_39 (by decide) ?_
  refine lv_iload_n hx hb dX1_squawk_42 rfl (lv_at hl 3 rfl) ?_
  refine lv_imul hx hb dX1_squawk_43 ?_
  refine lv_bipush (v := 100) hx hb dX1_squawk_44 (by decide) ?_
  refine lv_iload_n hx hb dX1_squawk_46 rfl (lv_at hl 2 rfl) ?_
  refine lv_imul hx hb dX1_squawk_47 ?_
  refine lv_iadd hx hb dX1_squawk_48 ?_
  refine lv_bipush (v := 10) hx hb dX1_squawk_49 (by decide) ?_
  refine lv_iload_n hx hb dX1_squawk_51 rfl (lv_at hl 1 rfl) ?_
  refine lv_imul hx hb dX1_squawk_52 ?_
  refine lv_iadd hx hb dX1_squawk_53 ?_
  refine lv_iload hx hb dX1_squawk_54 (lv_at hl 0 rfl) ?_
  refine lv_iadd hx hb dX1_squawk_56 ?_
  exact rd_i hx hb hr hlocks (by simp only [f_X1_squawk]) dX1_squawk_57

def f_X1_letter (a0 : Int32) : Int32 := (if a0 < (1 : Int32) then (if (if a0 = (32 : Int32) then (1 : Int32) else (if a0 < (48 : Int32) then (0 : Int32) else (if (57 : Int32) < a0 then (0 : Int32) else (1 : Int32)))) = 0 then (63 : Int32) else a0) else (if (26 : Int32) < a0 then (if (if a0 = (32 : Int32) then (1 : Int32) else (if a0 < (48 : Int32) then (0 : Int32) else (if (57 : Int32) < a0 then (0 : Int32) else (1 : Int32)))) = 0 then (63 : Int32) else a0) else (((65 : Int32) + a0) - (1 : Int32))))
set_option maxHeartbeats 4000000 in
set_option maxRecDepth 100000 in
theorem c_X1_letter (l : Launch) (a0 : Int32) : Rd l yX1_letter cX1_letter 2 (some .int) 0 0 [.int a0] (fun _ => True) (some (.int (f_X1_letter a0))) := by
  refine Rd.of (by decide +kernel) (Nat.le_of_ble_eq_true rfl) ?_
  intro p e s m args below meth c hx hb hr hml hown htg hlocks hB ls hl
  have hown : s.vm.findClass RX1 = some m.cls := hown
  have hl : lv_has ls 2 [(0, .int a0)] := hl
  refine lv_iload_n hx hb dX1_letter_0 rfl (lv_at hl 0 rfl) ?_
  refine lv_iconst (v := 1) hx hb dX1_letter_1 (by decide) ?_
  refine lv_icmp_lt (tgt := 18) hx hb dX1_letter_2 (by decide) (fun c_1 => ?_) (fun c_1 => ?_)
  · refine lv_iload_n hx hb dX1_letter_18 rfl (lv_at hl 0 rfl) ?_
    refine lv_bipush (v := 32) hx hb dX1_letter_19 (by decide) ?_
    refine W.join (nL := 2) (lv := [(0, .int a0)]) (pc2 := 41) (st2 := [.int (if a0 = (32 : Int32) then (1 : Int32) else (if a0 < (48 : Int32) then (0 : Int32) else (if (57 : Int32) < a0 then (0 : Int32) else (1 : Int32))))]) (fun ls hl => ?_) (fun J => ?_)
    · refine lv_istore_n (lv' := [(1, .int (if a0 = (32 : Int32) then (1 : Int32) else (if a0 < (48 : Int32) then (0 : Int32) else (if (57 : Int32) < a0 then (0 : Int32) else (1 : Int32))))), (0, .int a0)]) hx hb dX1_letter_41 rfl hl (by decide) rfl (fun ls hl => ?_)
      refine lv_iload_n hx hb dX1_letter_42 rfl (lv_at hl 0 rfl) ?_
      refine lv_if_eq (tgt := 50) hx hb dX1_letter_43 (by decide) (fun c_2 => ?_) (fun c_2 => ?_)
      · refine lv_bipush (v := 63) hx hb dX1_letter_50 (by decide) ?_
        exact rd_i hx hb hr hlocks (by simp only [f_X1_letter, if_pos c_1, if_pos c_2]) dX1_letter_52
      · refine lv_iload_n hx hb dX1_letter_46 rfl (lv_at hl 1 rfl) ?_
        refine lv_goto (tgt := 52) hx hb dX1_letter_47 (by decide) ?_
        exact rd_i hx hb hr hlocks (by simp only [f_X1_letter, if_pos c_1, if_neg c_2]) dX1_letter_52
    · refine lv_icmp_eq (tgt := 36) hx hb dX1_letter_21 (by decide) (fun c_3 => ?_) (fun c_3 => ?_)
      · refine lv_iconst (v := 1) hx hb dX1_letter_36 (by decide) ?_
        refine lv_goto (tgt := 41) hx hb dX1_letter_37 (by decide) ?_
        exact W.eq (by first | simp only [if_pos c_3] | rfl) (J ls (lv_sub hl [0] rfl))
      · refine lv_iload_n hx hb dX1_letter_24 rfl (lv_at hl 0 rfl) ?_
        refine lv_bipush (v := 48) hx hb dX1_letter_25 (by decide) ?_
        refine lv_icmp_lt (tgt := 40) hx hb dX1_letter_27 (by decide) (fun c_4 => ?_) (fun c_4 => ?_)
        · refine lv_iconst (v := 0) hx hb dX1_letter_40 (by decide) ?_
          exact W.eq (by first | simp only [if_neg c_3, if_pos c_4] | rfl) (J ls (lv_sub hl [0] rfl))
        · refine lv_iload_n hx hb dX1_letter_30 rfl (lv_at hl 0 rfl) ?_
          refine lv_bipush (v := 57) hx hb dX1_letter_31 (by decide) ?_
          refine lv_icmp_gt (tgt := 40) hx hb dX1_letter_33 (by decide) (fun c_5 => ?_) (fun c_5 => ?_)
          · refine lv_iconst (v := 0) hx hb dX1_letter_40 (by decide) ?_
            exact W.eq (by first | simp only [if_neg c_3, if_neg c_4, if_pos c_5] | rfl) (J ls (lv_sub hl [0] rfl))
          · refine lv_iconst (v := 1) hx hb dX1_letter_36 (by decide) ?_
            refine lv_goto (tgt := 41) hx hb dX1_letter_37 (by decide) ?_
            exact W.eq (by first | simp only [if_neg c_3, if_neg c_4, if_neg c_5] | rfl) (J ls (lv_sub hl [0] rfl))
  · refine lv_iload_n hx hb dX1_letter_5 rfl (lv_at hl 0 rfl) ?_
    refine lv_bipush (v := 26) hx hb dX1_letter_6 (by decide) ?_
    refine lv_icmp_gt (tgt := 18) hx hb dX1_letter_8 (by decide) (fun c_6 => ?_) (fun c_6 => ?_)
    · refine lv_iload_n hx hb dX1_letter_18 rfl (lv_at hl 0 rfl) ?_
      refine lv_bipush (v := 32) hx hb dX1_letter_19 (by decide) ?_
      refine W.join (nL := 2) (lv := [(0, .int a0)]) (pc2 := 41) (st2 := [.int (if a0 = (32 : Int32) then (1 : Int32) else (if a0 < (48 : Int32) then (0 : Int32) else (if (57 : Int32) < a0 then (0 : Int32) else (1 : Int32))))]) (fun ls hl => ?_) (fun J => ?_)
      · refine lv_istore_n (lv' := [(1, .int (if a0 = (32 : Int32) then (1 : Int32) else (if a0 < (48 : Int32) then (0 : Int32) else (if (57 : Int32) < a0 then (0 : Int32) else (1 : Int32))))), (0, .int a0)]) hx hb dX1_letter_41 rfl hl (by decide) rfl (fun ls hl => ?_)
        refine lv_iload_n hx hb dX1_letter_42 rfl (lv_at hl 0 rfl) ?_
        refine lv_if_eq (tgt := 50) hx hb dX1_letter_43 (by decide) (fun c_7 => ?_) (fun c_7 => ?_)
        · refine lv_bipush (v := 63) hx hb dX1_letter_50 (by decide) ?_
          exact rd_i hx hb hr hlocks (by simp only [f_X1_letter, if_neg c_1, if_pos c_6, if_pos c_7]) dX1_letter_52
        · refine lv_iload_n hx hb dX1_letter_46 rfl (lv_at hl 1 rfl) ?_
          refine lv_goto (tgt := 52) hx hb dX1_letter_47 (by decide) ?_
          exact rd_i hx hb hr hlocks (by simp only [f_X1_letter, if_neg c_1, if_pos c_6, if_neg c_7]) dX1_letter_52
      · refine lv_icmp_eq (tgt := 36) hx hb dX1_letter_21 (by decide) (fun c_8 => ?_) (fun c_8 => ?_)
        · refine lv_iconst (v := 1) hx hb dX1_letter_36 (by decide) ?_
          refine lv_goto (tgt := 41) hx hb dX1_letter_37 (by decide) ?_
          exact W.eq (by first | simp only [if_pos c_8] | rfl) (J ls (lv_sub hl [0] rfl))
        · refine lv_iload_n hx hb dX1_letter_24 rfl (lv_at hl 0 rfl) ?_
          refine lv_bipush (v := 48) hx hb dX1_letter_25 (by decide) ?_
          refine lv_icmp_lt (tgt := 40) hx hb dX1_letter_27 (by decide) (fun c_9 => ?_) (fun c_9 => ?_)
          · refine lv_iconst (v := 0) hx hb dX1_letter_40 (by decide) ?_
            exact W.eq (by first | simp only [if_neg c_8, if_pos c_9] | rfl) (J ls (lv_sub hl [0] rfl))
          · refine lv_iload_n hx hb dX1_letter_30 rfl (lv_at hl 0 rfl) ?_
            refine lv_bipush (v := 57) hx hb dX1_letter_31 (by decide) ?_
            refine lv_icmp_gt (tgt := 40) hx hb dX1_letter_33 (by decide) (fun c_10 => ?_) (fun c_10 => ?_)
            · refine lv_iconst (v := 0) hx hb dX1_letter_40 (by decide) ?_
              exact W.eq (by first | simp only [if_neg c_8, if_neg c_9, if_pos c_10] | rfl) (J ls (lv_sub hl [0] rfl))
            · refine lv_iconst (v := 1) hx hb dX1_letter_36 (by decide) ?_
              refine lv_goto (tgt := 41) hx hb dX1_letter_37 (by decide) ?_
              exact W.eq (by first | simp only [if_neg c_8, if_neg c_9, if_neg c_10] | rfl) (J ls (lv_sub hl [0] rfl))
    · refine lv_bipush (v := 65) hx hb dX1_letter_11 (by decide) ?_
      refine lv_iload_n hx hb dX1_letter_13 rfl (lv_at hl 0 rfl) ?_
      refine lv_iadd hx hb dX1_letter_14 ?_
      refine lv_iconst (v := 1) hx hb dX1_letter_15 (by decide) ?_
      refine lv_isub hx hb dX1_letter_16 ?_
      exact rd_i hx hb hr hlocks (by simp only [f_X1_letter, if_neg c_1, if_neg c_6]) dX1_letter_17

def f_X1_groundSpeed (a0 : Int32) : Int32 := (if a0 < (1 : Int32) then (-2147483648 : Int32) else (if a0 ≤ (124 : Int32) then (if (9 : Int32) ≤ a0 then (if (13 : Int32) ≤ a0 then (if (39 : Int32) ≤ a0 then (if (94 : Int32) ≤ a0 then (if (109 : Int32) ≤ a0 then ((800 : Int32) + ((40 : Int32) * (a0 - (109 : Int32)))) else ((560 : Int32) + ((16 : Int32) * (a0 - (94 : Int32))))) else ((120 : Int32) + ((8 : Int32) * (a0 - (39 : Int32))))) else ((16 : Int32) + ((4 : Int32) * (a0 - (13 : Int32))))) else ((8 : Int32) + ((2 : Int32) * (a0 - (9 : Int32))))) else (a0 - (1 : Int32))) else (-2147483648 : Int32)))
set_option maxHeartbeats 4000000 in
set_option maxRecDepth 100000 in
theorem c_X1_groundSpeed (l : Launch) (a0 : Int32) : Rd l yX1_groundSpeed cX1_groundSpeed 1 (some .int) 0 0 [.int a0] (fun _ => True) (some (.int (f_X1_groundSpeed a0))) := by
  refine Rd.of (by decide +kernel) (Nat.le_of_ble_eq_true rfl) ?_
  intro p e s m args below meth c hx hb hr hml hown htg hlocks hB ls hl
  have hown : s.vm.findClass RX1 = some m.cls := hown
  have hl : lv_has ls 1 [(0, .int a0)] := hl
  refine lv_iload_n hx hb dX1_groundSpeed_0 rfl (lv_at hl 0 rfl) ?_
  refine lv_iconst (v := 1) hx hb dX1_groundSpeed_1 (by decide) ?_
  refine lv_icmp_lt (tgt := 11) hx hb dX1_groundSpeed_2 (by decide) (fun c_1 => ?_) (fun c_1 => ?_)
  · refine lv_ldc (v := (-2147483648)) hx hb hown (htg _ ct_X1_11) dX1_groundSpeed_11 ?_
    exact rd_i hx hb hr hlocks (by simp only [f_X1_groundSpeed, if_pos c_1]) dX1_groundSpeed_13
  · refine lv_iload_n hx hb dX1_groundSpeed_5 rfl (lv_at hl 0 rfl) ?_
    refine lv_bipush (v := 124) hx hb dX1_groundSpeed_6 (by decide) ?_
    refine lv_icmp_le (tgt := 14) hx hb dX1_groundSpeed_8 (by decide) (fun c_2 => ?_) (fun c_2 => ?_)
    · refine lv_iload_n hx hb dX1_groundSpeed_14 rfl (lv_at hl 0 rfl) ?_
      refine lv_bipush (v := 9) hx hb dX1_groundSpeed_15 (by decide) ?_
      refine lv_icmp_ge (tgt := 24) hx hb dX1_groundSpeed_17 (by decide) (fun c_3 => ?_) (fun c_3 => ?_)
      · refine lv_iload_n hx hb dX1_groundSpeed_24 rfl (lv_at hl 0 rfl) ?_
        refine lv_bipush (v := 13) hx hb dX1_groundSpeed_25 (by decide) ?_
        refine lv_icmp_ge (tgt := 40) hx hb dX1_groundSpeed_27 (by decide) (fun c_4 => ?_) (fun c_4 => ?_)
        · refine lv_iload_n hx hb dX1_groundSpeed_40 rfl (lv_at hl 0 rfl) ?_
          refine lv_bipush (v := 39) hx hb dX1_groundSpeed_41 (by decide) ?_
          refine lv_icmp_ge (tgt := 56) hx hb dX1_groundSpeed_43 (by decide) (fun c_5 => ?_) (fun c_5 => ?_)
          · refine lv_iload_n hx hb dX1_groundSpeed_56 rfl (lv_at hl 0 rfl) ?_
            refine lv_bipush (v := 94) hx hb dX1_groundSpeed_57 (by decide) ?_
            refine lv_icmp_ge (tgt := 73) hx hb dX1_groundSpeed_59 (by decide) (fun c_6 => ?_) (fun c_6 => ?_)
            · refine lv_iload_n hx hb dX1_groundSpeed_73 rfl (lv_at hl 0 rfl) ?_
              refine lv_bipush (v := 109) hx hb dX1_groundSpeed_74 (by decide) ?_
              refine lv_icmp_ge (tgt := 91) hx hb dX1_groundSpeed_76 (by decide) (fun c_7 => ?_) (fun c_7 => ?_)
              · refine lv_sipush (v := 800) hx hb dX1_groundSpeed_91 (by decide) ?_
                refine lv_bipush (v := 40) hx hb dX1_groundSpeed_94 (by decide) ?_
                refine lv_iload_n hx hb dX1_groundSpeed_96 rfl (lv_at hl 0 rfl) ?_
                refine lv_bipush (v := 109) hx hb dX1_groundSpeed_97 (by decide) ?_
                refine lv_isub hx hb dX1_groundSpeed_99 ?_
                refine lv_imul hx hb dX1_groundSpeed_100 ?_
                refine lv_iadd hx hb dX1_groundSpeed_101 ?_
                exact rd_i hx hb hr hlocks (by simp only [f_X1_groundSpeed, if_neg c_1, if_pos c_2, if_pos c_3, if_pos c_4, if_pos c_5, if_pos c_6, if_pos c_7]) dX1_groundSpeed_102
              · refine lv_sipush (v := 560) hx hb dX1_groundSpeed_79 (by decide) ?_
                refine lv_bipush (v := 16) hx hb dX1_groundSpeed_82 (by decide) ?_
                refine lv_iload_n hx hb dX1_groundSpeed_84 rfl (lv_at hl 0 rfl) ?_
                refine lv_bipush (v := 94) hx hb dX1_groundSpeed_85 (by decide) ?_
                refine lv_isub hx hb dX1_groundSpeed_87 ?_
                refine lv_imul hx hb dX1_groundSpeed_88 ?_
                refine lv_iadd hx hb dX1_groundSpeed_89 ?_
                exact rd_i hx hb hr hlocks (by simp only [f_X1_groundSpeed, if_neg c_1, if_pos c_2, if_pos c_3, if_pos c_4, if_pos c_5, if_pos c_6, if_neg c_7]) dX1_groundSpeed_90
            · refine lv_bipush (v := 120) hx hb dX1_groundSpeed_62 (by decide) ?_
              refine lv_bipush (v := 8) hx hb dX1_groundSpeed_64 (by decide) ?_
              refine lv_iload_n hx hb dX1_groundSpeed_66 rfl (lv_at hl 0 rfl) ?_
              refine lv_bipush (v := 39) hx hb dX1_groundSpeed_67 (by decide) ?_
              refine lv_isub hx hb dX1_groundSpeed_69 ?_
              refine lv_imul hx hb dX1_groundSpeed_70 ?_
              refine lv_iadd hx hb dX1_groundSpeed_71 ?_
              exact rd_i hx hb hr hlocks (by simp only [f_X1_groundSpeed, if_neg c_1, if_pos c_2, if_pos c_3, if_pos c_4, if_pos c_5, if_neg c_6]) dX1_groundSpeed_72
          · refine lv_bipush (v := 16) hx hb dX1_groundSpeed_46 (by decide) ?_
            refine lv_iconst (v := 4) hx hb dX1_groundSpeed_48 (by decide) ?_
            refine lv_iload_n hx hb dX1_groundSpeed_49 rfl (lv_at hl 0 rfl) ?_
            refine lv_bipush (v := 13) hx hb dX1_groundSpeed_50 (by decide) ?_
            refine lv_isub hx hb dX1_groundSpeed_52 ?_
            refine lv_imul hx hb dX1_groundSpeed_53 ?_
            refine lv_iadd hx hb dX1_groundSpeed_54 ?_
            exact rd_i hx hb hr hlocks (by simp only [f_X1_groundSpeed, if_neg c_1, if_pos c_2, if_pos c_3, if_pos c_4, if_neg c_5]) dX1_groundSpeed_55
        · refine lv_bipush (v := 8) hx hb dX1_groundSpeed_30 (by decide) ?_
          refine lv_iconst (v := 2) hx hb dX1_groundSpeed_32 (by decide) ?_
          refine lv_iload_n hx hb dX1_groundSpeed_33 rfl (lv_at hl 0 rfl) ?_
          refine lv_bipush (v := 9) hx hb dX1_groundSpeed_34 (by decide) ?_
          refine lv_isub hx hb dX1_groundSpeed_36 ?_
          refine lv_imul hx hb dX1_groundSpeed_37 ?_
          refine lv_iadd hx hb dX1_groundSpeed_38 ?_
          exact rd_i hx hb hr hlocks (by simp only [f_X1_groundSpeed, if_neg c_1, if_pos c_2, if_pos c_3, if_neg c_4]) dX1_groundSpeed_39
      · refine lv_iload_n hx hb dX1_groundSpeed_20 rfl (lv_at hl 0 rfl) ?_
        refine lv_iconst (v := 1) hx hb dX1_groundSpeed_21 (by decide) ?_
        refine lv_isub hx hb dX1_groundSpeed_22 ?_
        exact rd_i hx hb hr hlocks (by simp only [f_X1_groundSpeed, if_neg c_1, if_pos c_2, if_neg c_3]) dX1_groundSpeed_23
    · refine lv_ldc (v := (-2147483648)) hx hb hown (htg _ ct_X1_11) dX1_groundSpeed_11 ?_
      exact rd_i hx hb hr hlocks (by simp only [f_X1_groundSpeed, if_neg c_1, if_neg c_2]) dX1_groundSpeed_13

def f_X1_lessOne (a0 : Int32) (a1 : Int32) (a2 : Int32) : Int32 := (if a0 = 0 then (-2147483648 : Int32) else (if a2 = (1 : Int32) then ((-a1) * (a0 - (1 : Int32))) else (a1 * (a0 - (1 : Int32)))))
set_option maxHeartbeats 4000000 in
set_option maxRecDepth 100000 in
theorem c_X1_lessOne (l : Launch) (a0 : Int32) (a1 : Int32) (a2 : Int32) : Rd l yX1_lessOne cX1_lessOne 3 (some .int) 0 0 [.int a0, .int a1, .int a2] (fun _ => True) (some (.int (f_X1_lessOne a0 a1 a2))) := by
  refine Rd.of (by decide +kernel) (Nat.le_of_ble_eq_true rfl) ?_
  intro p e s m args below meth c hx hb hr hml hown htg hlocks hB ls hl
  have hown : s.vm.findClass RX1 = some m.cls := hown
  have hl : lv_has ls 3 [(0, .int a0), (1, .int a1), (2, .int a2)] := hl
  refine lv_iload_n hx hb dX1_lessOne_0 rfl (lv_at hl 0 rfl) ?_
  refine lv_if_ne (tgt := 7) hx hb dX1_lessOne_1 (by decide) (fun c_1 => ?_) (fun c_1 => ?_)
  · refine lv_iload_n hx hb dX1_lessOne_7 rfl (lv_at hl 2 rfl) ?_
    refine lv_iconst (v := 1) hx hb dX1_lessOne_8 (by decide) ?_
    refine lv_icmp_ne (tgt := 21) hx hb dX1_lessOne_9 (by decide) (fun c_2 => ?_) (fun c_2 => ?_)
    · refine lv_iload_n hx hb dX1_lessOne_21 rfl (lv_at hl 1 rfl) ?_
      refine lv_iload_n hx hb dX1_lessOne_22 rfl (lv_at hl 0 rfl) ?_
      refine lv_iconst (v := 1) hx hb dX1_lessOne_23 (by decide) ?_
      refine lv_isub hx hb dX1_lessOne_24 ?_
      refine lv_imul hx hb dX1_lessOne_25 ?_
      exact rd_i hx hb hr hlocks (by simp only [f_X1_lessOne, if_neg c_1, if_neg c_2]) dX1_lessOne_26
    · refine lv_iload_n hx hb dX1_lessOne_12 rfl (lv_at hl 1 rfl) ?_
      refine lv_ineg hx hb dX1_lessOne_13 ?_
      refine lv_iload_n hx hb dX1_lessOne_14 rfl (lv_at hl 0 rfl) ?_
      refine lv_iconst (v := 1) hx hb dX1_lessOne_15 (by decide) ?_
      refine lv_isub hx hb dX1_lessOne_16 ?_
      refine lv_imul hx hb dX1_lessOne_17 ?_
      refine lv_goto (tgt := 26) hx hb dX1_lessOne_18 (by decide) ?_
      exact rd_i hx hb hr hlocks (by simp only [f_X1_lessOne, if_neg c_1, if_pos c_2]) dX1_lessOne_26
  · refine lv_ldc (v := (-2147483648)) hx hb hown (htg _ ct_X1_11) dX1_lessOne_4 ?_
    exact rd_i hx hb hr hlocks (by simp only [f_X1_lessOne, if_pos c_1]) dX1_lessOne_6

def f_X1_root_lp (a0 : Int64) : Nat → (Int32) → (Int64) → Int32
  | 0, k, r => r.toInt32
  | n + 1, k, r => (f_X1_root_lp a0 n (k + (-1 : Int32)) (if a0 < ((r + ((1 : Int64) <<< (k.toInt64 &&& 63))) * (r + ((1 : Int64) <<< (k.toInt64 &&& 63)))) then r else (r + ((1 : Int64) <<< (k.toInt64 &&& 63)))))
def f_X1_root (a0 : Int64) : Int32 := (f_X1_root_lp a0 16 (15 : Int32) (0 : Int64))
set_option maxHeartbeats 4000000 in
set_option maxRecDepth 100000 in
theorem c_X1_root (l : Launch) (a0 : Int64) : Rd l yX1_root cX1_root 7 (some .int) 0 0 [.long a0] (fun _ => True) (some (.int (f_X1_root a0))) := by
  refine Rd.of (by decide +kernel) (Nat.le_of_ble_eq_true rfl) ?_
  intro p e s m args below meth c hx hb hr hml hown htg hlocks hB ls hl
  have hown : s.vm.findClass RX1 = some m.cls := hown
  have hl : lv_has ls 7 [(0, .long a0)] := hl
  refine lv_lconst (v := 0) hx hb dX1_root_0 (by decide) ?_
  refine lv_lstore_n (lv' := [(2, .long (0 : Int64)), (0, .long a0)]) hx hb dX1_root_1 rfl hl (by decide) rfl (fun ls hl => ?_)
  refine lv_bipush (v := 15) hx hb dX1_root_2 (by decide) ?_
  refine lv_istore (lv' := [(4, .int (15 : Int32)), (2, .long (0 : Int64)), (0, .long a0)]) hx hb dX1_root_4 hl (by decide) rfl (fun ls hl => ?_)
  have Lp : ∀ (n : Nat) (k : Int32) (r : Int64), k = nI n - 1 ∧ n ≤ 16 → ∀ ls : Array Slot, lv_has ls 7 [(4, .int k), (2, .long r), (0, .long a0)] → f_X1_root_lp a0 n k r = f_X1_root a0 → W p l e { frames := 0, cells := 0, slots := 0, locals := 0 } s m args below meth c s.heap [] 0 0 (MQ below (rdQ (some (.int (f_X1_root a0)))) args s 0 0 (fun _ => False)) (F0 m 6 ls []) := by
    intro n
    induction n with
    | zero =>
      intro k r hi ls hl hA
      refine lv_iload hx hb dX1_root_6 (lv_at hl 0 rfl) ?_
      refine lv_if_lt (tgt := 38) hx hb dX1_root_8 (by decide) (fun c_1 => ?_) (fun c_1 => ?_)
      · refine lv_lload_n hx hb dX1_root_38 rfl (lv_at hl 1 rfl) ?_
        refine lv_l2i (v := r.toInt32) hx hb dX1_root_39 rfl ?_
        exact rd_i hx hb hr hlocks (by rw [← hA]; simp only [f_X1_root_lp]) dX1_root_40
      · exact absurd (by rw [hi.1]; decide) c_1
    | succ n ih =>
      intro k r hi ls hl hA
      refine lv_iload hx hb dX1_root_6 (lv_at hl 0 rfl) ?_
      refine lv_if_lt (tgt := 38) hx hb dX1_root_8 (by decide) (fun c_2 => ?_) (fun c_2 => ?_)
      · exact absurd c_2 (by rw [hi.1, nI_pred]; exact nI_pos (by omega))
      · refine lv_lload_n hx hb dX1_root_11 rfl (lv_at hl 1 rfl) ?_
        refine lv_lconst (v := 1) hx hb dX1_root_12 (by decide) ?_
        refine lv_iload hx hb dX1_root_13 (lv_at hl 0 rfl) ?_
        refine lv_lshl (v := ((1 : Int64) <<< (k.toInt64 &&& 63))) hx hb dX1_root_15 rfl ?_
        refine lv_ladd hx hb dX1_root_16 ?_
        refine lv_lstore (lv' := [(5, .long (r + ((1 : Int64) <<< (k.toInt64 &&& 63)))), (4, .int k), (2, .long r), (0, .long a0)]) hx hb dX1_root_17 hl (by decide) rfl (fun ls hl => ?_)
        refine lv_lload hx hb dX1_root_19 (lv_at hl 0 rfl) ?_
        refine lv_lload hx hb dX1_root_21 (lv_at hl 0 rfl) ?_
        refine lv_lmul hx hb dX1_root_23 ?_
        refine lv_lload_n hx hb dX1_root_24 rfl (lv_at hl 3 rfl) ?_
        refine W.join (nL := 7) (lv := [(5, .long (r + ((1 : Int64) <<< (k.toInt64 &&& 63)))), (4, .int k), (2, .long (if a0 < ((r + ((1 : Int64) <<< (k.toInt64 &&& 63))) * (r + ((1 : Int64) <<< (k.toInt64 &&& 63)))) then r else (r + ((1 : Int64) <<< (k.toInt64 &&& 63))))), (0, .long a0)]) (pc2 := 32) (st2 := []) (fun ls hl => ?_) (fun J => ?_)
        · refine lv_iinc (v := (k + (-1 : Int32))) (lv' := [(4, .int (k + (-1 : Int32))), (5, .long (r + ((1 : Int64) <<< (k.toInt64 &&& 63)))), (2, .long (if a0 < ((r + ((1 : Int64) <<< (k.toInt64 &&& 63))) * (r + ((1 : Int64) <<< (k.toInt64 &&& 63)))) then r else (r + ((1 : Int64) <<< (k.toInt64 &&& 63))))), (0, .long a0)]) hx hb dX1_root_32 hl (k := 1) rfl rfl (by decide) rfl (fun ls hl => ?_)
          refine lv_goto (tgt := 6) hx hb dX1_root_35 (by decide) ?_
          exact ih (k + (-1 : Int32)) (if a0 < ((r + ((1 : Int64) <<< (k.toInt64 &&& 63))) * (r + ((1 : Int64) <<< (k.toInt64 &&& 63)))) then r else (r + ((1 : Int64) <<< (k.toInt64 &&& 63)))) ⟨by rw [hi.1, nI_pred]; exact (Int32.sub_eq_add_neg _ _).symm, by omega⟩ ls (lv_sub hl [0, 2, 3] rfl) (by rw [← hA]; simp only [f_X1_root_lp])
        · refine lc_gt (tgt := 32) hx hb dX1_root_25 dX1_root_26 (by decide) (fun c_3 => ?_) (fun c_3 => ?_)
          · exact J ls (lv_eq (lv_sub (l' := [(5, .long (r + ((1 : Int64) <<< (k.toInt64 &&& 63)))), (4, .int k), (2, .long r), (0, .long a0)]) hl [0, 1, 2, 3] rfl) (by first | simp only [if_pos c_3] | rfl))
          · refine lv_lload hx hb dX1_root_29 (lv_at hl 0 rfl) ?_
            refine lv_lstore_n (lv' := [(2, .long (r + ((1 : Int64) <<< (k.toInt64 &&& 63)))), (5, .long (r + ((1 : Int64) <<< (k.toInt64 &&& 63)))), (4, .int k), (0, .long a0)]) hx hb dX1_root_31 rfl hl (by decide) rfl (fun ls hl => ?_)
            exact J ls (lv_eq (lv_sub (l' := [(5, .long (r + ((1 : Int64) <<< (k.toInt64 &&& 63)))), (4, .int k), (2, .long (r + ((1 : Int64) <<< (k.toInt64 &&& 63)))), (0, .long a0)]) hl [1, 2, 0, 3] rfl) (by first | simp only [if_neg c_3] | rfl))
  exact Lp 16 (15 : Int32) (0 : Int64) ⟨by decide, by decide⟩ ls (lv_sub hl [0, 1, 2] rfl) (by simp only [f_X1_root])

def f_X1_speedOf (a0 : Int32) (a1 : Int32) : Int32 := (if a0 = (-2147483648 : Int32) then (-2147483648 : Int32) else (if a1 = (-2147483648 : Int32) then (-2147483648 : Int32) else (f_X1_root ((64 : Int64) * ((a0.toInt64 * a0.toInt64) + (a1.toInt64 * a1.toInt64))))))
set_option maxHeartbeats 4000000 in
set_option maxRecDepth 100000 in
theorem c_X1_speedOf (l : Launch) (a0 : Int32) (a1 : Int32) : Rd l yX1_speedOf cX1_speedOf 2 (some .int) 1 26 [.int a0, .int a1] (fun _ => True) (some (.int (f_X1_speedOf a0 a1))) := by
  refine Rd.of (by decide +kernel) (Nat.le_of_ble_eq_true rfl) ?_
  intro p e s m args below meth c hx hb hr hml hown htg hlocks hB ls hl
  have hown : s.vm.findClass RX1 = some m.cls := hown
  have hl : lv_has ls 2 [(0, .int a0), (1, .int a1)] := hl
  refine lv_iload_n hx hb dX1_speedOf_0 rfl (lv_at hl 0 rfl) ?_
  refine lv_ldc (v := (-2147483648)) hx hb hown (htg _ ct_X1_11) dX1_speedOf_1 ?_
  refine lv_icmp_eq (tgt := 12) hx hb dX1_speedOf_3 (by decide) (fun c_1 => ?_) (fun c_1 => ?_)
  · refine lv_ldc (v := (-2147483648)) hx hb hown (htg _ ct_X1_11) dX1_speedOf_12 ?_
    exact rd_i hx hb hr hlocks (by simp only [f_X1_speedOf, if_pos c_1]) dX1_speedOf_14
  · refine lv_iload_n hx hb dX1_speedOf_6 rfl (lv_at hl 1 rfl) ?_
    refine lv_ldc (v := (-2147483648)) hx hb hown (htg _ ct_X1_11) dX1_speedOf_7 ?_
    refine lv_icmp_ne (tgt := 15) hx hb dX1_speedOf_9 (by decide) (fun c_2 => ?_) (fun c_2 => ?_)
    · refine lv_ldc2 (v := 64) hx hb hown (htg _ ct_X1_23) dX1_speedOf_15 ?_
      refine lv_iload_n hx hb dX1_speedOf_18 rfl (lv_at hl 0 rfl) ?_
      refine lv_i2l (v := a0.toInt64) hx hb dX1_speedOf_19 rfl ?_
      refine lv_iload_n hx hb dX1_speedOf_20 rfl (lv_at hl 0 rfl) ?_
      refine lv_i2l (v := a0.toInt64) hx hb dX1_speedOf_21 rfl ?_
      refine lv_lmul hx hb dX1_speedOf_22 ?_
      refine lv_iload_n hx hb dX1_speedOf_23 rfl (lv_at hl 1 rfl) ?_
      refine lv_i2l (v := a1.toInt64) hx hb dX1_speedOf_24 rfl ?_
      refine lv_iload_n hx hb dX1_speedOf_25 rfl (lv_at hl 1 rfl) ?_
      refine lv_i2l (v := a1.toInt64) hx hb dX1_speedOf_26 rfl ?_
      refine lv_lmul hx hb dX1_speedOf_27 ?_
      refine lv_ladd hx hb dX1_speedOf_28 ?_
      refine lv_lmul hx hb dX1_speedOf_29 ?_
      refine rS (As := [.long ((64 : Int64) * ((a0.toInt64 * a0.toInt64) + (a1.toInt64 * a1.toInt64)))]) (rest := []) hx hb hml hown htg (c_X1_root l ((64 : Int64) * ((a0.toInt64 * a0.toInt64) + (a1.toInt64 * a1.toInt64)))) Blind.tt ml_X1_25 st_X1_root ini_X1 co_X1_root dn_X1_root rfl (fun _ _ _ => trivial) hl.1 rfl (Nat.le_of_ble_eq_true rfl) ⟨Nat.le_of_ble_eq_true rfl, Nat.le_of_ble_eq_true rfl⟩ ⟨Nat.le_of_ble_eq_true rfl, Nat.le_of_ble_eq_true rfl⟩ dX1_speedOf_30 ?_
      exact rd_i hx hb hr hlocks (by simp only [f_X1_speedOf, if_neg c_1, if_neg c_2]) dX1_speedOf_33
    · refine lv_ldc (v := (-2147483648)) hx hb hown (htg _ ct_X1_11) dX1_speedOf_12 ?_
      exact rd_i hx hb hr hlocks (by simp only [f_X1_speedOf, if_neg c_1, if_pos c_2]) dX1_speedOf_14

def f_X2_isPlace (a0 : Int32) (a1 : Int32) : Int32 := (if a0.toInt64 < (-90000000 : Int64) then (0 : Int32) else (if (90000000 : Int64) < a0.toInt64 then (0 : Int32) else (if a1.toInt64 < (-180000000 : Int64) then (0 : Int32) else (if (180000000 : Int64) ≤ a1.toInt64 then (0 : Int32) else (1 : Int32)))))
set_option maxHeartbeats 4000000 in
set_option maxRecDepth 100000 in
theorem c_X2_isPlace (l : Launch) (a0 : Int32) (a1 : Int32) : Rd l yX2_isPlace cX2_isPlace 2 (some .boolean) 0 0 [.int a0, .int a1] (fun _ => True) (some (.int (f_X2_isPlace a0 a1))) := by
  refine Rd.of (by decide +kernel) (Nat.le_of_ble_eq_true rfl) ?_
  intro p e s m args below meth c hx hb hr hml hown htg hlocks hB ls hl
  have hown : s.vm.findClass RX2 = some m.cls := hown
  have hl : lv_has ls 2 [(0, .int a0), (1, .int a1)] := hl
  refine lv_iload_n hx hb dX2_isPlace_0 rfl (lv_at hl 0 rfl) ?_
  refine lv_i2l (v := a0.toInt64) hx hb dX2_isPlace_1 rfl ?_
  refine lv_ldc2 (v := (-90000000)) hx hb hown (htg _ ct_X2_11) dX2_isPlace_2 ?_
  refine lc_lt (tgt := 40) hx hb dX2_isPlace_5 dX2_isPlace_6 (by decide) (fun c_1 => ?_) (fun c_1 => ?_)
  · refine lv_iconst (v := 0) hx hb dX2_isPlace_40 (by decide) ?_
    exact rd_z hx hb hr hlocks (by decide) (by simp only [f_X2_isPlace, if_pos c_1]) dX2_isPlace_41
  · refine lv_iload_n hx hb dX2_isPlace_9 rfl (lv_at hl 0 rfl) ?_
    refine lv_i2l (v := a0.toInt64) hx hb dX2_isPlace_10 rfl ?_
    refine lv_ldc2 (v := 90000000) hx hb hown (htg _ ct_X2_13) dX2_isPlace_11 ?_
    refine lc_gt (tgt := 40) hx hb dX2_isPlace_14 dX2_isPlace_15 (by decide) (fun c_2 => ?_) (fun c_2 => ?_)
    · refine lv_iconst (v := 0) hx hb dX2_isPlace_40 (by decide) ?_
      exact rd_z hx hb hr hlocks (by decide) (by simp only [f_X2_isPlace, if_neg c_1, if_pos c_2]) dX2_isPlace_41
    · refine lv_iload_n hx hb dX2_isPlace_18 rfl (lv_at hl 1 rfl) ?_
      refine lv_i2l (v := a1.toInt64) hx hb dX2_isPlace_19 rfl ?_
      refine lv_ldc2 (v := (-180000000)) hx hb hown (htg _ ct_X2_15) dX2_isPlace_20 ?_
      refine lc_lt (tgt := 40) hx hb dX2_isPlace_23 dX2_isPlace_24 (by decide) (fun c_3 => ?_) (fun c_3 => ?_)
      · refine lv_iconst (v := 0) hx hb dX2_isPlace_40 (by decide) ?_
        exact rd_z hx hb hr hlocks (by decide) (by simp only [f_X2_isPlace, if_neg c_1, if_neg c_2, if_pos c_3]) dX2_isPlace_41
      · refine lv_iload_n hx hb dX2_isPlace_27 rfl (lv_at hl 1 rfl) ?_
        refine lv_i2l (v := a1.toInt64) hx hb dX2_isPlace_28 rfl ?_
        refine lv_ldc2 (v := 180000000) hx hb hown (htg _ ct_X2_17) dX2_isPlace_29 ?_
        refine lc_ge (tgt := 40) hx hb dX2_isPlace_32 dX2_isPlace_33 (by decide) (fun c_4 => ?_) (fun c_4 => ?_)
        · refine lv_iconst (v := 0) hx hb dX2_isPlace_40 (by decide) ?_
          exact rd_z hx hb hr hlocks (by decide) (by simp only [f_X2_isPlace, if_neg c_1, if_neg c_2, if_neg c_3, if_pos c_4]) dX2_isPlace_41
        · refine lv_iconst (v := 1) hx hb dX2_isPlace_36 (by decide) ?_
          refine lv_goto (tgt := 41) hx hb dX2_isPlace_37 (by decide) ?_
          exact rd_z hx hb hr hlocks (by decide) (by simp only [f_X2_isPlace, if_neg c_1, if_neg c_2, if_neg c_3, if_neg c_4]) dX2_isPlace_41

def f_X2_isCode (a0 : Int64) : Int32 := (if a0 < (0 : Int64) then (0 : Int32) else (if (17179869184 : Int64) ≤ a0 then (0 : Int32) else (1 : Int32)))
set_option maxHeartbeats 4000000 in
set_option maxRecDepth 100000 in
theorem c_X2_isCode (l : Launch) (a0 : Int64) : Rd l yX2_isCode cX2_isCode 2 (some .boolean) 0 0 [.long a0] (fun _ => True) (some (.int (f_X2_isCode a0))) := by
  refine Rd.of (by decide +kernel) (Nat.le_of_ble_eq_true rfl) ?_
  intro p e s m args below meth c hx hb hr hml hown htg hlocks hB ls hl
  have hown : s.vm.findClass RX2 = some m.cls := hown
  have hl : lv_has ls 2 [(0, .long a0)] := hl
  refine lv_lload_n hx hb dX2_isCode_0 rfl (lv_at hl 0 rfl) ?_
  refine lv_lconst (v := 0) hx hb dX2_isCode_1 (by decide) ?_
  refine lc_lt (tgt := 18) hx hb dX2_isCode_2 dX2_isCode_3 (by decide) (fun c_1 => ?_) (fun c_1 => ?_)
  · refine lv_iconst (v := 0) hx hb dX2_isCode_18 (by decide) ?_
    exact rd_z hx hb hr hlocks (by decide) (by simp only [f_X2_isCode, if_pos c_1]) dX2_isCode_19
  · refine lv_lload_n hx hb dX2_isCode_6 rfl (lv_at hl 0 rfl) ?_
    refine lv_ldc2 (v := 17179869184) hx hb hown (htg _ ct_X2_19) dX2_isCode_7 ?_
    refine lc_ge (tgt := 18) hx hb dX2_isCode_10 dX2_isCode_11 (by decide) (fun c_2 => ?_) (fun c_2 => ?_)
    · refine lv_iconst (v := 0) hx hb dX2_isCode_18 (by decide) ?_
      exact rd_z hx hb hr hlocks (by decide) (by simp only [f_X2_isCode, if_neg c_1, if_pos c_2]) dX2_isCode_19
    · refine lv_iconst (v := 1) hx hb dX2_isCode_14 (by decide) ?_
      refine lv_goto (tgt := 19) hx hb dX2_isCode_15 (by decide) ?_
      exact rd_z hx hb hr hlocks (by decide) (by simp only [f_X2_isCode, if_neg c_1, if_neg c_2]) dX2_isCode_19

def f_X2_pack (a0 : Int64) (a1 : Int64) : Int64 := ((a0 <<< ((32 : Int32).toInt64 &&& 63)) ||| (a1 &&& (4294967295 : Int64)))
set_option maxHeartbeats 4000000 in
set_option maxRecDepth 100000 in
theorem c_X2_pack (l : Launch) (a0 : Int64) (a1 : Int64) : Rd l yX2_pack cX2_pack 4 (some .long) 0 0 [.long a0, .long a1] (fun _ => True) (some (.long (f_X2_pack a0 a1))) := by
  refine Rd.of (by decide +kernel) (Nat.le_of_ble_eq_true rfl) ?_
  intro p e s m args below meth c hx hb hr hml hown htg hlocks hB ls hl
  have hown : s.vm.findClass RX2 = some m.cls := hown
  have hl : lv_has ls 4 [(0, .long a0), (2, .long a1)] := hl
  refine lv_lload_n hx hb dX2_pack_0 rfl (lv_at hl 0 rfl) ?_
  refine lv_bipush (v := 32) hx hb dX2_pack_1 (by decide) ?_
  refine lv_lshl (v := (a0 <<< ((32 : Int32).toInt64 &&& 63))) hx hb dX2_pack_3 rfl ?_
  refine lv_lload_n hx hb dX2_pack_4 rfl (lv_at hl 1 rfl) ?_
  refine lv_ldc2 (v := 4294967295) hx hb hown (htg _ ct_X2_21) dX2_pack_5 ?_
  refine lv_land hx hb dX2_pack_8 ?_
  refine lv_lor hx hb dX2_pack_9 ?_
  exact rd_l hx hb hr hlocks (by simp only [f_X2_pack]) dX2_pack_10

def f_X2_latitudeOf (a0 : Int64) : Int32 := (a0 >>> ((32 : Int32).toInt64 &&& 63)).toInt32
set_option maxHeartbeats 4000000 in
set_option maxRecDepth 100000 in
theorem c_X2_latitudeOf (l : Launch) (a0 : Int64) : Rd l yX2_latitudeOf cX2_latitudeOf 2 (some .int) 0 0 [.long a0] (fun _ => True) (some (.int (f_X2_latitudeOf a0))) := by
  refine Rd.of (by decide +kernel) (Nat.le_of_ble_eq_true rfl) ?_
  intro p e s m args below meth c hx hb hr hml hown htg hlocks hB ls hl
  have hown : s.vm.findClass RX2 = some m.cls := hown
  have hl : lv_has ls 2 [(0, .long a0)] := hl
  refine lv_lload_n hx hb dX2_latitudeOf_0 rfl (lv_at hl 0 rfl) ?_
  refine lv_bipush (v := 32) hx hb dX2_latitudeOf_1 (by decide) ?_
  refine lv_lshr (v := (a0 >>> ((32 : Int32).toInt64 &&& 63))) hx hb dX2_latitudeOf_3 rfl ?_
  refine lv_l2i (v := (a0 >>> ((32 : Int32).toInt64 &&& 63)).toInt32) hx hb dX2_latitudeOf_4 rfl ?_
  exact rd_i hx hb hr hlocks (by simp only [f_X2_latitudeOf]) dX2_latitudeOf_5

def f_X2_longitudeOf (a0 : Int64) : Int32 := a0.toInt32
set_option maxHeartbeats 4000000 in
set_option maxRecDepth 100000 in
theorem c_X2_longitudeOf (l : Launch) (a0 : Int64) : Rd l yX2_longitudeOf cX2_longitudeOf 2 (some .int) 0 0 [.long a0] (fun _ => True) (some (.int (f_X2_longitudeOf a0))) := by
  refine Rd.of (by decide +kernel) (Nat.le_of_ble_eq_true rfl) ?_
  intro p e s m args below meth c hx hb hr hml hown htg hlocks hB ls hl
  have hown : s.vm.findClass RX2 = some m.cls := hown
  have hl : lv_has ls 2 [(0, .long a0)] := hl
  refine lv_lload_n hx hb dX2_longitudeOf_0 rfl (lv_at hl 0 rfl) ?_
  refine lv_l2i (v := a0.toInt32) hx hb dX2_longitudeOf_1 rfl ?_
  exact rd_i hx hb hr hlocks (by simp only [f_X2_longitudeOf]) dX2_longitudeOf_2

def f_X2_quotient (a0 : Int64) (a1 : Int64) : Int64 := (if (0 : Int64) < a1 then (f_J9_floorDiv_f86c9 a0 a1) else (0 : Int64))
set_option maxHeartbeats 4000000 in
set_option maxRecDepth 100000 in
theorem c_X2_quotient (l : Launch) (a0 : Int64) (a1 : Int64) : Rd l yX2_quotient cX2_quotient 4 (some .long) 1 25 [.long a0, .long a1] (fun _ => True) (some (.long (f_X2_quotient a0 a1))) := by
  refine Rd.of (by decide +kernel) (Nat.le_of_ble_eq_true rfl) ?_
  intro p e s m args below meth c hx hb hr hml hown htg hlocks hB ls hl
  have hown : s.vm.findClass RX2 = some m.cls := hown
  have hl : lv_has ls 4 [(0, .long a0), (2, .long a1)] := hl
  refine lv_lload_n hx hb dX2_quotient_0 rfl (lv_at hl 1 rfl) ?_
  refine lv_lconst (v := 0) hx hb dX2_quotient_1 (by decide) ?_
  refine lc_gt (tgt := 10) hx hb dX2_quotient_2 dX2_quotient_3 (by decide) (fun c_1 => ?_) (fun c_1 => ?_)
  · refine lv_lload_n hx hb dX2_quotient_10 rfl (lv_at hl 0 rfl) ?_
    refine lv_lload_n hx hb dX2_quotient_11 rfl (lv_at hl 1 rfl) ?_
    refine rS (As := [.long a0, .long a1]) (rest := []) hx hb hml hown htg (c_J9_floorDiv_f86c9 l a0 a1 (fun q => absurd c_1 (by rw [q]; decide))) Blind.tt ml_X2_69 st_J9_floorDiv_f86c9 ini_J9 co_J9_floorDiv_f86c9 dn_J9_floorDiv_f86c9 rfl (fun _ _ _ => trivial) hl.1 rfl (Nat.le_of_ble_eq_true rfl) ⟨Nat.le_of_ble_eq_true rfl, Nat.le_of_ble_eq_true rfl⟩ ⟨Nat.le_of_ble_eq_true rfl, Nat.le_of_ble_eq_true rfl⟩ dX2_quotient_12 ?_
    exact rd_l hx hb hr hlocks (by simp only [f_X2_quotient, if_pos c_1]) dX2_quotient_15
  · refine lv_lconst (v := 0) hx hb dX2_quotient_6 (by decide) ?_
    refine lv_goto (tgt := 15) hx hb dX2_quotient_7 (by decide) ?_
    exact rd_l hx hb hr hlocks (by simp only [f_X2_quotient, if_neg c_1]) dX2_quotient_15

def f_X2_remainder (a0 : Int64) (a1 : Int64) : Int64 := (if (0 : Int64) < a1 then (f_J9_floorMod_f86c9 a0 a1) else (0 : Int64))
set_option maxHeartbeats 4000000 in
set_option maxRecDepth 100000 in
theorem c_X2_remainder (l : Launch) (a0 : Int64) (a1 : Int64) : Rd l yX2_remainder cX2_remainder 4 (some .long) 1 25 [.long a0, .long a1] (fun _ => True) (some (.long (f_X2_remainder a0 a1))) := by
  refine Rd.of (by decide +kernel) (Nat.le_of_ble_eq_true rfl) ?_
  intro p e s m args below meth c hx hb hr hml hown htg hlocks hB ls hl
  have hown : s.vm.findClass RX2 = some m.cls := hown
  have hl : lv_has ls 4 [(0, .long a0), (2, .long a1)] := hl
  refine lv_lload_n hx hb dX2_remainder_0 rfl (lv_at hl 1 rfl) ?_
  refine lv_lconst (v := 0) hx hb dX2_remainder_1 (by decide) ?_
  refine lc_gt (tgt := 10) hx hb dX2_remainder_2 dX2_remainder_3 (by decide) (fun c_1 => ?_) (fun c_1 => ?_)
  · refine lv_lload_n hx hb dX2_remainder_10 rfl (lv_at hl 0 rfl) ?_
    refine lv_lload_n hx hb dX2_remainder_11 rfl (lv_at hl 1 rfl) ?_
    refine rS (As := [.long a0, .long a1]) (rest := []) hx hb hml hown htg (c_J9_floorMod_f86c9 l a0 a1 (fun q => absurd c_1 (by rw [q]; decide))) Blind.tt ml_X2_56 st_J9_floorMod_f86c9 ini_J9 co_J9_floorMod_f86c9 dn_J9_floorMod_f86c9 rfl (fun _ _ _ => trivial) hl.1 rfl (Nat.le_of_ble_eq_true rfl) ⟨Nat.le_of_ble_eq_true rfl, Nat.le_of_ble_eq_true rfl⟩ ⟨Nat.le_of_ble_eq_true rfl, Nat.le_of_ble_eq_true rfl⟩ dX2_remainder_12 ?_
    exact rd_l hx hb hr hlocks (by simp only [f_X2_remainder, if_pos c_1]) dX2_remainder_15
  · refine lv_lconst (v := 0) hx hb dX2_remainder_6 (by decide) ?_
    refine lv_goto (tgt := 15) hx hb dX2_remainder_7 (by decide) ?_
    exact rd_l hx hb hr hlocks (by simp only [f_X2_remainder, if_neg c_1]) dX2_remainder_15

def f_X2_turnOf (a0 : Int32) : Int64 := (if a0 = 0 then (360000000 : Int64) else (90000000 : Int64))
set_option maxHeartbeats 4000000 in
set_option maxRecDepth 100000 in
theorem c_X2_turnOf (l : Launch) (a0 : Int32) : Rd l yX2_turnOf cX2_turnOf 1 (some .long) 0 0 [.int a0] (fun _ => True) (some (.long (f_X2_turnOf a0))) := by
  refine Rd.of (by decide +kernel) (Nat.le_of_ble_eq_true rfl) ?_
  intro p e s m args below meth c hx hb hr hml hown htg hlocks hB ls hl
  have hown : s.vm.findClass RX2 = some m.cls := hown
  have hl : lv_has ls 1 [(0, .int a0)] := hl
  refine lv_iload_n hx hb dX2_turnOf_0 rfl (lv_at hl 0 rfl) ?_
  refine lv_if_eq (tgt := 10) hx hb dX2_turnOf_1 (by decide) (fun c_1 => ?_) (fun c_1 => ?_)
  · refine lv_ldc2 (v := 360000000) hx hb hown (htg _ ct_X2_75) dX2_turnOf_10 ?_
    exact rd_l hx hb hr hlocks (by simp only [f_X2_turnOf, if_pos c_1]) dX2_turnOf_13
  · refine lv_ldc2 (v := 90000000) hx hb hown (htg _ ct_X2_13) dX2_turnOf_4 ?_
    refine lv_goto (tgt := 13) hx hb dX2_turnOf_7 (by decide) ?_
    exact rd_l hx hb hr hlocks (by simp only [f_X2_turnOf, if_neg c_1]) dX2_turnOf_13

def f_X2_bandsOf (a0 : Int32) : Int64 := (if a0 = 0 then (60 : Int64) else (59 : Int64))
set_option maxHeartbeats 4000000 in
set_option maxRecDepth 100000 in
theorem c_X2_bandsOf (l : Launch) (a0 : Int32) : Rd l yX2_bandsOf cX2_bandsOf 1 (some .long) 0 0 [.int a0] (fun _ => True) (some (.long (f_X2_bandsOf a0))) := by
  refine Rd.of (by decide +kernel) (Nat.le_of_ble_eq_true rfl) ?_
  intro p e s m args below meth c hx hb hr hml hown htg hlocks hB ls hl
  have hown : s.vm.findClass RX2 = some m.cls := hown
  have hl : lv_has ls 1 [(0, .int a0)] := hl
  refine lv_iload_n hx hb dX2_bandsOf_0 rfl (lv_at hl 0 rfl) ?_
  refine lv_if_eq (tgt := 10) hx hb dX2_bandsOf_1 (by decide) (fun c_1 => ?_) (fun c_1 => ?_)
  · refine lv_ldc2 (v := 60) hx hb hown (htg _ ct_X2_65) dX2_bandsOf_10 ?_
    exact rd_l hx hb hr hlocks (by simp only [f_X2_bandsOf, if_pos c_1]) dX2_bandsOf_13
  · refine lv_ldc2 (v := 59) hx hb hown (htg _ ct_X2_60) dX2_bandsOf_4 ?_
    refine lv_goto (tgt := 13) hx hb dX2_bandsOf_7 (by decide) ?_
    exact rd_l hx hb hr hlocks (by simp only [f_X2_bandsOf, if_neg c_1]) dX2_bandsOf_13

def f_X2_zonesOf (a0 : Int32) (a1 : Int32) : Int64 := (f_J9_max_7cf53 (1 : Int32) (if a1 = 0 then a0 else (a0 - (1 : Int32)))).toInt64
set_option maxHeartbeats 4000000 in
set_option maxRecDepth 100000 in
theorem c_X2_zonesOf (l : Launch) (a0 : Int32) (a1 : Int32) : Rd l yX2_zonesOf cX2_zonesOf 2 (some .long) 1 21 [.int a0, .int a1] (fun _ => True) (some (.long (f_X2_zonesOf a0 a1))) := by
  refine Rd.of (by decide +kernel) (Nat.le_of_ble_eq_true rfl) ?_
  intro p e s m args below meth c hx hb hr hml hown htg hlocks hB ls hl
  have hown : s.vm.findClass RX2 = some m.cls := hown
  have hl : lv_has ls 2 [(0, .int a0), (1, .int a1)] := hl
  refine lv_iconst (v := 1) hx hb dX2_zonesOf_0 (by decide) ?_
  refine lv_iload_n hx hb dX2_zonesOf_1 rfl (lv_at hl 1 rfl) ?_
  refine W.join (nL := 2) (lv := [(0, .int a0), (1, .int a1)]) (pc2 := 12) (st2 := [.int (if a1 = 0 then a0 else (a0 - (1 : Int32))), .int (1 : Int32)]) (fun ls hl => ?_) (fun J => ?_)
  · refine rS (As := [.int (1 : Int32), .int (if a1 = 0 then a0 else (a0 - (1 : Int32)))]) (rest := []) hx hb hml hown htg (c_J9_max_7cf53 l (1 : Int32) (if a1 = 0 then a0 else (a0 - (1 : Int32)))) Blind.tt ml_X2_110 st_J9_max_7cf53 ini_J9 co_J9_max_7cf53 dn_J9_max_7cf53 rfl (fun _ _ _ => trivial) hl.1 rfl (Nat.le_of_ble_eq_true rfl) ⟨Nat.le_of_ble_eq_true rfl, Nat.le_of_ble_eq_true rfl⟩ ⟨Nat.le_of_ble_eq_true rfl, Nat.le_of_ble_eq_true rfl⟩ dX2_zonesOf_12 ?_
    refine lv_i2l (v := (f_J9_max_7cf53 (1 : Int32) (if a1 = 0 then a0 else (a0 - (1 : Int32)))).toInt64) hx hb dX2_zonesOf_15 rfl ?_
    exact rd_l hx hb hr hlocks (by simp only [f_X2_zonesOf]) dX2_zonesOf_16
  · refine lv_if_eq (tgt := 11) hx hb dX2_zonesOf_2 (by decide) (fun c_1 => ?_) (fun c_1 => ?_)
    · refine lv_iload_n hx hb dX2_zonesOf_11 rfl (lv_at hl 0 rfl) ?_
      exact W.eq (by first | simp only [if_pos c_1] | rfl) (J ls (lv_sub hl [0, 1] rfl))
    · refine lv_iload_n hx hb dX2_zonesOf_5 rfl (lv_at hl 0 rfl) ?_
      refine lv_iconst (v := 1) hx hb dX2_zonesOf_6 (by decide) ?_
      refine lv_isub hx hb dX2_zonesOf_7 ?_
      refine lv_goto (tgt := 12) hx hb dX2_zonesOf_8 (by decide) ?_
      exact W.eq (by first | simp only [if_neg c_1] | rfl) (J ls (lv_sub hl [0, 1] rfl))

def f_X2_yOf (a0 : Int64) : Int64 := (a0 / (131072 : Int64))
set_option maxHeartbeats 4000000 in
set_option maxRecDepth 100000 in
theorem c_X2_yOf (l : Launch) (a0 : Int64) : Rd l yX2_yOf cX2_yOf 2 (some .long) 0 0 [.long a0] (fun _ => True) (some (.long (f_X2_yOf a0))) := by
  refine Rd.of (by decide +kernel) (Nat.le_of_ble_eq_true rfl) ?_
  intro p e s m args below meth c hx hb hr hml hown htg hlocks hB ls hl
  have hown : s.vm.findClass RX2 = some m.cls := hown
  have hl : lv_has ls 2 [(0, .long a0)] := hl
  refine lv_lload_n hx hb dX2_yOf_0 rfl (lv_at hl 0 rfl) ?_
  refine lv_ldc2 (v := 131072) hx hb hown (htg _ ct_X2_54) dX2_yOf_1 ?_
  refine lv_ldiv hx hb dX2_yOf_4 (by decide) ?_
  exact rd_l hx hb hr hlocks (by simp only [f_X2_yOf]) dX2_yOf_5

def f_X2_xOf (a0 : Int64) : Int64 := (a0 - a0 / (131072 : Int64) * (131072 : Int64))
set_option maxHeartbeats 4000000 in
set_option maxRecDepth 100000 in
theorem c_X2_xOf (l : Launch) (a0 : Int64) : Rd l yX2_xOf cX2_xOf 2 (some .long) 0 0 [.long a0] (fun _ => True) (some (.long (f_X2_xOf a0))) := by
  refine Rd.of (by decide +kernel) (Nat.le_of_ble_eq_true rfl) ?_
  intro p e s m args below meth c hx hb hr hml hown htg hlocks hB ls hl
  have hown : s.vm.findClass RX2 = some m.cls := hown
  have hl : lv_has ls 2 [(0, .long a0)] := hl
  refine lv_lload_n hx hb dX2_xOf_0 rfl (lv_at hl 0 rfl) ?_
  refine lv_ldc2 (v := 131072) hx hb hown (htg _ ct_X2_54) dX2_xOf_1 ?_
  refine lv_lrem hx hb dX2_xOf_4 (by decide) ?_
  exact rd_l hx hb hr hlocks (by simp only [f_X2_xOf]) dX2_xOf_5

def f_X2_nearestStep (a0 : Int64) (a1 : Int64) (a2 : Int64) : Int64 := (f_X2_quotient (((((2 : Int64) * a0) * a1) * (131072 : Int64)) + a2) ((2 : Int64) * a2))
set_option maxHeartbeats 4000000 in
set_option maxRecDepth 100000 in
theorem c_X2_nearestStep (l : Launch) (a0 : Int64) (a1 : Int64) (a2 : Int64) : Rd l yX2_nearestStep cX2_nearestStep 6 (some .long) 2 48 [.long a0, .long a1, .long a2] (fun _ => True) (some (.long (f_X2_nearestStep a0 a1 a2))) := by
  refine Rd.of (by decide +kernel) (Nat.le_of_ble_eq_true rfl) ?_
  intro p e s m args below meth c hx hb hr hml hown htg hlocks hB ls hl
  have hown : s.vm.findClass RX2 = some m.cls := hown
  have hl : lv_has ls 6 [(0, .long a0), (2, .long a1), (4, .long a2)] := hl
  refine lv_ldc2 (v := 2) hx hb hown (htg _ ct_X2_114) dX2_nearestStep_0 ?_
  refine lv_lload_n hx hb dX2_nearestStep_3 rfl (lv_at hl 0 rfl) ?_
  refine lv_lmul hx hb dX2_nearestStep_4 ?_
  refine lv_lload_n hx hb dX2_nearestStep_5 rfl (lv_at hl 1 rfl) ?_
  refine lv_lmul hx hb dX2_nearestStep_6 ?_
  refine lv_ldc2 (v := 131072) hx hb hown (htg _ ct_X2_54) dX2_nearestStep_7 ?_
  refine lv_lmul hx hb dX2_nearestStep_10 ?_
  refine lv_lload hx hb dX2_nearestStep_11 (lv_at hl 2 rfl) ?_
  refine lv_ladd hx hb dX2_nearestStep_13 ?_
  refine lv_ldc2 (v := 2) hx hb hown (htg _ ct_X2_114) dX2_nearestStep_14 ?_
  refine lv_lload hx hb dX2_nearestStep_17 (lv_at hl 2 rfl) ?_
  refine lv_lmul hx hb dX2_nearestStep_19 ?_
  refine rS (As := [.long (((((2 : Int64) * a0) * a1) * (131072 : Int64)) + a2), .long ((2 : Int64) * a2)]) (rest := []) hx hb hml hown htg (c_X2_quotient l (((((2 : Int64) * a0) * a1) * (131072 : Int64)) + a2) ((2 : Int64) * a2)) Blind.tt ml_X2_104 st_X2_quotient ini_X2 co_X2_quotient dn_X2_quotient rfl (fun _ _ _ => trivial) hl.1 rfl (Nat.le_of_ble_eq_true rfl) ⟨Nat.le_of_ble_eq_true rfl, Nat.le_of_ble_eq_true rfl⟩ ⟨Nat.le_of_ble_eq_true rfl, Nat.le_of_ble_eq_true rfl⟩ dX2_nearestStep_20 ?_
  exact rd_l hx hb hr hlocks (by simp only [f_X2_nearestStep]) dX2_nearestStep_23

def f_X2_stepNear (a0 : Int64) (a1 : Int64) (a2 : Int64) (a3 : Int64) : Int64 := (((131072 : Int64) * (f_X2_quotient (((a0 * a2) * (131072 : Int64)) + (a3 * ((65536 : Int64) - a1))) (a3 * (131072 : Int64)))) + a1)
set_option maxHeartbeats 4000000 in
set_option maxRecDepth 100000 in
theorem c_X2_stepNear (l : Launch) (a0 : Int64) (a1 : Int64) (a2 : Int64) (a3 : Int64) : Rd l yX2_stepNear cX2_stepNear 10 (some .long) 2 48 [.long a0, .long a1, .long a2, .long a3] (fun _ => True) (some (.long (f_X2_stepNear a0 a1 a2 a3))) := by
  refine Rd.of (by decide +kernel) (Nat.le_of_ble_eq_true rfl) ?_
  intro p e s m args below meth c hx hb hr hml hown htg hlocks hB ls hl
  have hown : s.vm.findClass RX2 = some m.cls := hown
  have hl : lv_has ls 10 [(0, .long a0), (2, .long a1), (4, .long a2), (6, .long a3)] := hl
  refine lv_lload_n hx hb dX2_stepNear_0 rfl (lv_at hl 0 rfl) ?_
  refine lv_lload hx hb dX2_stepNear_1 (lv_at hl 2 rfl) ?_
  refine lv_lmul hx hb dX2_stepNear_3 ?_
  refine lv_ldc2 (v := 131072) hx hb hown (htg _ ct_X2_54) dX2_stepNear_4 ?_
  refine lv_lmul hx hb dX2_stepNear_7 ?_
  refine lv_lload hx hb dX2_stepNear_8 (lv_at hl 3 rfl) ?_
  refine lv_ldc2 (v := 65536) hx hb hown (htg _ ct_X2_67) dX2_stepNear_10 ?_
  refine lv_lload_n hx hb dX2_stepNear_13 rfl (lv_at hl 1 rfl) ?_
  refine lv_lsub hx hb dX2_stepNear_14 ?_
  refine lv_lmul hx hb dX2_stepNear_15 ?_
  refine lv_ladd hx hb dX2_stepNear_16 ?_
  refine lv_lload hx hb dX2_stepNear_17 (lv_at hl 3 rfl) ?_
  refine lv_ldc2 (v := 131072) hx hb hown (htg _ ct_X2_54) dX2_stepNear_19 ?_
  refine lv_lmul hx hb dX2_stepNear_22 ?_
  refine rS (As := [.long (((a0 * a2) * (131072 : Int64)) + (a3 * ((65536 : Int64) - a1))), .long (a3 * (131072 : Int64))]) (rest := []) hx hb hml hown htg (c_X2_quotient l (((a0 * a2) * (131072 : Int64)) + (a3 * ((65536 : Int64) - a1))) (a3 * (131072 : Int64))) Blind.tt ml_X2_104 st_X2_quotient ini_X2 co_X2_quotient dn_X2_quotient rfl (fun _ _ _ => trivial) hl.1 rfl (Nat.le_of_ble_eq_true rfl) ⟨Nat.le_of_ble_eq_true rfl, Nat.le_of_ble_eq_true rfl⟩ ⟨Nat.le_of_ble_eq_true rfl, Nat.le_of_ble_eq_true rfl⟩ dX2_stepNear_23 ?_
  refine lv_lstore (lv' := [(8, .long (f_X2_quotient (((a0 * a2) * (131072 : Int64)) + (a3 * ((65536 : Int64) - a1))) (a3 * (131072 : Int64)))), (0, .long a0), (2, .long a1), (4, .long a2), (6, .long a3)]) hx hb dX2_stepNear_26 hl (by decide) rfl (fun ls hl => ?_)
  refine lv_ldc2 (v := 131072) hx hb hown (htg _ ct_X2_54) dX2_stepNear_28 ?_
  refine lv_lload hx hb dX2_stepNear_31 (lv_at hl 0 rfl) ?_
  refine lv_lmul hx hb dX2_stepNear_33 ?_
  refine lv_lload_n hx hb dX2_stepNear_34 rfl (lv_at hl 2 rfl) ?_
  refine lv_ladd hx hb dX2_stepNear_35 ?_
  exact rd_l hx hb hr hlocks (by simp only [f_X2_stepNear]) dX2_stepNear_36

def f_X2_stepInBand (a0 : Int64) (a1 : Int64) (a2 : Int64) : Int64 := (if ((4 : Int64) * (((131072 : Int64) * (f_X2_remainder a0 a2)) + a1)) < (((3 : Int64) * a2) * (131072 : Int64)) then (((131072 : Int64) * (f_X2_remainder a0 a2)) + a1) else ((((131072 : Int64) * (f_X2_remainder a0 a2)) + a1) - (a2 * (131072 : Int64))))
set_option maxHeartbeats 4000000 in
set_option maxRecDepth 100000 in
theorem c_X2_stepInBand (l : Launch) (a0 : Int64) (a1 : Int64) (a2 : Int64) : Rd l yX2_stepInBand cX2_stepInBand 8 (some .long) 2 48 [.long a0, .long a1, .long a2] (fun _ => True) (some (.long (f_X2_stepInBand a0 a1 a2))) := by
  refine Rd.of (by decide +kernel) (Nat.le_of_ble_eq_true rfl) ?_
  intro p e s m args below meth c hx hb hr hml hown htg hlocks hB ls hl
  have hown : s.vm.findClass RX2 = some m.cls := hown
  have hl : lv_has ls 8 [(0, .long a0), (2, .long a1), (4, .long a2)] := hl
  refine lv_ldc2 (v := 131072) hx hb hown (htg _ ct_X2_54) dX2_stepInBand_0 ?_
  refine lv_lload_n hx hb dX2_stepInBand_3 rfl (lv_at hl 0 rfl) ?_
  refine lv_lload hx hb dX2_stepInBand_4 (lv_at hl 2 rfl) ?_
  refine rS (As := [.long a0, .long a2]) (rest := [.long (131072 : Int64)]) hx hb hml hown htg (c_X2_remainder l a0 a2) Blind.tt ml_X2_86 st_X2_remainder ini_X2 co_X2_remainder dn_X2_remainder rfl (fun _ _ _ => trivial) hl.1 rfl (Nat.le_of_ble_eq_true rfl) ⟨Nat.le_of_ble_eq_true rfl, Nat.le_of_ble_eq_true rfl⟩ ⟨Nat.le_of_ble_eq_true rfl, Nat.le_of_ble_eq_true rfl⟩ dX2_stepInBand_6 ?_
  refine lv_lmul hx hb dX2_stepInBand_9 ?_
  refine lv_lload_n hx hb dX2_stepInBand_10 rfl (lv_at hl 1 rfl) ?_
  refine lv_ladd hx hb dX2_stepInBand_11 ?_
  refine lv_lstore (lv' := [(6, .long (((131072 : Int64) * (f_X2_remainder a0 a2)) + a1)), (0, .long a0), (2, .long a1), (4, .long a2)]) hx hb dX2_stepInBand_12 hl (by decide) rfl (fun ls hl => ?_)
  refine lv_ldc2 (v := 4) hx hb hown (htg _ ct_X2_116) dX2_stepInBand_14 ?_
  refine lv_lload hx hb dX2_stepInBand_17 (lv_at hl 0 rfl) ?_
  refine lv_lmul hx hb dX2_stepInBand_19 ?_
  refine lv_ldc2 (v := 3) hx hb hown (htg _ ct_X2_118) dX2_stepInBand_20 ?_
  refine lv_lload hx hb dX2_stepInBand_23 (lv_at hl 3 rfl) ?_
  refine lv_lmul hx hb dX2_stepInBand_25 ?_
  refine lv_ldc2 (v := 131072) hx hb hown (htg _ ct_X2_54) dX2_stepInBand_26 ?_
  refine lv_lmul hx hb dX2_stepInBand_29 ?_
  refine lc_lt (tgt := 46) hx hb dX2_stepInBand_30 dX2_stepInBand_31 (by decide) (fun c_1 => ?_) (fun c_1 => ?_)
  · refine lv_lload hx hb dX2_stepInBand_46 (lv_at hl 0 rfl) ?_
    exact rd_l hx hb hr hlocks (by simp only [f_X2_stepInBand, if_pos c_1]) dX2_stepInBand_48
  · refine lv_lload hx hb dX2_stepInBand_34 (lv_at hl 0 rfl) ?_
    refine lv_lload hx hb dX2_stepInBand_36 (lv_at hl 3 rfl) ?_
    refine lv_ldc2 (v := 131072) hx hb hown (htg _ ct_X2_54) dX2_stepInBand_38 ?_
    refine lv_lmul hx hb dX2_stepInBand_41 ?_
    refine lv_lsub hx hb dX2_stepInBand_42 ?_
    refine lv_goto (tgt := 48) hx hb dX2_stepInBand_43 (by decide) ?_
    exact rd_l hx hb hr hlocks (by simp only [f_X2_stepInBand, if_neg c_1]) dX2_stepInBand_48

def f_X2_isBeyondPole (a0 : Int64) (a1 : Int64) (a2 : Int64) : Int32 := (if (a2 * (f_J9_abs_067f4 a0)) ≤ (((90000000 : Int64) * a1) * (131072 : Int64)) then (0 : Int32) else (1 : Int32))
set_option maxHeartbeats 4000000 in
set_option maxRecDepth 100000 in
theorem c_X2_isBeyondPole (l : Launch) (a0 : Int64) (a1 : Int64) (a2 : Int64) : Rd l yX2_isBeyondPole cX2_isBeyondPole 6 (some .boolean) 1 21 [.long a0, .long a1, .long a2] (fun _ => True) (some (.int (f_X2_isBeyondPole a0 a1 a2))) := by
  refine Rd.of (by decide +kernel) (Nat.le_of_ble_eq_true rfl) ?_
  intro p e s m args below meth c hx hb hr hml hown htg hlocks hB ls hl
  have hown : s.vm.findClass RX2 = some m.cls := hown
  have hl : lv_has ls 6 [(0, .long a0), (2, .long a1), (4, .long a2)] := hl
  refine lv_lload hx hb dX2_isBeyondPole_0 (lv_at hl 2 rfl) ?_
  refine lv_lload_n hx hb dX2_isBeyondPole_2 rfl (lv_at hl 0 rfl) ?_
  refine rS (As := [.long a0]) (rest := [.long a2]) hx hb hml hown htg (c_J9_abs_067f4 l a0) Blind.tt ml_X2_23 st_J9_abs_067f4 ini_J9 co_J9_abs_067f4 dn_J9_abs_067f4 rfl (fun _ _ _ => trivial) hl.1 rfl (Nat.le_of_ble_eq_true rfl) ⟨Nat.le_of_ble_eq_true rfl, Nat.le_of_ble_eq_true rfl⟩ ⟨Nat.le_of_ble_eq_true rfl, Nat.le_of_ble_eq_true rfl⟩ dX2_isBeyondPole_3 ?_
  refine lv_lmul hx hb dX2_isBeyondPole_6 ?_
  refine lv_ldc2 (v := 90000000) hx hb hown (htg _ ct_X2_13) dX2_isBeyondPole_7 ?_
  refine lv_lload_n hx hb dX2_isBeyondPole_10 rfl (lv_at hl 1 rfl) ?_
  refine lv_lmul hx hb dX2_isBeyondPole_11 ?_
  refine lv_ldc2 (v := 131072) hx hb hown (htg _ ct_X2_54) dX2_isBeyondPole_12 ?_
  refine lv_lmul hx hb dX2_isBeyondPole_15 ?_
  refine lc_le (tgt := 24) hx hb dX2_isBeyondPole_16 dX2_isBeyondPole_17 (by decide) (fun c_1 => ?_) (fun c_1 => ?_)
  · refine lv_iconst (v := 0) hx hb dX2_isBeyondPole_24 (by decide) ?_
    exact rd_z hx hb hr hlocks (by decide) (by simp only [f_X2_isBeyondPole, if_pos c_1]) dX2_isBeyondPole_25
  · refine lv_iconst (v := 1) hx hb dX2_isBeyondPole_20 (by decide) ?_
    refine lv_goto (tgt := 25) hx hb dX2_isBeyondPole_21 (by decide) ?_
    exact rd_z hx hb hr hlocks (by decide) (by simp only [f_X2_isBeyondPole, if_neg c_1]) dX2_isBeyondPole_25

def f_X2_placeAt (a0 : Int64) (a1 : Int64) (a2 : Int64) (a3 : Int32) (a4 : Int32) : Int64 := (f_X2_pack (f_X2_quotient ((f_X2_turnOf a3) * a0) ((f_X2_bandsOf a4) * (131072 : Int64))) (if (f_X2_quotient ((f_X2_turnOf a3) * a1) (a2 * (131072 : Int64))) < (180000000 : Int64) then (if (-180000000 : Int64) ≤ (f_X2_quotient ((f_X2_turnOf a3) * a1) (a2 * (131072 : Int64))) then (f_X2_quotient ((f_X2_turnOf a3) * a1) (a2 * (131072 : Int64))) else ((f_X2_quotient ((f_X2_turnOf a3) * a1) (a2 * (131072 : Int64))) + (360000000 : Int64))) else ((f_X2_quotient ((f_X2_turnOf a3) * a1) (a2 * (131072 : Int64))) - (360000000 : Int64))))
set_option maxHeartbeats 4000000 in
set_option maxRecDepth 100000 in
theorem c_X2_placeAt (l : Launch) (a0 : Int64) (a1 : Int64) (a2 : Int64) (a3 : Int32) (a4 : Int32) : Rd l yX2_placeAt cX2_placeAt 14 (some .long) 2 48 [.long a0, .long a1, .long a2, .int a3, .int a4] (fun _ => True) (some (.long (f_X2_placeAt a0 a1 a2 a3 a4))) := by
  refine Rd.of (by decide +kernel) (Nat.le_of_ble_eq_true rfl) ?_
  intro p e s m args below meth c hx hb hr hml hown htg hlocks hB ls hl
  have hown : s.vm.findClass RX2 = some m.cls := hown
  have hl : lv_has ls 14 [(0, .long a0), (2, .long a1), (4, .long a2), (6, .int a3), (7, .int a4)] := hl
  refine lv_iload hx hb dX2_placeAt_0 (lv_at hl 3 rfl) ?_
  refine rS (As := [.int a3]) (rest := []) hx hb hml hown htg (c_X2_turnOf l a3) Blind.tt ml_X2_35 st_X2_turnOf ini_X2 co_X2_turnOf dn_X2_turnOf rfl (fun _ _ _ => trivial) hl.1 rfl (Nat.le_of_ble_eq_true rfl) ⟨Nat.le_of_ble_eq_true rfl, Nat.le_of_ble_eq_true rfl⟩ ⟨Nat.le_of_ble_eq_true rfl, Nat.le_of_ble_eq_true rfl⟩ dX2_placeAt_2 ?_
  refine lv_lstore (lv' := [(8, .long (f_X2_turnOf a3)), (0, .long a0), (2, .long a1), (4, .long a2), (6, .int a3), (7, .int a4)]) hx hb dX2_placeAt_5 hl (by decide) rfl (fun ls hl => ?_)
  refine lv_lload hx hb dX2_placeAt_7 (lv_at hl 0 rfl) ?_
  refine lv_lload_n hx hb dX2_placeAt_9 rfl (lv_at hl 1 rfl) ?_
  refine lv_lmul hx hb dX2_placeAt_10 ?_
  refine lv_iload hx hb dX2_placeAt_11 (lv_at hl 5 rfl) ?_
  refine rS (As := [.int a4]) (rest := [.long ((f_X2_turnOf a3) * a0)]) hx hb hml hown htg (c_X2_bandsOf l a4) Blind.tt ml_X2_39 st_X2_bandsOf ini_X2 co_X2_bandsOf dn_X2_bandsOf rfl (fun _ _ _ => trivial) hl.1 rfl (Nat.le_of_ble_eq_true rfl) ⟨Nat.le_of_ble_eq_true rfl, Nat.le_of_ble_eq_true rfl⟩ ⟨Nat.le_of_ble_eq_true rfl, Nat.le_of_ble_eq_true rfl⟩ dX2_placeAt_13 ?_
  refine lv_ldc2 (v := 131072) hx hb hown (htg _ ct_X2_54) dX2_placeAt_16 ?_
  refine lv_lmul hx hb dX2_placeAt_19 ?_
  refine rS (As := [.long ((f_X2_turnOf a3) * a0), .long ((f_X2_bandsOf a4) * (131072 : Int64))]) (rest := []) hx hb hml hown htg (c_X2_quotient l ((f_X2_turnOf a3) * a0) ((f_X2_bandsOf a4) * (131072 : Int64))) Blind.tt ml_X2_104 st_X2_quotient ini_X2 co_X2_quotient dn_X2_quotient rfl (fun _ _ _ => trivial) hl.1 rfl (Nat.le_of_ble_eq_true rfl) ⟨Nat.le_of_ble_eq_true rfl, Nat.le_of_ble_eq_true rfl⟩ ⟨Nat.le_of_ble_eq_true rfl, Nat.le_of_ble_eq_true rfl⟩ dX2_placeAt_20 ?_
  refine lv_lstore (lv' := [(10, .long (f_X2_quotient ((f_X2_turnOf a3) * a0) ((f_X2_bandsOf a4) * (131072 : Int64)))), (8, .long (f_X2_turnOf a3)), (0, .long a0), (2, .long a1), (4, .long a2), (6, .int a3), (7, .int a4)]) hx hb dX2_placeAt_23 hl (by decide) rfl (fun ls hl => ?_)
  refine lv_lload hx hb dX2_placeAt_25 (lv_at hl 1 rfl) ?_
  refine lv_lload_n hx hb dX2_placeAt_27 rfl (lv_at hl 3 rfl) ?_
  refine lv_lmul hx hb dX2_placeAt_28 ?_
  refine lv_lload hx hb dX2_placeAt_29 (lv_at hl 4 rfl) ?_
  refine lv_ldc2 (v := 131072) hx hb hown (htg _ ct_X2_54) dX2_placeAt_31 ?_
  refine lv_lmul hx hb dX2_placeAt_34 ?_
  refine rS (As := [.long ((f_X2_turnOf a3) * a1), .long (a2 * (131072 : Int64))]) (rest := []) hx hb hml hown htg (c_X2_quotient l ((f_X2_turnOf a3) * a1) (a2 * (131072 : Int64))) Blind.tt ml_X2_104 st_X2_quotient ini_X2 co_X2_quotient dn_X2_quotient rfl (fun _ _ _ => trivial) hl.1 rfl (Nat.le_of_ble_eq_true rfl) ⟨Nat.le_of_ble_eq_true rfl, Nat.le_of_ble_eq_true rfl⟩ ⟨Nat.le_of_ble_eq_true rfl, Nat.le_of_ble_eq_true rfl⟩ dX2_placeAt_35 ?_
  refine lv_lstore (lv' := [(12, .long (f_X2_quotient ((f_X2_turnOf a3) * a1) (a2 * (131072 : Int64)))), (10, .long (f_X2_quotient ((f_X2_turnOf a3) * a0) ((f_X2_bandsOf a4) * (131072 : Int64)))), (8, .long (f_X2_turnOf a3)), (0, .long a0), (2, .long a1), (4, .long a2), (6, .int a3), (7, .int a4)]) hx hb dX2_placeAt_38 hl (by decide) rfl (fun ls hl => ?_)
  refine lv_lload hx hb dX2_placeAt_40 (lv_at hl 0 rfl) ?_
  refine lv_ldc2 (v := 180000000) hx hb hown (htg _ ct_X2_17) dX2_placeAt_42 ?_
  refine W.join (nL := 14) (lv := [(12, .long (if (f_X2_quotient ((f_X2_turnOf a3) * a1) (a2 * (131072 : Int64))) < (180000000 : Int64) then (if (-180000000 : Int64) ≤ (f_X2_quotient ((f_X2_turnOf a3) * a1) (a2 * (131072 : Int64))) then (f_X2_quotient ((f_X2_turnOf a3) * a1) (a2 * (131072 : Int64))) else ((f_X2_quotient ((f_X2_turnOf a3) * a1) (a2 * (131072 : Int64))) + (360000000 : Int64))) else ((f_X2_quotient ((f_X2_turnOf a3) * a1) (a2 * (131072 : Int64))) - (360000000 : Int64)))), (10, .long (f_X2_quotient ((f_X2_turnOf a3) * a0) ((f_X2_bandsOf a4) * (131072 : Int64)))), (8, .long (f_X2_turnOf a3)), (0, .long a0), (2, .long a1), (4, .long a2), (6, .int a3), (7, .int a4)]) (pc2 := 77) (st2 := []) (fun ls hl => ?_) (fun J => ?_)
  · refine lv_lload hx hb dX2_placeAt_77 (lv_at hl 1 rfl) ?_
    refine lv_lload hx hb dX2_placeAt_79 (lv_at hl 0 rfl) ?_
    refine rS (As := [.long (f_X2_quotient ((f_X2_turnOf a3) * a0) ((f_X2_bandsOf a4) * (131072 : Int64))), .long (if (f_X2_quotient ((f_X2_turnOf a3) * a1) (a2 * (131072 : Int64))) < (180000000 : Int64) then (if (-180000000 : Int64) ≤ (f_X2_quotient ((f_X2_turnOf a3) * a1) (a2 * (131072 : Int64))) then (f_X2_quotient ((f_X2_turnOf a3) * a1) (a2 * (131072 : Int64))) else ((f_X2_quotient ((f_X2_turnOf a3) * a1) (a2 * (131072 : Int64))) + (360000000 : Int64))) else ((f_X2_quotient ((f_X2_turnOf a3) * a1) (a2 * (131072 : Int64))) - (360000000 : Int64)))]) (rest := []) hx hb hml hown htg (c_X2_pack l (f_X2_quotient ((f_X2_turnOf a3) * a0) ((f_X2_bandsOf a4) * (131072 : Int64))) (if (f_X2_quotient ((f_X2_turnOf a3) * a1) (a2 * (131072 : Int64))) < (180000000 : Int64) then (if (-180000000 : Int64) ≤ (f_X2_quotient ((f_X2_turnOf a3) * a1) (a2 * (131072 : Int64))) then (f_X2_quotient ((f_X2_turnOf a3) * a1) (a2 * (131072 : Int64))) else ((f_X2_quotient ((f_X2_turnOf a3) * a1) (a2 * (131072 : Int64))) + (360000000 : Int64))) else ((f_X2_quotient ((f_X2_turnOf a3) * a1) (a2 * (131072 : Int64))) - (360000000 : Int64)))) Blind.tt ml_X2_107 st_X2_pack ini_X2 co_X2_pack dn_X2_pack rfl (fun _ _ _ => trivial) hl.1 rfl (Nat.le_of_ble_eq_true rfl) ⟨Nat.le_of_ble_eq_true rfl, Nat.le_of_ble_eq_true rfl⟩ ⟨Nat.le_of_ble_eq_true rfl, Nat.le_of_ble_eq_true rfl⟩ dX2_placeAt_81 ?_
    exact rd_l hx hb hr hlocks (by simp only [f_X2_placeAt]) dX2_placeAt_84
  · refine lc_lt (tgt := 60) hx hb dX2_placeAt_45 dX2_placeAt_46 (by decide) (fun c_1 => ?_) (fun c_1 => ?_)
    · refine lv_lload hx hb dX2_placeAt_60 (lv_at hl 0 rfl) ?_
      refine lv_ldc2 (v := (-180000000)) hx hb hown (htg _ ct_X2_15) dX2_placeAt_62 ?_
      refine lc_ge (tgt := 77) hx hb dX2_placeAt_65 dX2_placeAt_66 (by decide) (fun c_2 => ?_) (fun c_2 => ?_)
      · exact J ls (lv_eq (lv_sub (l' := [(12, .long (f_X2_quotient ((f_X2_turnOf a3) * a1) (a2 * (131072 : Int64)))), (10, .long (f_X2_quotient ((f_X2_turnOf a3) * a0) ((f_X2_bandsOf a4) * (131072 : Int64)))), (8, .long (f_X2_turnOf a3)), (0, .long a0), (2, .long a1), (4, .long a2), (6, .int a3), (7, .int a4)]) hl [0, 1, 2, 3, 4, 5, 6, 7] rfl) (by first | simp only [if_pos c_1, if_pos c_2] | rfl))
      · refine lv_lload hx hb dX2_placeAt_69 (lv_at hl 0 rfl) ?_
        refine lv_ldc2 (v := 360000000) hx hb hown (htg _ ct_X2_75) dX2_placeAt_71 ?_
        refine lv_ladd hx hb dX2_placeAt_74 ?_
        refine lv_lstore (lv' := [(12, .long ((f_X2_quotient ((f_X2_turnOf a3) * a1) (a2 * (131072 : Int64))) + (360000000 : Int64))), (10, .long (f_X2_quotient ((f_X2_turnOf a3) * a0) ((f_X2_bandsOf a4) * (131072 : Int64)))), (8, .long (f_X2_turnOf a3)), (0, .long a0), (2, .long a1), (4, .long a2), (6, .int a3), (7, .int a4)]) hx hb dX2_placeAt_75 hl (by decide) rfl (fun ls hl => ?_)
        exact J ls (lv_eq (lv_sub (l' := [(12, .long ((f_X2_quotient ((f_X2_turnOf a3) * a1) (a2 * (131072 : Int64))) + (360000000 : Int64))), (10, .long (f_X2_quotient ((f_X2_turnOf a3) * a0) ((f_X2_bandsOf a4) * (131072 : Int64)))), (8, .long (f_X2_turnOf a3)), (0, .long a0), (2, .long a1), (4, .long a2), (6, .int a3), (7, .int a4)]) hl [0, 1, 2, 3, 4, 5, 6, 7] rfl) (by first | simp only [if_pos c_1, if_neg c_2] | rfl))
    · refine lv_lload hx hb dX2_placeAt_49 (lv_at hl 0 rfl) ?_
      refine lv_ldc2 (v := 360000000) hx hb hown (htg _ ct_X2_75) dX2_placeAt_51 ?_
      refine lv_lsub hx hb dX2_placeAt_54 ?_
      refine lv_lstore (lv' := [(12, .long ((f_X2_quotient ((f_X2_turnOf a3) * a1) (a2 * (131072 : Int64))) - (360000000 : Int64))), (10, .long (f_X2_quotient ((f_X2_turnOf a3) * a0) ((f_X2_bandsOf a4) * (131072 : Int64)))), (8, .long (f_X2_turnOf a3)), (0, .long a0), (2, .long a1), (4, .long a2), (6, .int a3), (7, .int a4)]) hx hb dX2_placeAt_55 hl (by decide) rfl (fun ls hl => ?_)
      refine lv_goto (tgt := 77) hx hb dX2_placeAt_57 (by decide) ?_
      exact J ls (lv_eq (lv_sub (l' := [(12, .long ((f_X2_quotient ((f_X2_turnOf a3) * a1) (a2 * (131072 : Int64))) - (360000000 : Int64))), (10, .long (f_X2_quotient ((f_X2_turnOf a3) * a0) ((f_X2_bandsOf a4) * (131072 : Int64)))), (8, .long (f_X2_turnOf a3)), (0, .long a0), (2, .long a1), (4, .long a2), (6, .int a3), (7, .int a4)]) hl [0, 1, 2, 3, 4, 5, 6, 7] rfl) (by first | simp only [if_neg c_1] | rfl))

def f_X4_reduced (a0 : Int32) : Int32 := (if (a0 &&& (16777216 : Int32)) = 0 then a0 else (a0 ^^^ (33551369 : Int32)))
set_option maxHeartbeats 4000000 in
set_option maxRecDepth 100000 in
theorem c_X4_reduced (l : Launch) (a0 : Int32) : Rd l yX4_reduced cX4_reduced 1 (some .int) 0 0 [.int a0] (fun _ => True) (some (.int (f_X4_reduced a0))) := by
  refine Rd.of (by decide +kernel) (Nat.le_of_ble_eq_true rfl) ?_
  intro p e s m args below meth c hx hb hr hml hown htg hlocks hB ls hl
  have hown : s.vm.findClass RX4 = some m.cls := hown
  have hl : lv_has ls 1 [(0, .int a0)] := hl
  refine lv_iload_n hx hb dX4_reduced_0 rfl (lv_at hl 0 rfl) ?_
  refine lv_ldc (v := 16777216) hx hb hown (htg _ ct_X4_73) dX4_reduced_1 ?_
  refine lv_iand hx hb dX4_reduced_3 ?_
  refine lv_if_ne (tgt := 11) hx hb dX4_reduced_4 (by decide) (fun c_1 => ?_) (fun c_1 => ?_)
  · refine lv_iload_n hx hb dX4_reduced_11 rfl (lv_at hl 0 rfl) ?_
    refine lv_ldc (v := 33551369) hx hb hown (htg _ ct_X4_74) dX4_reduced_12 ?_
    refine lv_ixor hx hb dX4_reduced_14 ?_
    exact rd_i hx hb hr hlocks (by simp only [f_X4_reduced, if_neg c_1]) dX4_reduced_15
  · refine lv_iload_n hx hb dX4_reduced_7 rfl (lv_at hl 0 rfl) ?_
    refine lv_goto (tgt := 15) hx hb dX4_reduced_8 (by decide) ?_
    exact rd_i hx hb hr hlocks (by simp only [f_X4_reduced, if_pos c_1]) dX4_reduced_15
