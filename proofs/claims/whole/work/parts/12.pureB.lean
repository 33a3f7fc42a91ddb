/-! methods that touch no cell: the reference -/
def f_X6_of (a0 : Int32) (a1 : Int32) : Int32 := ((a0 >>> (((12 : Int32) - a1) &&& 31)) &&& (1 : Int32))
set_option maxHeartbeats 4000000 in
set_option maxRecDepth 100000 in
theorem c_X6_of (l : Launch) (h0 : Nat) (a0 : Int32) (a1 : Int32) : Rd l yX6_of cX6_of 3 (some .int) 0 0 [.ref h0, .int a0, .int a1] (fun _ => True) (some (.int (f_X6_of a0 a1))) := by
  refine Rd.of (by decide +kernel) (Nat.le_of_ble_eq_true rfl) ?_
  intro p e s m args below meth c hx hb hr hml hown htg hlocks hB ls hl
  have hown : s.vm.findClass RX6 = some m.cls := hown
  have hl : lv_has ls 3 [(0, .ref h0), (1, .int a0), (2, .int a1)] := hl
  refine lv_iload_n hx hb dX6_of_0 rfl (lv_at hl 1 rfl) ?_
  refine lv_bipush (v := 12) hx hb dX6_of_1 (by decide) ?_
  refine lv_iload_n hx hb dX6_of_3 rfl (lv_at hl 2 rfl) ?_
  refine lv_isub hx hb dX6_of_4 ?_
  refine lv_ishr hx hb dX6_of_5 ?_
  refine lv_iconst (v := 1) hx hb dX6_of_6 (by decide) ?_
  refine lv_iand hx hb dX6_of_7 ?_
  exact rd_i hx hb hr hlocks (by simp only [f_X6_of]) dX6_of_8

def f_X6_at (a0 : Int32) (a1 : Int32) : Int32 := (((40 : Int32) * a0) + a1)
set_option maxHeartbeats 4000000 in
set_option maxRecDepth 100000 in
theorem c_X6_at (l : Launch) (h0 : Nat) (a0 : Int32) (a1 : Int32) : Rd l yX6_at cX6_at 3 (some .int) 0 0 [.ref h0, .int a0, .int a1] (fun _ => True) (some (.int (f_X6_at a0 a1))) := by
  refine Rd.of (by decide +kernel) (Nat.le_of_ble_eq_true rfl) ?_
  intro p e s m args below meth c hx hb hr hml hown htg hlocks hB ls hl
  have hown : s.vm.findClass RX6 = some m.cls := hown
  have hl : lv_has ls 3 [(0, .ref h0), (1, .int a0), (2, .int a1)] := hl
  refine lv_bipush (v := 40) hx hb dX6_at_0 (by decide) ?_
  refine lv_iload_n hx hb dX6_at_2 rfl (lv_at hl 1 rfl) ?_
  refine lv_imul hx hb dX6_at_3 ?_
  refine lv_iload_n hx hb dX6_at_4 rfl (lv_at hl 2 rfl) ?_
  refine lv_iadd hx hb dX6_at_5 ?_
  exact rd_i hx hb hr hlocks (by simp only [f_X6_at]) dX6_at_6

def f_X6_isWrong (a0 : Int32) (a1 : Int32) : Int32 := (if a0 = (11 : Int32) then (if a1 ≤ (127 : Int32) then (0 : Int32) else (1 : Int32)) else (if a0 = (17 : Int32) then (if a1 = 0 then (0 : Int32) else (1 : Int32)) else (if a0 = (18 : Int32) then (if a1 = 0 then (0 : Int32) else (1 : Int32)) else (0 : Int32))))
set_option maxHeartbeats 4000000 in
set_option maxRecDepth 100000 in
theorem c_X6_isWrong (l : Launch) (h0 : Nat) (a0 : Int32) (a1 : Int32) : Rd l yX6_isWrong cX6_isWrong 3 (some .boolean) 0 0 [.ref h0, .int a0, .int a1] (fun _ => True) (some (.int (f_X6_isWrong a0 a1))) := by
  refine Rd.of (by decide +kernel) (Nat.le_of_ble_eq_true rfl) ?_
  intro p e s m args below meth c hx hb hr hml hown htg hlocks hB ls hl
  have hown : s.vm.findClass RX6 = some m.cls := hown
  have hl : lv_has ls 3 [(0, .ref h0), (1, .int a0), (2, .int a1)] := hl
  refine lv_iload_n hx hb dX6_isWrong_0 rfl (lv_at hl 1 rfl) ?_
  refine lv_bipush (v := 11) hx hb dX6_isWrong_1 (by decide) ?_
  refine lv_icmp_ne (tgt := 20) hx hb dX6_isWrong_3 (by decide) (fun c_1 => ?_) (fun c_1 => ?_)
  · refine lv_iload_n hx hb dX6_isWrong_20 rfl (lv_at hl 1 rfl) ?_
    refine lv_bipush (v := 17) hx hb dX6_isWrong_21 (by decide) ?_
    refine lv_icmp_eq (tgt := 32) hx hb dX6_isWrong_23 (by decide) (fun c_2 => ?_) (fun c_2 => ?_)
    · refine lv_iload_n hx hb dX6_isWrong_32 rfl (lv_at hl 2 rfl) ?_
      refine lv_if_eq (tgt := 40) hx hb dX6_isWrong_33 (by decide) (fun c_3 => ?_) (fun c_3 => ?_)
      · refine lv_iconst (v := 0) hx hb dX6_isWrong_40 (by decide) ?_
        exact rd_z hx hb hr hlocks (by decide) (by simp only [f_X6_isWrong, if_neg c_1, if_pos c_2, if_pos c_3]) dX6_isWrong_41
      · refine lv_iconst (v := 1) hx hb dX6_isWrong_36 (by decide) ?_
        refine lv_goto (tgt := 41) hx hb dX6_isWrong_37 (by decide) ?_
        exact rd_z hx hb hr hlocks (by decide) (by simp only [f_X6_isWrong, if_neg c_1, if_pos c_2, if_neg c_3]) dX6_isWrong_41
    · refine lv_iload_n hx hb dX6_isWrong_26 rfl (lv_at hl 1 rfl) ?_
      refine lv_bipush (v := 18) hx hb dX6_isWrong_27 (by decide) ?_
      refine lv_icmp_ne (tgt := 40) hx hb dX6_isWrong_29 (by decide) (fun c_4 => ?_) (fun c_4 => ?_)
      · refine lv_iconst (v := 0) hx hb dX6_isWrong_40 (by decide) ?_
        exact rd_z hx hb hr hlocks (by decide) (by simp only [f_X6_isWrong, if_neg c_1, if_neg c_2, if_neg c_4]) dX6_isWrong_41
      · refine lv_iload_n hx hb dX6_isWrong_32 rfl (lv_at hl 2 rfl) ?_
        refine lv_if_eq (tgt := 40) hx hb dX6_isWrong_33 (by decide) (fun c_5 => ?_) (fun c_5 => ?_)
        · refine lv_iconst (v := 0) hx hb dX6_isWrong_40 (by decide) ?_
          exact rd_z hx hb hr hlocks (by decide) (by simp only [f_X6_isWrong, if_neg c_1, if_neg c_2, if_pos c_4, if_pos c_5]) dX6_isWrong_41
        · refine lv_iconst (v := 1) hx hb dX6_isWrong_36 (by decide) ?_
          refine lv_goto (tgt := 41) hx hb dX6_isWrong_37 (by decide) ?_
          exact rd_z hx hb hr hlocks (by decide) (by simp only [f_X6_isWrong, if_neg c_1, if_neg c_2, if_pos c_4, if_neg c_5]) dX6_isWrong_41
  · refine lv_iload_n hx hb dX6_isWrong_6 rfl (lv_at hl 2 rfl) ?_
    refine lv_bipush (v := 127) hx hb dX6_isWrong_7 (by decide) ?_
    refine lv_icmp_le (tgt := 16) hx hb dX6_isWrong_9 (by decide) (fun c_6 => ?_) (fun c_6 => ?_)
    · refine lv_iconst (v := 0) hx hb dX6_isWrong_16 (by decide) ?_
      refine lv_goto (tgt := 41) hx hb dX6_isWrong_17 (by decide) ?_
      exact rd_z hx hb hr hlocks (by decide) (by simp only [f_X6_isWrong, if_pos c_1, if_pos c_6]) dX6_isWrong_41
    · refine lv_iconst (v := 1) hx hb dX6_isWrong_12 (by decide) ?_
      refine lv_goto (tgt := 41) hx hb dX6_isWrong_13 (by decide) ?_
      exact rd_z hx hb hr hlocks (by decide) (by simp only [f_X6_isWrong, if_pos c_1, if_neg c_6]) dX6_isWrong_41

def f_X6_speed (a0 : Int32) : Int32 := (if a0 = 0 then (-2147483648 : Int32) else (if a0 ≤ (124 : Int32) then (if a0 = (124 : Int32) then (1400 : Int32) else (if a0 ≤ (108 : Int32) then (if a0 ≤ (93 : Int32) then (if a0 ≤ (38 : Int32) then (if a0 ≤ (12 : Int32) then (if a0 ≤ (8 : Int32) then (a0 - (1 : Int32)) else ((8 : Int32) + ((2 : Int32) * (a0 - (9 : Int32))))) else ((16 : Int32) + ((4 : Int32) * (a0 - (13 : Int32))))) else ((120 : Int32) + ((8 : Int32) * (a0 - (39 : Int32))))) else ((560 : Int32) + ((16 : Int32) * (a0 - (94 : Int32))))) else ((800 : Int32) + ((40 : Int32) * (a0 - (109 : Int32)))))) else (-2147483648 : Int32)))
set_option maxHeartbeats 4000000 in
set_option maxRecDepth 100000 in
theorem c_X6_speed (l : Launch) (h0 : Nat) (a0 : Int32) : Rd l yX6_speed cX6_speed 2 (some .int) 0 0 [.ref h0, .int a0] (fun _ => True) (some (.int (f_X6_speed a0))) := by
  refine Rd.of (by decide +kernel) (Nat.le_of_ble_eq_true rfl) ?_
  intro p e s m args below meth c hx hb hr hml hown htg hlocks hB ls hl
  have hown : s.vm.findClass RX6 = some m.cls := hown
  have hl : lv_has ls 2 [(0, .ref h0), (1, .int a0)] := hl
  refine lv_iload_n hx hb dX6_speed_0 rfl (lv_at hl 1 rfl) ?_
  refine lv_if_eq (tgt := 10) hx hb dX6_speed_1 (by decide) (fun c_1 => ?_) (fun c_1 => ?_)
  · refine lv_ldc (v := (-2147483648)) hx hb hown (htg _ ct_X6_171) dX6_speed_10 ?_
    exact rd_i hx hb hr hlocks (by simp only [f_X6_speed, if_pos c_1]) dX6_speed_12
  · refine lv_iload_n hx hb dX6_speed_4 rfl (lv_at hl 1 rfl) ?_
    refine lv_bipush (v := 124) hx hb dX6_speed_5 (by decide) ?_
    refine lv_icmp_le (tgt := 13) hx hb dX6_speed_7 (by decide) (fun c_2 => ?_) (fun c_2 => ?_)
    · refine lv_iload_n hx hb dX6_speed_13 rfl (lv_at hl 1 rfl) ?_
      refine lv_bipush (v := 124) hx hb dX6_speed_14 (by decide) ?_
      refine lv_icmp_ne (tgt := 23) hx hb dX6_speed_16 (by decide) (fun c_3 => ?_) (fun c_3 => ?_)
      · refine lv_iload_n hx hb dX6_speed_23 rfl (lv_at hl 1 rfl) ?_
        refine lv_bipush (v := 108) hx hb dX6_speed_24 (by decide) ?_
        refine lv_icmp_le (tgt := 41) hx hb dX6_speed_26 (by decide) (fun c_4 => ?_) (fun c_4 => ?_)
        · refine lv_iload_n hx hb dX6_speed_41 rfl (lv_at hl 1 rfl) ?_
          refine lv_bipush (v := 93) hx hb dX6_speed_42 (by decide) ?_
          refine lv_icmp_le (tgt := 59) hx hb dX6_speed_44 (by decide) (fun c_5 => ?_) (fun c_5 => ?_)
          · refine lv_iload_n hx hb dX6_speed_59 rfl (lv_at hl 1 rfl) ?_
            refine lv_bipush (v := 38) hx hb dX6_speed_60 (by decide) ?_
            refine lv_icmp_le (tgt := 76) hx hb dX6_speed_62 (by decide) (fun c_6 => ?_) (fun c_6 => ?_)
            · refine lv_iload_n hx hb dX6_speed_76 rfl (lv_at hl 1 rfl) ?_
              refine lv_bipush (v := 12) hx hb dX6_speed_77 (by decide) ?_
              refine lv_icmp_le (tgt := 92) hx hb dX6_speed_79 (by decide) (fun c_7 => ?_) (fun c_7 => ?_)
              · refine lv_iload_n hx hb dX6_speed_92 rfl (lv_at hl 1 rfl) ?_
                refine lv_bipush (v := 8) hx hb dX6_speed_93 (by decide) ?_
                refine lv_icmp_le (tgt := 110) hx hb dX6_speed_95 (by decide) (fun c_8 => ?_) (fun c_8 => ?_)
                · refine lv_iload_n hx hb dX6_speed_110 rfl (lv_at hl 1 rfl) ?_
                  refine lv_iconst (v := 1) hx hb dX6_speed_111 (by decide) ?_
                  refine lv_isub hx hb dX6_speed_112 ?_
                  exact rd_i hx hb hr hlocks (by simp only [f_X6_speed, if_neg c_1, if_pos c_2, if_neg c_3, if_pos c_4, if_pos c_5, if_pos c_6, if_pos c_7, if_pos c_8]) dX6_speed_113
                · refine lv_bipush (v := 8) hx hb dX6_speed_98 (by decide) ?_
                  refine lv_iconst (v := 2) hx hb dX6_speed_100 (by decide) ?_
                  refine lv_iload_n hx hb dX6_speed_101 rfl (lv_at hl 1 rfl) ?_
                  refine lv_bipush (v := 9) hx hb dX6_speed_102 (by decide) ?_
                  refine lv_isub hx hb dX6_speed_104 ?_
                  refine lv_imul hx hb dX6_speed_105 ?_
                  refine lv_iadd hx hb dX6_speed_106 ?_
                  refine lv_goto (tgt := 113) hx hb dX6_speed_107 (by decide) ?_
                  exact rd_i hx hb hr hlocks (by simp only [f_X6_speed, if_neg c_1, if_pos c_2, if_neg c_3, if_pos c_4, if_pos c_5, if_pos c_6, if_pos c_7, if_neg c_8]) dX6_speed_113
              · refine lv_bipush (v := 16) hx hb dX6_speed_82 (by decide) ?_
                refine lv_iconst (v := 4) hx hb dX6_speed_84 (by decide) ?_
                refine lv_iload_n hx hb dX6_speed_85 rfl (lv_at hl 1 rfl) ?_
                refine lv_bipush (v := 13) hx hb dX6_speed_86 (by decide) ?_
                refine lv_isub hx hb dX6_speed_88 ?_
                refine lv_imul hx hb dX6_speed_89 ?_
                refine lv_iadd hx hb dX6_speed_90 ?_
                exact rd_i hx hb hr hlocks (by simp only [f_X6_speed, if_neg c_1, if_pos c_2, if_neg c_3, if_pos c_4, if_pos c_5, if_pos c_6, if_neg c_7]) dX6_speed_91
            · refine lv_bipush (v := 120) hx hb dX6_speed_65 (by decide) ?_
              refine lv_bipush (v := 8) hx hb dX6_speed_67 (by decide) ?_
              refine lv_iload_n hx hb dX6_speed_69 rfl (lv_at hl 1 rfl) ?_
              refine lv_bipush (v := 39) hx hb dX6_speed_70 (by decide) ?_
              refine lv_isub hx hb dX6_speed_72 ?_
              refine lv_imul hx hb dX6_speed_73 ?_
              refine lv_iadd hx hb dX6_speed_74 ?_
              exact rd_i hx hb hr hlocks (by simp only [f_X6_speed, if_neg c_1, if_pos c_2, if_neg c_3, if_pos c_4, if_pos c_5, if_neg c_6]) dX6_speed_75
          · refine lv_sipush (v := 560) hx hb dX6_speed_47 (by decide) ?_
            refine lv_bipush (v := 16) hx hb dX6_speed_50 (by decide) ?_
            refine lv_iload_n hx hb dX6_speed_52 rfl (lv_at hl 1 rfl) ?_
            refine lv_bipush (v := 94) hx hb dX6_speed_53 (by decide) ?_
            refine lv_isub hx hb dX6_speed_55 ?_
            refine lv_imul hx hb dX6_speed_56 ?_
            refine lv_iadd hx hb dX6_speed_57 ?_
            exact rd_i hx hb hr hlocks (by simp only [f_X6_speed, if_neg c_1, if_pos c_2, if_neg c_3, if_pos c_4, if_neg c_5]) dX6_speed_58
        · refine lv_sipush (v := 800) hx hb dX6_speed_29 (by decide) ?_
          refine lv_bipush (v := 40) hx hb dX6_speed_32 (by decide) ?_
          refine lv_iload_n hx hb dX6_speed_34 rfl (lv_at hl 1 rfl) ?_
          refine lv_bipush (v := 109) hx hb dX6_speed_35 (by decide) ?_
          refine lv_isub hx hb dX6_speed_37 ?_
          refine lv_imul hx hb dX6_speed_38 ?_
          refine lv_iadd hx hb dX6_speed_39 ?_
          exact rd_i hx hb hr hlocks (by simp only [f_X6_speed, if_neg c_1, if_pos c_2, if_neg c_3, if_neg c_4]) dX6_speed_40
      · refine lv_sipush (v := 1400) hx hb dX6_speed_19 (by decide) ?_
        exact rd_i hx hb hr hlocks (by simp only [f_X6_speed, if_neg c_1, if_pos c_2, if_pos c_3]) dX6_speed_22
    · refine lv_ldc (v := (-2147483648)) hx hb hown (htg _ ct_X6_171) dX6_speed_10 ?_
      exact rd_i hx hb hr hlocks (by simp only [f_X6_speed, if_neg c_1, if_neg c_2]) dX6_speed_12

def f_X6_isTold (a0 : Int64) : Int32 := (if a0 < (0 : Int64) then (0 : Int32) else (if (17179869184 : Int64) ≤ a0 then (0 : Int32) else (1 : Int32)))
set_option maxHeartbeats 4000000 in
set_option maxRecDepth 100000 in
theorem c_X6_isTold (l : Launch) (h0 : Nat) (a0 : Int64) : Rd l yX6_isTold cX6_isTold 3 (some .boolean) 0 0 [.ref h0, .long a0] (fun _ => True) (some (.int (f_X6_isTold a0))) := by
  refine Rd.of (by decide +kernel) (Nat.le_of_ble_eq_true rfl) ?_
  intro p e s m args below meth c hx hb hr hml hown htg hlocks hB ls hl
  have hown : s.vm.findClass RX6 = some m.cls := hown
  have hl : lv_has ls 3 [(0, .ref h0), (1, .long a0)] := hl
  refine lv_lload_n hx hb dX6_isTold_0 rfl (lv_at hl 1 rfl) ?_
  refine lv_lconst (v := 0) hx hb dX6_isTold_1 (by decide) ?_
  refine lc_lt (tgt := 18) hx hb dX6_isTold_2 dX6_isTold_3 (by decide) (fun c_1 => ?_) (fun c_1 => ?_)
  · refine lv_iconst (v := 0) hx hb dX6_isTold_18 (by decide) ?_
    exact rd_z hx hb hr hlocks (by decide) (by simp only [f_X6_isTold, if_pos c_1]) dX6_isTold_19
  · refine lv_lload_n hx hb dX6_isTold_6 rfl (lv_at hl 1 rfl) ?_
    refine lv_ldc2 (v := 17179869184) hx hb hown (htg _ ct_X6_221) dX6_isTold_7 ?_
    refine lc_ge (tgt := 18) hx hb dX6_isTold_10 dX6_isTold_11 (by decide) (fun c_2 => ?_) (fun c_2 => ?_)
    · refine lv_iconst (v := 0) hx hb dX6_isTold_18 (by decide) ?_
      exact rd_z hx hb hr hlocks (by decide) (by simp only [f_X6_isTold, if_neg c_1, if_pos c_2]) dX6_isTold_19
    · refine lv_iconst (v := 1) hx hb dX6_isTold_14 (by decide) ?_
      refine lv_goto (tgt := 19) hx hb dX6_isTold_15 (by decide) ?_
      exact rd_z hx hb hr hlocks (by decide) (by simp only [f_X6_isTold, if_neg c_1, if_neg c_2]) dX6_isTold_19

def f_X6_ungray_lp (a0 : Int32) : Nat → (Int32) → (Int32) → (Int32) → Int32
  | 0, k, u, v => v
  | n + 1, k, u, v => (f_X6_ungray_lp a0 n (k + (-1 : Int32)) (u ^^^ ((a0 >>> (k &&& 31)) &&& (1 : Int32))) (((2 : Int32) * v) + (u ^^^ ((a0 >>> (k &&& 31)) &&& (1 : Int32)))))
def f_X6_ungray (a0 : Int32) (a1 : Int32) : Int32 := (f_X6_ungray_lp a0 a1.toNatClampNeg (a1 - (1 : Int32)) (0 : Int32) (0 : Int32))
set_option maxHeartbeats 4000000 in
set_option maxRecDepth 100000 in
theorem c_X6_ungray (l : Launch) (h0 : Nat) (a0 : Int32) (a1 : Int32) (hb1 : a1 - 1 = nI a1.toNatClampNeg - 1 ∧ a1.toNatClampNeg ≤ 31) : Rd l yX6_ungray cX6_ungray 6 (some .int) 0 0 [.ref h0, .int a0, .int a1] (fun _ => True) (some (.int (f_X6_ungray a0 a1))) := by
  refine Rd.of (by decide +kernel) (Nat.le_of_ble_eq_true rfl) ?_
  intro p e s m args below meth c hx hb hr hml hown htg hlocks hB ls hl
  have hown : s.vm.findClass RX6 = some m.cls := hown
  have hl : lv_has ls 6 [(0, .ref h0), (1, .int a0), (2, .int a1)] := hl
  refine lv_iconst (v := 0) hx hb dX6_ungray_0 (by decide) ?_
  refine lv_istore_n (lv' := [(3, .int (0 : Int32)), (0, .ref h0), (1, .int a0), (2, .int a1)]) hx hb dX6_ungray_1 rfl hl (by decide) rfl (fun ls hl => ?_)
  refine lv_iconst (v := 0) hx hb dX6_ungray_2 (by decide) ?_
  refine lv_istore (lv' := [(4, .int (0 : Int32)), (3, .int (0 : Int32)), (0, .ref h0), (1, .int a0), (2, .int a1)]) hx hb dX6_ungray_3 hl (by decide) rfl (fun ls hl => ?_)
  refine lv_iload_n hx hb dX6_ungray_5 rfl (lv_at hl 4 rfl) ?_
  refine lv_iconst (v := 1) hx hb dX6_ungray_6 (by decide) ?_
  refine lv_isub hx hb dX6_ungray_7 ?_
  refine lv_istore (lv' := [(5, .int (a1 - (1 : Int32))), (4, .int (0 : Int32)), (3, .int (0 : Int32)), (0, .ref h0), (1, .int a0), (2, .int a1)]) hx hb dX6_ungray_8 hl (by decide) rfl (fun ls hl => ?_)
  have Lp : ∀ (n : Nat) (k : Int32) (u : Int32) (v : Int32), k = nI n - 1 ∧ n ≤ 31 → ∀ ls : Array Slot, lv_has ls 6 [(5, .int k), (4, .int u), (3, .int v), (0, .ref h0), (1, .int a0), (2, .int a1)] → f_X6_ungray_lp a0 n k u v = f_X6_ungray a0 a1 → W p l e { frames := 0, cells := 0, slots := 0, locals := 0 } s m args below meth c s.heap [] 0 0 (MQ below (rdQ (some (.int (f_X6_ungray a0 a1)))) args s 0 0 (fun _ => False)) (F0 m 10 ls []) := by
    intro n
    induction n with
    | zero =>
      intro k u v hi ls hl hA
      refine lv_iload hx hb dX6_ungray_10 (lv_at hl 0 rfl) ?_
      refine lv_if_lt (tgt := 39) hx hb dX6_ungray_12 (by decide) (fun c_1 => ?_) (fun c_1 => ?_)
      · refine lv_iload_n hx hb dX6_ungray_39 rfl (lv_at hl 2 rfl) ?_
        exact rd_i hx hb hr hlocks (by rw [← hA]; simp only [f_X6_ungray_lp]) dX6_ungray_40
      · exact absurd (by rw [hi.1]; decide) c_1
    | succ n ih =>
      intro k u v hi ls hl hA
      refine lv_iload hx hb dX6_ungray_10 (lv_at hl 0 rfl) ?_
      refine lv_if_lt (tgt := 39) hx hb dX6_ungray_12 (by decide) (fun c_2 => ?_) (fun c_2 => ?_)
      · exact absurd c_2 (by rw [hi.1, nI_pred]; exact nI_pos (by omega))
      · refine lv_iload hx hb dX6_ungray_15 (lv_at hl 1 rfl) ?_
        refine lv_iload_n hx hb dX6_ungray_17 rfl (lv_at hl 4 rfl) ?_
        refine lv_iload hx hb dX6_ungray_18 (lv_at hl 0 rfl) ?_
        refine lv_ishr hx hb dX6_ungray_20 ?_
        refine lv_iconst (v := 1) hx hb dX6_ungray_21 (by decide) ?_
        refine lv_iand hx hb dX6_ungray_22 ?_
        refine lv_ixor hx hb dX6_ungray_23 ?_
        refine lv_istore (lv' := [(4, .int (u ^^^ ((a0 >>> (k &&& 31)) &&& (1 : Int32)))), (5, .int k), (3, .int v), (0, .ref h0), (1, .int a0), (2, .int a1)]) hx hb dX6_ungray_24 hl (by decide) rfl (fun ls hl => ?_)
        refine lv_iconst (v := 2) hx hb dX6_ungray_26 (by decide) ?_
        refine lv_iload_n hx hb dX6_ungray_27 rfl (lv_at hl 2 rfl) ?_
        refine lv_imul hx hb dX6_ungray_28 ?_
        refine lv_iload hx hb dX6_ungray_29 (lv_at hl 0 rfl) ?_
        refine lv_iadd hx hb dX6_ungray_31 ?_
        refine lv_istore_n (lv' := [(3, .int (((2 : Int32) * v) + (u ^^^ ((a0 >>> (k &&& 31)) &&& (1 : Int32))))), (4, .int (u ^^^ ((a0 >>> (k &&& 31)) &&& (1 : Int32)))), (5, .int k), (0, .ref h0), (1, .int a0), (2, .int a1)]) hx hb dX6_ungray_32 rfl hl (by decide) rfl (fun ls hl => ?_)
        refine lv_iinc (v := (k + (-1 : Int32))) (lv' := [(5, .int (k + (-1 : Int32))), (3, .int (((2 : Int32) * v) + (u ^^^ ((a0 >>> (k &&& 31)) &&& (1 : Int32))))), (4, .int (u ^^^ ((a0 >>> (k &&& 31)) &&& (1 : Int32)))), (0, .ref h0), (1, .int a0), (2, .int a1)]) hx hb dX6_ungray_33 hl (k := 2) rfl rfl (by decide) rfl (fun ls hl => ?_)
        refine lv_goto (tgt := 10) hx hb dX6_ungray_36 (by decide) ?_
        exact ih (k + (-1 : Int32)) (u ^^^ ((a0 >>> (k &&& 31)) &&& (1 : Int32))) (((2 : Int32) * v) + (u ^^^ ((a0 >>> (k &&& 31)) &&& (1 : Int32)))) ⟨by rw [hi.1, nI_pred]; exact (Int32.sub_eq_add_neg _ _).symm, by omega⟩ ls (lv_sub hl [0, 2, 1, 3, 4, 5] rfl) (by rw [← hA]; simp only [f_X6_ungray_lp])
  exact Lp a1.toNatClampNeg (a1 - (1 : Int32)) (0 : Int32) (0 : Int32) hb1 ls (lv_sub hl [0, 1, 2, 3, 4, 5] rfl) (by simp only [f_X6_ungray])

def f_X6_rest (a0 : Int64) (a1 : Int64) : Int64 := (if (0 : Int64) ≤ (a0 - a0 / a1 * a1) then (a0 - a0 / a1 * a1) else ((a0 - a0 / a1 * a1) + a1))
set_option maxHeartbeats 4000000 in
set_option maxRecDepth 100000 in
theorem c_X6_rest (l : Launch) (a0 : Int64) (a1 : Int64) (hn : ¬ a1 = 0) : Rd l yX6_rest cX6_rest 6 (some .long) 0 0 [.long a0, .long a1] (fun _ => True) (some (.long (f_X6_rest a0 a1))) := by
  refine Rd.of (by decide +kernel) (Nat.le_of_ble_eq_true rfl) ?_
  intro p e s m args below meth c hx hb hr hml hown htg hlocks hB ls hl
  have hown : s.vm.findClass RX6 = some m.cls := hown
  have hl : lv_has ls 6 [(0, .long a0), (2, .long a1)] := hl
  refine lv_lload_n hx hb dX6_rest_0 rfl (lv_at hl 0 rfl) ?_
  refine lv_lload_n hx hb dX6_rest_1 rfl (lv_at hl 1 rfl) ?_
  refine lv_lrem hx hb dX6_rest_2 hn ?_
  refine lv_lstore (lv' := [(4, .long (a0 - a0 / a1 * a1)), (0, .long a0), (2, .long a1)]) hx hb dX6_rest_3 hl (by decide) rfl (fun ls hl => ?_)
  refine lv_lload hx hb dX6_rest_5 (lv_at hl 0 rfl) ?_
  refine lv_lconst (v := 0) hx hb dX6_rest_7 (by decide) ?_
  refine lc_ge (tgt := 19) hx hb dX6_rest_8 dX6_rest_9 (by decide) (fun c_1 => ?_) (fun c_1 => ?_)
  · refine lv_lload hx hb dX6_rest_19 (lv_at hl 0 rfl) ?_
    exact rd_l hx hb hr hlocks (by simp only [f_X6_rest, if_pos c_1]) dX6_rest_21
  · refine lv_lload hx hb dX6_rest_12 (lv_at hl 0 rfl) ?_
    refine lv_lload_n hx hb dX6_rest_14 rfl (lv_at hl 2 rfl) ?_
    refine lv_ladd hx hb dX6_rest_15 ?_
    refine lv_goto (tgt := 21) hx hb dX6_rest_16 (by decide) ?_
    exact rd_l hx hb hr hlocks (by simp only [f_X6_rest, if_neg c_1]) dX6_rest_21

def f_X6_down (a0 : Int64) (a1 : Int64) : Int64 := ((a0 - (f_X6_rest a0 a1)) / a1)
set_option maxHeartbeats 4000000 in
set_option maxRecDepth 100000 in
theorem c_X6_down (l : Launch) (a0 : Int64) (a1 : Int64) (hn : ¬ a1 = 0) : Rd l yX6_down cX6_down 4 (some .long) 1 25 [.long a0, .long a1] (fun _ => True) (some (.long (f_X6_down a0 a1))) := by
  refine Rd.of (by decide +kernel) (Nat.le_of_ble_eq_true rfl) ?_
  intro p e s m args below meth c hx hb hr hml hown htg hlocks hB ls hl
  have hown : s.vm.findClass RX6 = some m.cls := hown
  have hl : lv_has ls 4 [(0, .long a0), (2, .long a1)] := hl
  refine lv_lload_n hx hb dX6_down_0 rfl (lv_at hl 0 rfl) ?_
  refine lv_lload_n hx hb dX6_down_1 rfl (lv_at hl 0 rfl) ?_
  refine lv_lload_n hx hb dX6_down_2 rfl (lv_at hl 1 rfl) ?_
  refine rS (As := [.long a0, .long a1]) (rest := [.long a0]) hx hb hml hown htg (c_X6_rest l a0 a1 hn) Blind.tt ml_X6_176 st_X6_rest ini_X6 co_X6_rest dn_X6_rest rfl (fun _ _ _ => trivial) hl.1 rfl (Nat.le_of_ble_eq_true rfl) ⟨Nat.le_of_ble_eq_true rfl, Nat.le_of_ble_eq_true rfl⟩ ⟨Nat.le_of_ble_eq_true rfl, Nat.le_of_ble_eq_true rfl⟩ dX6_down_3 ?_
  refine lv_lsub hx hb dX6_down_6 ?_
  refine lv_lload_n hx hb dX6_down_7 rfl (lv_at hl 1 rfl) ?_
  refine lv_ldiv hx hb dX6_down_8 hn ?_
  exact rd_l hx hb hr hlocks (by simp only [f_X6_down]) dX6_down_9

def f_X6_sizeOf (a0 : Int64) : Int64 := (if (0 : Int64) ≤ a0 then a0 else (-a0))
set_option maxHeartbeats 4000000 in
set_option maxRecDepth 100000 in
theorem c_X6_sizeOf (l : Launch) (a0 : Int64) : Rd l yX6_sizeOf cX6_sizeOf 2 (some .long) 0 0 [.long a0] (fun _ => True) (some (.long (f_X6_sizeOf a0))) := by
  refine Rd.of (by decide +kernel) (Nat.le_of_ble_eq_true rfl) ?_
  intro p e s m args below meth c hx hb hr hml hown htg hlocks hB ls hl
  have hown : s.vm.findClass RX6 = some m.cls := hown
  have hl : lv_has ls 2 [(0, .long a0)] := hl
  refine lv_lload_n hx hb dX6_sizeOf_0 rfl (lv_at hl 0 rfl) ?_
  refine lv_lconst (v := 0) hx hb dX6_sizeOf_1 (by decide) ?_
  refine lc_ge (tgt := 11) hx hb dX6_sizeOf_2 dX6_sizeOf_3 (by decide) (fun c_1 => ?_) (fun c_1 => ?_)
  · refine lv_lload_n hx hb dX6_sizeOf_11 rfl (lv_at hl 0 rfl) ?_
    exact rd_l hx hb hr hlocks (by simp only [f_X6_sizeOf, if_pos c_1]) dX6_sizeOf_12
  · refine lv_lload_n hx hb dX6_sizeOf_6 rfl (lv_at hl 0 rfl) ?_
    refine lv_lneg hx hb dX6_sizeOf_7 ?_
    refine lv_goto (tgt := 12) hx hb dX6_sizeOf_8 (by decide) ?_
    exact rd_l hx hb hr hlocks (by simp only [f_X6_sizeOf, if_neg c_1]) dX6_sizeOf_12

def f_X6_atLeast1 (a0 : Int32) : Int32 := (if (1 : Int32) ≤ a0 then a0 else (1 : Int32))
set_option maxHeartbeats 4000000 in
set_option maxRecDepth 100000 in
theorem c_X6_atLeast1 (l : Launch) (a0 : Int32) : Rd l yX6_atLeast1 cX6_atLeast1 1 (some .int) 0 0 [.int a0] (fun _ => True) (some (.int (f_X6_atLeast1 a0))) := by
  refine Rd.of (by decide +kernel) (Nat.le_of_ble_eq_true rfl) ?_
  intro p e s m args below meth c hx hb hr hml hown htg hlocks hB ls hl
  have hown : s.vm.findClass RX6 = some m.cls := hown
  have hl : lv_has ls 1 [(0, .int a0)] := hl
  refine lv_iload_n hx hb dX6_atLeast1_0 rfl (lv_at hl 0 rfl) ?_
  refine lv_iconst (v := 1) hx hb dX6_atLeast1_1 (by decide) ?_
  refine lv_icmp_ge (tgt := 9) hx hb dX6_atLeast1_2 (by decide) (fun c_1 => ?_) (fun c_1 => ?_)
  · refine lv_iload_n hx hb dX6_atLeast1_9 rfl (lv_at hl 0 rfl) ?_
    exact rd_i hx hb hr hlocks (by simp only [f_X6_atLeast1, if_pos c_1]) dX6_atLeast1_10
  · refine lv_iconst (v := 1) hx hb dX6_atLeast1_5 (by decide) ?_
    refine lv_goto (tgt := 10) hx hb dX6_atLeast1_6 (by decide) ?_
    exact rd_i hx hb hr hlocks (by simp only [f_X6_atLeast1, if_neg c_1]) dX6_atLeast1_10

def f_X6_isLatitude (a0 : Int32) : Int32 := (if a0 < (-90000000 : Int32) then (0 : Int32) else (if (90000000 : Int32) < a0 then (0 : Int32) else (1 : Int32)))
set_option maxHeartbeats 4000000 in
set_option maxRecDepth 100000 in
theorem c_X6_isLatitude (l : Launch) (a0 : Int32) : Rd l yX6_isLatitude cX6_isLatitude 1 (some .boolean) 0 0 [.int a0] (fun _ => True) (some (.int (f_X6_isLatitude a0))) := by
  refine Rd.of (by decide +kernel) (Nat.le_of_ble_eq_true rfl) ?_
  intro p e s m args below meth c hx hb hr hml hown htg hlocks hB ls hl
  have hown : s.vm.findClass RX6 = some m.cls := hown
  have hl : lv_has ls 1 [(0, .int a0)] := hl
  refine lv_iload_n hx hb dX6_isLatitude_0 rfl (lv_at hl 0 rfl) ?_
  refine lv_ldc (v := (-90000000)) hx hb hown (htg _ ct_X6_184) dX6_isLatitude_1 ?_
  refine lv_icmp_lt (tgt := 16) hx hb dX6_isLatitude_3 (by decide) (fun c_1 => ?_) (fun c_1 => ?_)
  · refine lv_iconst (v := 0) hx hb dX6_isLatitude_16 (by decide) ?_
    exact rd_z hx hb hr hlocks (by decide) (by simp only [f_X6_isLatitude, if_pos c_1]) dX6_isLatitude_17
  · refine lv_iload_n hx hb dX6_isLatitude_6 rfl (lv_at hl 0 rfl) ?_
    refine lv_ldc (v := 90000000) hx hb hown (htg _ ct_X6_185) dX6_isLatitude_7 ?_
    refine lv_icmp_gt (tgt := 16) hx hb dX6_isLatitude_9 (by decide) (fun c_2 => ?_) (fun c_2 => ?_)
    · refine lv_iconst (v := 0) hx hb dX6_isLatitude_16 (by decide) ?_
      exact rd_z hx hb hr hlocks (by decide) (by simp only [f_X6_isLatitude, if_neg c_1, if_pos c_2]) dX6_isLatitude_17
    · refine lv_iconst (v := 1) hx hb dX6_isLatitude_12 (by decide) ?_
      refine lv_goto (tgt := 17) hx hb dX6_isLatitude_13 (by decide) ?_
      exact rd_z hx hb hr hlocks (by decide) (by simp only [f_X6_isLatitude, if_neg c_1, if_neg c_2]) dX6_isLatitude_17

def f_X6_isLongitude (a0 : Int32) : Int32 := (if a0 < (-180000000 : Int32) then (0 : Int32) else (if (180000000 : Int32) ≤ a0 then (0 : Int32) else (1 : Int32)))
set_option maxHeartbeats 4000000 in
set_option maxRecDepth 100000 in
theorem c_X6_isLongitude (l : Launch) (a0 : Int32) : Rd l yX6_isLongitude cX6_isLongitude 1 (some .boolean) 0 0 [.int a0] (fun _ => True) (some (.int (f_X6_isLongitude a0))) := by
  refine Rd.of (by decide +kernel) (Nat.le_of_ble_eq_true rfl) ?_
  intro p e s m args below meth c hx hb hr hml hown htg hlocks hB ls hl
  have hown : s.vm.findClass RX6 = some m.cls := hown
  have hl : lv_has ls 1 [(0, .int a0)] := hl
  refine lv_iload_n hx hb dX6_isLongitude_0 rfl (lv_at hl 0 rfl) ?_
  refine lv_ldc (v := (-180000000)) hx hb hown (htg _ ct_X6_186) dX6_isLongitude_1 ?_
  refine lv_icmp_lt (tgt := 16) hx hb dX6_isLongitude_3 (by decide) (fun c_1 => ?_) (fun c_1 => ?_)
  · refine lv_iconst (v := 0) hx hb dX6_isLongitude_16 (by decide) ?_
    exact rd_z hx hb hr hlocks (by decide) (by simp only [f_X6_isLongitude, if_pos c_1]) dX6_isLongitude_17
  · refine lv_iload_n hx hb dX6_isLongitude_6 rfl (lv_at hl 0 rfl) ?_
    refine lv_ldc (v := 180000000) hx hb hown (htg _ ct_X6_187) dX6_isLongitude_7 ?_
    refine lv_icmp_ge (tgt := 16) hx hb dX6_isLongitude_9 (by decide) (fun c_2 => ?_) (fun c_2 => ?_)
    · refine lv_iconst (v := 0) hx hb dX6_isLongitude_16 (by decide) ?_
      exact rd_z hx hb hr hlocks (by decide) (by simp only [f_X6_isLongitude, if_neg c_1, if_pos c_2]) dX6_isLongitude_17
    · refine lv_iconst (v := 1) hx hb dX6_isLongitude_12 (by decide) ?_
      refine lv_goto (tgt := 17) hx hb dX6_isLongitude_13 (by decide) ?_
      exact rd_z hx hb hr hlocks (by decide) (by simp only [f_X6_isLongitude, if_neg c_1, if_neg c_2]) dX6_isLongitude_17

def f_X6_parts (a0 : Int64) (a1 : Int64) : Int64 := (f_X6_down ((((2 : Int64) * a0) * (131072 : Int64)) + a1) ((2 : Int64) * a1))
set_option maxHeartbeats 4000000 in
set_option maxRecDepth 100000 in
theorem c_X6_parts (l : Launch) (a0 : Int64) (a1 : Int64) (hn : ¬ 2 * a1 = 0) : Rd l yX6_parts cX6_parts 4 (some .long) 2 48 [.long a0, .long a1] (fun _ => True) (some (.long (f_X6_parts a0 a1))) := by
  refine Rd.of (by decide +kernel) (Nat.le_of_ble_eq_true rfl) ?_
  intro p e s m args below meth c hx hb hr hml hown htg hlocks hB ls hl
  have hown : s.vm.findClass RX6 = some m.cls := hown
  have hl : lv_has ls 4 [(0, .long a0), (2, .long a1)] := hl
  refine lv_ldc2 (v := 2) hx hb hown (htg _ ct_X6_198) dX6_parts_0 ?_
  refine lv_lload_n hx hb dX6_parts_3 rfl (lv_at hl 0 rfl) ?_
  refine lv_lmul hx hb dX6_parts_4 ?_
  refine lv_ldc2 (v := 131072) hx hb hown (htg _ ct_X6_200) dX6_parts_5 ?_
  refine lv_lmul hx hb dX6_parts_8 ?_
  refine lv_lload_n hx hb dX6_parts_9 rfl (lv_at hl 1 rfl) ?_
  refine lv_ladd hx hb dX6_parts_10 ?_
  refine lv_ldc2 (v := 2) hx hb hown (htg _ ct_X6_198) dX6_parts_11 ?_
  refine lv_lload_n hx hb dX6_parts_14 rfl (lv_at hl 1 rfl) ?_
  refine lv_lmul hx hb dX6_parts_15 ?_
  refine rS (As := [.long ((((2 : Int64) * a0) * (131072 : Int64)) + a1), .long ((2 : Int64) * a1)]) (rest := []) hx hb hml hown htg (c_X6_down l ((((2 : Int64) * a0) * (131072 : Int64)) + a1) ((2 : Int64) * a1) hn) Blind.tt ml_X6_202 st_X6_down ini_X6 co_X6_down dn_X6_down rfl (fun _ _ _ => trivial) hl.1 rfl (Nat.le_of_ble_eq_true rfl) ⟨Nat.le_of_ble_eq_true rfl, Nat.le_of_ble_eq_true rfl⟩ ⟨Nat.le_of_ble_eq_true rfl, Nat.le_of_ble_eq_true rfl⟩ dX6_parts_16 ?_
  exact rd_l hx hb hr hlocks (by simp only [f_X6_parts]) dX6_parts_19

def f_X6_both (a0 : Int32) (a1 : Int32) : Int64 := ((a0.toInt64 <<< ((32 : Int32).toInt64 &&& 63)) ||| (a1.toInt64 &&& (4294967295 : Int64)))
set_option maxHeartbeats 4000000 in
set_option maxRecDepth 100000 in
theorem c_X6_both (l : Launch) (a0 : Int32) (a1 : Int32) : Rd l yX6_both cX6_both 2 (some .long) 0 0 [.int a0, .int a1] (fun _ => True) (some (.long (f_X6_both a0 a1))) := by
  refine Rd.of (by decide +kernel) (Nat.le_of_ble_eq_true rfl) ?_
  intro p e s m args below meth c hx hb hr hml hown htg hlocks hB ls hl
  have hown : s.vm.findClass RX6 = some m.cls := hown
  have hl : lv_has ls 2 [(0, .int a0), (1, .int a1)] := hl
  refine lv_iload_n hx hb dX6_both_0 rfl (lv_at hl 0 rfl) ?_
  refine lv_i2l (v := a0.toInt64) hx hb dX6_both_1 rfl ?_
  refine lv_bipush (v := 32) hx hb dX6_both_2 (by decide) ?_
  refine lv_lshl (v := (a0.toInt64 <<< ((32 : Int32).toInt64 &&& 63))) hx hb dX6_both_4 rfl ?_
  refine lv_iload_n hx hb dX6_both_5 rfl (lv_at hl 1 rfl) ?_
  refine lv_i2l (v := a1.toInt64) hx hb dX6_both_6 rfl ?_
  refine lv_ldc2 (v := 4294967295) hx hb hown (htg _ ct_X6_223) dX6_both_7 ?_
  refine lv_land hx hb dX6_both_10 ?_
  refine lv_lor hx hb dX6_both_11 ?_
  exact rd_l hx hb hr hlocks (by simp only [f_X6_both]) dX6_both_12

def f_X6_isKnown (a0 : Int32) : Int32 := (if a0 = 0 then (1 : Int32) else (if a0 = (4 : Int32) then (1 : Int32) else (if a0 = (5 : Int32) then (1 : Int32) else (if a0 = (11 : Int32) then (1 : Int32) else (if a0 = (16 : Int32) then (1 : Int32) else (if a0 = (17 : Int32) then (1 : Int32) else (if a0 = (18 : Int32) then (1 : Int32) else (if a0 = (20 : Int32) then (1 : Int32) else (if a0 = (21 : Int32) then (1 : Int32) else (0 : Int32))))))))))
set_option maxHeartbeats 4000000 in
set_option maxRecDepth 100000 in
theorem c_X6_isKnown (l : Launch) (a0 : Int32) : Rd l yX6_isKnown cX6_isKnown 1 (some .boolean) 0 0 [.int a0] (fun _ => True) (some (.int (f_X6_isKnown a0))) := by
  refine Rd.of (by decide +kernel) (Nat.le_of_ble_eq_true rfl) ?_
  intro p e s m args below meth c hx hb hr hml hown htg hlocks hB ls hl
  have hown : s.vm.findClass RX6 = some m.cls := hown
  have hl : lv_has ls 1 [(0, .int a0)] := hl
  refine lv_iload_n hx hb dX6_isKnown_0 rfl (lv_at hl 0 rfl) ?_
  refine lv_if_eq (tgt := 50) hx hb dX6_isKnown_1 (by decide) (fun c_1 => ?_) (fun c_1 => ?_)
  · refine lv_iconst (v := 1) hx hb dX6_isKnown_50 (by decide) ?_
    refine lv_goto (tgt := 55) hx hb dX6_isKnown_51 (by decide) ?_
    exact rd_z hx hb hr hlocks (by decide) (by simp only [f_X6_isKnown, if_pos c_1]) dX6_isKnown_55
  · refine lv_iload_n hx hb dX6_isKnown_4 rfl (lv_at hl 0 rfl) ?_
    refine lv_iconst (v := 4) hx hb dX6_isKnown_5 (by decide) ?_
    refine lv_icmp_eq (tgt := 50) hx hb dX6_isKnown_6 (by decide) (fun c_2 => ?_) (fun c_2 => ?_)
    · refine lv_iconst (v := 1) hx hb dX6_isKnown_50 (by decide) ?_
      refine lv_goto (tgt := 55) hx hb dX6_isKnown_51 (by decide) ?_
      exact rd_z hx hb hr hlocks (by decide) (by simp only [f_X6_isKnown, if_neg c_1, if_pos c_2]) dX6_isKnown_55
    · refine lv_iload_n hx hb dX6_isKnown_9 rfl (lv_at hl 0 rfl) ?_
      refine lv_iconst (v := 5) hx hb dX6_isKnown_10 (by decide) ?_
      refine lv_icmp_eq (tgt := 50) hx hb dX6_isKnown_11 (by decide) (fun c_3 => ?_) (fun c_3 => ?_)
      · refine lv_iconst (v := 1) hx hb dX6_isKnown_50 (by decide) ?_
        refine lv_goto (tgt := 55) hx hb dX6_isKnown_51 (by decide) ?_
        exact rd_z hx hb hr hlocks (by decide) (by simp only [f_X6_isKnown, if_neg c_1, if_neg c_2, if_pos c_3]) dX6_isKnown_55
      · refine lv_iload_n hx hb dX6_isKnown_14 rfl (lv_at hl 0 rfl) ?_
        refine lv_bipush (v := 11) hx hb dX6_isKnown_15 (by decide) ?_
        refine lv_icmp_eq (tgt := 50) hx hb dX6_isKnown_17 (by decide) (fun c_4 => ?_) (fun c_4 => ?_)
        · refine lv_iconst (v := 1) hx hb dX6_isKnown_50 (by decide) ?_
          refine lv_goto (tgt := 55) hx hb dX6_isKnown_51 (by decide) ?_
          exact rd_z hx hb hr hlocks (by decide) (by simp only [f_X6_isKnown, if_neg c_1, if_neg c_2, if_neg c_3, if_pos c_4]) dX6_isKnown_55
        · refine lv_iload_n hx hb dX6_isKnown_20 rfl (lv_at hl 0 rfl) ?_
          refine lv_bipush (v := 16) hx hb dX6_isKnown_21 (by decide) ?_
          refine lv_icmp_eq (tgt := 50) hx hb dX6_isKnown_23 (by decide) (fun c_5 => ?_) (fun c_5 => ?_)
          · refine lv_iconst (v := 1) hx hb dX6_isKnown_50 (by decide) ?_
            refine lv_goto (tgt := 55) hx hb dX6_isKnown_51 (by decide) ?_
            exact rd_z hx hb hr hlocks (by decide) (by simp only [f_X6_isKnown, if_neg c_1, if_neg c_2, if_neg c_3, if_neg c_4, if_pos c_5]) dX6_isKnown_55
          · refine lv_iload_n hx hb dX6_isKnown_26 rfl (lv_at hl 0 rfl) ?_
            refine lv_bipush (v := 17) hx hb dX6_isKnown_27 (by decide) ?_
            refine lv_icmp_eq (tgt := 50) hx hb dX6_isKnown_29 (by decide) (fun c_6 => ?_) (fun c_6 => ?_)
            · refine lv_iconst (v := 1) hx hb dX6_isKnown_50 (by decide) ?_
              refine lv_goto (tgt := 55) hx hb dX6_isKnown_51 (by decide) ?_
              exact rd_z hx hb hr hlocks (by decide) (by simp only [f_X6_isKnown, if_neg c_1, if_neg c_2, if_neg c_3, if_neg c_4, if_neg c_5, if_pos c_6]) dX6_isKnown_55
            · refine lv_iload_n hx hb dX6_isKnown_32 rfl (lv_at hl 0 rfl) ?_
              refine lv_bipush (v := 18) hx hb dX6_isKnown_33 (by decide) ?_
              refine lv_icmp_eq (tgt := 50) hx hb dX6_isKnown_35 (by decide) (fun c_7 => ?_) (fun c_7 => ?_)
              · refine lv_iconst (v := 1) hx hb dX6_isKnown_50 (by decide) ?_
                refine lv_goto (tgt := 55) hx hb dX6_isKnown_51 (by decide) ?_
                exact rd_z hx hb hr hlocks (by decide) (by simp only [f_X6_isKnown, if_neg c_1, if_neg c_2, if_neg c_3, if_neg c_4, if_neg c_5, if_neg c_6, if_pos c_7]) dX6_isKnown_55
              · refine lv_iload_n hx hb dX6_isKnown_38 rfl (lv_at hl 0 rfl) ?_
                refine lv_bipush (v := 20) hx hb dX6_isKnown_39 (by decide) ?_
                refine lv_icmp_eq (tgt := 50) hx hb dX6_isKnown_41 (by decide) (fun c_8 => ?_) (fun c_8 => ?_)
                · refine lv_iconst (v := 1) hx hb dX6_isKnown_50 (by decide) ?_
                  refine lv_goto (tgt := 55) hx hb dX6_isKnown_51 (by decide) ?_
                  exact rd_z hx hb hr hlocks (by decide) (by simp only [f_X6_isKnown, if_neg c_1, if_neg c_2, if_neg c_3, if_neg c_4, if_neg c_5, if_neg c_6, if_neg c_7, if_pos c_8]) dX6_isKnown_55
                · refine lv_iload_n hx hb dX6_isKnown_44 rfl (lv_at hl 0 rfl) ?_
                  refine lv_bipush (v := 21) hx hb dX6_isKnown_45 (by decide) ?_
                  refine lv_icmp_ne (tgt := 54) hx hb dX6_isKnown_47 (by decide) (fun c_9 => ?_) (fun c_9 => ?_)
                  · refine lv_iconst (v := 0) hx hb dX6_isKnown_54 (by decide) ?_
                    exact rd_z hx hb hr hlocks (by decide) (by simp only [f_X6_isKnown, if_neg c_1, if_neg c_2, if_neg c_3, if_neg c_4, if_neg c_5, if_neg c_6, if_neg c_7, if_neg c_8, if_neg c_9]) dX6_isKnown_55
                  · refine lv_iconst (v := 1) hx hb dX6_isKnown_50 (by decide) ?_
                    refine lv_goto (tgt := 55) hx hb dX6_isKnown_51 (by decide) ?_
                    exact rd_z hx hb hr hlocks (by decide) (by simp only [f_X6_isKnown, if_neg c_1, if_neg c_2, if_neg c_3, if_neg c_4, if_neg c_5, if_neg c_6, if_neg c_7, if_neg c_8, if_pos c_9]) dX6_isKnown_55

def f_X6_isSquitter (a0 : Int32) : Int32 := (if a0 = (11 : Int32) then (1 : Int32) else (if a0 = (17 : Int32) then (1 : Int32) else (if a0 = (18 : Int32) then (1 : Int32) else (0 : Int32))))
set_option maxHeartbeats 4000000 in
set_option maxRecDepth 100000 in
theorem c_X6_isSquitter (l : Launch) (a0 : Int32) : Rd l yX6_isSquitter cX6_isSquitter 1 (some .boolean) 0 0 [.int a0] (fun _ => True) (some (.int (f_X6_isSquitter a0))) := by
  refine Rd.of (by decide +kernel) (Nat.le_of_ble_eq_true rfl) ?_
  intro p e s m args below meth c hx hb hr hml hown htg hlocks hB ls hl
  have hown : s.vm.findClass RX6 = some m.cls := hown
  have hl : lv_has ls 1 [(0, .int a0)] := hl
  refine lv_iload_n hx hb dX6_isSquitter_0 rfl (lv_at hl 0 rfl) ?_
  refine lv_bipush (v := 11) hx hb dX6_isSquitter_1 (by decide) ?_
  refine lv_icmp_eq (tgt := 18) hx hb dX6_isSquitter_3 (by decide) (fun c_1 => ?_) (fun c_1 => ?_)
  · refine lv_iconst (v := 1) hx hb dX6_isSquitter_18 (by decide) ?_
    refine lv_goto (tgt := 23) hx hb dX6_isSquitter_19 (by decide) ?_
    exact rd_z hx hb hr hlocks (by decide) (by simp only [f_X6_isSquitter, if_pos c_1]) dX6_isSquitter_23
  · refine lv_iload_n hx hb dX6_isSquitter_6 rfl (lv_at hl 0 rfl) ?_
    refine lv_bipush (v := 17) hx hb dX6_isSquitter_7 (by decide) ?_
    refine lv_icmp_eq (tgt := 18) hx hb dX6_isSquitter_9 (by decide) (fun c_2 => ?_) (fun c_2 => ?_)
    · refine lv_iconst (v := 1) hx hb dX6_isSquitter_18 (by decide) ?_
      refine lv_goto (tgt := 23) hx hb dX6_isSquitter_19 (by decide) ?_
      exact rd_z hx hb hr hlocks (by decide) (by simp only [f_X6_isSquitter, if_neg c_1, if_pos c_2]) dX6_isSquitter_23
    · refine lv_iload_n hx hb dX6_isSquitter_12 rfl (lv_at hl 0 rfl) ?_
      refine lv_bipush (v := 18) hx hb dX6_isSquitter_13 (by decide) ?_
      refine lv_icmp_ne (tgt := 22) hx hb dX6_isSquitter_15 (by decide) (fun c_3 => ?_) (fun c_3 => ?_)
      · refine lv_iconst (v := 0) hx hb dX6_isSquitter_22 (by decide) ?_
        exact rd_z hx hb hr hlocks (by decide) (by simp only [f_X6_isSquitter, if_neg c_1, if_neg c_2, if_neg c_3]) dX6_isSquitter_23
      · refine lv_iconst (v := 1) hx hb dX6_isSquitter_18 (by decide) ?_
        refine lv_goto (tgt := 23) hx hb dX6_isSquitter_19 (by decide) ?_
        exact rd_z hx hb hr hlocks (by decide) (by simp only [f_X6_isSquitter, if_neg c_1, if_neg c_2, if_pos c_3]) dX6_isSquitter_23

def f_X6_nearest (a0 : Int64) (a1 : Int64) (a2 : Int64) (a3 : Int64) : Int64 := ((((f_X6_down (a0 * a1) a2) + (f_X6_down (((a2 * (131072 : Int64)) + (((2 : Int64) * (f_X6_rest (a0 * a1) a2)) * (131072 : Int64))) - (((2 : Int64) * a3) * a2)) (((2 : Int64) * a2) * (131072 : Int64)))) * (131072 : Int64)) + a3)
set_option maxHeartbeats 4000000 in
set_option maxRecDepth 100000 in
theorem c_X6_nearest (l : Launch) (a0 : Int64) (a1 : Int64) (a2 : Int64) (a3 : Int64) (hn : ¬ a2 = 0) (hm : ¬ 2 * a2 * 131072 = 0) : Rd l yX6_nearest cX6_nearest 14 (some .long) 2 48 [.long a0, .long a1, .long a2, .long a3] (fun _ => True) (some (.long (f_X6_nearest a0 a1 a2 a3))) := by
  refine Rd.of (by decide +kernel) (Nat.le_of_ble_eq_true rfl) ?_
  intro p e s m args below meth c hx hb hr hml hown htg hlocks hB ls hl
  have hown : s.vm.findClass RX6 = some m.cls := hown
  have hl : lv_has ls 14 [(0, .long a0), (2, .long a1), (4, .long a2), (6, .long a3)] := hl
  refine lv_lload_n hx hb dX6_nearest_0 rfl (lv_at hl 0 rfl) ?_
  refine lv_lload_n hx hb dX6_nearest_1 rfl (lv_at hl 1 rfl) ?_
  refine lv_lmul hx hb dX6_nearest_2 ?_
  refine lv_lstore (lv' := [(8, .long (a0 * a1)), (0, .long a0), (2, .long a1), (4, .long a2), (6, .long a3)]) hx hb dX6_nearest_3 hl (by decide) rfl (fun ls hl => ?_)
  refine lv_lload hx hb dX6_nearest_5 (lv_at hl 0 rfl) ?_
  refine lv_lload hx hb dX6_nearest_7 (lv_at hl 3 rfl) ?_
  refine rS (As := [.long (a0 * a1), .long a2]) (rest := []) hx hb hml hown htg (c_X6_down l (a0 * a1) a2 hn) Blind.tt ml_X6_202 st_X6_down ini_X6 co_X6_down dn_X6_down rfl (fun _ _ _ => trivial) hl.1 rfl (Nat.le_of_ble_eq_true rfl) ⟨Nat.le_of_ble_eq_true rfl, Nat.le_of_ble_eq_true rfl⟩ ⟨Nat.le_of_ble_eq_true rfl, Nat.le_of_ble_eq_true rfl⟩ dX6_nearest_9 ?_
  refine lv_lstore (lv' := [(10, .long (f_X6_down (a0 * a1) a2)), (8, .long (a0 * a1)), (0, .long a0), (2, .long a1), (4, .long a2), (6, .long a3)]) hx hb dX6_nearest_12 hl (by decide) rfl (fun ls hl => ?_)
  refine lv_lload hx hb dX6_nearest_14 (lv_at hl 1 rfl) ?_
  refine lv_lload hx hb dX6_nearest_16 (lv_at hl 4 rfl) ?_
  refine rS (As := [.long (a0 * a1), .long a2]) (rest := []) hx hb hml hown htg (c_X6_rest l (a0 * a1) a2 hn) Blind.tt ml_X6_176 st_X6_rest ini_X6 co_X6_rest dn_X6_rest rfl (fun _ _ _ => trivial) hl.1 rfl (Nat.le_of_ble_eq_true rfl) ⟨Nat.le_of_ble_eq_true rfl, Nat.le_of_ble_eq_true rfl⟩ ⟨Nat.le_of_ble_eq_true rfl, Nat.le_of_ble_eq_true rfl⟩ dX6_nearest_18 ?_
  refine lv_lstore (lv' := [(12, .long (f_X6_rest (a0 * a1) a2)), (10, .long (f_X6_down (a0 * a1) a2)), (8, .long (a0 * a1)), (0, .long a0), (2, .long a1), (4, .long a2), (6, .long a3)]) hx hb dX6_nearest_21 hl (by decide) rfl (fun ls hl => ?_)
  refine lv_lload hx hb dX6_nearest_23 (lv_at hl 1 rfl) ?_
  refine lv_lload hx hb dX6_nearest_25 (lv_at hl 5 rfl) ?_
  refine lv_ldc2 (v := 131072) hx hb hown (htg _ ct_X6_200) dX6_nearest_27 ?_
  refine lv_lmul hx hb dX6_nearest_30 ?_
  refine lv_ldc2 (v := 2) hx hb hown (htg _ ct_X6_198) dX6_nearest_31 ?_
  refine lv_lload hx hb dX6_nearest_34 (lv_at hl 0 rfl) ?_
  refine lv_lmul hx hb dX6_nearest_36 ?_
  refine lv_ldc2 (v := 131072) hx hb hown (htg _ ct_X6_200) dX6_nearest_37 ?_
  refine lv_lmul hx hb dX6_nearest_40 ?_
  refine lv_ladd hx hb dX6_nearest_41 ?_
  refine lv_ldc2 (v := 2) hx hb hown (htg _ ct_X6_198) dX6_nearest_42 ?_
  refine lv_lload hx hb dX6_nearest_45 (lv_at hl 6 rfl) ?_
  refine lv_lmul hx hb dX6_nearest_47 ?_
  refine lv_lload hx hb dX6_nearest_48 (lv_at hl 5 rfl) ?_
  refine lv_lmul hx hb dX6_nearest_50 ?_
  refine lv_lsub hx hb dX6_nearest_51 ?_
  refine lv_ldc2 (v := 2) hx hb hown (htg _ ct_X6_198) dX6_nearest_52 ?_
  refine lv_lload hx hb dX6_nearest_55 (lv_at hl 5 rfl) ?_
  refine lv_lmul hx hb dX6_nearest_57 ?_
  refine lv_ldc2 (v := 131072) hx hb hown (htg _ ct_X6_200) dX6_nearest_58 ?_
  refine lv_lmul hx hb dX6_nearest_61 ?_
  refine rS (As := [.long (((a2 * (131072 : Int64)) + (((2 : Int64) * (f_X6_rest (a0 * a1) a2)) * (131072 : Int64))) - (((2 : Int64) * a3) * a2)), .long (((2 : Int64) * a2) * (131072 : Int64))]) (rest := [.long (f_X6_down (a0 * a1) a2)]) hx hb hml hown htg (c_X6_down l (((a2 * (131072 : Int64)) + (((2 : Int64) * (f_X6_rest (a0 * a1) a2)) * (131072 : Int64))) - (((2 : Int64) * a3) * a2)) (((2 : Int64) * a2) * (131072 : Int64)) hm) Blind.tt ml_X6_202 st_X6_down ini_X6 co_X6_down dn_X6_down rfl (fun _ _ _ => trivial) hl.1 rfl (Nat.le_of_ble_eq_true rfl) ⟨Nat.le_of_ble_eq_true rfl, Nat.le_of_ble_eq_true rfl⟩ ⟨Nat.le_of_ble_eq_true rfl, Nat.le_of_ble_eq_true rfl⟩ dX6_nearest_62 ?_
  refine lv_ladd hx hb dX6_nearest_65 ?_
  refine lv_lstore (lv' := [(10, .long ((f_X6_down (a0 * a1) a2) + (f_X6_down (((a2 * (131072 : Int64)) + (((2 : Int64) * (f_X6_rest (a0 * a1) a2)) * (131072 : Int64))) - (((2 : Int64) * a3) * a2)) (((2 : Int64) * a2) * (131072 : Int64))))), (12, .long (f_X6_rest (a0 * a1) a2)), (8, .long (a0 * a1)), (0, .long a0), (2, .long a1), (4, .long a2), (6, .long a3)]) hx hb dX6_nearest_66 hl (by decide) rfl (fun ls hl => ?_)
  refine lv_lload hx hb dX6_nearest_68 (lv_at hl 0 rfl) ?_
  refine lv_ldc2 (v := 131072) hx hb hown (htg _ ct_X6_200) dX6_nearest_70 ?_
  refine lv_lmul hx hb dX6_nearest_73 ?_
  refine lv_lload hx hb dX6_nearest_74 (lv_at hl 6 rfl) ?_
  refine lv_ladd hx hb dX6_nearest_76 ?_
  exact rd_l hx hb hr hlocks (by simp only [f_X6_nearest]) dX6_nearest_77

theorem pw_pos {n : Nat} {k : Int32} (hi : (n + 1 = 0 ∧ k = 0) ∨ (0 < n + 1 ∧ n + 1 ≤ 16 ∧ k = nI (2 ^ (n + 1 - 1)))) : ¬ k ≤ 0 := by
  rcases hi with ⟨h, -⟩ | ⟨-, h, rfl⟩
  · omega
  · have : ∀ j, j < 16 → ¬ nI (2 ^ j) ≤ 0 := by decide
    exact this _ (by omega)
theorem pw_half {n : Nat} {k : Int32} (hi : (n + 1 = 0 ∧ k = 0) ∨ (0 < n + 1 ∧ n + 1 ≤ 16 ∧ k = nI (2 ^ (n + 1 - 1)))) : (n = 0 ∧ k / 2 = 0) ∨ (0 < n ∧ n ≤ 16 ∧ k / 2 = nI (2 ^ (n - 1))) := by
  rcases hi with ⟨h, -⟩ | ⟨-, h, rfl⟩
  · omega
  · have h0 : ∀ j, j < 16 → (j = 0 ∧ nI (2 ^ j) / 2 = 0) ∨ (0 < j ∧ j ≤ 16 ∧ nI (2 ^ j) / 2 = nI (2 ^ (j - 1))) := by decide
    exact h0 n (by omega)
def f_X6_root_lp (a0 : Int32) : Nat → (Int32) → (Int32) → Int32
  | 0, k, r => r
  | n + 1, k, r => (f_X6_root_lp a0 n (k / (2 : Int32)) (if a0.toInt64 < ((r + k).toInt64 * (r + k).toInt64) then r else (r + k)))
def f_X6_root (a0 : Int32) : Int32 := (f_X6_root_lp a0 16 (32768 : Int32) (0 : Int32))
set_option maxHeartbeats 4000000 in
set_option maxRecDepth 100000 in
theorem c_X6_root (l : Launch) (a0 : Int32) : Rd l yX6_root cX6_root 3 (some .int) 0 0 [.int a0] (fun _ => True) (some (.int (f_X6_root a0))) := by
  refine Rd.of (by decide +kernel) (Nat.le_of_ble_eq_true rfl) ?_
  intro p e s m args below meth c hx hb hr hml hown htg hlocks hB ls hl
  have hown : s.vm.findClass RX6 = some m.cls := hown
  have hl : lv_has ls 3 [(0, .int a0)] := hl
  refine lv_iconst (v := 0) hx hb dX6_root_0 (by decide) ?_
  refine lv_istore_n (lv' := [(1, .int (0 : Int32)), (0, .int a0)]) hx hb dX6_root_1 rfl hl (by decide) rfl (fun ls hl => ?_)
  refine lv_ldc (v := 32768) hx hb hown (htg _ ct_X6_175) dX6_root_2 ?_
  refine lv_istore_n (lv' := [(2, .int (32768 : Int32)), (1, .int (0 : Int32)), (0, .int a0)]) hx hb dX6_root_4 rfl hl (by decide) rfl (fun ls hl => ?_)
  have Lp : ∀ (n : Nat) (k : Int32) (r : Int32), (n = 0 ∧ k = 0) ∨ (0 < n ∧ n ≤ 16 ∧ k = nI (2 ^ (n - 1))) → ∀ ls : Array Slot, lv_has ls 3 [(2, .int k), (1, .int r), (0, .int a0)] → f_X6_root_lp a0 n k r = f_X6_root a0 → W p l e { frames := 0, cells := 0, slots := 0, locals := 0 } s m args below meth c s.heap [] 0 0 (MQ below (rdQ (some (.int (f_X6_root a0)))) args s 0 0 (fun _ => False)) (F0 m 5 ls []) := by
    intro n
    induction n with
    | zero =>
      intro k r hi ls hl hA
      refine lv_iload_n hx hb dX6_root_5 rfl (lv_at hl 0 rfl) ?_
      refine lv_if_le (tgt := 35) hx hb dX6_root_6 (by decide) (fun c_1 => ?_) (fun c_1 => ?_)
      · refine lv_iload_n hx hb dX6_root_35 rfl (lv_at hl 1 rfl) ?_
        exact rd_i hx hb hr hlocks (by rw [← hA]; simp only [f_X6_root_lp]) dX6_root_36
      · exact absurd (by rcases hi with ⟨-, h⟩ | ⟨h, -⟩; rw [h]; decide; omega) c_1
    | succ n ih =>
      intro k r hi ls hl hA
      refine lv_iload_n hx hb dX6_root_5 rfl (lv_at hl 0 rfl) ?_
      refine lv_if_le (tgt := 35) hx hb dX6_root_6 (by decide) (fun c_2 => ?_) (fun c_2 => ?_)
      · exact absurd c_2 (pw_pos hi)
      · refine lv_iload_n hx hb dX6_root_9 rfl (lv_at hl 1 rfl) ?_
        refine lv_iload_n hx hb dX6_root_10 rfl (lv_at hl 0 rfl) ?_
        refine lv_iadd hx hb dX6_root_11 ?_
        refine lv_i2l (v := (r + k).toInt64) hx hb dX6_root_12 rfl ?_
        refine lv_iload_n hx hb dX6_root_13 rfl (lv_at hl 1 rfl) ?_
        refine lv_iload_n hx hb dX6_root_14 rfl (lv_at hl 0 rfl) ?_
        refine lv_iadd hx hb dX6_root_15 ?_
        refine lv_i2l (v := (r + k).toInt64) hx hb dX6_root_16 rfl ?_
        refine lv_lmul hx hb dX6_root_17 ?_
        refine lv_iload_n hx hb dX6_root_18 rfl (lv_at hl 2 rfl) ?_
        refine lv_i2l (v := a0.toInt64) hx hb dX6_root_19 rfl ?_
        refine W.join (nL := 3) (lv := [(2, .int k), (1, .int (if a0.toInt64 < ((r + k).toInt64 * (r + k).toInt64) then r else (r + k))), (0, .int a0)]) (pc2 := 28) (st2 := []) (fun ls hl => ?_) (fun J => ?_)
        · refine lv_iload_n hx hb dX6_root_28 rfl (lv_at hl 0 rfl) ?_
          refine lv_iconst (v := 2) hx hb dX6_root_29 (by decide) ?_
          refine lv_idiv hx hb dX6_root_30 (by decide) ?_
          refine lv_istore_n (lv' := [(2, .int (k / (2 : Int32))), (1, .int (if a0.toInt64 < ((r + k).toInt64 * (r + k).toInt64) then r else (r + k))), (0, .int a0)]) hx hb dX6_root_31 rfl hl (by decide) rfl (fun ls hl => ?_)
          refine lv_goto (tgt := 5) hx hb dX6_root_32 (by decide) ?_
          exact ih (k / (2 : Int32)) (if a0.toInt64 < ((r + k).toInt64 * (r + k).toInt64) then r else (r + k)) (pw_half hi) ls (lv_sub hl [0, 1, 2] rfl) (by rw [← hA]; simp only [f_X6_root_lp])
        · refine lc_gt (tgt := 28) hx hb dX6_root_20 dX6_root_21 (by decide) (fun c_3 => ?_) (fun c_3 => ?_)
          · exact J ls (lv_eq (lv_sub (l' := [(2, .int k), (1, .int r), (0, .int a0)]) hl [0, 1, 2] rfl) (by first | simp only [if_pos c_3] | rfl))
          · refine lv_iload_n hx hb dX6_root_24 rfl (lv_at hl 1 rfl) ?_
            refine lv_iload_n hx hb dX6_root_25 rfl (lv_at hl 0 rfl) ?_
            refine lv_iadd hx hb dX6_root_26 ?_
            refine lv_istore_n (lv' := [(1, .int (r + k)), (2, .int k), (0, .int a0)]) hx hb dX6_root_27 rfl hl (by decide) rfl (fun ls hl => ?_)
            exact J ls (lv_eq (lv_sub (l' := [(2, .int k), (1, .int (r + k)), (0, .int a0)]) hl [1, 0, 2] rfl) (by first | simp only [if_neg c_3] | rfl))
  exact Lp 16 (32768 : Int32) (0 : Int32) (by decide) ls (lv_sub hl [0, 1, 2] rfl) (by simp only [f_X6_root])
