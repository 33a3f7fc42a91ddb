/-! Frame -/
def f_X4_bit (w : Nat → Int32) (a0 : Int32) : Int32 := (if ((a0 - (1 : Int32)) >>> ((5 : Int32) &&& 31)) < 0 then (0 : Int32) else (if ((a0 - (1 : Int32)) >>> ((5 : Int32) &&& 31)) < (4 : Int32) then ((ushr (w ((a0 - (1 : Int32)) >>> ((5 : Int32) &&& 31)).toNatClampNeg) ((31 : Int32) - ((a0 - (1 : Int32)) - (a0 - (1 : Int32)) / (32 : Int32) * (32 : Int32)))) &&& (1 : Int32)) else (0 : Int32)))
set_option maxHeartbeats 4000000 in
set_option maxRecDepth 100000 in
theorem c_X4_bit (l : Launch) (D : va_G) (cI cJ cO : ClassId) (h0 : Nat) (h1 : Nat) (len : Int32) (tr : Int32) (w : Nat → Int32) (a0 : Int32) : Rd l yX4_bit cX4_bit 3 (some .int) 0 0 [.ref h0, .int a0] (fun U => B0 D cI cJ cO [(h0, .inr (2, [.ref h1, .int len, .int tr])), (h1, .inl (cI, 4, .inl w))] U) (some (.int (f_X4_bit w a0))) := by
  refine Rd.of (by decide +kernel) (Nat.le_of_ble_eq_true rfl) ?_
  intro p e s m args below meth c hx hb hr hml hown htg hlocks hB ls hl
  obtain ⟨hP, hK⟩ := hB
  have hP : va_P D vwCl [(h0, .inr (2, [.ref h1, .int len, .int tr])), (h1, .inl (cI, 4, .inl w))] s.heap := hP
  have hown : s.vm.findClass RX4 = some m.cls := hown
  have hl : lv_has ls 3 [(0, .ref h0), (1, .int a0)] := hl
  refine lv_iload_n hx hb dX4_bit_0 rfl (lv_at hl 1 rfl) ?_
  refine lv_iconst (v := 1) hx hb dX4_bit_1 (by decide) ?_
  refine lv_isub hx hb dX4_bit_2 ?_
  refine lv_iconst (v := 5) hx hb dX4_bit_3 (by decide) ?_
  refine lv_ishr hx hb dX4_bit_4 ?_
  refine lv_istore_n (lv' := [(2, .int ((a0 - (1 : Int32)) >>> ((5 : Int32) &&& 31))), (0, .ref h0), (1, .int a0)]) hx hb dX4_bit_5 rfl hl (by decide) rfl (fun ls hl => ?_)
  refine lv_iload_n hx hb dX4_bit_6 rfl (lv_at hl 0 rfl) ?_
  refine lv_if_lt (tgt := 19) hx hb dX4_bit_7 (by decide) (fun c_1 => ?_) (fun c_1 => ?_)
  · refine lv_iconst (v := 0) hx hb dX4_bit_19 (by decide) ?_
    exact rd_i hx hb hr hlocks (by simp only [f_X4_bit, if_pos c_1]) dX4_bit_20
  · refine lv_iload_n hx hb dX4_bit_10 rfl (lv_at hl 0 rfl) ?_
    refine lv_aload_n hx hb dX4_bit_11 rfl (lv_at hl 1 rfl) ?_
    refine va_get (D := D) (ci := 2) (v := .ref h1) (C := RX4) (T := TX4) (N := 3) hx hb htg inX4 hown hK hP 0 rfl rfl 0 (by decide) (htg _ fl_X4_11) (fun _ h9 => h9) rfl dX4_bit_12 ?_
    refine va_alen (v := 4) hx hb hK hP 1 0 rfl rfl rfl dX4_bit_15 ?_
    refine lv_icmp_lt (tgt := 21) hx hb dX4_bit_16 (by decide) (fun c_2 => ?_) (fun c_2 => ?_)
    · refine lv_aload_n hx hb dX4_bit_21 rfl (lv_at hl 1 rfl) ?_
      refine va_get (D := D) (ci := 2) (v := .ref h1) (C := RX4) (T := TX4) (N := 3) hx hb htg inX4 hown hK hP 0 rfl rfl 0 (by decide) (htg _ fl_X4_11) (fun _ h9 => h9) rfl dX4_bit_22 ?_
      refine lv_iload_n hx hb dX4_bit_25 rfl (lv_at hl 0 rfl) ?_
      refine va_iald' (v := (w ((a0 - (1 : Int32)) >>> ((5 : Int32) &&& 31)).toNatClampNeg)) hx hb hK hP 1 0 rfl rfl (in4 c_1 c_2) rfl dX4_bit_26 ?_
      refine lv_bipush (v := 31) hx hb dX4_bit_27 (by decide) ?_
      refine lv_iload_n hx hb dX4_bit_29 rfl (lv_at hl 2 rfl) ?_
      refine lv_iconst (v := 1) hx hb dX4_bit_30 (by decide) ?_
      refine lv_isub hx hb dX4_bit_31 ?_
      refine lv_bipush (v := 32) hx hb dX4_bit_32 (by decide) ?_
      refine lv_irem hx hb dX4_bit_34 (by decide) ?_
      refine lv_isub hx hb dX4_bit_35 ?_
      refine lv_iushr (v := (ushr (w ((a0 - (1 : Int32)) >>> ((5 : Int32) &&& 31)).toNatClampNeg) ((31 : Int32) - ((a0 - (1 : Int32)) - (a0 - (1 : Int32)) / (32 : Int32) * (32 : Int32))))) hx hb dX4_bit_36 rfl ?_
      refine lv_iconst (v := 1) hx hb dX4_bit_37 (by decide) ?_
      refine lv_iand hx hb dX4_bit_38 ?_
      exact rd_i hx hb hr hlocks (by simp only [f_X4_bit, if_neg c_1, if_pos c_2]) dX4_bit_39
    · refine lv_iconst (v := 0) hx hb dX4_bit_19 (by decide) ?_
      exact rd_i hx hb hr hlocks (by simp only [f_X4_bit, if_neg c_1, if_neg c_2]) dX4_bit_20

def f_X4_turnedBit (tr : Int32) : Int32 := tr
set_option maxHeartbeats 4000000 in
set_option maxRecDepth 100000 in
theorem c_X4_turnedBit (l : Launch) (D : va_G) (cI cJ cO : ClassId) (h0 : Nat) (h1 : Nat) (len : Int32) (tr : Int32) (w : Nat → Int32) : Rd l yX4_turnedBit cX4_turnedBit 1 (some .int) 0 0 [.ref h0] (fun U => B0 D cI cJ cO [(h0, .inr (2, [.ref h1, .int len, .int tr])), (h1, .inl (cI, 4, .inl w))] U) (some (.int (f_X4_turnedBit tr))) := by
  refine Rd.of (by decide +kernel) (Nat.le_of_ble_eq_true rfl) ?_
  intro p e s m args below meth c hx hb hr hml hown htg hlocks hB ls hl
  obtain ⟨hP, hK⟩ := hB
  have hP : va_P D vwCl [(h0, .inr (2, [.ref h1, .int len, .int tr])), (h1, .inl (cI, 4, .inl w))] s.heap := hP
  have hown : s.vm.findClass RX4 = some m.cls := hown
  have hl : lv_has ls 1 [(0, .ref h0)] := hl
  refine lv_aload_n hx hb dX4_turnedBit_0 rfl (lv_at hl 0 rfl) ?_
  refine va_get (D := D) (ci := 2) (v := .int tr) (C := RX4) (T := TX4) (N := 3) hx hb htg inX4 hown hK hP 0 rfl rfl 2 (by decide) (htg _ fl_X4_19) (fun _ h9 => h9) rfl dX4_turnedBit_1 ?_
  exact rd_i hx hb hr hlocks (by simp only [f_X4_turnedBit]) dX4_turnedBit_4

theorem num_st {len a0 a1 : Int32} (hlen : 0 ≤ len.toInt ∧ len.toInt ≤ 112) (h1 : ¬ a1 < 1) (h2 : ¬ 32 < a1) (h3 : ¬ a0 < 1) (h4 : a0 ≤ len - a1 + 1) : Up a1.toNatClampNeg a0 (a0 + a1) := by
  rw [fa_lt, i1] at h1 h3
  rw [fa_lt] at h2
  have e32 : (32 : Int32).toInt = 32 := rfl
  have e1 : (len - a1).toInt = len.toInt - a1.toInt := by rw [fb_subI] <;> omega
  have e2 : (len - a1 + 1).toInt = len.toInt - a1.toInt + 1 := by rw [fb_addI] <;> rw [e1, i1] <;> omega
  rw [fa_le, e2] at h4
  have e3 : (a0 + a1).toInt = a0.toInt + a1.toInt := by rw [fb_addI] <;> omega
  have e4 := clamp (x := a1) (by omega)
  exact ⟨by rw [e3]; omega, by omega, by rw [e3]; omega⟩
def f_X4_number_lp (w : Nat → Int32) (a0 : Int32) (a1 : Int32) : Nat → (Int32) → (Int32) → Int32
  | 0, k, v => v
  | n + 1, k, v => (f_X4_number_lp w a0 a1 n (k + (1 : Int32)) ((v <<< ((1 : Int32) &&& 31)) ||| (f_X4_bit w k)))
def f_X4_number (w : Nat → Int32) (len : Int32) (a0 : Int32) (a1 : Int32) : Int32 := (if a1 < (1 : Int32) then (0 : Int32) else (if (32 : Int32) < a1 then (0 : Int32) else (if a0 < (1 : Int32) then (0 : Int32) else (if a0 ≤ ((len - a1) + (1 : Int32)) then (f_X4_number_lp w a0 a1 a1.toNatClampNeg a0 (0 : Int32)) else (0 : Int32)))))
set_option maxHeartbeats 4000000 in
set_option maxRecDepth 100000 in
theorem c_X4_number (l : Launch) (D : va_G) (cI cJ cO : ClassId) (h0 : Nat) (h1 : Nat) (len : Int32) (tr : Int32) (w : Nat → Int32) (a0 : Int32) (a1 : Int32) (hlen : 0 ≤ len.toInt ∧ len.toInt ≤ 112) : Rd l yX4_number cX4_number 5 (some .int) 1 22 [.ref h0, .int a0, .int a1] (fun U => B0 D cI cJ cO [(h0, .inr (2, [.ref h1, .int len, .int tr])), (h1, .inl (cI, 4, .inl w))] U) (some (.int (f_X4_number w len a0 a1))) := by
  refine Rd.of (by decide +kernel) (Nat.le_of_ble_eq_true rfl) ?_
  intro p e s m args below meth c hx hb hr hml hown htg hlocks hB ls hl
  obtain ⟨hP, hK⟩ := hB
  have hP : va_P D vwCl [(h0, .inr (2, [.ref h1, .int len, .int tr])), (h1, .inl (cI, 4, .inl w))] s.heap := hP
  have hown : s.vm.findClass RX4 = some m.cls := hown
  have hl : lv_has ls 5 [(0, .ref h0), (1, .int a0), (2, .int a1)] := hl
  refine lv_iload_n hx hb dX4_number_0 rfl (lv_at hl 2 rfl) ?_
  refine lv_iconst (v := 1) hx hb dX4_number_1 (by decide) ?_
  refine lv_icmp_lt (tgt := 28) hx hb dX4_number_2 (by decide) (fun c_1 => ?_) (fun c_1 => ?_)
  · refine lv_iconst (v := 0) hx hb dX4_number_28 (by decide) ?_
    exact rd_i hx hb hr hlocks (by simp only [f_X4_number, if_pos c_1]) dX4_number_29
  · refine lv_iload_n hx hb dX4_number_5 rfl (lv_at hl 2 rfl) ?_
    refine lv_bipush (v := 32) hx hb dX4_number_6 (by decide) ?_
    refine lv_icmp_gt (tgt := 28) hx hb dX4_number_8 (by decide) (fun c_2 => ?_) (fun c_2 => ?_)
    · refine lv_iconst (v := 0) hx hb dX4_number_28 (by decide) ?_
      exact rd_i hx hb hr hlocks (by simp only [f_X4_number, if_neg c_1, if_pos c_2]) dX4_number_29
    · refine lv_iload_n hx hb dX4_number_11 rfl (lv_at hl 1 rfl) ?_
      refine lv_iconst (v := 1) hx hb dX4_number_12 (by decide) ?_
      refine lv_icmp_lt (tgt := 28) hx hb dX4_number_13 (by decide) (fun c_3 => ?_) (fun c_3 => ?_)
      · refine lv_iconst (v := 0) hx hb dX4_number_28 (by decide) ?_
        exact rd_i hx hb hr hlocks (by simp only [f_X4_number, if_neg c_1, if_neg c_2, if_pos c_3]) dX4_number_29
      · refine lv_iload_n hx hb dX4_number_16 rfl (lv_at hl 1 rfl) ?_
        refine lv_aload_n hx hb dX4_number_17 rfl (lv_at hl 0 rfl) ?_
        refine va_get (D := D) (ci := 2) (v := .int len) (C := RX4) (T := TX4) (N := 3) hx hb htg inX4 hown hK hP 0 rfl rfl 1 (by decide) (htg _ fl_X4_15) (fun _ h9 => h9) rfl dX4_number_18 ?_
        refine lv_iload_n hx hb dX4_number_21 rfl (lv_at hl 2 rfl) ?_
        refine lv_isub hx hb dX4_number_22 ?_
        refine lv_iconst (v := 1) hx hb dX4_number_23 (by decide) ?_
        refine lv_iadd hx hb dX4_number_24 ?_
        refine lv_icmp_le (tgt := 30) hx hb dX4_number_25 (by decide) (fun c_4 => ?_) (fun c_4 => ?_)
        · refine lv_iconst (v := 0) hx hb dX4_number_30 (by decide) ?_
          refine lv_istore_n (lv' := [(3, .int (0 : Int32)), (0, .ref h0), (1, .int a0), (2, .int a1)]) hx hb dX4_number_31 rfl hl (by decide) rfl (fun ls hl => ?_)
          refine lv_iload_n hx hb dX4_number_32 rfl (lv_at hl 2 rfl) ?_
          refine lv_istore (lv' := [(4, .int a0), (3, .int (0 : Int32)), (0, .ref h0), (1, .int a0), (2, .int a1)]) hx hb dX4_number_33 hl (by decide) rfl (fun ls hl => ?_)
          have Lp : ∀ (n : Nat) (k : Int32) (v : Int32), (Up n k (a0 + a1)) → ∀ ls : Array Slot, lv_has ls 5 [(4, .int k), (3, .int v), (0, .ref h0), (1, .int a0), (2, .int a1)] → f_X4_number_lp w a0 a1 n k v = f_X4_number w len a0 a1 → W p l e { frames := 1, cells := 0, slots := 0, locals := 22 } s m args below meth c s.heap [] 0 0 (MQ below (rdQ (some (.int (f_X4_number w len a0 a1)))) args s 0 0 (fun _ => False)) (F0 m 35 ls []) := by
            intro n
            induction n with
            | zero =>
              intro k v hi ls hl hE
              refine lv_iload hx hb dX4_number_35 (lv_at hl 0 rfl) ?_
              refine lv_iload_n hx hb dX4_number_37 rfl (lv_at hl 3 rfl) ?_
              refine lv_iload_n hx hb dX4_number_38 rfl (lv_at hl 4 rfl) ?_
              refine lv_iadd hx hb dX4_number_39 ?_
              refine lv_icmp_ge (tgt := 60) hx hb dX4_number_40 (by decide) (fun c_5 => ?_) (fun c_5 => ?_)
              · refine lv_iload_n hx hb dX4_number_60 rfl (lv_at hl 1 rfl) ?_
                exact rd_i hx hb hr hlocks (by rw [← hE]; simp only [f_X4_number_lp]) dX4_number_61
              · exact absurd hi.z c_5
            | succ n ih =>
              intro k v hi ls hl hE
              refine lv_iload hx hb dX4_number_35 (lv_at hl 0 rfl) ?_
              refine lv_iload_n hx hb dX4_number_37 rfl (lv_at hl 3 rfl) ?_
              refine lv_iload_n hx hb dX4_number_38 rfl (lv_at hl 4 rfl) ?_
              refine lv_iadd hx hb dX4_number_39 ?_
              refine lv_icmp_ge (tgt := 60) hx hb dX4_number_40 (by decide) (fun c_6 => ?_) (fun c_6 => ?_)
              · exact absurd c_6 hi.s
              · refine lv_iload_n hx hb dX4_number_43 rfl (lv_at hl 1 rfl) ?_
                refine lv_iconst (v := 1) hx hb dX4_number_44 (by decide) ?_
                refine lv_ishl hx hb dX4_number_45 ?_
                refine lv_aload_n hx hb dX4_number_46 rfl (lv_at hl 2 rfl) ?_
                refine lv_iload hx hb dX4_number_47 (lv_at hl 0 rfl) ?_
                refine rV (As := [.int k]) (rest := [.int (v <<< ((1 : Int32) &&& 31))]) hx hb hml hown htg (c_X4_bit l D cI cJ cO h0 h1 len tr w k) Blind.b0 ml_X4_32 im_X4_bit se_X4_bit ini_X4 co_X4_bit rfl dn_X4_bit rfl (va_recv hK hP (ci := 2) (q0 := 0) rfl rfl) (fun U hU hW => ⟨by rw [hU]; exact hP, va_K.moved hW.alike hK⟩) hl.1 rfl (Nat.le_of_ble_eq_true rfl) ⟨Nat.le_of_ble_eq_true rfl, Nat.le_of_ble_eq_true rfl⟩ ⟨Nat.le_of_ble_eq_true rfl, Nat.le_of_ble_eq_true rfl⟩ dX4_number_49 ?_
                refine lv_ior hx hb dX4_number_52 ?_
                refine lv_istore_n (lv' := [(3, .int ((v <<< ((1 : Int32) &&& 31)) ||| (f_X4_bit w k))), (4, .int k), (0, .ref h0), (1, .int a0), (2, .int a1)]) hx hb dX4_number_53 rfl hl (by decide) rfl (fun ls hl => ?_)
                refine lv_iinc (v := (k + (1 : Int32))) (lv' := [(4, .int (k + (1 : Int32))), (3, .int ((v <<< ((1 : Int32) &&& 31)) ||| (f_X4_bit w k))), (0, .ref h0), (1, .int a0), (2, .int a1)]) hx hb dX4_number_54 hl (k := 1) rfl rfl (by decide) rfl (fun ls hl => ?_)
                refine lv_goto (tgt := 35) hx hb dX4_number_57 (by decide) ?_
                exact ih (k + (1 : Int32)) ((v <<< ((1 : Int32) &&& 31)) ||| (f_X4_bit w k)) hi.nx ls (lv_sub hl [0, 1, 2, 3, 4] rfl) (by rw [← hE]; simp only [f_X4_number_lp])
          exact Lp a1.toNatClampNeg a0 (0 : Int32) (num_st hlen c_1 c_2 c_3 c_4) ls (lv_sub hl [0, 1, 2, 3, 4] rfl) (by simp only [f_X4_number, if_neg c_1, if_neg c_2, if_neg c_3, if_pos c_4])
        · refine lv_iconst (v := 0) hx hb dX4_number_28 (by decide) ?_
          exact rd_i hx hb hr hlocks (by simp only [f_X4_number, if_neg c_1, if_neg c_2, if_neg c_3, if_neg c_4]) dX4_number_29

def f_X4_message (w : Nat → Int32) (len : Int32) (a0 : Int32) (a1 : Int32) : Int32 := (f_X4_number w len ((32 : Int32) + a0) ((a1 - a0) + (1 : Int32)))
set_option maxHeartbeats 4000000 in
set_option maxRecDepth 100000 in
theorem c_X4_message (l : Launch) (D : va_G) (cI cJ cO : ClassId) (h0 : Nat) (h1 : Nat) (len : Int32) (tr : Int32) (w : Nat → Int32) (a0 : Int32) (a1 : Int32) (hlen : 0 ≤ len.toInt ∧ len.toInt ≤ 112) : Rd l yX4_message cX4_message 3 (some .int) 2 46 [.ref h0, .int a0, .int a1] (fun U => B0 D cI cJ cO [(h0, .inr (2, [.ref h1, .int len, .int tr])), (h1, .inl (cI, 4, .inl w))] U) (some (.int (f_X4_message w len a0 a1))) := by
  refine Rd.of (by decide +kernel) (Nat.le_of_ble_eq_true rfl) ?_
  intro p e s m args below meth c hx hb hr hml hown htg hlocks hB ls hl
  obtain ⟨hP, hK⟩ := hB
  have hP : va_P D vwCl [(h0, .inr (2, [.ref h1, .int len, .int tr])), (h1, .inl (cI, 4, .inl w))] s.heap := hP
  have hown : s.vm.findClass RX4 = some m.cls := hown
  have hl : lv_has ls 3 [(0, .ref h0), (1, .int a0), (2, .int a1)] := hl
  refine lv_aload_n hx hb dX4_message_0 rfl (lv_at hl 0 rfl) ?_
  refine lv_bipush (v := 32) hx hb dX4_message_1 (by decide) ?_
  refine lv_iload_n hx hb dX4_message_3 rfl (lv_at hl 1 rfl) ?_
  refine lv_iadd hx hb dX4_message_4 ?_
  refine lv_iload_n hx hb dX4_message_5 rfl (lv_at hl 2 rfl) ?_
  refine lv_iload_n hx hb dX4_message_6 rfl (lv_at hl 1 rfl) ?_
  refine lv_isub hx hb dX4_message_7 ?_
  refine lv_iconst (v := 1) hx hb dX4_message_8 (by decide) ?_
  refine lv_iadd hx hb dX4_message_9 ?_
  refine rV (As := [.int ((32 : Int32) + a0), .int ((a1 - a0) + (1 : Int32))]) (rest := []) hx hb hml hown htg (c_X4_number l D cI cJ cO h0 h1 len tr w ((32 : Int32) + a0) ((a1 - a0) + (1 : Int32)) hlen) Blind.b0 ml_X4_36 im_X4_number se_X4_number ini_X4 co_X4_number rfl dn_X4_number rfl (va_recv hK hP (ci := 2) (q0 := 0) rfl rfl) (fun U hU hW => ⟨by rw [hU]; exact hP, va_K.moved hW.alike hK⟩) hl.1 rfl (Nat.le_of_ble_eq_true rfl) ⟨Nat.le_of_ble_eq_true rfl, Nat.le_of_ble_eq_true rfl⟩ ⟨Nat.le_of_ble_eq_true rfl, Nat.le_of_ble_eq_true rfl⟩ dX4_message_10 ?_
  exact rd_i hx hb hr hlocks (by simp only [f_X4_message]) dX4_message_13

def f_X4_parity (w : Nat → Int32) (len : Int32) : Int32 := (f_X4_number w len (len - (23 : Int32)) (24 : Int32))
set_option maxHeartbeats 4000000 in
set_option maxRecDepth 100000 in
theorem c_X4_parity (l : Launch) (D : va_G) (cI cJ cO : ClassId) (h0 : Nat) (h1 : Nat) (len : Int32) (tr : Int32) (w : Nat → Int32) (hlen : 0 ≤ len.toInt ∧ len.toInt ≤ 112) : Rd l yX4_parity cX4_parity 1 (some .int) 2 46 [.ref h0] (fun U => B0 D cI cJ cO [(h0, .inr (2, [.ref h1, .int len, .int tr])), (h1, .inl (cI, 4, .inl w))] U) (some (.int (f_X4_parity w len))) := by
  refine Rd.of (by decide +kernel) (Nat.le_of_ble_eq_true rfl) ?_
  intro p e s m args below meth c hx hb hr hml hown htg hlocks hB ls hl
  obtain ⟨hP, hK⟩ := hB
  have hP : va_P D vwCl [(h0, .inr (2, [.ref h1, .int len, .int tr])), (h1, .inl (cI, 4, .inl w))] s.heap := hP
  have hown : s.vm.findClass RX4 = some m.cls := hown
  have hl : lv_has ls 1 [(0, .ref h0)] := hl
  refine lv_aload_n hx hb dX4_parity_0 rfl (lv_at hl 0 rfl) ?_
  refine lv_aload_n hx hb dX4_parity_1 rfl (lv_at hl 0 rfl) ?_
  refine va_get (D := D) (ci := 2) (v := .int len) (C := RX4) (T := TX4) (N := 3) hx hb htg inX4 hown hK hP 0 rfl rfl 1 (by decide) (htg _ fl_X4_15) (fun _ h9 => h9) rfl dX4_parity_2 ?_
  refine lv_bipush (v := 23) hx hb dX4_parity_5 (by decide) ?_
  refine lv_isub hx hb dX4_parity_7 ?_
  refine lv_bipush (v := 24) hx hb dX4_parity_8 (by decide) ?_
  refine rV (As := [.int (len - (23 : Int32)), .int (24 : Int32)]) (rest := []) hx hb hml hown htg (c_X4_number l D cI cJ cO h0 h1 len tr w (len - (23 : Int32)) (24 : Int32) hlen) Blind.b0 ml_X4_36 im_X4_number se_X4_number ini_X4 co_X4_number rfl dn_X4_number rfl (va_recv hK hP (ci := 2) (q0 := 0) rfl rfl) (fun U hU hW => ⟨by rw [hU]; exact hP, va_K.moved hW.alike hK⟩) hl.1 rfl (Nat.le_of_ble_eq_true rfl) ⟨Nat.le_of_ble_eq_true rfl, Nat.le_of_ble_eq_true rfl⟩ ⟨Nat.le_of_ble_eq_true rfl, Nat.le_of_ble_eq_true rfl⟩ dX4_parity_10 ?_
  exact rd_i hx hb hr hlocks (by simp only [f_X4_parity]) dX4_parity_13

def f_X4_remainder_lp (w : Nat → Int32) (len : Int32) : Nat → (Int32) → (Int32) → Int32
  | 0, k, v => v
  | n + 1, k, v => (f_X4_remainder_lp w len n (k + (1 : Int32)) (f_X4_reduced ((v <<< ((1 : Int32) &&& 31)) ||| (f_X4_bit w k))))
def f_X4_remainder (w : Nat → Int32) (len : Int32) : Int32 := (f_X4_remainder_lp w len len.toNatClampNeg (1 : Int32) (0 : Int32))
set_option maxHeartbeats 4000000 in
set_option maxRecDepth 100000 in
theorem c_X4_remainder (l : Launch) (D : va_G) (cI cJ cO : ClassId) (h0 : Nat) (h1 : Nat) (len : Int32) (tr : Int32) (w : Nat → Int32) (hlen : 0 ≤ len.toInt ∧ len.toInt ≤ 112) : Rd l yX4_remainder cX4_remainder 3 (some .int) 1 22 [.ref h0] (fun U => B0 D cI cJ cO [(h0, .inr (2, [.ref h1, .int len, .int tr])), (h1, .inl (cI, 4, .inl w))] U) (some (.int (f_X4_remainder w len))) := by
  refine Rd.of (by decide +kernel) (Nat.le_of_ble_eq_true rfl) ?_
  intro p e s m args below meth c hx hb hr hml hown htg hlocks hB ls hl
  obtain ⟨hP, hK⟩ := hB
  have hP : va_P D vwCl [(h0, .inr (2, [.ref h1, .int len, .int tr])), (h1, .inl (cI, 4, .inl w))] s.heap := hP
  have hown : s.vm.findClass RX4 = some m.cls := hown
  have hl : lv_has ls 3 [(0, .ref h0)] := hl
  refine lv_iconst (v := 0) hx hb dX4_remainder_0 (by decide) ?_
  refine lv_istore_n (lv' := [(1, .int (0 : Int32)), (0, .ref h0)]) hx hb dX4_remainder_1 rfl hl (by decide) rfl (fun ls hl => ?_)
  refine lv_iconst (v := 1) hx hb dX4_remainder_2 (by decide) ?_
  refine lv_istore_n (lv' := [(2, .int (1 : Int32)), (1, .int (0 : Int32)), (0, .ref h0)]) hx hb dX4_remainder_3 rfl hl (by decide) rfl (fun ls hl => ?_)
  have Lp : ∀ (n : Nat) (k : Int32) (v : Int32), (k.toInt + n = len.toInt + 1 ∧ 1 ≤ k.toInt) → ∀ ls : Array Slot, lv_has ls 3 [(2, .int k), (1, .int v), (0, .ref h0)] → f_X4_remainder_lp w len n k v = f_X4_remainder w len → W p l e { frames := 1, cells := 0, slots := 0, locals := 22 } s m args below meth c s.heap [] 0 0 (MQ below (rdQ (some (.int (f_X4_remainder w len)))) args s 0 0 (fun _ => False)) (F0 m 4 ls []) := by
    intro n
    induction n with
    | zero =>
      intro k v hi ls hl hE
      refine lv_iload_n hx hb dX4_remainder_4 rfl (lv_at hl 0 rfl) ?_
      refine lv_aload_n hx hb dX4_remainder_5 rfl (lv_at hl 2 rfl) ?_
      refine va_get (D := D) (ci := 2) (v := .int len) (C := RX4) (T := TX4) (N := 3) hx hb htg inX4 hown hK hP 0 rfl rfl 1 (by decide) (htg _ fl_X4_15) (fun _ h9 => h9) rfl dX4_remainder_6 ?_
      refine lv_icmp_gt (tgt := 31) hx hb dX4_remainder_9 (by decide) (fun c_1 => ?_) (fun c_1 => ?_)
      · refine lv_iload_n hx hb dX4_remainder_31 rfl (lv_at hl 1 rfl) ?_
        exact rd_i hx hb hr hlocks (by rw [← hE]; simp only [f_X4_remainder_lp]) dX4_remainder_32
      · exact absurd (by rw [fa_lt]; have := hi.1; omega) c_1
    | succ n ih =>
      intro k v hi ls hl hE
      refine lv_iload_n hx hb dX4_remainder_4 rfl (lv_at hl 0 rfl) ?_
      refine lv_aload_n hx hb dX4_remainder_5 rfl (lv_at hl 2 rfl) ?_
      refine va_get (D := D) (ci := 2) (v := .int len) (C := RX4) (T := TX4) (N := 3) hx hb htg inX4 hown hK hP 0 rfl rfl 1 (by decide) (htg _ fl_X4_15) (fun _ h9 => h9) rfl dX4_remainder_6 ?_
      refine lv_icmp_gt (tgt := 31) hx hb dX4_remainder_9 (by decide) (fun c_2 => ?_) (fun c_2 => ?_)
      · exact absurd c_2 (by rw [fa_lt]; have := hi.1; omega)
      · refine lv_iload_n hx hb dX4_remainder_12 rfl (lv_at hl 1 rfl) ?_
        refine lv_iconst (v := 1) hx hb dX4_remainder_13 (by decide) ?_
        refine lv_ishl hx hb dX4_remainder_14 ?_
        refine lv_aload_n hx hb dX4_remainder_15 rfl (lv_at hl 2 rfl) ?_
        refine lv_iload_n hx hb dX4_remainder_16 rfl (lv_at hl 0 rfl) ?_
        refine rV (As := [.int k]) (rest := [.int (v <<< ((1 : Int32) &&& 31))]) hx hb hml hown htg (c_X4_bit l D cI cJ cO h0 h1 len tr w k) Blind.b0 ml_X4_32 im_X4_bit se_X4_bit ini_X4 co_X4_bit rfl dn_X4_bit rfl (va_recv hK hP (ci := 2) (q0 := 0) rfl rfl) (fun U hU hW => ⟨by rw [hU]; exact hP, va_K.moved hW.alike hK⟩) hl.1 rfl (Nat.le_of_ble_eq_true rfl) ⟨Nat.le_of_ble_eq_true rfl, Nat.le_of_ble_eq_true rfl⟩ ⟨Nat.le_of_ble_eq_true rfl, Nat.le_of_ble_eq_true rfl⟩ dX4_remainder_17 ?_
        refine lv_ior hx hb dX4_remainder_20 ?_
        refine rS (As := [.int ((v <<< ((1 : Int32) &&& 31)) ||| (f_X4_bit w k))]) (rest := []) hx hb hml hown htg (c_X4_reduced l ((v <<< ((1 : Int32) &&& 31)) ||| (f_X4_bit w k))) Blind.tt ml_X4_40 st_X4_reduced ini_X4 co_X4_reduced dn_X4_reduced rfl (fun _ _ _ => trivial) hl.1 rfl (Nat.le_of_ble_eq_true rfl) ⟨Nat.le_of_ble_eq_true rfl, Nat.le_of_ble_eq_true rfl⟩ ⟨Nat.le_of_ble_eq_true rfl, Nat.le_of_ble_eq_true rfl⟩ dX4_remainder_21 ?_
        refine lv_istore_n (lv' := [(1, .int (f_X4_reduced ((v <<< ((1 : Int32) &&& 31)) ||| (f_X4_bit w k)))), (2, .int k), (0, .ref h0)]) hx hb dX4_remainder_24 rfl hl (by decide) rfl (fun ls hl => ?_)
        refine lv_iinc (v := (k + (1 : Int32))) (lv' := [(2, .int (k + (1 : Int32))), (1, .int (f_X4_reduced ((v <<< ((1 : Int32) &&& 31)) ||| (f_X4_bit w k)))), (0, .ref h0)]) hx hb dX4_remainder_25 hl (k := 1) rfl rfl (by decide) rfl (fun ls hl => ?_)
        refine lv_goto (tgt := 4) hx hb dX4_remainder_28 (by decide) ?_
        exact ih (k + (1 : Int32)) (f_X4_reduced ((v <<< ((1 : Int32) &&& 31)) ||| (f_X4_bit w k))) (by have e1 : (k + 1).toInt = k.toInt + 1 := (by have := hi.1; rw [fb_addI] <;> rw [i1] <;> omega); rw [e1]; have := hi.1; have := hi.2; omega) ls (lv_sub hl [0, 1, 2] rfl) (by rw [← hE]; simp only [f_X4_remainder_lp])
  exact Lp len.toNatClampNeg (1 : Int32) (0 : Int32) (by have := clamp hlen.1; rw [i1]; omega) ls (lv_sub hl [0, 1, 2] rfl) (by simp only [f_X4_remainder])

def f_X4_format (w : Nat → Int32) : Int32 := (ushr (w 0) (27 : Int32))
set_option maxHeartbeats 4000000 in
set_option maxRecDepth 100000 in
theorem c_X4_format (l : Launch) (D : va_G) (cI cJ cO : ClassId) (h0 : Nat) (h1 : Nat) (len : Int32) (tr : Int32) (w : Nat → Int32) : Rd l yX4_format cX4_format 1 (some .int) 0 0 [.ref h0] (fun U => B0 D cI cJ cO [(h0, .inr (2, [.ref h1, .int len, .int tr])), (h1, .inl (cI, 4, .inl w))] U) (some (.int (f_X4_format w))) := by
  refine Rd.of (by decide +kernel) (Nat.le_of_ble_eq_true rfl) ?_
  intro p e s m args below meth c hx hb hr hml hown htg hlocks hB ls hl
  obtain ⟨hP, hK⟩ := hB
  have hP : va_P D vwCl [(h0, .inr (2, [.ref h1, .int len, .int tr])), (h1, .inl (cI, 4, .inl w))] s.heap := hP
  have hown : s.vm.findClass RX4 = some m.cls := hown
  have hl : lv_has ls 1 [(0, .ref h0)] := hl
  refine lv_aload_n hx hb dX4_format_0 rfl (lv_at hl 0 rfl) ?_
  refine va_get (D := D) (ci := 2) (v := .ref h1) (C := RX4) (T := TX4) (N := 3) hx hb htg inX4 hown hK hP 0 rfl rfl 0 (by decide) (htg _ fl_X4_11) (fun _ h9 => h9) rfl dX4_format_1 ?_
  refine lv_iconst (v := 0) hx hb dX4_format_4 (by decide) ?_
  refine va_iald' (v := (w 0)) hx hb hK hP 1 0 rfl rfl (by unfold vp_in; decide) (congrArg w (by decide)) dX4_format_5 ?_
  refine lv_bipush (v := 27) hx hb dX4_format_6 (by decide) ?_
  refine lv_iushr (v := (ushr (w 0) (27 : Int32))) hx hb dX4_format_8 rfl ?_
  exact rd_i hx hb hr hlocks (by simp only [f_X4_format]) dX4_format_9

def f_X4_isOf (w : Nat → Int32) (len : Int32) (a0 : Int32) : Int32 := (if len = 0 then (0 : Int32) else (if ((ushr a0 (f_X4_format w)) &&& (1 : Int32)) = 0 then (0 : Int32) else (1 : Int32)))
set_option maxHeartbeats 4000000 in
set_option maxRecDepth 100000 in
theorem c_X4_isOf (l : Launch) (D : va_G) (cI cJ cO : ClassId) (h0 : Nat) (h1 : Nat) (len : Int32) (tr : Int32) (w : Nat → Int32) (a0 : Int32) (hlen : 0 ≤ len.toInt ∧ len.toInt ≤ 112) : Rd l yX4_isOf cX4_isOf 2 (some .boolean) 1 20 [.ref h0, .int a0] (fun U => B0 D cI cJ cO [(h0, .inr (2, [.ref h1, .int len, .int tr])), (h1, .inl (cI, 4, .inl w))] U) (some (.int (f_X4_isOf w len a0))) := by
  refine Rd.of (by decide +kernel) (Nat.le_of_ble_eq_true rfl) ?_
  intro p e s m args below meth c hx hb hr hml hown htg hlocks hB ls hl
  obtain ⟨hP, hK⟩ := hB
  have hP : va_P D vwCl [(h0, .inr (2, [.ref h1, .int len, .int tr])), (h1, .inl (cI, 4, .inl w))] s.heap := hP
  have hown : s.vm.findClass RX4 = some m.cls := hown
  have hl : lv_has ls 2 [(0, .ref h0), (1, .int a0)] := hl
  refine lv_aload_n hx hb dX4_isOf_0 rfl (lv_at hl 0 rfl) ?_
  refine va_get (D := D) (ci := 2) (v := .int len) (C := RX4) (T := TX4) (N := 3) hx hb htg inX4 hown hK hP 0 rfl rfl 1 (by decide) (htg _ fl_X4_15) (fun _ h9 => h9) rfl dX4_isOf_1 ?_
  refine lv_if_eq (tgt := 22) hx hb dX4_isOf_4 (by decide) (fun c_1 => ?_) (fun c_1 => ?_)
  · refine lv_iconst (v := 0) hx hb dX4_isOf_22 (by decide) ?_
    exact rd_z hx hb hr hlocks (by decide) (by simp only [f_X4_isOf, if_pos c_1]) dX4_isOf_23
  · refine lv_iload_n hx hb dX4_isOf_7 rfl (lv_at hl 1 rfl) ?_
    refine lv_aload_n hx hb dX4_isOf_8 rfl (lv_at hl 0 rfl) ?_
    refine rV (As := []) (rest := [.int a0]) hx hb hml hown htg (c_X4_format l D cI cJ cO h0 h1 len tr w) Blind.b0 ml_X4_22 im_X4_format se_X4_format ini_X4 co_X4_format rfl dn_X4_format rfl (va_recv hK hP (ci := 2) (q0 := 0) rfl rfl) (fun U hU hW => ⟨by rw [hU]; exact hP, va_K.moved hW.alike hK⟩) hl.1 rfl (Nat.le_of_ble_eq_true rfl) ⟨Nat.le_of_ble_eq_true rfl, Nat.le_of_ble_eq_true rfl⟩ ⟨Nat.le_of_ble_eq_true rfl, Nat.le_of_ble_eq_true rfl⟩ dX4_isOf_9 ?_
    refine lv_iushr (v := (ushr a0 (f_X4_format w))) hx hb dX4_isOf_12 rfl ?_
    refine lv_iconst (v := 1) hx hb dX4_isOf_13 (by decide) ?_
    refine lv_iand hx hb dX4_isOf_14 ?_
    refine lv_if_eq (tgt := 22) hx hb dX4_isOf_15 (by decide) (fun c_2 => ?_) (fun c_2 => ?_)
    · refine lv_iconst (v := 0) hx hb dX4_isOf_22 (by decide) ?_
      exact rd_z hx hb hr hlocks (by decide) (by simp only [f_X4_isOf, if_neg c_1, if_pos c_2]) dX4_isOf_23
    · refine lv_iconst (v := 1) hx hb dX4_isOf_18 (by decide) ?_
      refine lv_goto (tgt := 23) hx hb dX4_isOf_19 (by decide) ?_
      exact rd_z hx hb hr hlocks (by decide) (by simp only [f_X4_isOf, if_neg c_1, if_neg c_2]) dX4_isOf_23

def f_X4_isSound (w : Nat → Int32) (len : Int32) (a0 : Int32) : Int32 := (if (f_X4_isOf w len (393216 : Int32)) = 0 then (if (f_X4_isOf w len (2048 : Int32)) = 0 then (1 : Int32) else (if (128 : Int32) ≤ a0 then (0 : Int32) else (1 : Int32))) else (if a0 = 0 then (1 : Int32) else (0 : Int32)))
set_option maxHeartbeats 4000000 in
set_option maxRecDepth 100000 in
theorem c_X4_isSound (l : Launch) (D : va_G) (cI cJ cO : ClassId) (h0 : Nat) (h1 : Nat) (len : Int32) (tr : Int32) (w : Nat → Int32) (a0 : Int32) (hlen : 0 ≤ len.toInt ∧ len.toInt ≤ 112) : Rd l yX4_isSound cX4_isSound 2 (some .boolean) 2 41 [.ref h0, .int a0] (fun U => B0 D cI cJ cO [(h0, .inr (2, [.ref h1, .int len, .int tr])), (h1, .inl (cI, 4, .inl w))] U) (some (.int (f_X4_isSound w len a0))) := by
  refine Rd.of (by decide +kernel) (Nat.le_of_ble_eq_true rfl) ?_
  intro p e s m args below meth c hx hb hr hml hown htg hlocks hB ls hl
  obtain ⟨hP, hK⟩ := hB
  have hP : va_P D vwCl [(h0, .inr (2, [.ref h1, .int len, .int tr])), (h1, .inl (cI, 4, .inl w))] s.heap := hP
  have hown : s.vm.findClass RX4 = some m.cls := hown
  have hl : lv_has ls 2 [(0, .ref h0), (1, .int a0)] := hl
  refine lv_aload_n hx hb dX4_isSound_0 rfl (lv_at hl 0 rfl) ?_
  refine lv_ldc (v := 393216) hx hb hown (htg _ ct_X4_72) dX4_isSound_1 ?_
  refine rV (As := [.int (393216 : Int32)]) (rest := []) hx hb hml hown htg (c_X4_isOf l D cI cJ cO h0 h1 len tr w (393216 : Int32) hlen) Blind.b0 ml_X4_58 im_X4_isOf se_X4_isOf ini_X4 co_X4_isOf rfl dn_X4_isOf rfl (va_recv hK hP (ci := 2) (q0 := 0) rfl rfl) (fun U hU hW => ⟨by rw [hU]; exact hP, va_K.moved hW.alike hK⟩) hl.1 rfl (Nat.le_of_ble_eq_true rfl) ⟨Nat.le_of_ble_eq_true rfl, Nat.le_of_ble_eq_true rfl⟩ ⟨Nat.le_of_ble_eq_true rfl, Nat.le_of_ble_eq_true rfl⟩ dX4_isSound_3 ?_
  refine lv_if_eq (tgt := 19) hx hb dX4_isSound_6 (by decide) (fun c_1 => ?_) (fun c_1 => ?_)
  · refine lv_aload_n hx hb dX4_isSound_19 rfl (lv_at hl 0 rfl) ?_
    refine lv_sipush (v := 2048) hx hb dX4_isSound_20 (by decide) ?_
    refine rV (As := [.int (2048 : Int32)]) (rest := []) hx hb hml hown htg (c_X4_isOf l D cI cJ cO h0 h1 len tr w (2048 : Int32) hlen) Blind.b0 ml_X4_58 im_X4_isOf se_X4_isOf ini_X4 co_X4_isOf rfl dn_X4_isOf rfl (va_recv hK hP (ci := 2) (q0 := 0) rfl rfl) (fun U hU hW => ⟨by rw [hU]; exact hP, va_K.moved hW.alike hK⟩) hl.1 rfl (Nat.le_of_ble_eq_true rfl) ⟨Nat.le_of_ble_eq_true rfl, Nat.le_of_ble_eq_true rfl⟩ ⟨Nat.le_of_ble_eq_true rfl, Nat.le_of_ble_eq_true rfl⟩ dX4_isSound_23 ?_
    refine lv_if_eq (tgt := 36) hx hb dX4_isSound_26 (by decide) (fun c_2 => ?_) (fun c_2 => ?_)
    · refine lv_iconst (v := 1) hx hb dX4_isSound_36 (by decide) ?_
      refine lv_goto (tgt := 41) hx hb dX4_isSound_37 (by decide) ?_
      exact rd_z hx hb hr hlocks (by decide) (by simp only [f_X4_isSound, if_pos c_1, if_pos c_2]) dX4_isSound_41
    · refine lv_iload_n hx hb dX4_isSound_29 rfl (lv_at hl 1 rfl) ?_
      refine lv_sipush (v := 128) hx hb dX4_isSound_30 (by decide) ?_
      refine lv_icmp_ge (tgt := 40) hx hb dX4_isSound_33 (by decide) (fun c_3 => ?_) (fun c_3 => ?_)
      · refine lv_iconst (v := 0) hx hb dX4_isSound_40 (by decide) ?_
        exact rd_z hx hb hr hlocks (by decide) (by simp only [f_X4_isSound, if_pos c_1, if_neg c_2, if_pos c_3]) dX4_isSound_41
      · refine lv_iconst (v := 1) hx hb dX4_isSound_36 (by decide) ?_
        refine lv_goto (tgt := 41) hx hb dX4_isSound_37 (by decide) ?_
        exact rd_z hx hb hr hlocks (by decide) (by simp only [f_X4_isSound, if_pos c_1, if_neg c_2, if_neg c_3]) dX4_isSound_41
  · refine lv_iload_n hx hb dX4_isSound_9 rfl (lv_at hl 1 rfl) ?_
    refine lv_if_ne (tgt := 17) hx hb dX4_isSound_10 (by decide) (fun c_4 => ?_) (fun c_4 => ?_)
    · refine lv_iconst (v := 0) hx hb dX4_isSound_17 (by decide) ?_
      exact rd_z hx hb hr hlocks (by decide) (by simp only [f_X4_isSound, if_neg c_1, if_neg c_4]) dX4_isSound_18
    · refine lv_iconst (v := 1) hx hb dX4_isSound_13 (by decide) ?_
      refine lv_goto (tgt := 18) hx hb dX4_isSound_14 (by decide) ?_
      exact rd_z hx hb hr hlocks (by decide) (by simp only [f_X4_isSound, if_neg c_1, if_pos c_4]) dX4_isSound_18

def f_X4_wrongBit_lp (w : Nat → Int32) (len : Int32) : Nat → (Int32) → (Int32) → Int32
  | 0, k, o => (-1 : Int32)
  | n + 1, k, o => (if o = (f_X4_remainder w len) then k else (f_X4_wrongBit_lp w len n (k + (-1 : Int32)) (f_X4_reduced (o <<< ((1 : Int32) &&& 31)))))
def f_X4_wrongBit (w : Nat → Int32) (len : Int32) : Int32 := (if (f_X4_isSound w len (f_X4_remainder w len)) = 0 then (f_X4_wrongBit_lp w len (len.toInt - 5).toNat len (1 : Int32)) else (-1 : Int32))
set_option maxHeartbeats 4000000 in
set_option maxRecDepth 100000 in
theorem c_X4_wrongBit (l : Launch) (D : va_G) (cI cJ cO : ClassId) (h0 : Nat) (h1 : Nat) (len : Int32) (tr : Int32) (w : Nat → Int32) (hlen : 0 ≤ len.toInt ∧ len.toInt ≤ 112) : Rd l yX4_wrongBit cX4_wrongBit 4 (some .int) 3 62 [.ref h0] (fun U => B0 D cI cJ cO [(h0, .inr (2, [.ref h1, .int len, .int tr])), (h1, .inl (cI, 4, .inl w))] U) (some (.int (f_X4_wrongBit w len))) := by
  refine Rd.of (by decide +kernel) (Nat.le_of_ble_eq_true rfl) ?_
  intro p e s m args below meth c hx hb hr hml hown htg hlocks hB ls hl
  obtain ⟨hP, hK⟩ := hB
  have hP : va_P D vwCl [(h0, .inr (2, [.ref h1, .int len, .int tr])), (h1, .inl (cI, 4, .inl w))] s.heap := hP
  have hown : s.vm.findClass RX4 = some m.cls := hown
  have hl : lv_has ls 4 [(0, .ref h0)] := hl
  refine lv_aload_n hx hb dX4_wrongBit_0 rfl (lv_at hl 0 rfl) ?_
  refine rV (As := []) (rest := []) hx hb hml hown htg (c_X4_remainder l D cI cJ cO h0 h1 len tr w hlen) Blind.b0 ml_X4_43 im_X4_remainder se_X4_remainder ini_X4 co_X4_remainder rfl dn_X4_remainder rfl (va_recv hK hP (ci := 2) (q0 := 0) rfl rfl) (fun U hU hW => ⟨by rw [hU]; exact hP, va_K.moved hW.alike hK⟩) hl.1 rfl (Nat.le_of_ble_eq_true rfl) ⟨Nat.le_of_ble_eq_true rfl, Nat.le_of_ble_eq_true rfl⟩ ⟨Nat.le_of_ble_eq_true rfl, Nat.le_of_ble_eq_true rfl⟩ dX4_wrongBit_1 ?_
  refine lv_istore_n (lv' := [(1, .int (f_X4_remainder w len)), (0, .ref h0)]) hx hb dX4_wrongBit_4 rfl hl (by decide) rfl (fun ls hl => ?_)
  refine lv_aload_n hx hb dX4_wrongBit_5 rfl (lv_at hl 1 rfl) ?_
  refine lv_iload_n hx hb dX4_wrongBit_6 rfl (lv_at hl 0 rfl) ?_
  refine rV (As := [.int (f_X4_remainder w len)]) (rest := []) hx hb hml hown htg (c_X4_isSound l D cI cJ cO h0 h1 len tr w (f_X4_remainder w len) hlen) Blind.b0 ml_X4_46 im_X4_isSound se_X4_isSound ini_X4 co_X4_isSound rfl dn_X4_isSound rfl (va_recv hK hP (ci := 2) (q0 := 0) rfl rfl) (fun U hU hW => ⟨by rw [hU]; exact hP, va_K.moved hW.alike hK⟩) hl.1 rfl (Nat.le_of_ble_eq_true rfl) ⟨Nat.le_of_ble_eq_true rfl, Nat.le_of_ble_eq_true rfl⟩ ⟨Nat.le_of_ble_eq_true rfl, Nat.le_of_ble_eq_true rfl⟩ dX4_wrongBit_7 ?_
  refine lv_if_eq (tgt := 15) hx hb dX4_wrongBit_10 (by decide) (fun c_1 => ?_) (fun c_1 => ?_)
  · refine lv_iconst (v := 1) hx hb dX4_wrongBit_15 (by decide) ?_
    refine lv_istore_n (lv' := [(2, .int (1 : Int32)), (1, .int (f_X4_remainder w len)), (0, .ref h0)]) hx hb dX4_wrongBit_16 rfl hl (by decide) rfl (fun ls hl => ?_)
    refine lv_aload_n hx hb dX4_wrongBit_17 rfl (lv_at hl 2 rfl) ?_
    refine va_get (D := D) (ci := 2) (v := .int len) (C := RX4) (T := TX4) (N := 3) hx hb htg inX4 hown hK hP 0 rfl rfl 1 (by decide) (htg _ fl_X4_15) (fun _ h9 => h9) rfl dX4_wrongBit_18 ?_
    refine lv_istore_n (lv' := [(3, .int len), (2, .int (1 : Int32)), (1, .int (f_X4_remainder w len)), (0, .ref h0)]) hx hb dX4_wrongBit_21 rfl hl (by decide) rfl (fun ls hl => ?_)
    have Lp : ∀ (n : Nat) (k : Int32) (o : Int32), ((k.toInt = n + 5 ∨ (n = 0 ∧ k.toInt ≤ 5)) ∧ -1000 ≤ k.toInt ∧ k.toInt ≤ 112) → ∀ ls : Array Slot, lv_has ls 4 [(3, .int k), (2, .int o), (1, .int (f_X4_remainder w len)), (0, .ref h0)] → f_X4_wrongBit_lp w len n k o = f_X4_wrongBit w len → W p l e { frames := 3, cells := 0, slots := 0, locals := 62 } s m args below meth c s.heap [] 0 0 (MQ below (rdQ (some (.int (f_X4_wrongBit w len)))) args s 0 0 (fun _ => False)) (F0 m 22 ls []) := by
      intro n
      induction n with
      | zero =>
        intro k o hi ls hl hE
        refine lv_iload_n hx hb dX4_wrongBit_22 rfl (lv_at hl 0 rfl) ?_
        refine lv_bipush (v := 6) hx hb dX4_wrongBit_23 (by decide) ?_
        refine lv_icmp_lt (tgt := 48) hx hb dX4_wrongBit_25 (by decide) (fun c_2 => ?_) (fun c_2 => ?_)
        · refine lv_iconst (v := (-1)) hx hb dX4_wrongBit_48 (by decide) ?_
          exact rd_i hx hb hr hlocks (by rw [← hE]; simp only [f_X4_wrongBit_lp]) dX4_wrongBit_49
        · exact absurd (by rw [fa_lt]; have e6 : (6 : Int32).toInt = 6 := rfl; omega) c_2
      | succ n ih =>
        intro k o hi ls hl hE
        refine lv_iload_n hx hb dX4_wrongBit_22 rfl (lv_at hl 0 rfl) ?_
        refine lv_bipush (v := 6) hx hb dX4_wrongBit_23 (by decide) ?_
        refine lv_icmp_lt (tgt := 48) hx hb dX4_wrongBit_25 (by decide) (fun c_3 => ?_) (fun c_3 => ?_)
        · exact absurd c_3 (by rw [fa_lt]; have e6 : (6 : Int32).toInt = 6 := rfl; omega)
        · refine lv_iload_n hx hb dX4_wrongBit_28 rfl (lv_at hl 1 rfl) ?_
          refine lv_iload_n hx hb dX4_wrongBit_29 rfl (lv_at hl 2 rfl) ?_
          refine lv_icmp_ne (tgt := 35) hx hb dX4_wrongBit_30 (by decide) (fun c_4 => ?_) (fun c_4 => ?_)
          · refine lv_iload_n hx hb dX4_wrongBit_35 rfl (lv_at hl 1 rfl) ?_
            refine lv_iconst (v := 1) hx hb dX4_wrongBit_36 (by decide) ?_
            refine lv_ishl hx hb dX4_wrongBit_37 ?_
            refine rS (As := [.int (o <<< ((1 : Int32) &&& 31))]) (rest := []) hx hb hml hown htg (c_X4_reduced l (o <<< ((1 : Int32) &&& 31))) Blind.tt ml_X4_40 st_X4_reduced ini_X4 co_X4_reduced dn_X4_reduced rfl (fun _ _ _ => trivial) hl.1 rfl (Nat.le_of_ble_eq_true rfl) ⟨Nat.le_of_ble_eq_true rfl, Nat.le_of_ble_eq_true rfl⟩ ⟨Nat.le_of_ble_eq_true rfl, Nat.le_of_ble_eq_true rfl⟩ dX4_wrongBit_38 ?_
            refine lv_istore_n (lv' := [(2, .int (f_X4_reduced (o <<< ((1 : Int32) &&& 31)))), (3, .int k), (1, .int (f_X4_remainder w len)), (0, .ref h0)]) hx hb dX4_wrongBit_41 rfl hl (by decide) rfl (fun ls hl => ?_)
            refine lv_iinc (v := (k + (-1 : Int32))) (lv' := [(3, .int (k + (-1 : Int32))), (2, .int (f_X4_reduced (o <<< ((1 : Int32) &&& 31)))), (1, .int (f_X4_remainder w len)), (0, .ref h0)]) hx hb dX4_wrongBit_42 hl (k := 1) rfl rfl (by decide) rfl (fun ls hl => ?_)
            refine lv_goto (tgt := 22) hx hb dX4_wrongBit_45 (by decide) ?_
            exact ih (k + (-1 : Int32)) (f_X4_reduced (o <<< ((1 : Int32) &&& 31))) (by have e1 : (k + (-1)).toInt = k.toInt - 1 := (by have em : ((-1) : Int32).toInt = -1 := rfl; rw [fb_addI] <;> rw [em] <;> omega); rw [e1]; omega) ls (lv_sub hl [0, 1, 2, 3] rfl) (by rw [← hE]; simp only [f_X4_wrongBit_lp, if_neg c_4])
          · refine lv_iload_n hx hb dX4_wrongBit_33 rfl (lv_at hl 0 rfl) ?_
            exact rd_i hx hb hr hlocks (by rw [← hE]; simp only [f_X4_wrongBit_lp, if_pos c_4]) dX4_wrongBit_34
    exact Lp (len.toInt - 5).toNat len (1 : Int32) (by have := hlen; omega) ls (lv_sub hl [0, 1, 2, 3] rfl) (by simp only [f_X4_wrongBit, if_pos c_1])
  · refine lv_iconst (v := (-1)) hx hb dX4_wrongBit_13 (by decide) ?_
    exact rd_i hx hb hr hlocks (by simp only [f_X4_wrongBit, if_neg c_1]) dX4_wrongBit_14

def f_X4_address (w : Nat → Int32) (len : Int32) : Int32 := (if (f_X4_isOf w len (395264 : Int32)) = 0 then (f_X4_remainder w len) else (f_X4_number w len (9 : Int32) (24 : Int32)))
set_option maxHeartbeats 4000000 in
set_option maxRecDepth 100000 in
theorem c_X4_address (l : Launch) (D : va_G) (cI cJ cO : ClassId) (h0 : Nat) (h1 : Nat) (len : Int32) (tr : Int32) (w : Nat → Int32) (hlen : 0 ≤ len.toInt ∧ len.toInt ≤ 112) : Rd l yX4_address cX4_address 1 (some .int) 2 46 [.ref h0] (fun U => B0 D cI cJ cO [(h0, .inr (2, [.ref h1, .int len, .int tr])), (h1, .inl (cI, 4, .inl w))] U) (some (.int (f_X4_address w len))) := by
  refine Rd.of (by decide +kernel) (Nat.le_of_ble_eq_true rfl) ?_
  intro p e s m args below meth c hx hb hr hml hown htg hlocks hB ls hl
  obtain ⟨hP, hK⟩ := hB
  have hP : va_P D vwCl [(h0, .inr (2, [.ref h1, .int len, .int tr])), (h1, .inl (cI, 4, .inl w))] s.heap := hP
  have hown : s.vm.findClass RX4 = some m.cls := hown
  have hl : lv_has ls 1 [(0, .ref h0)] := hl
  refine lv_aload_n hx hb dX4_address_0 rfl (lv_at hl 0 rfl) ?_
  refine lv_ldc (v := 395264) hx hb hown (htg _ ct_X4_57) dX4_address_1 ?_
  refine rV (As := [.int (395264 : Int32)]) (rest := []) hx hb hml hown htg (c_X4_isOf l D cI cJ cO h0 h1 len tr w (395264 : Int32) hlen) Blind.b0 ml_X4_58 im_X4_isOf se_X4_isOf ini_X4 co_X4_isOf rfl dn_X4_isOf rfl (va_recv hK hP (ci := 2) (q0 := 0) rfl rfl) (fun U hU hW => ⟨by rw [hU]; exact hP, va_K.moved hW.alike hK⟩) hl.1 rfl (Nat.le_of_ble_eq_true rfl) ⟨Nat.le_of_ble_eq_true rfl, Nat.le_of_ble_eq_true rfl⟩ ⟨Nat.le_of_ble_eq_true rfl, Nat.le_of_ble_eq_true rfl⟩ dX4_address_3 ?_
  refine lv_if_eq (tgt := 20) hx hb dX4_address_6 (by decide) (fun c_1 => ?_) (fun c_1 => ?_)
  · refine lv_aload_n hx hb dX4_address_20 rfl (lv_at hl 0 rfl) ?_
    refine rV (As := []) (rest := []) hx hb hml hown htg (c_X4_remainder l D cI cJ cO h0 h1 len tr w hlen) Blind.b0 ml_X4_43 im_X4_remainder se_X4_remainder ini_X4 co_X4_remainder rfl dn_X4_remainder rfl (va_recv hK hP (ci := 2) (q0 := 0) rfl rfl) (fun U hU hW => ⟨by rw [hU]; exact hP, va_K.moved hW.alike hK⟩) hl.1 rfl (Nat.le_of_ble_eq_true rfl) ⟨Nat.le_of_ble_eq_true rfl, Nat.le_of_ble_eq_true rfl⟩ ⟨Nat.le_of_ble_eq_true rfl, Nat.le_of_ble_eq_true rfl⟩ dX4_address_21 ?_
    exact rd_i hx hb hr hlocks (by simp only [f_X4_address, if_pos c_1]) dX4_address_24
  · refine lv_aload_n hx hb dX4_address_9 rfl (lv_at hl 0 rfl) ?_
    refine lv_bipush (v := 9) hx hb dX4_address_10 (by decide) ?_
    refine lv_bipush (v := 24) hx hb dX4_address_12 (by decide) ?_
    refine rV (As := [.int (9 : Int32), .int (24 : Int32)]) (rest := []) hx hb hml hown htg (c_X4_number l D cI cJ cO h0 h1 len tr w (9 : Int32) (24 : Int32) hlen) Blind.b0 ml_X4_36 im_X4_number se_X4_number ini_X4 co_X4_number rfl dn_X4_number rfl (va_recv hK hP (ci := 2) (q0 := 0) rfl rfl) (fun U hU hW => ⟨by rw [hU]; exact hP, va_K.moved hW.alike hK⟩) hl.1 rfl (Nat.le_of_ble_eq_true rfl) ⟨Nat.le_of_ble_eq_true rfl, Nat.le_of_ble_eq_true rfl⟩ ⟨Nat.le_of_ble_eq_true rfl, Nat.le_of_ble_eq_true rfl⟩ dX4_address_14 ?_
    refine lv_goto (tgt := 24) hx hb dX4_address_17 (by decide) ?_
    exact rd_i hx hb hr hlocks (by simp only [f_X4_address, if_neg c_1]) dX4_address_24

def f_X4_part (w : Nat → Int32) (len : Int32) (a0 : Int32) (a1 : Int32) (a2 : Int32) : Int32 := (if (f_X4_isOf w len a2) = 0 then (-1 : Int32) else (f_X4_number w len a0 ((a1 - a0) + (1 : Int32))))
set_option maxHeartbeats 4000000 in
set_option maxRecDepth 100000 in
theorem c_X4_part (l : Launch) (D : va_G) (cI cJ cO : ClassId) (h0 : Nat) (h1 : Nat) (len : Int32) (tr : Int32) (w : Nat → Int32) (a0 : Int32) (a1 : Int32) (a2 : Int32) (hlen : 0 ≤ len.toInt ∧ len.toInt ≤ 112) : Rd l yX4_part cX4_part 4 (some .int) 2 46 [.ref h0, .int a0, .int a1, .int a2] (fun U => B0 D cI cJ cO [(h0, .inr (2, [.ref h1, .int len, .int tr])), (h1, .inl (cI, 4, .inl w))] U) (some (.int (f_X4_part w len a0 a1 a2))) := by
  refine Rd.of (by decide +kernel) (Nat.le_of_ble_eq_true rfl) ?_
  intro p e s m args below meth c hx hb hr hml hown htg hlocks hB ls hl
  obtain ⟨hP, hK⟩ := hB
  have hP : va_P D vwCl [(h0, .inr (2, [.ref h1, .int len, .int tr])), (h1, .inl (cI, 4, .inl w))] s.heap := hP
  have hown : s.vm.findClass RX4 = some m.cls := hown
  have hl : lv_has ls 4 [(0, .ref h0), (1, .int a0), (2, .int a1), (3, .int a2)] := hl
  refine lv_aload_n hx hb dX4_part_0 rfl (lv_at hl 0 rfl) ?_
  refine lv_iload_n hx hb dX4_part_1 rfl (lv_at hl 3 rfl) ?_
  refine rV (As := [.int a2]) (rest := []) hx hb hml hown htg (c_X4_isOf l D cI cJ cO h0 h1 len tr w a2 hlen) Blind.b0 ml_X4_58 im_X4_isOf se_X4_isOf ini_X4 co_X4_isOf rfl dn_X4_isOf rfl (va_recv hK hP (ci := 2) (q0 := 0) rfl rfl) (fun U hU hW => ⟨by rw [hU]; exact hP, va_K.moved hW.alike hK⟩) hl.1 rfl (Nat.le_of_ble_eq_true rfl) ⟨Nat.le_of_ble_eq_true rfl, Nat.le_of_ble_eq_true rfl⟩ ⟨Nat.le_of_ble_eq_true rfl, Nat.le_of_ble_eq_true rfl⟩ dX4_part_2 ?_
  refine lv_if_eq (tgt := 21) hx hb dX4_part_5 (by decide) (fun c_1 => ?_) (fun c_1 => ?_)
  · refine lv_iconst (v := (-1)) hx hb dX4_part_21 (by decide) ?_
    exact rd_i hx hb hr hlocks (by simp only [f_X4_part, if_pos c_1]) dX4_part_22
  · refine lv_aload_n hx hb dX4_part_8 rfl (lv_at hl 0 rfl) ?_
    refine lv_iload_n hx hb dX4_part_9 rfl (lv_at hl 1 rfl) ?_
    refine lv_iload_n hx hb dX4_part_10 rfl (lv_at hl 2 rfl) ?_
    refine lv_iload_n hx hb dX4_part_11 rfl (lv_at hl 1 rfl) ?_
    refine lv_isub hx hb dX4_part_12 ?_
    refine lv_iconst (v := 1) hx hb dX4_part_13 (by decide) ?_
    refine lv_iadd hx hb dX4_part_14 ?_
    refine rV (As := [.int a0, .int ((a1 - a0) + (1 : Int32))]) (rest := []) hx hb hml hown htg (c_X4_number l D cI cJ cO h0 h1 len tr w a0 ((a1 - a0) + (1 : Int32)) hlen) Blind.b0 ml_X4_36 im_X4_number se_X4_number ini_X4 co_X4_number rfl dn_X4_number rfl (va_recv hK hP (ci := 2) (q0 := 0) rfl rfl) (fun U hU hW => ⟨by rw [hU]; exact hP, va_K.moved hW.alike hK⟩) hl.1 rfl (Nat.le_of_ble_eq_true rfl) ⟨Nat.le_of_ble_eq_true rfl, Nat.le_of_ble_eq_true rfl⟩ ⟨Nat.le_of_ble_eq_true rfl, Nat.le_of_ble_eq_true rfl⟩ dX4_part_15 ?_
    refine lv_goto (tgt := 22) hx hb dX4_part_18 (by decide) ?_
    exact rd_i hx hb hr hlocks (by simp only [f_X4_part, if_neg c_1]) dX4_part_22

def f_X4_told (w : Nat → Int32) (len : Int32) (tr : Int32) (a0 : Int32) : Int32 := (if a0 = (0 : Int32) then (if len = 0 then (-1 : Int32) else (f_X4_format w)) else (if a0 = (1 : Int32) then (f_X4_part w len (6 : Int32) (8 : Int32) (395264 : Int32)) else (if a0 = (2 : Int32) then (f_X4_part w len (6 : Int32) (8 : Int32) (3145776 : Int32)) else (if a0 = (3 : Int32) then (f_X4_part w len (9 : Int32) (13 : Int32) (3145776 : Int32)) else (if a0 = (4 : Int32) then (f_X4_part w len (14 : Int32) (19 : Int32) (3145776 : Int32)) else (if a0 = (5 : Int32) then (f_X4_part w len (6 : Int32) (6 : Int32) (65537 : Int32)) else (if a0 = (6 : Int32) then (f_X4_part w len (7 : Int32) (7 : Int32) (1 : Int32)) else (if a0 = (7 : Int32) then (f_X4_part w len (9 : Int32) (11 : Int32) (65537 : Int32)) else (if a0 = (8 : Int32) then (f_X4_part w len (14 : Int32) (17 : Int32) (65537 : Int32)) else (if a0 = (9 : Int32) then (f_X4_part w len (20 : Int32) (32 : Int32) (1114129 : Int32)) else (if a0 = (10 : Int32) then (f_X4_part w len (20 : Int32) (32 : Int32) (2097184 : Int32)) else (if a0 = (11 : Int32) then (if len = 0 then (-1 : Int32) else (f_X4_address w len)) else (if a0 = (12 : Int32) then (if (f_X4_isOf w len (2048 : Int32)) = 0 then (-1 : Int32) else (f_X4_remainder w len)) else (if a0 = (13 : Int32) then (f_X4_part w len (33 : Int32) (37 : Int32) (393216 : Int32)) else (if a0 = (14 : Int32) then (f_X4_part w len (38 : Int32) (40 : Int32) (393216 : Int32)) else (if a0 = (15 : Int32) then tr else (-1 : Int32)))))))))))))))))
set_option maxHeartbeats 4000000 in
set_option maxRecDepth 100000 in
theorem c_X4_told (l : Launch) (D : va_G) (cI cJ cO : ClassId) (h0 : Nat) (h1 : Nat) (len : Int32) (tr : Int32) (w : Nat → Int32) (a0 : Int32) (hlen : 0 ≤ len.toInt ∧ len.toInt ≤ 112) : Rd l yX4_told cX4_told 2 (some .int) 3 69 [.ref h0, .int a0] (fun U => B0 D cI cJ cO [(h0, .inr (2, [.ref h1, .int len, .int tr])), (h1, .inl (cI, 4, .inl w))] U) (some (.int (f_X4_told w len tr a0))) := by
  refine Rd.of (by decide +kernel) (Nat.le_of_ble_eq_true rfl) ?_
  intro p e s m args below meth c hx hb hr hml hown htg hlocks hB ls hl
  obtain ⟨hP, hK⟩ := hB
  have hP : va_P D vwCl [(h0, .inr (2, [.ref h1, .int len, .int tr])), (h1, .inl (cI, 4, .inl w))] s.heap := hP
  have hown : s.vm.findClass RX4 = some m.cls := hown
  have hl : lv_has ls 2 [(0, .ref h0), (1, .int a0)] := hl
  refine lv_iload_n hx hb dX4_told_0 rfl (lv_at hl 1 rfl) ?_
  by_cases c_1 : a0 = (0 : Int32)
  · refine lv_tableIn (off := 79) (tgt := 80) hx hb dX4_told_1 (by rw [c_1]; decide) (by rw [c_1]; decide) (by rw [c_1]; decide) (by decide) ?_
    refine lv_aload_n hx hb dX4_told_80 rfl (lv_at hl 0 rfl) ?_
    refine va_get (D := D) (ci := 2) (v := .int len) (C := RX4) (T := TX4) (N := 3) hx hb htg inX4 hown hK hP 0 rfl rfl 1 (by decide) (htg _ fl_X4_15) (fun _ h9 => h9) rfl dX4_told_81 ?_
    refine lv_if_ne (tgt := 91) hx hb dX4_told_84 (by decide) (fun c_2 => ?_) (fun c_2 => ?_)
    · refine lv_aload_n hx hb dX4_told_91 rfl (lv_at hl 0 rfl) ?_
      refine rV (As := []) (rest := []) hx hb hml hown htg (c_X4_format l D cI cJ cO h0 h1 len tr w) Blind.b0 ml_X4_22 im_X4_format se_X4_format ini_X4 co_X4_format rfl dn_X4_format rfl (va_recv hK hP (ci := 2) (q0 := 0) rfl rfl) (fun U hU hW => ⟨by rw [hU]; exact hP, va_K.moved hW.alike hK⟩) hl.1 rfl (Nat.le_of_ble_eq_true rfl) ⟨Nat.le_of_ble_eq_true rfl, Nat.le_of_ble_eq_true rfl⟩ ⟨Nat.le_of_ble_eq_true rfl, Nat.le_of_ble_eq_true rfl⟩ dX4_told_92 ?_
      exact rd_i hx hb hr hlocks (by simp only [f_X4_told, if_pos c_1, if_neg c_2]) dX4_told_95
    · refine lv_iconst (v := (-1)) hx hb dX4_told_87 (by decide) ?_
      refine lv_goto (tgt := 95) hx hb dX4_told_88 (by decide) ?_
      exact rd_i hx hb hr hlocks (by simp only [f_X4_told, if_pos c_1, if_pos c_2]) dX4_told_95
  · by_cases c_3 : a0 = (1 : Int32)
    · refine lv_tableIn (off := 95) (tgt := 96) hx hb dX4_told_1 (by rw [c_3]; decide) (by rw [c_3]; decide) (by rw [c_3]; decide) (by decide) ?_
      refine lv_aload_n hx hb dX4_told_96 rfl (lv_at hl 0 rfl) ?_
      refine lv_bipush (v := 6) hx hb dX4_told_97 (by decide) ?_
      refine lv_bipush (v := 8) hx hb dX4_told_99 (by decide) ?_
      refine lv_ldc (v := 395264) hx hb hown (htg _ ct_X4_57) dX4_told_101 ?_
      refine rV (As := [.int (6 : Int32), .int (8 : Int32), .int (395264 : Int32)]) (rest := []) hx hb hml hown htg (c_X4_part l D cI cJ cO h0 h1 len tr w (6 : Int32) (8 : Int32) (395264 : Int32) hlen) Blind.b0 ml_X4_61 im_X4_part se_X4_part ini_X4 co_X4_part rfl dn_X4_part rfl (va_recv hK hP (ci := 2) (q0 := 0) rfl rfl) (fun U hU hW => ⟨by rw [hU]; exact hP, va_K.moved hW.alike hK⟩) hl.1 rfl (Nat.le_of_ble_eq_true rfl) ⟨Nat.le_of_ble_eq_true rfl, Nat.le_of_ble_eq_true rfl⟩ ⟨Nat.le_of_ble_eq_true rfl, Nat.le_of_ble_eq_true rfl⟩ dX4_told_103 ?_
      exact rd_i hx hb hr hlocks (by simp only [f_X4_told, if_neg c_1, if_pos c_3]) dX4_told_106
    · by_cases c_4 : a0 = (2 : Int32)
      · refine lv_tableIn (off := 106) (tgt := 107) hx hb dX4_told_1 (by rw [c_4]; decide) (by rw [c_4]; decide) (by rw [c_4]; decide) (by decide) ?_
        refine lv_aload_n hx hb dX4_told_107 rfl (lv_at hl 0 rfl) ?_
        refine lv_bipush (v := 6) hx hb dX4_told_108 (by decide) ?_
        refine lv_bipush (v := 8) hx hb dX4_told_110 (by decide) ?_
        refine lv_ldc (v := 3145776) hx hb hown (htg _ ct_X4_65) dX4_told_112 ?_
        refine rV (As := [.int (6 : Int32), .int (8 : Int32), .int (3145776 : Int32)]) (rest := []) hx hb hml hown htg (c_X4_part l D cI cJ cO h0 h1 len tr w (6 : Int32) (8 : Int32) (3145776 : Int32) hlen) Blind.b0 ml_X4_61 im_X4_part se_X4_part ini_X4 co_X4_part rfl dn_X4_part rfl (va_recv hK hP (ci := 2) (q0 := 0) rfl rfl) (fun U hU hW => ⟨by rw [hU]; exact hP, va_K.moved hW.alike hK⟩) hl.1 rfl (Nat.le_of_ble_eq_true rfl) ⟨Nat.le_of_ble_eq_true rfl, Nat.le_of_ble_eq_true rfl⟩ ⟨Nat.le_of_ble_eq_true rfl, Nat.le_of_ble_eq_true rfl⟩ dX4_told_114 ?_
        exact rd_i hx hb hr hlocks (by simp only [f_X4_told, if_neg c_1, if_neg c_3, if_pos c_4]) dX4_told_117
      · by_cases c_5 : a0 = (3 : Int32)
        · refine lv_tableIn (off := 117) (tgt := 118) hx hb dX4_told_1 (by rw [c_5]; decide) (by rw [c_5]; decide) (by rw [c_5]; decide) (by decide) ?_
          refine lv_aload_n hx hb dX4_told_118 rfl (lv_at hl 0 rfl) ?_
          refine lv_bipush (v := 9) hx hb dX4_told_119 (by decide) ?_
          refine lv_bipush (v := 13) hx hb dX4_told_121 (by decide) ?_
          refine lv_ldc (v := 3145776) hx hb hown (htg _ ct_X4_65) dX4_told_123 ?_
          refine rV (As := [.int (9 : Int32), .int (13 : Int32), .int (3145776 : Int32)]) (rest := []) hx hb hml hown htg (c_X4_part l D cI cJ cO h0 h1 len tr w (9 : Int32) (13 : Int32) (3145776 : Int32) hlen) Blind.b0 ml_X4_61 im_X4_part se_X4_part ini_X4 co_X4_part rfl dn_X4_part rfl (va_recv hK hP (ci := 2) (q0 := 0) rfl rfl) (fun U hU hW => ⟨by rw [hU]; exact hP, va_K.moved hW.alike hK⟩) hl.1 rfl (Nat.le_of_ble_eq_true rfl) ⟨Nat.le_of_ble_eq_true rfl, Nat.le_of_ble_eq_true rfl⟩ ⟨Nat.le_of_ble_eq_true rfl, Nat.le_of_ble_eq_true rfl⟩ dX4_told_125 ?_
          exact rd_i hx hb hr hlocks (by simp only [f_X4_told, if_neg c_1, if_neg c_3, if_neg c_4, if_pos c_5]) dX4_told_128
        · by_cases c_6 : a0 = (4 : Int32)
          · refine lv_tableIn (off := 128) (tgt := 129) hx hb dX4_told_1 (by rw [c_6]; decide) (by rw [c_6]; decide) (by rw [c_6]; decide) (by decide) ?_
            refine lv_aload_n hx hb dX4_told_129 rfl (lv_at hl 0 rfl) ?_
            refine lv_bipush (v := 14) hx hb dX4_told_130 (by decide) ?_
            refine lv_bipush (v := 19) hx hb dX4_told_132 (by decide) ?_
            refine lv_ldc (v := 3145776) hx hb hown (htg _ ct_X4_65) dX4_told_134 ?_
            refine rV (As := [.int (14 : Int32), .int (19 : Int32), .int (3145776 : Int32)]) (rest := []) hx hb hml hown htg (c_X4_part l D cI cJ cO h0 h1 len tr w (14 : Int32) (19 : Int32) (3145776 : Int32) hlen) Blind.b0 ml_X4_61 im_X4_part se_X4_part ini_X4 co_X4_part rfl dn_X4_part rfl (va_recv hK hP (ci := 2) (q0 := 0) rfl rfl) (fun U hU hW => ⟨by rw [hU]; exact hP, va_K.moved hW.alike hK⟩) hl.1 rfl (Nat.le_of_ble_eq_true rfl) ⟨Nat.le_of_ble_eq_true rfl, Nat.le_of_ble_eq_true rfl⟩ ⟨Nat.le_of_ble_eq_true rfl, Nat.le_of_ble_eq_true rfl⟩ dX4_told_136 ?_
            exact rd_i hx hb hr hlocks (by simp only [f_X4_told, if_neg c_1, if_neg c_3, if_neg c_4, if_neg c_5, if_pos c_6]) dX4_told_139
          · by_cases c_7 : a0 = (5 : Int32)
            · refine lv_tableIn (off := 139) (tgt := 140) hx hb dX4_told_1 (by rw [c_7]; decide) (by rw [c_7]; decide) (by rw [c_7]; decide) (by decide) ?_
              refine lv_aload_n hx hb dX4_told_140 rfl (lv_at hl 0 rfl) ?_
              refine lv_bipush (v := 6) hx hb dX4_told_141 (by decide) ?_
              refine lv_bipush (v := 6) hx hb dX4_told_143 (by decide) ?_
              refine lv_ldc (v := 65537) hx hb hown (htg _ ct_X4_66) dX4_told_145 ?_
              refine rV (As := [.int (6 : Int32), .int (6 : Int32), .int (65537 : Int32)]) (rest := []) hx hb hml hown htg (c_X4_part l D cI cJ cO h0 h1 len tr w (6 : Int32) (6 : Int32) (65537 : Int32) hlen) Blind.b0 ml_X4_61 im_X4_part se_X4_part ini_X4 co_X4_part rfl dn_X4_part rfl (va_recv hK hP (ci := 2) (q0 := 0) rfl rfl) (fun U hU hW => ⟨by rw [hU]; exact hP, va_K.moved hW.alike hK⟩) hl.1 rfl (Nat.le_of_ble_eq_true rfl) ⟨Nat.le_of_ble_eq_true rfl, Nat.le_of_ble_eq_true rfl⟩ ⟨Nat.le_of_ble_eq_true rfl, Nat.le_of_ble_eq_true rfl⟩ dX4_told_147 ?_
              exact rd_i hx hb hr hlocks (by simp only [f_X4_told, if_neg c_1, if_neg c_3, if_neg c_4, if_neg c_5, if_neg c_6, if_pos c_7]) dX4_told_150
            · by_cases c_8 : a0 = (6 : Int32)
              · refine lv_tableIn (off := 150) (tgt := 151) hx hb dX4_told_1 (by rw [c_8]; decide) (by rw [c_8]; decide) (by rw [c_8]; decide) (by decide) ?_
                refine lv_aload_n hx hb dX4_told_151 rfl (lv_at hl 0 rfl) ?_
                refine lv_bipush (v := 7) hx hb dX4_told_152 (by decide) ?_
                refine lv_bipush (v := 7) hx hb dX4_told_154 (by decide) ?_
                refine lv_iconst (v := 1) hx hb dX4_told_156 (by decide) ?_
                refine rV (As := [.int (7 : Int32), .int (7 : Int32), .int (1 : Int32)]) (rest := []) hx hb hml hown htg (c_X4_part l D cI cJ cO h0 h1 len tr w (7 : Int32) (7 : Int32) (1 : Int32) hlen) Blind.b0 ml_X4_61 im_X4_part se_X4_part ini_X4 co_X4_part rfl dn_X4_part rfl (va_recv hK hP (ci := 2) (q0 := 0) rfl rfl) (fun U hU hW => ⟨by rw [hU]; exact hP, va_K.moved hW.alike hK⟩) hl.1 rfl (Nat.le_of_ble_eq_true rfl) ⟨Nat.le_of_ble_eq_true rfl, Nat.le_of_ble_eq_true rfl⟩ ⟨Nat.le_of_ble_eq_true rfl, Nat.le_of_ble_eq_true rfl⟩ dX4_told_157 ?_
                exact rd_i hx hb hr hlocks (by simp only [f_X4_told, if_neg c_1, if_neg c_3, if_neg c_4, if_neg c_5, if_neg c_6, if_neg c_7, if_pos c_8]) dX4_told_160
              · by_cases c_9 : a0 = (7 : Int32)
                · refine lv_tableIn (off := 160) (tgt := 161) hx hb dX4_told_1 (by rw [c_9]; decide) (by rw [c_9]; decide) (by rw [c_9]; decide) (by decide) ?_
                  refine lv_aload_n hx hb dX4_told_161 rfl (lv_at hl 0 rfl) ?_
                  refine lv_bipush (v := 9) hx hb dX4_told_162 (by decide) ?_
                  refine lv_bipush (v := 11) hx hb dX4_told_164 (by decide) ?_
                  refine lv_ldc (v := 65537) hx hb hown (htg _ ct_X4_66) dX4_told_166 ?_
                  refine rV (As := [.int (9 : Int32), .int (11 : Int32), .int (65537 : Int32)]) (rest := []) hx hb hml hown htg (c_X4_part l D cI cJ cO h0 h1 len tr w (9 : Int32) (11 : Int32) (65537 : Int32) hlen) Blind.b0 ml_X4_61 im_X4_part se_X4_part ini_X4 co_X4_part rfl dn_X4_part rfl (va_recv hK hP (ci := 2) (q0 := 0) rfl rfl) (fun U hU hW => ⟨by rw [hU]; exact hP, va_K.moved hW.alike hK⟩) hl.1 rfl (Nat.le_of_ble_eq_true rfl) ⟨Nat.le_of_ble_eq_true rfl, Nat.le_of_ble_eq_true rfl⟩ ⟨Nat.le_of_ble_eq_true rfl, Nat.le_of_ble_eq_true rfl⟩ dX4_told_168 ?_
                  exact rd_i hx hb hr hlocks (by simp only [f_X4_told, if_neg c_1, if_neg c_3, if_neg c_4, if_neg c_5, if_neg c_6, if_neg c_7, if_neg c_8, if_pos c_9]) dX4_told_171
                · by_cases c_10 : a0 = (8 : Int32)
                  · refine lv_tableIn (off := 171) (tgt := 172) hx hb dX4_told_1 (by rw [c_10]; decide) (by rw [c_10]; decide) (by rw [c_10]; decide) (by decide) ?_
                    refine lv_aload_n hx hb dX4_told_172 rfl (lv_at hl 0 rfl) ?_
                    refine lv_bipush (v := 14) hx hb dX4_told_173 (by decide) ?_
                    refine lv_bipush (v := 17) hx hb dX4_told_175 (by decide) ?_
                    refine lv_ldc (v := 65537) hx hb hown (htg _ ct_X4_66) dX4_told_177 ?_
                    refine rV (As := [.int (14 : Int32), .int (17 : Int32), .int (65537 : Int32)]) (rest := []) hx hb hml hown htg (c_X4_part l D cI cJ cO h0 h1 len tr w (14 : Int32) (17 : Int32) (65537 : Int32) hlen) Blind.b0 ml_X4_61 im_X4_part se_X4_part ini_X4 co_X4_part rfl dn_X4_part rfl (va_recv hK hP (ci := 2) (q0 := 0) rfl rfl) (fun U hU hW => ⟨by rw [hU]; exact hP, va_K.moved hW.alike hK⟩) hl.1 rfl (Nat.le_of_ble_eq_true rfl) ⟨Nat.le_of_ble_eq_true rfl, Nat.le_of_ble_eq_true rfl⟩ ⟨Nat.le_of_ble_eq_true rfl, Nat.le_of_ble_eq_true rfl⟩ dX4_told_179 ?_
                    exact rd_i hx hb hr hlocks (by simp only [f_X4_told, if_neg c_1, if_neg c_3, if_neg c_4, if_neg c_5, if_neg c_6, if_neg c_7, if_neg c_8, if_neg c_9, if_pos c_10]) dX4_told_182
                  · by_cases c_11 : a0 = (9 : Int32)
                    · refine lv_tableIn (off := 182) (tgt := 183) hx hb dX4_told_1 (by rw [c_11]; decide) (by rw [c_11]; decide) (by rw [c_11]; decide) (by decide) ?_
                      refine lv_aload_n hx hb dX4_told_183 rfl (lv_at hl 0 rfl) ?_
                      refine lv_bipush (v := 20) hx hb dX4_told_184 (by decide) ?_
                      refine lv_bipush (v := 32) hx hb dX4_told_186 (by decide) ?_
                      refine lv_ldc (v := 1114129) hx hb hown (htg _ ct_X4_67) dX4_told_188 ?_
                      refine rV (As := [.int (20 : Int32), .int (32 : Int32), .int (1114129 : Int32)]) (rest := []) hx hb hml hown htg (c_X4_part l D cI cJ cO h0 h1 len tr w (20 : Int32) (32 : Int32) (1114129 : Int32) hlen) Blind.b0 ml_X4_61 im_X4_part se_X4_part ini_X4 co_X4_part rfl dn_X4_part rfl (va_recv hK hP (ci := 2) (q0 := 0) rfl rfl) (fun U hU hW => ⟨by rw [hU]; exact hP, va_K.moved hW.alike hK⟩) hl.1 rfl (Nat.le_of_ble_eq_true rfl) ⟨Nat.le_of_ble_eq_true rfl, Nat.le_of_ble_eq_true rfl⟩ ⟨Nat.le_of_ble_eq_true rfl, Nat.le_of_ble_eq_true rfl⟩ dX4_told_190 ?_
                      exact rd_i hx hb hr hlocks (by simp only [f_X4_told, if_neg c_1, if_neg c_3, if_neg c_4, if_neg c_5, if_neg c_6, if_neg c_7, if_neg c_8, if_neg c_9, if_neg c_10, if_pos c_11]) dX4_told_193
                    · by_cases c_12 : a0 = (10 : Int32)
                      · refine lv_tableIn (off := 193) (tgt := 194) hx hb dX4_told_1 (by rw [c_12]; decide) (by rw [c_12]; decide) (by rw [c_12]; decide) (by decide) ?_
                        refine lv_aload_n hx hb dX4_told_194 rfl (lv_at hl 0 rfl) ?_
                        refine lv_bipush (v := 20) hx hb dX4_told_195 (by decide) ?_
                        refine lv_bipush (v := 32) hx hb dX4_told_197 (by decide) ?_
                        refine lv_ldc (v := 2097184) hx hb hown (htg _ ct_X4_68) dX4_told_199 ?_
                        refine rV (As := [.int (20 : Int32), .int (32 : Int32), .int (2097184 : Int32)]) (rest := []) hx hb hml hown htg (c_X4_part l D cI cJ cO h0 h1 len tr w (20 : Int32) (32 : Int32) (2097184 : Int32) hlen) Blind.b0 ml_X4_61 im_X4_part se_X4_part ini_X4 co_X4_part rfl dn_X4_part rfl (va_recv hK hP (ci := 2) (q0 := 0) rfl rfl) (fun U hU hW => ⟨by rw [hU]; exact hP, va_K.moved hW.alike hK⟩) hl.1 rfl (Nat.le_of_ble_eq_true rfl) ⟨Nat.le_of_ble_eq_true rfl, Nat.le_of_ble_eq_true rfl⟩ ⟨Nat.le_of_ble_eq_true rfl, Nat.le_of_ble_eq_true rfl⟩ dX4_told_201 ?_
                        exact rd_i hx hb hr hlocks (by simp only [f_X4_told, if_neg c_1, if_neg c_3, if_neg c_4, if_neg c_5, if_neg c_6, if_neg c_7, if_neg c_8, if_neg c_9, if_neg c_10, if_neg c_11, if_pos c_12]) dX4_told_204
                      · by_cases c_13 : a0 = (11 : Int32)
                        · refine lv_tableIn (off := 204) (tgt := 205) hx hb dX4_told_1 (by rw [c_13]; decide) (by rw [c_13]; decide) (by rw [c_13]; decide) (by decide) ?_
                          refine lv_aload_n hx hb dX4_told_205 rfl (lv_at hl 0 rfl) ?_
                          refine va_get (D := D) (ci := 2) (v := .int len) (C := RX4) (T := TX4) (N := 3) hx hb htg inX4 hown hK hP 0 rfl rfl 1 (by decide) (htg _ fl_X4_15) (fun _ h9 => h9) rfl dX4_told_206 ?_
                          refine lv_if_ne (tgt := 216) hx hb dX4_told_209 (by decide) (fun c_14 => ?_) (fun c_14 => ?_)
                          · refine lv_aload_n hx hb dX4_told_216 rfl (lv_at hl 0 rfl) ?_
                            refine rV (As := []) (rest := []) hx hb hml hown htg (c_X4_address l D cI cJ cO h0 h1 len tr w hlen) Blind.b0 ml_X4_69 im_X4_address se_X4_address ini_X4 co_X4_address rfl dn_X4_address rfl (va_recv hK hP (ci := 2) (q0 := 0) rfl rfl) (fun U hU hW => ⟨by rw [hU]; exact hP, va_K.moved hW.alike hK⟩) hl.1 rfl (Nat.le_of_ble_eq_true rfl) ⟨Nat.le_of_ble_eq_true rfl, Nat.le_of_ble_eq_true rfl⟩ ⟨Nat.le_of_ble_eq_true rfl, Nat.le_of_ble_eq_true rfl⟩ dX4_told_217 ?_
                            exact rd_i hx hb hr hlocks (by simp only [f_X4_told, if_neg c_1, if_neg c_3, if_neg c_4, if_neg c_5, if_neg c_6, if_neg c_7, if_neg c_8, if_neg c_9, if_neg c_10, if_neg c_11, if_neg c_12, if_pos c_13, if_neg c_14]) dX4_told_220
                          · refine lv_iconst (v := (-1)) hx hb dX4_told_212 (by decide) ?_
                            refine lv_goto (tgt := 220) hx hb dX4_told_213 (by decide) ?_
                            exact rd_i hx hb hr hlocks (by simp only [f_X4_told, if_neg c_1, if_neg c_3, if_neg c_4, if_neg c_5, if_neg c_6, if_neg c_7, if_neg c_8, if_neg c_9, if_neg c_10, if_neg c_11, if_neg c_12, if_pos c_13, if_pos c_14]) dX4_told_220
                        · by_cases c_15 : a0 = (12 : Int32)
                          · refine lv_tableIn (off := 220) (tgt := 221) hx hb dX4_told_1 (by rw [c_15]; decide) (by rw [c_15]; decide) (by rw [c_15]; decide) (by decide) ?_
                            refine lv_aload_n hx hb dX4_told_221 rfl (lv_at hl 0 rfl) ?_
                            refine lv_sipush (v := 2048) hx hb dX4_told_222 (by decide) ?_
                            refine rV (As := [.int (2048 : Int32)]) (rest := []) hx hb hml hown htg (c_X4_isOf l D cI cJ cO h0 h1 len tr w (2048 : Int32) hlen) Blind.b0 ml_X4_58 im_X4_isOf se_X4_isOf ini_X4 co_X4_isOf rfl dn_X4_isOf rfl (va_recv hK hP (ci := 2) (q0 := 0) rfl rfl) (fun U hU hW => ⟨by rw [hU]; exact hP, va_K.moved hW.alike hK⟩) hl.1 rfl (Nat.le_of_ble_eq_true rfl) ⟨Nat.le_of_ble_eq_true rfl, Nat.le_of_ble_eq_true rfl⟩ ⟨Nat.le_of_ble_eq_true rfl, Nat.le_of_ble_eq_true rfl⟩ dX4_told_225 ?_
                            refine lv_if_eq (tgt := 238) hx hb dX4_told_228 (by decide) (fun c_16 => ?_) (fun c_16 => ?_)
                            · refine lv_iconst (v := (-1)) hx hb dX4_told_238 (by decide) ?_
                              exact rd_i hx hb hr hlocks (by simp only [f_X4_told, if_neg c_1, if_neg c_3, if_neg c_4, if_neg c_5, if_neg c_6, if_neg c_7, if_neg c_8, if_neg c_9, if_neg c_10, if_neg c_11, if_neg c_12, if_neg c_13, if_pos c_15, if_pos c_16]) dX4_told_239
                            · refine lv_aload_n hx hb dX4_told_231 rfl (lv_at hl 0 rfl) ?_
                              refine rV (As := []) (rest := []) hx hb hml hown htg (c_X4_remainder l D cI cJ cO h0 h1 len tr w hlen) Blind.b0 ml_X4_43 im_X4_remainder se_X4_remainder ini_X4 co_X4_remainder rfl dn_X4_remainder rfl (va_recv hK hP (ci := 2) (q0 := 0) rfl rfl) (fun U hU hW => ⟨by rw [hU]; exact hP, va_K.moved hW.alike hK⟩) hl.1 rfl (Nat.le_of_ble_eq_true rfl) ⟨Nat.le_of_ble_eq_true rfl, Nat.le_of_ble_eq_true rfl⟩ ⟨Nat.le_of_ble_eq_true rfl, Nat.le_of_ble_eq_true rfl⟩ dX4_told_232 ?_
                              refine lv_goto (tgt := 239) hx hb dX4_told_235 (by decide) ?_
                              exact rd_i hx hb hr hlocks (by simp only [f_X4_told, if_neg c_1, if_neg c_3, if_neg c_4, if_neg c_5, if_neg c_6, if_neg c_7, if_neg c_8, if_neg c_9, if_neg c_10, if_neg c_11, if_neg c_12, if_neg c_13, if_pos c_15, if_neg c_16]) dX4_told_239
                          · by_cases c_17 : a0 = (13 : Int32)
                            · refine lv_tableIn (off := 239) (tgt := 240) hx hb dX4_told_1 (by rw [c_17]; decide) (by rw [c_17]; decide) (by rw [c_17]; decide) (by decide) ?_
                              refine lv_aload_n hx hb dX4_told_240 rfl (lv_at hl 0 rfl) ?_
                              refine lv_bipush (v := 33) hx hb dX4_told_241 (by decide) ?_
                              refine lv_bipush (v := 37) hx hb dX4_told_243 (by decide) ?_
                              refine lv_ldc (v := 393216) hx hb hown (htg _ ct_X4_72) dX4_told_245 ?_
                              refine rV (As := [.int (33 : Int32), .int (37 : Int32), .int (393216 : Int32)]) (rest := []) hx hb hml hown htg (c_X4_part l D cI cJ cO h0 h1 len tr w (33 : Int32) (37 : Int32) (393216 : Int32) hlen) Blind.b0 ml_X4_61 im_X4_part se_X4_part ini_X4 co_X4_part rfl dn_X4_part rfl (va_recv hK hP (ci := 2) (q0 := 0) rfl rfl) (fun U hU hW => ⟨by rw [hU]; exact hP, va_K.moved hW.alike hK⟩) hl.1 rfl (Nat.le_of_ble_eq_true rfl) ⟨Nat.le_of_ble_eq_true rfl, Nat.le_of_ble_eq_true rfl⟩ ⟨Nat.le_of_ble_eq_true rfl, Nat.le_of_ble_eq_true rfl⟩ dX4_told_247 ?_
                              exact rd_i hx hb hr hlocks (by simp only [f_X4_told, if_neg c_1, if_neg c_3, if_neg c_4, if_neg c_5, if_neg c_6, if_neg c_7, if_neg c_8, if_neg c_9, if_neg c_10, if_neg c_11, if_neg c_12, if_neg c_13, if_neg c_15, if_pos c_17]) dX4_told_250
                            · by_cases c_18 : a0 = (14 : Int32)
                              · refine lv_tableIn (off := 250) (tgt := 251) hx hb dX4_told_1 (by rw [c_18]; decide) (by rw [c_18]; decide) (by rw [c_18]; decide) (by decide) ?_
                                refine lv_aload_n hx hb dX4_told_251 rfl (lv_at hl 0 rfl) ?_
                                refine lv_bipush (v := 38) hx hb dX4_told_252 (by decide) ?_
                                refine lv_bipush (v := 40) hx hb dX4_told_254 (by decide) ?_
                                refine lv_ldc (v := 393216) hx hb hown (htg _ ct_X4_72) dX4_told_256 ?_
                                refine rV (As := [.int (38 : Int32), .int (40 : Int32), .int (393216 : Int32)]) (rest := []) hx hb hml hown htg (c_X4_part l D cI cJ cO h0 h1 len tr w (38 : Int32) (40 : Int32) (393216 : Int32) hlen) Blind.b0 ml_X4_61 im_X4_part se_X4_part ini_X4 co_X4_part rfl dn_X4_part rfl (va_recv hK hP (ci := 2) (q0 := 0) rfl rfl) (fun U hU hW => ⟨by rw [hU]; exact hP, va_K.moved hW.alike hK⟩) hl.1 rfl (Nat.le_of_ble_eq_true rfl) ⟨Nat.le_of_ble_eq_true rfl, Nat.le_of_ble_eq_true rfl⟩ ⟨Nat.le_of_ble_eq_true rfl, Nat.le_of_ble_eq_true rfl⟩ dX4_told_258 ?_
                                exact rd_i hx hb hr hlocks (by simp only [f_X4_told, if_neg c_1, if_neg c_3, if_neg c_4, if_neg c_5, if_neg c_6, if_neg c_7, if_neg c_8, if_neg c_9, if_neg c_10, if_neg c_11, if_neg c_12, if_neg c_13, if_neg c_15, if_neg c_17, if_pos c_18]) dX4_told_261
                              · by_cases c_19 : a0 = (15 : Int32)
                                · refine lv_tableIn (off := 261) (tgt := 262) hx hb dX4_told_1 (by rw [c_19]; decide) (by rw [c_19]; decide) (by rw [c_19]; decide) (by decide) ?_
                                  refine lv_aload_n hx hb dX4_told_262 rfl (lv_at hl 0 rfl) ?_
                                  refine va_get (D := D) (ci := 2) (v := .int tr) (C := RX4) (T := TX4) (N := 3) hx hb htg inX4 hown hK hP 0 rfl rfl 2 (by decide) (htg _ fl_X4_19) (fun _ h9 => h9) rfl dX4_told_263 ?_
                                  exact rd_i hx hb hr hlocks (by simp only [f_X4_told, if_neg c_1, if_neg c_3, if_neg c_4, if_neg c_5, if_neg c_6, if_neg c_7, if_neg c_8, if_neg c_9, if_neg c_10, if_neg c_11, if_neg c_12, if_neg c_13, if_neg c_15, if_neg c_17, if_neg c_18, if_pos c_19]) dX4_told_266
                                · refine lv_tableOut (tgt := 267) hx hb dX4_told_1 (by have h0 := lv_neT (a := 0) c_1 rfl; have h1 := lv_neT (a := 1) c_3 rfl; have h2 := lv_neT (a := 2) c_4 rfl; have h3 := lv_neT (a := 3) c_5 rfl; have h4 := lv_neT (a := 4) c_6 rfl; have h5 := lv_neT (a := 5) c_7 rfl; have h6 := lv_neT (a := 6) c_8 rfl; have h7 := lv_neT (a := 7) c_9 rfl; have h8 := lv_neT (a := 8) c_10 rfl; have h9 := lv_neT (a := 9) c_11 rfl; have h10 := lv_neT (a := 10) c_12 rfl; have h11 := lv_neT (a := 11) c_13 rfl; have h12 := lv_neT (a := 12) c_15 rfl; have h13 := lv_neT (a := 13) c_17 rfl; have h14 := lv_neT (a := 14) c_18 rfl; have h15 := lv_neT (a := 15) c_19 rfl; omega) (by decide) ?_
                                  refine lv_iconst (v := (-1)) hx hb dX4_told_267 (by decide) ?_
                                  exact rd_i hx hb hr hlocks (by simp only [f_X4_told, if_neg c_1, if_neg c_3, if_neg c_4, if_neg c_5, if_neg c_6, if_neg c_7, if_neg c_8, if_neg c_9, if_neg c_10, if_neg c_11, if_neg c_12, if_neg c_13, if_neg c_15, if_neg c_17, if_neg c_18, if_neg c_19]) dX4_told_268

def f_X4_turn_w (w : Nat → Int32) (a0 : Int32) : Nat → Int32 := (if ((a0 - (1 : Int32)) >>> ((5 : Int32) &&& 31)) < 0 then w else (if (4 : Int32) ≤ ((a0 - (1 : Int32)) >>> ((5 : Int32) &&& 31)) then w else (upd w ((a0 - (1 : Int32)) >>> ((5 : Int32) &&& 31)).toNatClampNeg ((w ((a0 - (1 : Int32)) >>> ((5 : Int32) &&& 31)).toNatClampNeg) ^^^ ((1 : Int32) <<< (((31 : Int32) - ((a0 - (1 : Int32)) - (a0 - (1 : Int32)) / (32 : Int32) * (32 : Int32))) &&& 31))))))
set_option maxHeartbeats 4000000 in
set_option maxRecDepth 100000 in
theorem c_X4_turn (l : Launch) (D : va_G) (cI cJ cO : ClassId) (h0 : Nat) (h1 : Nat) (len : Int32) (tr : Int32) (w : Nat → Int32) (a0 : Int32) : Wr l yX4_turn cX4_turn 3 none 0 0 [.ref h0, .int a0] (fun U => B1 D cI cJ cO [(h0, .inr (2, [.ref h1, .int len, .int tr])), (h1, .inl (cI, 4, .inl w))] U ∧ True) D none [(h0, .inr (2, [.ref h1, .int len, .int tr])), (h1, .inl (cI, 4, .inl w))] [(h0, .inr (2, [.ref h1, .int len, .int tr])), (h1, .inl (cI, 4, .inl (f_X4_turn_w w a0)))] := by
  refine Wr.of (by decide +kernel) (Nat.le_of_ble_eq_true rfl) ?_
  intro p e s m args below meth c hx hb hr hml hown htg hlocks A hA hP hK hD hX hS ls hl
  have hown : s.vm.findClass RX4 = some m.cls := hown
  have hl : lv_has ls 3 [(0, .ref h0), (1, .int a0)] := hl
  refine lv_iload_n hx hb dX4_turn_0 rfl (lv_at hl 1 rfl) ?_
  refine lv_iconst (v := 1) hx hb dX4_turn_1 (by decide) ?_
  refine lv_isub hx hb dX4_turn_2 ?_
  refine lv_iconst (v := 5) hx hb dX4_turn_3 (by decide) ?_
  refine lv_ishr hx hb dX4_turn_4 ?_
  refine lv_istore_n (lv' := [(2, .int ((a0 - (1 : Int32)) >>> ((5 : Int32) &&& 31))), (0, .ref h0), (1, .int a0)]) hx hb dX4_turn_5 rfl hl (by decide) rfl (fun ls hl => ?_)
  refine lv_iload_n hx hb dX4_turn_6 rfl (lv_at hl 0 rfl) ?_
  refine lv_if_lt (tgt := 39) hx hb dX4_turn_7 (by decide) (fun c_1 => ?_) (fun c_1 => ?_)
  · exact wr_v hx hb hr hlocks hA hS (hP.eq (by simp only [f_X4_turn_w, if_pos c_1])) dX4_turn_39
  · refine lv_iload_n hx hb dX4_turn_10 rfl (lv_at hl 0 rfl) ?_
    refine lv_aload_n hx hb dX4_turn_11 rfl (lv_at hl 1 rfl) ?_
    refine va_get (D := D) (ci := 2) (v := .ref h1) (C := RX4) (T := TX4) (N := 3) hx hb htg inX4 hown hK hP 0 rfl rfl 0 (by decide) (htg _ fl_X4_11) (fun _ h9 => h9) rfl dX4_turn_12 ?_
    refine va_alen (v := 4) hx hb hK hP 1 0 rfl rfl rfl dX4_turn_15 ?_
    refine lv_icmp_ge (tgt := 39) hx hb dX4_turn_16 (by decide) (fun c_2 => ?_) (fun c_2 => ?_)
    · exact wr_v hx hb hr hlocks hA hS (hP.eq (by simp only [f_X4_turn_w, if_neg c_1, if_pos c_2])) dX4_turn_39
    · refine lv_aload_n hx hb dX4_turn_19 rfl (lv_at hl 1 rfl) ?_
      refine va_get (D := D) (ci := 2) (v := .ref h1) (C := RX4) (T := TX4) (N := 3) hx hb htg inX4 hown hK hP 0 rfl rfl 0 (by decide) (htg _ fl_X4_11) (fun _ h9 => h9) rfl dX4_turn_20 ?_
      refine lv_iload_n hx hb dX4_turn_23 rfl (lv_at hl 0 rfl) ?_
      refine lv_dup2_11 hx hb dX4_turn_24 rfl rfl ?_
      refine va_iald' (v := (w ((a0 - (1 : Int32)) >>> ((5 : Int32) &&& 31)).toNatClampNeg)) hx hb hK hP 1 0 rfl rfl (in4' c_1 c_2) rfl dX4_turn_25 ?_
      refine lv_iconst (v := 1) hx hb dX4_turn_26 (by decide) ?_
      refine lv_bipush (v := 31) hx hb dX4_turn_27 (by decide) ?_
      refine lv_iload_n hx hb dX4_turn_29 rfl (lv_at hl 2 rfl) ?_
      refine lv_iconst (v := 1) hx hb dX4_turn_30 (by decide) ?_
      refine lv_isub hx hb dX4_turn_31 ?_
      refine lv_bipush (v := 32) hx hb dX4_turn_32 (by decide) ?_
      refine lv_irem hx hb dX4_turn_34 (by decide) ?_
      refine lv_isub hx hb dX4_turn_35 ?_
      refine lv_ishl hx hb dX4_turn_36 ?_
      refine lv_ixor hx hb dX4_turn_37 ?_
      refine va_iast' (j := ((a0 - (1 : Int32)) >>> ((5 : Int32) &&& 31)).toNatClampNeg) hx hb hK hP hD hS 1 0 rfl rfl (in4' c_1 c_2) rfl dX4_turn_38 (fun H locs hP hD hS => ?_)
      have hP : va_P D vwCl [(h0, .inr (2, [.ref h1, .int len, .int tr])), (h1, .inl (cI, 4, .inl (upd w ((a0 - (1 : Int32)) >>> ((5 : Int32) &&& 31)).toNatClampNeg ((w ((a0 - (1 : Int32)) >>> ((5 : Int32) &&& 31)).toNatClampNeg) ^^^ ((1 : Int32) <<< (((31 : Int32) - ((a0 - (1 : Int32)) - (a0 - (1 : Int32)) / (32 : Int32) * (32 : Int32))) &&& 31))))))] H := hP
      have hD : va_D A [(h0, .inr (2, [.ref h1, .int len, .int tr])), (h1, .inl (cI, 4, .inl (upd w ((a0 - (1 : Int32)) >>> ((5 : Int32) &&& 31)).toNatClampNeg ((w ((a0 - (1 : Int32)) >>> ((5 : Int32) &&& 31)).toNatClampNeg) ^^^ ((1 : Int32) <<< (((31 : Int32) - ((a0 - (1 : Int32)) - (a0 - (1 : Int32)) / (32 : Int32) * (32 : Int32))) &&& 31))))))] := hD
      exact wr_v hx hb hr hlocks hA hS (hP.eq (by simp only [f_X4_turn_w, if_neg c_1, if_neg c_2])) dX4_turn_39

def f_X4_write_w (w : Nat → Int32) (a0 : Int32) (a1 : Int32) (a2 : Int32) (a3 : Int32) : Nat → Int32 := (upd (upd (upd (upd w 0 a0) 1 a1) 2 a2) 3 a3)
def f_X4_write_len (w : Nat → Int32) (a0 : Int32) (a1 : Int32) (a2 : Int32) (a3 : Int32) : Int32 := (if (16 : Int32) ≤ (f_X4_format (upd (upd (upd (upd w 0 a0) 1 a1) 2 a2) 3 a3)) then (112 : Int32) else (56 : Int32))
def f_X4_write_tr (w : Nat → Int32) (a0 : Int32) (a1 : Int32) (a2 : Int32) (a3 : Int32) : Int32 := (-1 : Int32)
set_option maxHeartbeats 4000000 in
set_option maxRecDepth 100000 in
theorem c_X4_write (l : Launch) (D : va_G) (cI cJ cO : ClassId) (h0 : Nat) (h1 : Nat) (len : Int32) (tr : Int32) (w : Nat → Int32) (a0 : Int32) (a1 : Int32) (a2 : Int32) (a3 : Int32) : Wr l yX4_write cX4_write 5 none 1 20 [.ref h0, .int a0, .int a1, .int a2, .int a3] (fun U => B1 D cI cJ cO [(h0, .inr (2, [.ref h1, .int len, .int tr])), (h1, .inl (cI, 4, .inl w))] U ∧ True) D none [(h0, .inr (2, [.ref h1, .int len, .int tr])), (h1, .inl (cI, 4, .inl w))] [(h0, .inr (2, [.ref h1, .int (f_X4_write_len w a0 a1 a2 a3), .int (f_X4_write_tr w a0 a1 a2 a3)])), (h1, .inl (cI, 4, .inl (f_X4_write_w w a0 a1 a2 a3)))] := by
  refine Wr.of (by decide +kernel) (Nat.le_of_ble_eq_true rfl) ?_
  intro p e s m args below meth c hx hb hr hml hown htg hlocks A hA hP hK hD hX hS ls hl
  have hown : s.vm.findClass RX4 = some m.cls := hown
  have hl : lv_has ls 5 [(0, .ref h0), (1, .int a0), (2, .int a1), (3, .int a2), (4, .int a3)] := hl
  refine lv_aload_n hx hb dX4_write_0 rfl (lv_at hl 0 rfl) ?_
  refine va_get (D := D) (ci := 2) (v := .ref h1) (C := RX4) (T := TX4) (N := 3) hx hb htg inX4 hown hK hP 0 rfl rfl 0 (by decide) (htg _ fl_X4_11) (fun _ h9 => h9) rfl dX4_write_1 ?_
  refine lv_iconst (v := 0) hx hb dX4_write_4 (by decide) ?_
  refine lv_iload_n hx hb dX4_write_5 rfl (lv_at hl 1 rfl) ?_
  refine va_iast' (j := 0) hx hb hK hP hD hS 1 0 rfl rfl (by unfold vp_in; decide) (by decide) dX4_write_6 (fun H locs hP hD hS => ?_)
  have hP : va_P D vwCl [(h0, .inr (2, [.ref h1, .int len, .int tr])), (h1, .inl (cI, 4, .inl (upd w 0 a0)))] H := hP
  have hD : va_D A [(h0, .inr (2, [.ref h1, .int len, .int tr])), (h1, .inl (cI, 4, .inl (upd w 0 a0)))] := hD
  refine lv_aload_n hx hb dX4_write_7 rfl (lv_at hl 0 rfl) ?_
  refine va_get (D := D) (ci := 2) (v := .ref h1) (C := RX4) (T := TX4) (N := 3) hx hb htg inX4 hown hK hP 0 rfl rfl 0 (by decide) (htg _ fl_X4_11) (fun _ h9 => h9) rfl dX4_write_8 ?_
  refine lv_iconst (v := 1) hx hb dX4_write_11 (by decide) ?_
  refine lv_iload_n hx hb dX4_write_12 rfl (lv_at hl 2 rfl) ?_
  refine va_iast' (j := 1) hx hb hK hP hD hS 1 0 rfl rfl (by unfold vp_in; decide) (by decide) dX4_write_13 (fun H locs hP hD hS => ?_)
  have hP : va_P D vwCl [(h0, .inr (2, [.ref h1, .int len, .int tr])), (h1, .inl (cI, 4, .inl (upd (upd w 0 a0) 1 a1)))] H := hP
  have hD : va_D A [(h0, .inr (2, [.ref h1, .int len, .int tr])), (h1, .inl (cI, 4, .inl (upd (upd w 0 a0) 1 a1)))] := hD
  refine lv_aload_n hx hb dX4_write_14 rfl (lv_at hl 0 rfl) ?_
  refine va_get (D := D) (ci := 2) (v := .ref h1) (C := RX4) (T := TX4) (N := 3) hx hb htg inX4 hown hK hP 0 rfl rfl 0 (by decide) (htg _ fl_X4_11) (fun _ h9 => h9) rfl dX4_write_15 ?_
  refine lv_iconst (v := 2) hx hb dX4_write_18 (by decide) ?_
  refine lv_iload_n hx hb dX4_write_19 rfl (lv_at hl 3 rfl) ?_
  refine va_iast' (j := 2) hx hb hK hP hD hS 1 0 rfl rfl (by unfold vp_in; decide) (by decide) dX4_write_20 (fun H locs hP hD hS => ?_)
  have hP : va_P D vwCl [(h0, .inr (2, [.ref h1, .int len, .int tr])), (h1, .inl (cI, 4, .inl (upd (upd (upd w 0 a0) 1 a1) 2 a2)))] H := hP
  have hD : va_D A [(h0, .inr (2, [.ref h1, .int len, .int tr])), (h1, .inl (cI, 4, .inl (upd (upd (upd w 0 a0) 1 a1) 2 a2)))] := hD
  refine lv_aload_n hx hb dX4_write_21 rfl (lv_at hl 0 rfl) ?_
  refine va_get (D := D) (ci := 2) (v := .ref h1) (C := RX4) (T := TX4) (N := 3) hx hb htg inX4 hown hK hP 0 rfl rfl 0 (by decide) (htg _ fl_X4_11) (fun _ h9 => h9) rfl dX4_write_22 ?_
  refine lv_iconst (v := 3) hx hb dX4_write_25 (by decide) ?_
  refine lv_iload hx hb dX4_write_26 (lv_at hl 4 rfl) ?_
  refine va_iast' (j := 3) hx hb hK hP hD hS 1 0 rfl rfl (by unfold vp_in; decide) (by decide) dX4_write_28 (fun H locs hP hD hS => ?_)
  have hP : va_P D vwCl [(h0, .inr (2, [.ref h1, .int len, .int tr])), (h1, .inl (cI, 4, .inl (upd (upd (upd (upd w 0 a0) 1 a1) 2 a2) 3 a3)))] H := hP
  have hD : va_D A [(h0, .inr (2, [.ref h1, .int len, .int tr])), (h1, .inl (cI, 4, .inl (upd (upd (upd (upd w 0 a0) 1 a1) 2 a2) 3 a3)))] := hD
  refine lv_aload_n hx hb dX4_write_29 rfl (lv_at hl 0 rfl) ?_
  refine lv_aload_n hx hb dX4_write_30 rfl (lv_at hl 0 rfl) ?_
  refine rV (As := []) (rest := [.ref h0]) hx hb hml hown htg (c_X4_format l D cI cJ cO h0 h1 len tr (upd (upd (upd (upd w 0 a0) 1 a1) 2 a2) 3 a3)) Blind.b0 ml_X4_22 im_X4_format se_X4_format ini_X4 co_X4_format rfl dn_X4_format rfl (va_recv hK hP (ci := 2) (q0 := 0) rfl rfl) (fun U hU hW => ⟨by rw [hU]; exact hP, va_K.moved hW.alike hK⟩) hl.1 rfl (Nat.le_of_ble_eq_true rfl) ⟨Nat.le_of_ble_eq_true rfl, Nat.le_of_ble_eq_true rfl⟩ ⟨Nat.le_of_ble_eq_true rfl, Nat.le_of_ble_eq_true rfl⟩ dX4_write_31 ?_
  refine lv_bipush (v := 16) hx hb dX4_write_34 (by decide) ?_
  refine W.join (nL := 5) (lv := [(0, .ref h0), (1, .int a0), (2, .int a1), (3, .int a2), (4, .int a3)]) (pc2 := 46) (st2 := [.int (if (16 : Int32) ≤ (f_X4_format (upd (upd (upd (upd w 0 a0) 1 a1) 2 a2) 3 a3)) then (112 : Int32) else (56 : Int32)), .ref h0]) (fun ls hl => ?_) (fun J => ?_)
  · refine va_put (D := D) (ci := 2) (v := .int (if (16 : Int32) ≤ (f_X4_format (upd (upd (upd (upd w 0 a0) 1 a1) 2 a2) 3 a3)) then (112 : Int32) else (56 : Int32))) (ty := .int) (C := RX4) (T := TX4) (N := 3) hx hb htg inX4 tyX4 tyX4_ok nmX4 hown hK hP hD hS 0 rfl rfl 1 (by decide) (htg _ fl_X4_15) (fun _ h9 => h9) rfl (by decide +kernel) rfl rfl (Nat.le_of_ble_eq_true rfl) dX4_write_46 (fun H locs hP hD hS => ?_)
    have hP : va_P D vwCl [(h0, .inr (2, [.ref h1, .int (if (16 : Int32) ≤ (f_X4_format (upd (upd (upd (upd w 0 a0) 1 a1) 2 a2) 3 a3)) then (112 : Int32) else (56 : Int32)), .int tr])), (h1, .inl (cI, 4, .inl (upd (upd (upd (upd w 0 a0) 1 a1) 2 a2) 3 a3)))] H := hP
    have hD : va_D A [(h0, .inr (2, [.ref h1, .int (if (16 : Int32) ≤ (f_X4_format (upd (upd (upd (upd w 0 a0) 1 a1) 2 a2) 3 a3)) then (112 : Int32) else (56 : Int32)), .int tr])), (h1, .inl (cI, 4, .inl (upd (upd (upd (upd w 0 a0) 1 a1) 2 a2) 3 a3)))] := hD
    refine lv_aload_n hx hb dX4_write_49 rfl (lv_at hl 0 rfl) ?_
    refine lv_iconst (v := (-1)) hx hb dX4_write_50 (by decide) ?_
    refine va_put (D := D) (ci := 2) (v := .int (-1 : Int32)) (ty := .int) (C := RX4) (T := TX4) (N := 3) hx hb htg inX4 tyX4 tyX4_ok nmX4 hown hK hP hD hS 0 rfl rfl 2 (by decide) (htg _ fl_X4_19) (fun _ h9 => h9) rfl (by decide +kernel) rfl rfl (Nat.le_of_ble_eq_true rfl) dX4_write_51 (fun H locs hP hD hS => ?_)
    have hP : va_P D vwCl [(h0, .inr (2, [.ref h1, .int (if (16 : Int32) ≤ (f_X4_format (upd (upd (upd (upd w 0 a0) 1 a1) 2 a2) 3 a3)) then (112 : Int32) else (56 : Int32)), .int (-1 : Int32)])), (h1, .inl (cI, 4, .inl (upd (upd (upd (upd w 0 a0) 1 a1) 2 a2) 3 a3)))] H := hP
    have hD : va_D A [(h0, .inr (2, [.ref h1, .int (if (16 : Int32) ≤ (f_X4_format (upd (upd (upd (upd w 0 a0) 1 a1) 2 a2) 3 a3)) then (112 : Int32) else (56 : Int32)), .int (-1 : Int32)])), (h1, .inl (cI, 4, .inl (upd (upd (upd (upd w 0 a0) 1 a1) 2 a2) 3 a3)))] := hD
    exact wr_v hx hb hr hlocks hA hS (hP.eq (by simp only [f_X4_write_w, f_X4_write_len, f_X4_write_tr])) dX4_write_54
  · refine lv_icmp_ge (tgt := 44) hx hb dX4_write_36 (by decide) (fun c_1 => ?_) (fun c_1 => ?_)
    · refine lv_bipush (v := 112) hx hb dX4_write_44 (by decide) ?_
      exact W.eq (by first | simp only [if_pos c_1] | rfl) (J ls (lv_sub hl [0, 1, 2, 3, 4] rfl))
    · refine lv_bipush (v := 56) hx hb dX4_write_39 (by decide) ?_
      refine lv_goto (tgt := 46) hx hb dX4_write_41 (by decide) ?_
      exact W.eq (by first | simp only [if_neg c_1] | rfl) (J ls (lv_sub hl [0, 1, 2, 3, 4] rfl))

def f_X4_putRight (w : Nat → Int32) (len : Int32) (tr : Int32) : Int32 := (if (f_X4_isSound w len (f_X4_remainder w len)) = 0 then (if (f_X4_wrongBit w len) = (-1 : Int32) then (0 : Int32) else (1 : Int32)) else (1 : Int32))
def f_X4_putRight_w (w : Nat → Int32) (len : Int32) (tr : Int32) : Nat → Int32 := (if (f_X4_isSound w len (f_X4_remainder w len)) = 0 then (if (f_X4_wrongBit w len) = (-1 : Int32) then w else (f_X4_turn_w w (f_X4_wrongBit w len))) else w)
def f_X4_putRight_tr (w : Nat → Int32) (len : Int32) (tr : Int32) : Int32 := (if (f_X4_isSound w len (f_X4_remainder w len)) = 0 then (if (f_X4_wrongBit w len) = (-1 : Int32) then tr else (f_X4_wrongBit w len)) else tr)
set_option maxHeartbeats 4000000 in
set_option maxRecDepth 100000 in
theorem c_X4_putRight (l : Launch) (D : va_G) (cI cJ cO : ClassId) (h0 : Nat) (h1 : Nat) (len : Int32) (tr : Int32) (w : Nat → Int32) (hlen : 0 ≤ len.toInt ∧ len.toInt ≤ 112) : Wr l yX4_putRight cX4_putRight 2 (some .boolean) 4 85 [.ref h0] (fun U => B1 D cI cJ cO [(h0, .inr (2, [.ref h1, .int len, .int tr])), (h1, .inl (cI, 4, .inl w))] U ∧ True) D (some (.int (f_X4_putRight w len tr))) [(h0, .inr (2, [.ref h1, .int len, .int tr])), (h1, .inl (cI, 4, .inl w))] [(h0, .inr (2, [.ref h1, .int len, .int (f_X4_putRight_tr w len tr)])), (h1, .inl (cI, 4, .inl (f_X4_putRight_w w len tr)))] := by
  refine Wr.of (by decide +kernel) (Nat.le_of_ble_eq_true rfl) ?_
  intro p e s m args below meth c hx hb hr hml hown htg hlocks A hA hP hK hD hX hS ls hl
  have hown : s.vm.findClass RX4 = some m.cls := hown
  have hl : lv_has ls 2 [(0, .ref h0)] := hl
  refine lv_aload_n hx hb dX4_putRight_0 rfl (lv_at hl 0 rfl) ?_
  refine lv_aload_n hx hb dX4_putRight_1 rfl (lv_at hl 0 rfl) ?_
  refine rV (As := []) (rest := [.ref h0]) hx hb hml hown htg (c_X4_remainder l D cI cJ cO h0 h1 len tr w hlen) Blind.b0 ml_X4_43 im_X4_remainder se_X4_remainder ini_X4 co_X4_remainder rfl dn_X4_remainder rfl (va_recv hK hP (ci := 2) (q0 := 0) rfl rfl) (fun U hU hW => ⟨by rw [hU]; exact hP, va_K.moved hW.alike hK⟩) hl.1 rfl (Nat.le_of_ble_eq_true rfl) ⟨Nat.le_of_ble_eq_true rfl, Nat.le_of_ble_eq_true rfl⟩ ⟨Nat.le_of_ble_eq_true rfl, Nat.le_of_ble_eq_true rfl⟩ dX4_putRight_2 ?_
  refine rV (As := [.int (f_X4_remainder w len)]) (rest := []) hx hb hml hown htg (c_X4_isSound l D cI cJ cO h0 h1 len tr w (f_X4_remainder w len) hlen) Blind.b0 ml_X4_46 im_X4_isSound se_X4_isSound ini_X4 co_X4_isSound rfl dn_X4_isSound rfl (va_recv hK hP (ci := 2) (q0 := 0) rfl rfl) (fun U hU hW => ⟨by rw [hU]; exact hP, va_K.moved hW.alike hK⟩) hl.1 rfl (Nat.le_of_ble_eq_true rfl) ⟨Nat.le_of_ble_eq_true rfl, Nat.le_of_ble_eq_true rfl⟩ ⟨Nat.le_of_ble_eq_true rfl, Nat.le_of_ble_eq_true rfl⟩ dX4_putRight_5 ?_
  refine lv_if_eq (tgt := 13) hx hb dX4_putRight_8 (by decide) (fun c_1 => ?_) (fun c_1 => ?_)
  · refine lv_aload_n hx hb dX4_putRight_13 rfl (lv_at hl 0 rfl) ?_
    refine rV (As := []) (rest := []) hx hb hml hown htg (c_X4_wrongBit l D cI cJ cO h0 h1 len tr w hlen) Blind.b0 ml_X4_50 im_X4_wrongBit se_X4_wrongBit ini_X4 co_X4_wrongBit rfl dn_X4_wrongBit rfl (va_recv hK hP (ci := 2) (q0 := 0) rfl rfl) (fun U hU hW => ⟨by rw [hU]; exact hP, va_K.moved hW.alike hK⟩) hl.1 rfl (Nat.le_of_ble_eq_true rfl) ⟨Nat.le_of_ble_eq_true rfl, Nat.le_of_ble_eq_true rfl⟩ ⟨Nat.le_of_ble_eq_true rfl, Nat.le_of_ble_eq_true rfl⟩ dX4_putRight_14 ?_
    refine lv_istore_n (lv' := [(1, .int (f_X4_wrongBit w len)), (0, .ref h0)]) hx hb dX4_putRight_17 rfl hl (by decide) rfl (fun ls hl => ?_)
    refine lv_iload_n hx hb dX4_putRight_18 rfl (lv_at hl 0 rfl) ?_
    refine lv_iconst (v := (-1)) hx hb dX4_putRight_19 (by decide) ?_
    refine lv_icmp_ne (tgt := 25) hx hb dX4_putRight_20 (by decide) (fun c_2 => ?_) (fun c_2 => ?_)
    · refine lv_aload_n hx hb dX4_putRight_25 rfl (lv_at hl 1 rfl) ?_
      refine lv_iload_n hx hb dX4_putRight_26 rfl (lv_at hl 0 rfl) ?_
      refine wV (As := [.int (f_X4_wrongBit w len)]) (rest := []) hx hb hml hown htg (c_X4_turn l D cI cJ cO h0 h1 len tr w (f_X4_wrongBit w len)) (Blind.and Blind.b1 Blind.tt) ml_X4_53 im_X4_turn se_X4_turn ini_X4 co_X4_turn rfl dn_X4_turn rfl (va_recv hK hP (ci := 2) (q0 := 0) rfl rfl) (fun U hU hW => ⟨⟨by rw [hU]; exact hP, va_K.moved hW.alike hK, (hD).weaken (fun _ _ _ _ => trivial)⟩, trivial⟩) hl.1 rfl (Nat.le_of_ble_eq_true rfl) ⟨Nat.le_of_ble_eq_true rfl, Nat.le_of_ble_eq_true rfl⟩ ⟨Nat.le_of_ble_eq_true rfl, Nat.le_of_ble_eq_true rfl⟩ dX4_putRight_27 hP hD hS [0, 1] rfl (Eq.trans (b := [h0, h1]) rfl rfl) (fun H locs hP hD hS => ?_)
      have hP : va_P D vwCl [(h0, .inr (2, [.ref h1, .int len, .int tr])), (h1, .inl (cI, 4, .inl (f_X4_turn_w w (f_X4_wrongBit w len))))] H := hP
      have hD : va_D A [(h0, .inr (2, [.ref h1, .int len, .int tr])), (h1, .inl (cI, 4, .inl (f_X4_turn_w w (f_X4_wrongBit w len))))] := hD
      refine W.eq (g2 := F0 m 30 ls []) rfl ?_
      refine lv_aload_n hx hb dX4_putRight_30 rfl (lv_at hl 1 rfl) ?_
      refine lv_iload_n hx hb dX4_putRight_31 rfl (lv_at hl 0 rfl) ?_
      refine va_put (D := D) (ci := 2) (v := .int (f_X4_wrongBit w len)) (ty := .int) (C := RX4) (T := TX4) (N := 3) hx hb htg inX4 tyX4 tyX4_ok nmX4 hown hK hP hD hS 0 rfl rfl 2 (by decide) (htg _ fl_X4_19) (fun _ h9 => h9) rfl (by decide +kernel) rfl rfl (Nat.le_of_ble_eq_true rfl) dX4_putRight_32 (fun H locs hP hD hS => ?_)
      have hP : va_P D vwCl [(h0, .inr (2, [.ref h1, .int len, .int (f_X4_wrongBit w len)])), (h1, .inl (cI, 4, .inl (f_X4_turn_w w (f_X4_wrongBit w len))))] H := hP
      have hD : va_D A [(h0, .inr (2, [.ref h1, .int len, .int (f_X4_wrongBit w len)])), (h1, .inl (cI, 4, .inl (f_X4_turn_w w (f_X4_wrongBit w len))))] := hD
      refine lv_iconst (v := 1) hx hb dX4_putRight_35 (by decide) ?_
      exact wr_z hx hb hr hlocks hA hS (hP.eq (by simp only [f_X4_putRight_w, f_X4_putRight_tr, if_pos c_1, if_neg c_2])) (by decide) (by simp only [f_X4_putRight, if_pos c_1, if_neg c_2]) dX4_putRight_36
    · refine lv_iconst (v := 0) hx hb dX4_putRight_23 (by decide) ?_
      exact wr_z hx hb hr hlocks hA hS (hP.eq (by simp only [f_X4_putRight_w, f_X4_putRight_tr, if_pos c_1, if_pos c_2])) (by decide) (by simp only [f_X4_putRight, if_pos c_1, if_pos c_2]) dX4_putRight_24
  · refine lv_iconst (v := 1) hx hb dX4_putRight_11 (by decide) ?_
    exact wr_z hx hb hr hlocks hA hS (hP.eq (by simp only [f_X4_putRight_w, f_X4_putRight_tr, if_neg c_1])) (by decide) (by simp only [f_X4_putRight, if_neg c_1]) dX4_putRight_12

def f_X4_copy_w (w : Nat → Int32) (w2 : Nat → Int32) (len2 : Int32) (tr2 : Int32) : Nat → Int32 := (va_cpy w2 w 0 0 4)
def f_X4_copy_len (w : Nat → Int32) (w2 : Nat → Int32) (len2 : Int32) (tr2 : Int32) : Int32 := len2
def f_X4_copy_tr (w : Nat → Int32) (w2 : Nat → Int32) (len2 : Int32) (tr2 : Int32) : Int32 := tr2
set_option maxHeartbeats 4000000 in
set_option maxRecDepth 100000 in
theorem c_X4_copy (l : Launch) (D : va_G) (cI cJ cO : ClassId) (h0 : Nat) (h1 : Nat) (len : Int32) (tr : Int32) (w : Nat → Int32) (a0 : Nat) (g1 : Nat) (len2 : Int32) (tr2 : Int32) (w2 : Nat → Int32) : Wr l yX4_copy cX4_copy 2 none 1 24 [.ref h0, .ref a0] (fun U => B1 D cI cJ cO [(h0, .inr (2, [.ref h1, .int len, .int tr])), (h1, .inl (cI, 4, .inl w)), (a0, .inr (2, [.ref g1, .int len2, .int tr2])), (g1, .inl (cI, 4, .inl w2))] U ∧ True) D none [(h0, .inr (2, [.ref h1, .int len, .int tr])), (h1, .inl (cI, 4, .inl w)), (a0, .inr (2, [.ref g1, .int len2, .int tr2])), (g1, .inl (cI, 4, .inl w2))] [(h0, .inr (2, [.ref h1, .int (f_X4_copy_len w w2 len2 tr2), .int (f_X4_copy_tr w w2 len2 tr2)])), (h1, .inl (cI, 4, .inl (f_X4_copy_w w w2 len2 tr2))), (a0, .inr (2, [.ref g1, .int len2, .int tr2])), (g1, .inl (cI, 4, .inl w2))] := by
  refine Wr.of (by decide +kernel) (Nat.le_of_ble_eq_true rfl) ?_
  intro p e s m args below meth c hx hb hr hml hown htg hlocks A hA hP hK hD hX hS ls hl
  have hown : s.vm.findClass RX4 = some m.cls := hown
  have hl : lv_has ls 2 [(0, .ref h0), (1, .ref a0)] := hl
  refine lv_aload_n hx hb dX4_copy_0 rfl (lv_at hl 1 rfl) ?_
  refine va_get (D := D) (ci := 2) (v := .ref g1) (C := RX4) (T := TX4) (N := 3) hx hb htg inX4 hown hK hP 2 rfl rfl 0 (by decide) (htg _ fl_X4_11) (fun _ h9 => h9) rfl dX4_copy_1 ?_
  refine lv_iconst (v := 0) hx hb dX4_copy_4 (by decide) ?_
  refine lv_aload_n hx hb dX4_copy_5 rfl (lv_at hl 0 rfl) ?_
  refine va_get (D := D) (ci := 2) (v := .ref h1) (C := RX4) (T := TX4) (N := 3) hx hb htg inX4 hown hK hP 0 rfl rfl 0 (by decide) (htg _ fl_X4_11) (fun _ h9 => h9) rfl dX4_copy_6 ?_
  refine lv_iconst (v := 0) hx hb dX4_copy_9 (by decide) ?_
  refine lv_aload_n hx hb dX4_copy_10 rfl (lv_at hl 0 rfl) ?_
  refine va_get (D := D) (ci := 2) (v := .ref h1) (C := RX4) (T := TX4) (N := 3) hx hb htg inX4 hown hK hP 0 rfl rfl 0 (by decide) (htg _ fl_X4_11) (fun _ h9 => h9) rfl dX4_copy_11 ?_
  refine va_alen (v := 4) hx hb hK hP 1 0 rfl rfl rfl dX4_copy_14 ?_
  refine va_copyi (sp := 0) (dp := 0) (n := 4) hx hb (by rw [hml]; exact hl.1.symm) hown (htg _ ml_X4_26) (htg _ na_arraycopyName) (htg _ st_arraycopyName) (htg _ ini_J10) hK hP hD hS 3 1 0 0 rfl rfl rfl rfl rfl (by decide) (by decide) (by decide) (by decide) (by decide) (fun _ _ => rfl) (Nat.le_of_ble_eq_true rfl) (Nat.le_of_ble_eq_true rfl) dX4_copy_15 (fun H locs hP hD hS => ?_)
  have hP : va_P D vwCl [(h0, .inr (2, [.ref h1, .int len, .int tr])), (h1, .inl (cI, 4, .inl (va_cpy w2 w 0 0 4))), (a0, .inr (2, [.ref g1, .int len2, .int tr2])), (g1, .inl (cI, 4, .inl w2))] H := hP
  have hD : va_D A [(h0, .inr (2, [.ref h1, .int len, .int tr])), (h1, .inl (cI, 4, .inl (va_cpy w2 w 0 0 4))), (a0, .inr (2, [.ref g1, .int len2, .int tr2])), (g1, .inl (cI, 4, .inl w2))] := hD
  refine lv_aload_n hx hb dX4_copy_18 rfl (lv_at hl 0 rfl) ?_
  refine lv_aload_n hx hb dX4_copy_19 rfl (lv_at hl 1 rfl) ?_
  refine va_get (D := D) (ci := 2) (v := .int len2) (C := RX4) (T := TX4) (N := 3) hx hb htg inX4 hown hK hP 2 rfl rfl 1 (by decide) (htg _ fl_X4_15) (fun _ h9 => h9) rfl dX4_copy_20 ?_
  refine va_put (D := D) (ci := 2) (v := .int len2) (ty := .int) (C := RX4) (T := TX4) (N := 3) hx hb htg inX4 tyX4 tyX4_ok nmX4 hown hK hP hD hS 0 rfl rfl 1 (by decide) (htg _ fl_X4_15) (fun _ h9 => h9) rfl (by decide +kernel) rfl rfl (Nat.le_of_ble_eq_true rfl) dX4_copy_23 (fun H locs hP hD hS => ?_)
  have hP : va_P D vwCl [(h0, .inr (2, [.ref h1, .int len2, .int tr])), (h1, .inl (cI, 4, .inl (va_cpy w2 w 0 0 4))), (a0, .inr (2, [.ref g1, .int len2, .int tr2])), (g1, .inl (cI, 4, .inl w2))] H := hP
  have hD : va_D A [(h0, .inr (2, [.ref h1, .int len2, .int tr])), (h1, .inl (cI, 4, .inl (va_cpy w2 w 0 0 4))), (a0, .inr (2, [.ref g1, .int len2, .int tr2])), (g1, .inl (cI, 4, .inl w2))] := hD
  refine lv_aload_n hx hb dX4_copy_26 rfl (lv_at hl 0 rfl) ?_
  refine lv_aload_n hx hb dX4_copy_27 rfl (lv_at hl 1 rfl) ?_
  refine va_get (D := D) (ci := 2) (v := .int tr2) (C := RX4) (T := TX4) (N := 3) hx hb htg inX4 hown hK hP 2 rfl rfl 2 (by decide) (htg _ fl_X4_19) (fun _ h9 => h9) rfl dX4_copy_28 ?_
  refine va_put (D := D) (ci := 2) (v := .int tr2) (ty := .int) (C := RX4) (T := TX4) (N := 3) hx hb htg inX4 tyX4 tyX4_ok nmX4 hown hK hP hD hS 0 rfl rfl 2 (by decide) (htg _ fl_X4_19) (fun _ h9 => h9) rfl (by decide +kernel) rfl rfl (Nat.le_of_ble_eq_true rfl) dX4_copy_31 (fun H locs hP hD hS => ?_)
  have hP : va_P D vwCl [(h0, .inr (2, [.ref h1, .int len2, .int tr2])), (h1, .inl (cI, 4, .inl (va_cpy w2 w 0 0 4))), (a0, .inr (2, [.ref g1, .int len2, .int tr2])), (g1, .inl (cI, 4, .inl w2))] H := hP
  have hD : va_D A [(h0, .inr (2, [.ref h1, .int len2, .int tr2])), (h1, .inl (cI, 4, .inl (va_cpy w2 w 0 0 4))), (a0, .inr (2, [.ref g1, .int len2, .int tr2])), (g1, .inl (cI, 4, .inl w2))] := hD
  exact wr_v hx hb hr hlocks hA hS (hP.eq (by simp only [f_X4_copy_w, f_X4_copy_len, f_X4_copy_tr])) dX4_copy_34
