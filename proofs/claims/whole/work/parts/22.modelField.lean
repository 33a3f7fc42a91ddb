/-! the reference: field -/
def f_X6_field_x52 (hd : Nat → Int32) : Int32 := (if (f_X6_number hd (1 : Int32) (5 : Int32)) = (4 : Int32) then (1 : Int32) else (if (f_X6_number hd (1 : Int32) (5 : Int32)) = (5 : Int32) then (1 : Int32) else (if (f_X6_number hd (1 : Int32) (5 : Int32)) = (20 : Int32) then (1 : Int32) else (if (f_X6_number hd (1 : Int32) (5 : Int32)) = (21 : Int32) then (1 : Int32) else (0 : Int32)))))
def f_X6_field_x69 (hd : Nat → Int32) : Int32 := (if (f_X6_number hd (1 : Int32) (5 : Int32)) = 0 then (1 : Int32) else (if (f_X6_number hd (1 : Int32) (5 : Int32)) = (16 : Int32) then (1 : Int32) else (0 : Int32)))
def f_X6_field_x88 (hd : Nat → Int32) : Int32 := (if (f_X6_number hd (1 : Int32) (5 : Int32)) = (17 : Int32) then (1 : Int32) else (if (f_X6_number hd (1 : Int32) (5 : Int32)) = (18 : Int32) then (1 : Int32) else (0 : Int32)))
def f_X6_field (hd : Nat → Int32) (hsz : Int32) (hsy : Int32) (hrt : Int32) (a0 : Int32) : Int32 := (if hsz = 0 then (-1 : Int32) else (if a0 = (0 : Int32) then (f_X6_number hd (1 : Int32) (5 : Int32)) else (if a0 = (1 : Int32) then (if (f_X6_isSquitter (f_X6_number hd (1 : Int32) (5 : Int32))) = 0 then (-1 : Int32) else (f_X6_number hd (6 : Int32) (8 : Int32))) else (if a0 = (2 : Int32) then (if (f_X6_field_x52 hd) = 0 then (-1 : Int32) else (f_X6_number hd (6 : Int32) (8 : Int32))) else (if a0 = (3 : Int32) then (if (f_X6_field_x52 hd) = 0 then (-1 : Int32) else (f_X6_number hd (9 : Int32) (13 : Int32))) else (if a0 = (4 : Int32) then (if (f_X6_field_x52 hd) = 0 then (-1 : Int32) else (f_X6_number hd (14 : Int32) (19 : Int32))) else (if a0 = (5 : Int32) then (if (f_X6_field_x69 hd) = 0 then (-1 : Int32) else (f_X6_number hd (6 : Int32) (6 : Int32))) else (if a0 = (6 : Int32) then (if (f_X6_number hd (1 : Int32) (5 : Int32)) = 0 then (f_X6_number hd (7 : Int32) (7 : Int32)) else (-1 : Int32)) else (if a0 = (7 : Int32) then (if (f_X6_field_x69 hd) = 0 then (-1 : Int32) else (f_X6_number hd (9 : Int32) (11 : Int32))) else (if a0 = (8 : Int32) then (if (f_X6_field_x69 hd) = 0 then (-1 : Int32) else (f_X6_number hd (14 : Int32) (17 : Int32))) else (if a0 = (9 : Int32) then (if (f_X6_field_x69 hd) = 0 then (if (f_X6_number hd (1 : Int32) (5 : Int32)) = (4 : Int32) then (f_X6_number hd (20 : Int32) (32 : Int32)) else (if (f_X6_number hd (1 : Int32) (5 : Int32)) = (20 : Int32) then (f_X6_number hd (20 : Int32) (32 : Int32)) else (-1 : Int32))) else (f_X6_number hd (20 : Int32) (32 : Int32))) else (if a0 = (10 : Int32) then (if (f_X6_number hd (1 : Int32) (5 : Int32)) = (5 : Int32) then (f_X6_number hd (20 : Int32) (32 : Int32)) else (if (f_X6_number hd (1 : Int32) (5 : Int32)) = (21 : Int32) then (f_X6_number hd (20 : Int32) (32 : Int32)) else (-1 : Int32))) else (if a0 = (11 : Int32) then (if (f_X6_isSquitter (f_X6_number hd (1 : Int32) (5 : Int32))) = 0 then hsy else (f_X6_number hd (9 : Int32) (32 : Int32))) else (if a0 = (12 : Int32) then (if (f_X6_number hd (1 : Int32) (5 : Int32)) = (11 : Int32) then hsy else (-1 : Int32)) else (if a0 = (13 : Int32) then (if (f_X6_field_x88 hd) = 0 then (-1 : Int32) else (f_X6_number hd (33 : Int32) (37 : Int32))) else (if a0 = (14 : Int32) then (if (f_X6_field_x88 hd) = 0 then (-1 : Int32) else (f_X6_number hd (38 : Int32) (40 : Int32))) else (if a0 = (15 : Int32) then hrt else (-1 : Int32))))))))))))))))))
set_option maxHeartbeats 4000000 in
set_option maxRecDepth 100000 in
theorem c_X6_field (l : Launch) (D : va_G) (cI cJ cO : ClassId) (h0 : Nat) (h1 : Nat) (h2 : Nat) (mn : Int32) (lt : Int32) (h3 : Nat) (sz : Int32) (h4 : Nat) (hsz : Int32) (hsy : Int32) (hrt : Int32) (hpl : Int32) (ola : Int32) (olo : Int32) (lat : Int32) (lon : Int32) (bd : Nat → Int64) (rw : Nat → Int32) (bt : Nat → Int32) (hd : Nat → Int32) (a0 : Int32) : Rd l yX6_field cX6_field 7 (some .int) 1 25 [.ref h0, .int a0] (fun U => B0 D cI cJ cO [(h0, .inr (4, [.ref h1, .ref h2, .int mn, .int lt, .ref h3, .int sz, .ref h4, .int hsz, .int hsy, .int hrt, .int hpl, .int ola, .int olo, .int lat, .int lon])), (h1, .inl (cJ, 58, .inr (.inl bd))), (h2, .inl (cI, 800, .inl rw)), (h3, .inl (cI, 112, .inl bt)), (h4, .inl (cI, 112, .inl hd))] U) (some (.int (f_X6_field hd hsz hsy hrt a0))) := by
  refine Rd.of (by decide +kernel) (Nat.le_of_ble_eq_true rfl) ?_
  intro p e s m args below meth c hx hb hr hml hown htg hlocks hB ls hl
  obtain ⟨hP, hK⟩ := hB
  have hP : va_P D vwCl [(h0, .inr (4, [.ref h1, .ref h2, .int mn, .int lt, .ref h3, .int sz, .ref h4, .int hsz, .int hsy, .int hrt, .int hpl, .int ola, .int olo, .int lat, .int lon])), (h1, .inl (cJ, 58, .inr (.inl bd))), (h2, .inl (cI, 800, .inl rw)), (h3, .inl (cI, 112, .inl bt)), (h4, .inl (cI, 112, .inl hd))] s.heap := hP
  have hown : s.vm.findClass RX6 = some m.cls := hown
  have hl : lv_has ls 7 [(0, .ref h0), (1, .int a0)] := hl
  refine lv_aload_n hx hb dX6_field_0 rfl (lv_at hl 0 rfl) ?_
  refine va_get (D := D) (ci := 4) (v := .int hsz) (C := RX6) (T := TX6) (N := 15) hx hb htg inX6 hown hK hP 0 rfl rfl 7 (by decide) (htg _ fl_X6_304) (fun _ h9 => h9) rfl dX6_field_1 ?_
  refine lv_if_ne (tgt := 9) hx hb dX6_field_4 (by decide) (fun c_1 => ?_) (fun c_1 => ?_)
  · refine lv_aload_n hx hb dX6_field_9 rfl (lv_at hl 0 rfl) ?_
    refine lv_aload_n hx hb dX6_field_10 rfl (lv_at hl 0 rfl) ?_
    refine va_get (D := D) (ci := 4) (v := .ref h4) (C := RX6) (T := TX6) (N := 15) hx hb htg inX6 hown hK hP 0 rfl rfl 6 (by decide) (htg _ fl_X6_136) (fun _ h9 => h9) rfl dX6_field_11 ?_
    refine lv_iconst (v := 1) hx hb dX6_field_14 (by decide) ?_
    refine lv_iconst (v := 5) hx hb dX6_field_15 (by decide) ?_
    refine rV (As := [.ref h4, .int (1 : Int32), .int (5 : Int32)]) (rest := []) hx hb hml hown htg (c_X6_number l D cI cJ cO h4 hd h0 (1 : Int32) (5 : Int32) ⟨by decide, by decide, by decide⟩) Blind.b0 ml_X6_156 im_X6_number se_X6_number ini_X6 co_X6_number rfl dn_X6_number rfl (va_recv hK hP (ci := 4) (q0 := 0) rfl rfl) (fun U hU hW => ⟨by rw [hU]; exact hP.sub [4] rfl, va_K.moved hW.alike hK⟩) hl.1 rfl (Nat.le_of_ble_eq_true rfl) ⟨Nat.le_of_ble_eq_true rfl, Nat.le_of_ble_eq_true rfl⟩ ⟨Nat.le_of_ble_eq_true rfl, Nat.le_of_ble_eq_true rfl⟩ dX6_field_16 ?_
    refine lv_istore_n (lv' := [(2, .int (f_X6_number hd (1 : Int32) (5 : Int32))), (0, .ref h0), (1, .int a0)]) hx hb dX6_field_19 rfl hl (by decide) rfl (fun ls hl => ?_)
    refine lv_iload_n hx hb dX6_field_20 rfl (lv_at hl 0 rfl) ?_
    refine rS (As := [.int (f_X6_number hd (1 : Int32) (5 : Int32))]) (rest := []) hx hb hml hown htg (c_X6_isSquitter l (f_X6_number hd (1 : Int32) (5 : Int32))) Blind.tt ml_X6_298 st_X6_isSquitter ini_X6 co_X6_isSquitter dn_X6_isSquitter rfl (fun _ _ _ => trivial) hl.1 rfl (Nat.le_of_ble_eq_true rfl) ⟨Nat.le_of_ble_eq_true rfl, Nat.le_of_ble_eq_true rfl⟩ ⟨Nat.le_of_ble_eq_true rfl, Nat.le_of_ble_eq_true rfl⟩ dX6_field_21 ?_
    refine lv_istore_n (lv' := [(3, .int (f_X6_isSquitter (f_X6_number hd (1 : Int32) (5 : Int32)))), (2, .int (f_X6_number hd (1 : Int32) (5 : Int32))), (0, .ref h0), (1, .int a0)]) hx hb dX6_field_24 rfl hl (by decide) rfl (fun ls hl => ?_)
    refine lv_iload_n hx hb dX6_field_25 rfl (lv_at hl 1 rfl) ?_
    refine lv_iconst (v := 4) hx hb dX6_field_26 (by decide) ?_
    refine W.join (nL := 7) (lv := [(3, .int (f_X6_isSquitter (f_X6_number hd (1 : Int32) (5 : Int32)))), (2, .int (f_X6_number hd (1 : Int32) (5 : Int32))), (0, .ref h0), (1, .int a0)]) (pc2 := 52) (st2 := [.int (if (f_X6_number hd (1 : Int32) (5 : Int32)) = (4 : Int32) then (1 : Int32) else (if (f_X6_number hd (1 : Int32) (5 : Int32)) = (5 : Int32) then (1 : Int32) else (if (f_X6_number hd (1 : Int32) (5 : Int32)) = (20 : Int32) then (1 : Int32) else (if (f_X6_number hd (1 : Int32) (5 : Int32)) = (21 : Int32) then (1 : Int32) else (0 : Int32)))))]) (fun ls hl => ?_) (fun J => ?_)
    · refine lv_istore (lv' := [(4, .int (f_X6_field_x52 hd)), (3, .int (f_X6_isSquitter (f_X6_number hd (1 : Int32) (5 : Int32)))), (2, .int (f_X6_number hd (1 : Int32) (5 : Int32))), (0, .ref h0), (1, .int a0)]) hx hb dX6_field_52 hl (by decide) rfl (fun ls hl => ?_)
      refine lv_iload_n hx hb dX6_field_54 rfl (lv_at hl 2 rfl) ?_
      refine W.join (nL := 7) (lv := [(4, .int (f_X6_field_x52 hd)), (3, .int (f_X6_isSquitter (f_X6_number hd (1 : Int32) (5 : Int32)))), (2, .int (f_X6_number hd (1 : Int32) (5 : Int32))), (0, .ref h0), (1, .int a0)]) (pc2 := 69) (st2 := [.int (if (f_X6_number hd (1 : Int32) (5 : Int32)) = 0 then (1 : Int32) else (if (f_X6_number hd (1 : Int32) (5 : Int32)) = (16 : Int32) then (1 : Int32) else (0 : Int32)))]) (fun ls hl => ?_) (fun J => ?_)
      · refine lv_istore (lv' := [(5, .int (f_X6_field_x69 hd)), (4, .int (f_X6_field_x52 hd)), (3, .int (f_X6_isSquitter (f_X6_number hd (1 : Int32) (5 : Int32)))), (2, .int (f_X6_number hd (1 : Int32) (5 : Int32))), (0, .ref h0), (1, .int a0)]) hx hb dX6_field_69 hl (by decide) rfl (fun ls hl => ?_)
        refine lv_iload_n hx hb dX6_field_71 rfl (lv_at hl 3 rfl) ?_
        refine lv_bipush (v := 17) hx hb dX6_field_72 (by decide) ?_
        refine W.join (nL := 7) (lv := [(5, .int (f_X6_field_x69 hd)), (4, .int (f_X6_field_x52 hd)), (3, .int (f_X6_isSquitter (f_X6_number hd (1 : Int32) (5 : Int32)))), (2, .int (f_X6_number hd (1 : Int32) (5 : Int32))), (0, .ref h0), (1, .int a0)]) (pc2 := 88) (st2 := [.int (if (f_X6_number hd (1 : Int32) (5 : Int32)) = (17 : Int32) then (1 : Int32) else (if (f_X6_number hd (1 : Int32) (5 : Int32)) = (18 : Int32) then (1 : Int32) else (0 : Int32)))]) (fun ls hl => ?_) (fun J => ?_)
        · refine lv_istore (lv' := [(6, .int (f_X6_field_x88 hd)), (5, .int (f_X6_field_x69 hd)), (4, .int (f_X6_field_x52 hd)), (3, .int (f_X6_isSquitter (f_X6_number hd (1 : Int32) (5 : Int32)))), (2, .int (f_X6_number hd (1 : Int32) (5 : Int32))), (0, .ref h0), (1, .int a0)]) hx hb dX6_field_88 hl (by decide) rfl (fun ls hl => ?_)
          refine lv_iload_n hx hb dX6_field_90 rfl (lv_at hl 6 rfl) ?_
          by_cases c_2 : a0 = (0 : Int32)
          · refine lv_tableIn (off := 77) (tgt := 168) hx hb dX6_field_91 (by rw [c_2]; decide) (by rw [c_2]; decide) (by rw [c_2]; decide) (by decide) ?_
            refine lv_iload_n hx hb dX6_field_168 rfl (lv_at hl 4 rfl) ?_
            exact rd_i hx hb hr hlocks (by simp only [f_X6_field, if_neg c_1, if_pos c_2]) dX6_field_169
          · by_cases c_3 : a0 = (1 : Int32)
            · refine lv_tableIn (off := 79) (tgt := 170) hx hb dX6_field_91 (by rw [c_3]; decide) (by rw [c_3]; decide) (by rw [c_3]; decide) (by decide) ?_
              refine lv_iload_n hx hb dX6_field_170 rfl (lv_at hl 3 rfl) ?_
              refine lv_if_eq (tgt := 189) hx hb dX6_field_171 (by decide) (fun c_4 => ?_) (fun c_4 => ?_)
              · refine lv_iconst (v := (-1)) hx hb dX6_field_189 (by decide) ?_
                exact rd_i hx hb hr hlocks (by simp only [f_X6_field, if_neg c_1, if_neg c_2, if_pos c_3, if_pos c_4]) dX6_field_190
              · refine lv_aload_n hx hb dX6_field_174 rfl (lv_at hl 5 rfl) ?_
                refine lv_aload_n hx hb dX6_field_175 rfl (lv_at hl 5 rfl) ?_
                refine va_get (D := D) (ci := 4) (v := .ref h4) (C := RX6) (T := TX6) (N := 15) hx hb htg inX6 hown hK hP 0 rfl rfl 6 (by decide) (htg _ fl_X6_136) (fun _ h9 => h9) rfl dX6_field_176 ?_
                refine lv_bipush (v := 6) hx hb dX6_field_179 (by decide) ?_
                refine lv_bipush (v := 8) hx hb dX6_field_181 (by decide) ?_
                refine rV (As := [.ref h4, .int (6 : Int32), .int (8 : Int32)]) (rest := []) hx hb hml hown htg (c_X6_number l D cI cJ cO h4 hd h0 (6 : Int32) (8 : Int32) ⟨by decide, by decide, by decide⟩) Blind.b0 ml_X6_156 im_X6_number se_X6_number ini_X6 co_X6_number rfl dn_X6_number rfl (va_recv hK hP (ci := 4) (q0 := 0) rfl rfl) (fun U hU hW => ⟨by rw [hU]; exact hP.sub [4] rfl, va_K.moved hW.alike hK⟩) hl.1 rfl (Nat.le_of_ble_eq_true rfl) ⟨Nat.le_of_ble_eq_true rfl, Nat.le_of_ble_eq_true rfl⟩ ⟨Nat.le_of_ble_eq_true rfl, Nat.le_of_ble_eq_true rfl⟩ dX6_field_183 ?_
                refine lv_goto (tgt := 190) hx hb dX6_field_186 (by decide) ?_
                exact rd_i hx hb hr hlocks (by simp only [f_X6_field, if_neg c_1, if_neg c_2, if_pos c_3, if_neg c_4]) dX6_field_190
            · by_cases c_5 : a0 = (2 : Int32)
              · refine lv_tableIn (off := 100) (tgt := 191) hx hb dX6_field_91 (by rw [c_5]; decide) (by rw [c_5]; decide) (by rw [c_5]; decide) (by decide) ?_
                refine lv_iload hx hb dX6_field_191 (lv_at hl 2 rfl) ?_
                refine lv_if_eq (tgt := 211) hx hb dX6_field_193 (by decide) (fun c_6 => ?_) (fun c_6 => ?_)
                · refine lv_iconst (v := (-1)) hx hb dX6_field_211 (by decide) ?_
                  exact rd_i hx hb hr hlocks (by simp only [f_X6_field, if_neg c_1, if_neg c_2, if_neg c_3, if_pos c_5, if_pos c_6]) dX6_field_212
                · refine lv_aload_n hx hb dX6_field_196 rfl (lv_at hl 5 rfl) ?_
                  refine lv_aload_n hx hb dX6_field_197 rfl (lv_at hl 5 rfl) ?_
                  refine va_get (D := D) (ci := 4) (v := .ref h4) (C := RX6) (T := TX6) (N := 15) hx hb htg inX6 hown hK hP 0 rfl rfl 6 (by decide) (htg _ fl_X6_136) (fun _ h9 => h9) rfl dX6_field_198 ?_
                  refine lv_bipush (v := 6) hx hb dX6_field_201 (by decide) ?_
                  refine lv_bipush (v := 8) hx hb dX6_field_203 (by decide) ?_
                  refine rV (As := [.ref h4, .int (6 : Int32), .int (8 : Int32)]) (rest := []) hx hb hml hown htg (c_X6_number l D cI cJ cO h4 hd h0 (6 : Int32) (8 : Int32) ⟨by decide, by decide, by decide⟩) Blind.b0 ml_X6_156 im_X6_number se_X6_number ini_X6 co_X6_number rfl dn_X6_number rfl (va_recv hK hP (ci := 4) (q0 := 0) rfl rfl) (fun U hU hW => ⟨by rw [hU]; exact hP.sub [4] rfl, va_K.moved hW.alike hK⟩) hl.1 rfl (Nat.le_of_ble_eq_true rfl) ⟨Nat.le_of_ble_eq_true rfl, Nat.le_of_ble_eq_true rfl⟩ ⟨Nat.le_of_ble_eq_true rfl, Nat.le_of_ble_eq_true rfl⟩ dX6_field_205 ?_
                  refine lv_goto (tgt := 212) hx hb dX6_field_208 (by decide) ?_
                  exact rd_i hx hb hr hlocks (by simp only [f_X6_field, if_neg c_1, if_neg c_2, if_neg c_3, if_pos c_5, if_neg c_6]) dX6_field_212
              · by_cases c_7 : a0 = (3 : Int32)
                · refine lv_tableIn (off := 122) (tgt := 213) hx hb dX6_field_91 (by rw [c_7]; decide) (by rw [c_7]; decide) (by rw [c_7]; decide) (by decide) ?_
                  refine lv_iload hx hb dX6_field_213 (lv_at hl 2 rfl) ?_
                  refine lv_if_eq (tgt := 233) hx hb dX6_field_215 (by decide) (fun c_8 => ?_) (fun c_8 => ?_)
                  · refine lv_iconst (v := (-1)) hx hb dX6_field_233 (by decide) ?_
                    exact rd_i hx hb hr hlocks (by simp only [f_X6_field, if_neg c_1, if_neg c_2, if_neg c_3, if_neg c_5, if_pos c_7, if_pos c_8]) dX6_field_234
                  · refine lv_aload_n hx hb dX6_field_218 rfl (lv_at hl 5 rfl) ?_
                    refine lv_aload_n hx hb dX6_field_219 rfl (lv_at hl 5 rfl) ?_
                    refine va_get (D := D) (ci := 4) (v := .ref h4) (C := RX6) (T := TX6) (N := 15) hx hb htg inX6 hown hK hP 0 rfl rfl 6 (by decide) (htg _ fl_X6_136) (fun _ h9 => h9) rfl dX6_field_220 ?_
                    refine lv_bipush (v := 9) hx hb dX6_field_223 (by decide) ?_
                    refine lv_bipush (v := 13) hx hb dX6_field_225 (by decide) ?_
                    refine rV (As := [.ref h4, .int (9 : Int32), .int (13 : Int32)]) (rest := []) hx hb hml hown htg (c_X6_number l D cI cJ cO h4 hd h0 (9 : Int32) (13 : Int32) ⟨by decide, by decide, by decide⟩) Blind.b0 ml_X6_156 im_X6_number se_X6_number ini_X6 co_X6_number rfl dn_X6_number rfl (va_recv hK hP (ci := 4) (q0 := 0) rfl rfl) (fun U hU hW => ⟨by rw [hU]; exact hP.sub [4] rfl, va_K.moved hW.alike hK⟩) hl.1 rfl (Nat.le_of_ble_eq_true rfl) ⟨Nat.le_of_ble_eq_true rfl, Nat.le_of_ble_eq_true rfl⟩ ⟨Nat.le_of_ble_eq_true rfl, Nat.le_of_ble_eq_true rfl⟩ dX6_field_227 ?_
                    refine lv_goto (tgt := 234) hx hb dX6_field_230 (by decide) ?_
                    exact rd_i hx hb hr hlocks (by simp only [f_X6_field, if_neg c_1, if_neg c_2, if_neg c_3, if_neg c_5, if_pos c_7, if_neg c_8]) dX6_field_234
                · by_cases c_9 : a0 = (4 : Int32)
                  · refine lv_tableIn (off := 144) (tgt := 235) hx hb dX6_field_91 (by rw [c_9]; decide) (by rw [c_9]; decide) (by rw [c_9]; decide) (by decide) ?_
                    refine lv_iload hx hb dX6_field_235 (lv_at hl 2 rfl) ?_
                    refine lv_if_eq (tgt := 255) hx hb dX6_field_237 (by decide) (fun c_10 => ?_) (fun c_10 => ?_)
                    · refine lv_iconst (v := (-1)) hx hb dX6_field_255 (by decide) ?_
                      exact rd_i hx hb hr hlocks (by simp only [f_X6_field, if_neg c_1, if_neg c_2, if_neg c_3, if_neg c_5, if_neg c_7, if_pos c_9, if_pos c_10]) dX6_field_256
                    · refine lv_aload_n hx hb dX6_field_240 rfl (lv_at hl 5 rfl) ?_
                      refine lv_aload_n hx hb dX6_field_241 rfl (lv_at hl 5 rfl) ?_
                      refine va_get (D := D) (ci := 4) (v := .ref h4) (C := RX6) (T := TX6) (N := 15) hx hb htg inX6 hown hK hP 0 rfl rfl 6 (by decide) (htg _ fl_X6_136) (fun _ h9 => h9) rfl dX6_field_242 ?_
                      refine lv_bipush (v := 14) hx hb dX6_field_245 (by decide) ?_
                      refine lv_bipush (v := 19) hx hb dX6_field_247 (by decide) ?_
                      refine rV (As := [.ref h4, .int (14 : Int32), .int (19 : Int32)]) (rest := []) hx hb hml hown htg (c_X6_number l D cI cJ cO h4 hd h0 (14 : Int32) (19 : Int32) ⟨by decide, by decide, by decide⟩) Blind.b0 ml_X6_156 im_X6_number se_X6_number ini_X6 co_X6_number rfl dn_X6_number rfl (va_recv hK hP (ci := 4) (q0 := 0) rfl rfl) (fun U hU hW => ⟨by rw [hU]; exact hP.sub [4] rfl, va_K.moved hW.alike hK⟩) hl.1 rfl (Nat.le_of_ble_eq_true rfl) ⟨Nat.le_of_ble_eq_true rfl, Nat.le_of_ble_eq_true rfl⟩ ⟨Nat.le_of_ble_eq_true rfl, Nat.le_of_ble_eq_true rfl⟩ dX6_field_249 ?_
                      refine lv_goto (tgt := 256) hx hb dX6_field_252 (by decide) ?_
                      exact rd_i hx hb hr hlocks (by simp only [f_X6_field, if_neg c_1, if_neg c_2, if_neg c_3, if_neg c_5, if_neg c_7, if_pos c_9, if_neg c_10]) dX6_field_256
                  · by_cases c_11 : a0 = (5 : Int32)
                    · refine lv_tableIn (off := 166) (tgt := 257) hx hb dX6_field_91 (by rw [c_11]; decide) (by rw [c_11]; decide) (by rw [c_11]; decide) (by decide) ?_
                      refine lv_iload hx hb dX6_field_257 (lv_at hl 1 rfl) ?_
                      refine lv_if_eq (tgt := 277) hx hb dX6_field_259 (by decide) (fun c_12 => ?_) (fun c_12 => ?_)
                      · refine lv_iconst (v := (-1)) hx hb dX6_field_277 (by decide) ?_
                        exact rd_i hx hb hr hlocks (by simp only [f_X6_field, if_neg c_1, if_neg c_2, if_neg c_3, if_neg c_5, if_neg c_7, if_neg c_9, if_pos c_11, if_pos c_12]) dX6_field_278
                      · refine lv_aload_n hx hb dX6_field_262 rfl (lv_at hl 5 rfl) ?_
                        refine lv_aload_n hx hb dX6_field_263 rfl (lv_at hl 5 rfl) ?_
                        refine va_get (D := D) (ci := 4) (v := .ref h4) (C := RX6) (T := TX6) (N := 15) hx hb htg inX6 hown hK hP 0 rfl rfl 6 (by decide) (htg _ fl_X6_136) (fun _ h9 => h9) rfl dX6_field_264 ?_
                        refine lv_bipush (v := 6) hx hb dX6_field_267 (by decide) ?_
                        refine lv_bipush (v := 6) hx hb dX6_field_269 (by decide) ?_
                        refine rV (As := [.ref h4, .int (6 : Int32), .int (6 : Int32)]) (rest := []) hx hb hml hown htg (c_X6_number l D cI cJ cO h4 hd h0 (6 : Int32) (6 : Int32) ⟨by decide, by decide, by decide⟩) Blind.b0 ml_X6_156 im_X6_number se_X6_number ini_X6 co_X6_number rfl dn_X6_number rfl (va_recv hK hP (ci := 4) (q0 := 0) rfl rfl) (fun U hU hW => ⟨by rw [hU]; exact hP.sub [4] rfl, va_K.moved hW.alike hK⟩) hl.1 rfl (Nat.le_of_ble_eq_true rfl) ⟨Nat.le_of_ble_eq_true rfl, Nat.le_of_ble_eq_true rfl⟩ ⟨Nat.le_of_ble_eq_true rfl, Nat.le_of_ble_eq_true rfl⟩ dX6_field_271 ?_
                        refine lv_goto (tgt := 278) hx hb dX6_field_274 (by decide) ?_
                        exact rd_i hx hb hr hlocks (by simp only [f_X6_field, if_neg c_1, if_neg c_2, if_neg c_3, if_neg c_5, if_neg c_7, if_neg c_9, if_pos c_11, if_neg c_12]) dX6_field_278
                    · by_cases c_13 : a0 = (6 : Int32)
                      · refine lv_tableIn (off := 188) (tgt := 279) hx hb dX6_field_91 (by rw [c_13]; decide) (by rw [c_13]; decide) (by rw [c_13]; decide) (by decide) ?_
                        refine lv_iload_n hx hb dX6_field_279 rfl (lv_at hl 4 rfl) ?_
                        refine lv_if_ne (tgt := 298) hx hb dX6_field_280 (by decide) (fun c_14 => ?_) (fun c_14 => ?_)
                        · refine lv_iconst (v := (-1)) hx hb dX6_field_298 (by decide) ?_
                          exact rd_i hx hb hr hlocks (by simp only [f_X6_field, if_neg c_1, if_neg c_2, if_neg c_3, if_neg c_5, if_neg c_7, if_neg c_9, if_neg c_11, if_pos c_13, if_neg c_14]) dX6_field_299
                        · refine lv_aload_n hx hb dX6_field_283 rfl (lv_at hl 5 rfl) ?_
                          refine lv_aload_n hx hb dX6_field_284 rfl (lv_at hl 5 rfl) ?_
                          refine va_get (D := D) (ci := 4) (v := .ref h4) (C := RX6) (T := TX6) (N := 15) hx hb htg inX6 hown hK hP 0 rfl rfl 6 (by decide) (htg _ fl_X6_136) (fun _ h9 => h9) rfl dX6_field_285 ?_
                          refine lv_bipush (v := 7) hx hb dX6_field_288 (by decide) ?_
                          refine lv_bipush (v := 7) hx hb dX6_field_290 (by decide) ?_
                          refine rV (As := [.ref h4, .int (7 : Int32), .int (7 : Int32)]) (rest := []) hx hb hml hown htg (c_X6_number l D cI cJ cO h4 hd h0 (7 : Int32) (7 : Int32) ⟨by decide, by decide, by decide⟩) Blind.b0 ml_X6_156 im_X6_number se_X6_number ini_X6 co_X6_number rfl dn_X6_number rfl (va_recv hK hP (ci := 4) (q0 := 0) rfl rfl) (fun U hU hW => ⟨by rw [hU]; exact hP.sub [4] rfl, va_K.moved hW.alike hK⟩) hl.1 rfl (Nat.le_of_ble_eq_true rfl) ⟨Nat.le_of_ble_eq_true rfl, Nat.le_of_ble_eq_true rfl⟩ ⟨Nat.le_of_ble_eq_true rfl, Nat.le_of_ble_eq_true rfl⟩ dX6_field_292 ?_
                          refine lv_goto (tgt := 299) hx hb dX6_field_295 (by decide) ?_
                          exact rd_i hx hb hr hlocks (by simp only [f_X6_field, if_neg c_1, if_neg c_2, if_neg c_3, if_neg c_5, if_neg c_7, if_neg c_9, if_neg c_11, if_pos c_13, if_pos c_14]) dX6_field_299
                      · by_cases c_15 : a0 = (7 : Int32)
                        · refine lv_tableIn (off := 209) (tgt := 300) hx hb dX6_field_91 (by rw [c_15]; decide) (by rw [c_15]; decide) (by rw [c_15]; decide) (by decide) ?_
                          refine lv_iload hx hb dX6_field_300 (lv_at hl 1 rfl) ?_
                          refine lv_if_eq (tgt := 320) hx hb dX6_field_302 (by decide) (fun c_16 => ?_) (fun c_16 => ?_)
                          · refine lv_iconst (v := (-1)) hx hb dX6_field_320 (by decide) ?_
                            exact rd_i hx hb hr hlocks (by simp only [f_X6_field, if_neg c_1, if_neg c_2, if_neg c_3, if_neg c_5, if_neg c_7, if_neg c_9, if_neg c_11, if_neg c_13, if_pos c_15, if_pos c_16]) dX6_field_321
                          · refine lv_aload_n hx hb dX6_field_305 rfl (lv_at hl 5 rfl) ?_
                            refine lv_aload_n hx hb dX6_field_306 rfl (lv_at hl 5 rfl) ?_
                            refine va_get (D := D) (ci := 4) (v := .ref h4) (C := RX6) (T := TX6) (N := 15) hx hb htg inX6 hown hK hP 0 rfl rfl 6 (by decide) (htg _ fl_X6_136) (fun _ h9 => h9) rfl dX6_field_307 ?_
                            refine lv_bipush (v := 9) hx hb dX6_field_310 (by decide) ?_
                            refine lv_bipush (v := 11) hx hb dX6_field_312 (by decide) ?_
                            refine rV (As := [.ref h4, .int (9 : Int32), .int (11 : Int32)]) (rest := []) hx hb hml hown htg (c_X6_number l D cI cJ cO h4 hd h0 (9 : Int32) (11 : Int32) ⟨by decide, by decide, by decide⟩) Blind.b0 ml_X6_156 im_X6_number se_X6_number ini_X6 co_X6_number rfl dn_X6_number rfl (va_recv hK hP (ci := 4) (q0 := 0) rfl rfl) (fun U hU hW => ⟨by rw [hU]; exact hP.sub [4] rfl, va_K.moved hW.alike hK⟩) hl.1 rfl (Nat.le_of_ble_eq_true rfl) ⟨Nat.le_of_ble_eq_true rfl, Nat.le_of_ble_eq_true rfl⟩ ⟨Nat.le_of_ble_eq_true rfl, Nat.le_of_ble_eq_true rfl⟩ dX6_field_314 ?_
                            refine lv_goto (tgt := 321) hx hb dX6_field_317 (by decide) ?_
                            exact rd_i hx hb hr hlocks (by simp only [f_X6_field, if_neg c_1, if_neg c_2, if_neg c_3, if_neg c_5, if_neg c_7, if_neg c_9, if_neg c_11, if_neg c_13, if_pos c_15, if_neg c_16]) dX6_field_321
                        · by_cases c_17 : a0 = (8 : Int32)
                          · refine lv_tableIn (off := 231) (tgt := 322) hx hb dX6_field_91 (by rw [c_17]; decide) (by rw [c_17]; decide) (by rw [c_17]; decide) (by decide) ?_
                            refine lv_iload hx hb dX6_field_322 (lv_at hl 1 rfl) ?_
                            refine lv_if_eq (tgt := 342) hx hb dX6_field_324 (by decide) (fun c_18 => ?_) (fun c_18 => ?_)
                            · refine lv_iconst (v := (-1)) hx hb dX6_field_342 (by decide) ?_
                              exact rd_i hx hb hr hlocks (by simp only [f_X6_field, if_neg c_1, if_neg c_2, if_neg c_3, if_neg c_5, if_neg c_7, if_neg c_9, if_neg c_11, if_neg c_13, if_neg c_15, if_pos c_17, if_pos c_18]) dX6_field_343
                            · refine lv_aload_n hx hb dX6_field_327 rfl (lv_at hl 5 rfl) ?_
                              refine lv_aload_n hx hb dX6_field_328 rfl (lv_at hl 5 rfl) ?_
                              refine va_get (D := D) (ci := 4) (v := .ref h4) (C := RX6) (T := TX6) (N := 15) hx hb htg inX6 hown hK hP 0 rfl rfl 6 (by decide) (htg _ fl_X6_136) (fun _ h9 => h9) rfl dX6_field_329 ?_
                              refine lv_bipush (v := 14) hx hb dX6_field_332 (by decide) ?_
                              refine lv_bipush (v := 17) hx hb dX6_field_334 (by decide) ?_
                              refine rV (As := [.ref h4, .int (14 : Int32), .int (17 : Int32)]) (rest := []) hx hb hml hown htg (c_X6_number l D cI cJ cO h4 hd h0 (14 : Int32) (17 : Int32) ⟨by decide, by decide, by decide⟩) Blind.b0 ml_X6_156 im_X6_number se_X6_number ini_X6 co_X6_number rfl dn_X6_number rfl (va_recv hK hP (ci := 4) (q0 := 0) rfl rfl) (fun U hU hW => ⟨by rw [hU]; exact hP.sub [4] rfl, va_K.moved hW.alike hK⟩) hl.1 rfl (Nat.le_of_ble_eq_true rfl) ⟨Nat.le_of_ble_eq_true rfl, Nat.le_of_ble_eq_true rfl⟩ ⟨Nat.le_of_ble_eq_true rfl, Nat.le_of_ble_eq_true rfl⟩ dX6_field_336 ?_
                              refine lv_goto (tgt := 343) hx hb dX6_field_339 (by decide) ?_
                              exact rd_i hx hb hr hlocks (by simp only [f_X6_field, if_neg c_1, if_neg c_2, if_neg c_3, if_neg c_5, if_neg c_7, if_neg c_9, if_neg c_11, if_neg c_13, if_neg c_15, if_pos c_17, if_neg c_18]) dX6_field_343
                          · by_cases c_19 : a0 = (9 : Int32)
                            · refine lv_tableIn (off := 253) (tgt := 344) hx hb dX6_field_91 (by rw [c_19]; decide) (by rw [c_19]; decide) (by rw [c_19]; decide) (by decide) ?_
                              refine lv_iload hx hb dX6_field_344 (lv_at hl 1 rfl) ?_
                              refine lv_if_ne (tgt := 360) hx hb dX6_field_346 (by decide) (fun c_20 => ?_) (fun c_20 => ?_)
                              · refine lv_aload_n hx hb dX6_field_360 rfl (lv_at hl 5 rfl) ?_
                                refine lv_aload_n hx hb dX6_field_361 rfl (lv_at hl 5 rfl) ?_
                                refine va_get (D := D) (ci := 4) (v := .ref h4) (C := RX6) (T := TX6) (N := 15) hx hb htg inX6 hown hK hP 0 rfl rfl 6 (by decide) (htg _ fl_X6_136) (fun _ h9 => h9) rfl dX6_field_362 ?_
                                refine lv_bipush (v := 20) hx hb dX6_field_365 (by decide) ?_
                                refine lv_bipush (v := 32) hx hb dX6_field_367 (by decide) ?_
                                refine rV (As := [.ref h4, .int (20 : Int32), .int (32 : Int32)]) (rest := []) hx hb hml hown htg (c_X6_number l D cI cJ cO h4 hd h0 (20 : Int32) (32 : Int32) ⟨by decide, by decide, by decide⟩) Blind.b0 ml_X6_156 im_X6_number se_X6_number ini_X6 co_X6_number rfl dn_X6_number rfl (va_recv hK hP (ci := 4) (q0 := 0) rfl rfl) (fun U hU hW => ⟨by rw [hU]; exact hP.sub [4] rfl, va_K.moved hW.alike hK⟩) hl.1 rfl (Nat.le_of_ble_eq_true rfl) ⟨Nat.le_of_ble_eq_true rfl, Nat.le_of_ble_eq_true rfl⟩ ⟨Nat.le_of_ble_eq_true rfl, Nat.le_of_ble_eq_true rfl⟩ dX6_field_369 ?_
                                refine lv_goto (tgt := 376) hx hb dX6_field_372 (by decide) ?_
                                exact rd_i hx hb hr hlocks (by simp only [f_X6_field, if_neg c_1, if_neg c_2, if_neg c_3, if_neg c_5, if_neg c_7, if_neg c_9, if_neg c_11, if_neg c_13, if_neg c_15, if_neg c_17, if_pos c_19, if_neg c_20]) dX6_field_376
                              · refine lv_iload_n hx hb dX6_field_349 rfl (lv_at hl 4 rfl) ?_
                                refine lv_iconst (v := 4) hx hb dX6_field_350 (by decide) ?_
                                refine lv_icmp_eq (tgt := 360) hx hb dX6_field_351 (by decide) (fun c_21 => ?_) (fun c_21 => ?_)
                                · refine lv_aload_n hx hb dX6_field_360 rfl (lv_at hl 5 rfl) ?_
                                  refine lv_aload_n hx hb dX6_field_361 rfl (lv_at hl 5 rfl) ?_
                                  refine va_get (D := D) (ci := 4) (v := .ref h4) (C := RX6) (T := TX6) (N := 15) hx hb htg inX6 hown hK hP 0 rfl rfl 6 (by decide) (htg _ fl_X6_136) (fun _ h9 => h9) rfl dX6_field_362 ?_
                                  refine lv_bipush (v := 20) hx hb dX6_field_365 (by decide) ?_
                                  refine lv_bipush (v := 32) hx hb dX6_field_367 (by decide) ?_
                                  refine rV (As := [.ref h4, .int (20 : Int32), .int (32 : Int32)]) (rest := []) hx hb hml hown htg (c_X6_number l D cI cJ cO h4 hd h0 (20 : Int32) (32 : Int32) ⟨by decide, by decide, by decide⟩) Blind.b0 ml_X6_156 im_X6_number se_X6_number ini_X6 co_X6_number rfl dn_X6_number rfl (va_recv hK hP (ci := 4) (q0 := 0) rfl rfl) (fun U hU hW => ⟨by rw [hU]; exact hP.sub [4] rfl, va_K.moved hW.alike hK⟩) hl.1 rfl (Nat.le_of_ble_eq_true rfl) ⟨Nat.le_of_ble_eq_true rfl, Nat.le_of_ble_eq_true rfl⟩ ⟨Nat.le_of_ble_eq_true rfl, Nat.le_of_ble_eq_true rfl⟩ dX6_field_369 ?_
                                  refine lv_goto (tgt := 376) hx hb dX6_field_372 (by decide) ?_
                                  exact rd_i hx hb hr hlocks (by simp only [f_X6_field, if_neg c_1, if_neg c_2, if_neg c_3, if_neg c_5, if_neg c_7, if_neg c_9, if_neg c_11, if_neg c_13, if_neg c_15, if_neg c_17, if_pos c_19, if_pos c_20, if_pos c_21]) dX6_field_376
                                · refine lv_iload_n hx hb dX6_field_354 rfl (lv_at hl 4 rfl) ?_
                                  refine lv_bipush (v := 20) hx hb dX6_field_355 (by decide) ?_
                                  refine lv_icmp_ne (tgt := 375) hx hb dX6_field_357 (by decide) (fun c_22 => ?_) (fun c_22 => ?_)
                                  · refine lv_iconst (v := (-1)) hx hb dX6_field_375 (by decide) ?_
                                    exact rd_i hx hb hr hlocks (by simp only [f_X6_field, if_neg c_1, if_neg c_2, if_neg c_3, if_neg c_5, if_neg c_7, if_neg c_9, if_neg c_11, if_neg c_13, if_neg c_15, if_neg c_17, if_pos c_19, if_pos c_20, if_neg c_21, if_neg c_22]) dX6_field_376
                                  · refine lv_aload_n hx hb dX6_field_360 rfl (lv_at hl 5 rfl) ?_
                                    refine lv_aload_n hx hb dX6_field_361 rfl (lv_at hl 5 rfl) ?_
                                    refine va_get (D := D) (ci := 4) (v := .ref h4) (C := RX6) (T := TX6) (N := 15) hx hb htg inX6 hown hK hP 0 rfl rfl 6 (by decide) (htg _ fl_X6_136) (fun _ h9 => h9) rfl dX6_field_362 ?_
                                    refine lv_bipush (v := 20) hx hb dX6_field_365 (by decide) ?_
                                    refine lv_bipush (v := 32) hx hb dX6_field_367 (by decide) ?_
                                    refine rV (As := [.ref h4, .int (20 : Int32), .int (32 : Int32)]) (rest := []) hx hb hml hown htg (c_X6_number l D cI cJ cO h4 hd h0 (20 : Int32) (32 : Int32) ⟨by decide, by decide, by decide⟩) Blind.b0 ml_X6_156 im_X6_number se_X6_number ini_X6 co_X6_number rfl dn_X6_number rfl (va_recv hK hP (ci := 4) (q0 := 0) rfl rfl) (fun U hU hW => ⟨by rw [hU]; exact hP.sub [4] rfl, va_K.moved hW.alike hK⟩) hl.1 rfl (Nat.le_of_ble_eq_true rfl) ⟨Nat.le_of_ble_eq_true rfl, Nat.le_of_ble_eq_true rfl⟩ ⟨Nat.le_of_ble_eq_true rfl, Nat.le_of_ble_eq_true rfl⟩ dX6_field_369 ?_
                                    refine lv_goto (tgt := 376) hx hb dX6_field_372 (by decide) ?_
                                    exact rd_i hx hb hr hlocks (by simp only [f_X6_field, if_neg c_1, if_neg c_2, if_neg c_3, if_neg c_5, if_neg c_7, if_neg c_9, if_neg c_11, if_neg c_13, if_neg c_15, if_neg c_17, if_pos c_19, if_pos c_20, if_neg c_21, if_pos c_22]) dX6_field_376
                            · by_cases c_23 : a0 = (10 : Int32)
                              · refine lv_tableIn (off := 286) (tgt := 377) hx hb dX6_field_91 (by rw [c_23]; decide) (by rw [c_23]; decide) (by rw [c_23]; decide) (by decide) ?_
                                refine lv_iload_n hx hb dX6_field_377 rfl (lv_at hl 4 rfl) ?_
                                refine lv_iconst (v := 5) hx hb dX6_field_378 (by decide) ?_
                                refine lv_icmp_eq (tgt := 388) hx hb dX6_field_379 (by decide) (fun c_24 => ?_) (fun c_24 => ?_)
                                · refine lv_aload_n hx hb dX6_field_388 rfl (lv_at hl 5 rfl) ?_
                                  refine lv_aload_n hx hb dX6_field_389 rfl (lv_at hl 5 rfl) ?_
                                  refine va_get (D := D) (ci := 4) (v := .ref h4) (C := RX6) (T := TX6) (N := 15) hx hb htg inX6 hown hK hP 0 rfl rfl 6 (by decide) (htg _ fl_X6_136) (fun _ h9 => h9) rfl dX6_field_390 ?_
                                  refine lv_bipush (v := 20) hx hb dX6_field_393 (by decide) ?_
                                  refine lv_bipush (v := 32) hx hb dX6_field_395 (by decide) ?_
                                  refine rV (As := [.ref h4, .int (20 : Int32), .int (32 : Int32)]) (rest := []) hx hb hml hown htg (c_X6_number l D cI cJ cO h4 hd h0 (20 : Int32) (32 : Int32) ⟨by decide, by decide, by decide⟩) Blind.b0 ml_X6_156 im_X6_number se_X6_number ini_X6 co_X6_number rfl dn_X6_number rfl (va_recv hK hP (ci := 4) (q0 := 0) rfl rfl) (fun U hU hW => ⟨by rw [hU]; exact hP.sub [4] rfl, va_K.moved hW.alike hK⟩) hl.1 rfl (Nat.le_of_ble_eq_true rfl) ⟨Nat.le_of_ble_eq_true rfl, Nat.le_of_ble_eq_true rfl⟩ ⟨Nat.le_of_ble_eq_true rfl, Nat.le_of_ble_eq_true rfl⟩ dX6_field_397 ?_
                                  refine lv_goto (tgt := 404) hx hb dX6_field_400 (by decide) ?_
                                  exact rd_i hx hb hr hlocks (by simp only [f_X6_field, if_neg c_1, if_neg c_2, if_neg c_3, if_neg c_5, if_neg c_7, if_neg c_9, if_neg c_11, if_neg c_13, if_neg c_15, if_neg c_17, if_neg c_19, if_pos c_23, if_pos c_24]) dX6_field_404
                                · refine lv_iload_n hx hb dX6_field_382 rfl (lv_at hl 4 rfl) ?_
                                  refine lv_bipush (v := 21) hx hb dX6_field_383 (by decide) ?_
                                  refine lv_icmp_ne (tgt := 403) hx hb dX6_field_385 (by decide) (fun c_25 => ?_) (fun c_25 => ?_)
                                  · refine lv_iconst (v := (-1)) hx hb dX6_field_403 (by decide) ?_
                                    exact rd_i hx hb hr hlocks (by simp only [f_X6_field, if_neg c_1, if_neg c_2, if_neg c_3, if_neg c_5, if_neg c_7, if_neg c_9, if_neg c_11, if_neg c_13, if_neg c_15, if_neg c_17, if_neg c_19, if_pos c_23, if_neg c_24, if_neg c_25]) dX6_field_404
                                  · refine lv_aload_n hx hb dX6_field_388 rfl (lv_at hl 5 rfl) ?_
                                    refine lv_aload_n hx hb dX6_field_389 rfl (lv_at hl 5 rfl) ?_
                                    refine va_get (D := D) (ci := 4) (v := .ref h4) (C := RX6) (T := TX6) (N := 15) hx hb htg inX6 hown hK hP 0 rfl rfl 6 (by decide) (htg _ fl_X6_136) (fun _ h9 => h9) rfl dX6_field_390 ?_
                                    refine lv_bipush (v := 20) hx hb dX6_field_393 (by decide) ?_
                                    refine lv_bipush (v := 32) hx hb dX6_field_395 (by decide) ?_
                                    refine rV (As := [.ref h4, .int (20 : Int32), .int (32 : Int32)]) (rest := []) hx hb hml hown htg (c_X6_number l D cI cJ cO h4 hd h0 (20 : Int32) (32 : Int32) ⟨by decide, by decide, by decide⟩) Blind.b0 ml_X6_156 im_X6_number se_X6_number ini_X6 co_X6_number rfl dn_X6_number rfl (va_recv hK hP (ci := 4) (q0 := 0) rfl rfl) (fun U hU hW => ⟨by rw [hU]; exact hP.sub [4] rfl, va_K.moved hW.alike hK⟩) hl.1 rfl (Nat.le_of_ble_eq_true rfl) ⟨Nat.le_of_ble_eq_true rfl, Nat.le_of_ble_eq_true rfl⟩ ⟨Nat.le_of_ble_eq_true rfl, Nat.le_of_ble_eq_true rfl⟩ dX6_field_397 ?_
                                    refine lv_goto (tgt := 404) hx hb dX6_field_400 (by decide) ?_
                                    exact rd_i hx hb hr hlocks (by simp only [f_X6_field, if_neg c_1, if_neg c_2, if_neg c_3, if_neg c_5, if_neg c_7, if_neg c_9, if_neg c_11, if_neg c_13, if_neg c_15, if_neg c_17, if_neg c_19, if_pos c_23, if_neg c_24, if_pos c_25]) dX6_field_404
                              · by_cases c_26 : a0 = (11 : Int32)
                                · refine lv_tableIn (off := 314) (tgt := 405) hx hb dX6_field_91 (by rw [c_26]; decide) (by rw [c_26]; decide) (by rw [c_26]; decide) (by decide) ?_
                                  refine lv_iload_n hx hb dX6_field_405 rfl (lv_at hl 3 rfl) ?_
                                  refine lv_if_eq (tgt := 424) hx hb dX6_field_406 (by decide) (fun c_27 => ?_) (fun c_27 => ?_)
                                  · refine lv_aload_n hx hb dX6_field_424 rfl (lv_at hl 5 rfl) ?_
                                    refine va_get (D := D) (ci := 4) (v := .int hsy) (C := RX6) (T := TX6) (N := 15) hx hb htg inX6 hown hK hP 0 rfl rfl 8 (by decide) (htg _ fl_X6_307) (fun _ h9 => h9) rfl dX6_field_425 ?_
                                    exact rd_i hx hb hr hlocks (by simp only [f_X6_field, if_neg c_1, if_neg c_2, if_neg c_3, if_neg c_5, if_neg c_7, if_neg c_9, if_neg c_11, if_neg c_13, if_neg c_15, if_neg c_17, if_neg c_19, if_neg c_23, if_pos c_26, if_pos c_27]) dX6_field_428
                                  · refine lv_aload_n hx hb dX6_field_409 rfl (lv_at hl 5 rfl) ?_
                                    refine lv_aload_n hx hb dX6_field_410 rfl (lv_at hl 5 rfl) ?_
                                    refine va_get (D := D) (ci := 4) (v := .ref h4) (C := RX6) (T := TX6) (N := 15) hx hb htg inX6 hown hK hP 0 rfl rfl 6 (by decide) (htg _ fl_X6_136) (fun _ h9 => h9) rfl dX6_field_411 ?_
                                    refine lv_bipush (v := 9) hx hb dX6_field_414 (by decide) ?_
                                    refine lv_bipush (v := 32) hx hb dX6_field_416 (by decide) ?_
                                    refine rV (As := [.ref h4, .int (9 : Int32), .int (32 : Int32)]) (rest := []) hx hb hml hown htg (c_X6_number l D cI cJ cO h4 hd h0 (9 : Int32) (32 : Int32) ⟨by decide, by decide, by decide⟩) Blind.b0 ml_X6_156 im_X6_number se_X6_number ini_X6 co_X6_number rfl dn_X6_number rfl (va_recv hK hP (ci := 4) (q0 := 0) rfl rfl) (fun U hU hW => ⟨by rw [hU]; exact hP.sub [4] rfl, va_K.moved hW.alike hK⟩) hl.1 rfl (Nat.le_of_ble_eq_true rfl) ⟨Nat.le_of_ble_eq_true rfl, Nat.le_of_ble_eq_true rfl⟩ ⟨Nat.le_of_ble_eq_true rfl, Nat.le_of_ble_eq_true rfl⟩ dX6_field_418 ?_
                                    refine lv_goto (tgt := 428) hx hb dX6_field_421 (by decide) ?_
                                    exact rd_i hx hb hr hlocks (by simp only [f_X6_field, if_neg c_1, if_neg c_2, if_neg c_3, if_neg c_5, if_neg c_7, if_neg c_9, if_neg c_11, if_neg c_13, if_neg c_15, if_neg c_17, if_neg c_19, if_neg c_23, if_pos c_26, if_neg c_27]) dX6_field_428
                                · by_cases c_28 : a0 = (12 : Int32)
                                  · refine lv_tableIn (off := 338) (tgt := 429) hx hb dX6_field_91 (by rw [c_28]; decide) (by rw [c_28]; decide) (by rw [c_28]; decide) (by decide) ?_
                                    refine lv_iload_n hx hb dX6_field_429 rfl (lv_at hl 4 rfl) ?_
                                    refine lv_bipush (v := 11) hx hb dX6_field_430 (by decide) ?_
                                    refine lv_icmp_ne (tgt := 442) hx hb dX6_field_432 (by decide) (fun c_29 => ?_) (fun c_29 => ?_)
                                    · refine lv_iconst (v := (-1)) hx hb dX6_field_442 (by decide) ?_
                                      exact rd_i hx hb hr hlocks (by simp only [f_X6_field, if_neg c_1, if_neg c_2, if_neg c_3, if_neg c_5, if_neg c_7, if_neg c_9, if_neg c_11, if_neg c_13, if_neg c_15, if_neg c_17, if_neg c_19, if_neg c_23, if_neg c_26, if_pos c_28, if_neg c_29]) dX6_field_443
                                    · refine lv_aload_n hx hb dX6_field_435 rfl (lv_at hl 5 rfl) ?_
                                      refine va_get (D := D) (ci := 4) (v := .int hsy) (C := RX6) (T := TX6) (N := 15) hx hb htg inX6 hown hK hP 0 rfl rfl 8 (by decide) (htg _ fl_X6_307) (fun _ h9 => h9) rfl dX6_field_436 ?_
                                      refine lv_goto (tgt := 443) hx hb dX6_field_439 (by decide) ?_
                                      exact rd_i hx hb hr hlocks (by simp only [f_X6_field, if_neg c_1, if_neg c_2, if_neg c_3, if_neg c_5, if_neg c_7, if_neg c_9, if_neg c_11, if_neg c_13, if_neg c_15, if_neg c_17, if_neg c_19, if_neg c_23, if_neg c_26, if_pos c_28, if_pos c_29]) dX6_field_443
                                  · by_cases c_30 : a0 = (13 : Int32)
                                    · refine lv_tableIn (off := 353) (tgt := 444) hx hb dX6_field_91 (by rw [c_30]; decide) (by rw [c_30]; decide) (by rw [c_30]; decide) (by decide) ?_
                                      refine lv_iload hx hb dX6_field_444 (lv_at hl 0 rfl) ?_
                                      refine lv_if_eq (tgt := 464) hx hb dX6_field_446 (by decide) (fun c_31 => ?_) (fun c_31 => ?_)
                                      · refine lv_iconst (v := (-1)) hx hb dX6_field_464 (by decide) ?_
                                        exact rd_i hx hb hr hlocks (by simp only [f_X6_field, if_neg c_1, if_neg c_2, if_neg c_3, if_neg c_5, if_neg c_7, if_neg c_9, if_neg c_11, if_neg c_13, if_neg c_15, if_neg c_17, if_neg c_19, if_neg c_23, if_neg c_26, if_neg c_28, if_pos c_30, if_pos c_31]) dX6_field_465
                                      · refine lv_aload_n hx hb dX6_field_449 rfl (lv_at hl 5 rfl) ?_
                                        refine lv_aload_n hx hb dX6_field_450 rfl (lv_at hl 5 rfl) ?_
                                        refine va_get (D := D) (ci := 4) (v := .ref h4) (C := RX6) (T := TX6) (N := 15) hx hb htg inX6 hown hK hP 0 rfl rfl 6 (by decide) (htg _ fl_X6_136) (fun _ h9 => h9) rfl dX6_field_451 ?_
                                        refine lv_bipush (v := 33) hx hb dX6_field_454 (by decide) ?_
                                        refine lv_bipush (v := 37) hx hb dX6_field_456 (by decide) ?_
                                        refine rV (As := [.ref h4, .int (33 : Int32), .int (37 : Int32)]) (rest := []) hx hb hml hown htg (c_X6_number l D cI cJ cO h4 hd h0 (33 : Int32) (37 : Int32) ⟨by decide, by decide, by decide⟩) Blind.b0 ml_X6_156 im_X6_number se_X6_number ini_X6 co_X6_number rfl dn_X6_number rfl (va_recv hK hP (ci := 4) (q0 := 0) rfl rfl) (fun U hU hW => ⟨by rw [hU]; exact hP.sub [4] rfl, va_K.moved hW.alike hK⟩) hl.1 rfl (Nat.le_of_ble_eq_true rfl) ⟨Nat.le_of_ble_eq_true rfl, Nat.le_of_ble_eq_true rfl⟩ ⟨Nat.le_of_ble_eq_true rfl, Nat.le_of_ble_eq_true rfl⟩ dX6_field_458 ?_
                                        refine lv_goto (tgt := 465) hx hb dX6_field_461 (by decide) ?_
                                        exact rd_i hx hb hr hlocks (by simp only [f_X6_field, if_neg c_1, if_neg c_2, if_neg c_3, if_neg c_5, if_neg c_7, if_neg c_9, if_neg c_11, if_neg c_13, if_neg c_15, if_neg c_17, if_neg c_19, if_neg c_23, if_neg c_26, if_neg c_28, if_pos c_30, if_neg c_31]) dX6_field_465
                                    · by_cases c_32 : a0 = (14 : Int32)
                                      · refine lv_tableIn (off := 375) (tgt := 466) hx hb dX6_field_91 (by rw [c_32]; decide) (by rw [c_32]; decide) (by rw [c_32]; decide) (by decide) ?_
                                        refine lv_iload hx hb dX6_field_466 (lv_at hl 0 rfl) ?_
                                        refine lv_if_eq (tgt := 486) hx hb dX6_field_468 (by decide) (fun c_33 => ?_) (fun c_33 => ?_)
                                        · refine lv_iconst (v := (-1)) hx hb dX6_field_486 (by decide) ?_
                                          exact rd_i hx hb hr hlocks (by simp only [f_X6_field, if_neg c_1, if_neg c_2, if_neg c_3, if_neg c_5, if_neg c_7, if_neg c_9, if_neg c_11, if_neg c_13, if_neg c_15, if_neg c_17, if_neg c_19, if_neg c_23, if_neg c_26, if_neg c_28, if_neg c_30, if_pos c_32, if_pos c_33]) dX6_field_487
                                        · refine lv_aload_n hx hb dX6_field_471 rfl (lv_at hl 5 rfl) ?_
                                          refine lv_aload_n hx hb dX6_field_472 rfl (lv_at hl 5 rfl) ?_
                                          refine va_get (D := D) (ci := 4) (v := .ref h4) (C := RX6) (T := TX6) (N := 15) hx hb htg inX6 hown hK hP 0 rfl rfl 6 (by decide) (htg _ fl_X6_136) (fun _ h9 => h9) rfl dX6_field_473 ?_
                                          refine lv_bipush (v := 38) hx hb dX6_field_476 (by decide) ?_
                                          refine lv_bipush (v := 40) hx hb dX6_field_478 (by decide) ?_
                                          refine rV (As := [.ref h4, .int (38 : Int32), .int (40 : Int32)]) (rest := []) hx hb hml hown htg (c_X6_number l D cI cJ cO h4 hd h0 (38 : Int32) (40 : Int32) ⟨by decide, by decide, by decide⟩) Blind.b0 ml_X6_156 im_X6_number se_X6_number ini_X6 co_X6_number rfl dn_X6_number rfl (va_recv hK hP (ci := 4) (q0 := 0) rfl rfl) (fun U hU hW => ⟨by rw [hU]; exact hP.sub [4] rfl, va_K.moved hW.alike hK⟩) hl.1 rfl (Nat.le_of_ble_eq_true rfl) ⟨Nat.le_of_ble_eq_true rfl, Nat.le_of_ble_eq_true rfl⟩ ⟨Nat.le_of_ble_eq_true rfl, Nat.le_of_ble_eq_true rfl⟩ dX6_field_480 ?_
                                          refine lv_goto (tgt := 487) hx hb dX6_field_483 (by decide) ?_
                                          exact rd_i hx hb hr hlocks (by simp only [f_X6_field, if_neg c_1, if_neg c_2, if_neg c_3, if_neg c_5, if_neg c_7, if_neg c_9, if_neg c_11, if_neg c_13, if_neg c_15, if_neg c_17, if_neg c_19, if_neg c_23, if_neg c_26, if_neg c_28, if_neg c_30, if_pos c_32, if_neg c_33]) dX6_field_487
                                      · by_cases c_34 : a0 = (15 : Int32)
                                        · refine lv_tableIn (off := 397) (tgt := 488) hx hb dX6_field_91 (by rw [c_34]; decide) (by rw [c_34]; decide) (by rw [c_34]; decide) (by decide) ?_
                                          refine lv_aload_n hx hb dX6_field_488 rfl (lv_at hl 5 rfl) ?_
                                          refine va_get (D := D) (ci := 4) (v := .int hrt) (C := RX6) (T := TX6) (N := 15) hx hb htg inX6 hown hK hP 0 rfl rfl 9 (by decide) (htg _ fl_X6_139) (fun _ h9 => h9) rfl dX6_field_489 ?_
                                          exact rd_i hx hb hr hlocks (by simp only [f_X6_field, if_neg c_1, if_neg c_2, if_neg c_3, if_neg c_5, if_neg c_7, if_neg c_9, if_neg c_11, if_neg c_13, if_neg c_15, if_neg c_17, if_neg c_19, if_neg c_23, if_neg c_26, if_neg c_28, if_neg c_30, if_neg c_32, if_pos c_34]) dX6_field_492
                                        · refine lv_tableOut (tgt := 493) hx hb dX6_field_91 (by have h0 := lv_neT (a := 0) c_2 rfl; have h1 := lv_neT (a := 1) c_3 rfl; have h2 := lv_neT (a := 2) c_5 rfl; have h3 := lv_neT (a := 3) c_7 rfl; have h4 := lv_neT (a := 4) c_9 rfl; have h5 := lv_neT (a := 5) c_11 rfl; have h6 := lv_neT (a := 6) c_13 rfl; have h7 := lv_neT (a := 7) c_15 rfl; have h8 := lv_neT (a := 8) c_17 rfl; have h9 := lv_neT (a := 9) c_19 rfl; have h10 := lv_neT (a := 10) c_23 rfl; have h11 := lv_neT (a := 11) c_26 rfl; have h12 := lv_neT (a := 12) c_28 rfl; have h13 := lv_neT (a := 13) c_30 rfl; have h14 := lv_neT (a := 14) c_32 rfl; have h15 := lv_neT (a := 15) c_34 rfl; omega) (by decide) ?_
                                          refine lv_iconst (v := (-1)) hx hb dX6_field_493 (by decide) ?_
                                          exact rd_i hx hb hr hlocks (by simp only [f_X6_field, if_neg c_1, if_neg c_2, if_neg c_3, if_neg c_5, if_neg c_7, if_neg c_9, if_neg c_11, if_neg c_13, if_neg c_15, if_neg c_17, if_neg c_19, if_neg c_23, if_neg c_26, if_neg c_28, if_neg c_30, if_neg c_32, if_neg c_34]) dX6_field_494
        · refine lv_icmp_eq (tgt := 83) hx hb dX6_field_74 (by decide) (fun c_35 => ?_) (fun c_35 => ?_)
          · refine lv_iconst (v := 1) hx hb dX6_field_83 (by decide) ?_
            refine lv_goto (tgt := 88) hx hb dX6_field_84 (by decide) ?_
            exact W.eq (by first | simp only [if_pos c_35] | rfl) (J ls (lv_sub hl [0, 1, 2, 3, 4, 5] rfl))
          · refine lv_iload_n hx hb dX6_field_77 rfl (lv_at hl 3 rfl) ?_
            refine lv_bipush (v := 18) hx hb dX6_field_78 (by decide) ?_
            refine lv_icmp_ne (tgt := 87) hx hb dX6_field_80 (by decide) (fun c_36 => ?_) (fun c_36 => ?_)
            · refine lv_iconst (v := 0) hx hb dX6_field_87 (by decide) ?_
              exact W.eq (by first | simp only [if_neg c_35, if_neg c_36] | rfl) (J ls (lv_sub hl [0, 1, 2, 3, 4, 5] rfl))
            · refine lv_iconst (v := 1) hx hb dX6_field_83 (by decide) ?_
              refine lv_goto (tgt := 88) hx hb dX6_field_84 (by decide) ?_
              exact W.eq (by first | simp only [if_neg c_35, if_pos c_36] | rfl) (J ls (lv_sub hl [0, 1, 2, 3, 4, 5] rfl))
      · refine lv_if_eq (tgt := 64) hx hb dX6_field_55 (by decide) (fun c_37 => ?_) (fun c_37 => ?_)
        · refine lv_iconst (v := 1) hx hb dX6_field_64 (by decide) ?_
          refine lv_goto (tgt := 69) hx hb dX6_field_65 (by decide) ?_
          exact W.eq (by first | simp only [if_pos c_37] | rfl) (J ls (lv_sub hl [0, 1, 2, 3, 4] rfl))
        · refine lv_iload_n hx hb dX6_field_58 rfl (lv_at hl 2 rfl) ?_
          refine lv_bipush (v := 16) hx hb dX6_field_59 (by decide) ?_
          refine lv_icmp_ne (tgt := 68) hx hb dX6_field_61 (by decide) (fun c_38 => ?_) (fun c_38 => ?_)
          · refine lv_iconst (v := 0) hx hb dX6_field_68 (by decide) ?_
            exact W.eq (by first | simp only [if_neg c_37, if_neg c_38] | rfl) (J ls (lv_sub hl [0, 1, 2, 3, 4] rfl))
          · refine lv_iconst (v := 1) hx hb dX6_field_64 (by decide) ?_
            refine lv_goto (tgt := 69) hx hb dX6_field_65 (by decide) ?_
            exact W.eq (by first | simp only [if_neg c_37, if_pos c_38] | rfl) (J ls (lv_sub hl [0, 1, 2, 3, 4] rfl))
    · refine lv_icmp_eq (tgt := 47) hx hb dX6_field_27 (by decide) (fun c_39 => ?_) (fun c_39 => ?_)
      · refine lv_iconst (v := 1) hx hb dX6_field_47 (by decide) ?_
        refine lv_goto (tgt := 52) hx hb dX6_field_48 (by decide) ?_
        exact W.eq (by first | simp only [if_pos c_39] | rfl) (J ls (lv_sub hl [0, 1, 2, 3] rfl))
      · refine lv_iload_n hx hb dX6_field_30 rfl (lv_at hl 1 rfl) ?_
        refine lv_iconst (v := 5) hx hb dX6_field_31 (by decide) ?_
        refine lv_icmp_eq (tgt := 47) hx hb dX6_field_32 (by decide) (fun c_40 => ?_) (fun c_40 => ?_)
        · refine lv_iconst (v := 1) hx hb dX6_field_47 (by decide) ?_
          refine lv_goto (tgt := 52) hx hb dX6_field_48 (by decide) ?_
          exact W.eq (by first | simp only [if_neg c_39, if_pos c_40] | rfl) (J ls (lv_sub hl [0, 1, 2, 3] rfl))
        · refine lv_iload_n hx hb dX6_field_35 rfl (lv_at hl 1 rfl) ?_
          refine lv_bipush (v := 20) hx hb dX6_field_36 (by decide) ?_
          refine lv_icmp_eq (tgt := 47) hx hb dX6_field_38 (by decide) (fun c_41 => ?_) (fun c_41 => ?_)
          · refine lv_iconst (v := 1) hx hb dX6_field_47 (by decide) ?_
            refine lv_goto (tgt := 52) hx hb dX6_field_48 (by decide) ?_
            exact W.eq (by first | simp only [if_neg c_39, if_neg c_40, if_pos c_41] | rfl) (J ls (lv_sub hl [0, 1, 2, 3] rfl))
          · refine lv_iload_n hx hb dX6_field_41 rfl (lv_at hl 1 rfl) ?_
            refine lv_bipush (v := 21) hx hb dX6_field_42 (by decide) ?_
            refine lv_icmp_ne (tgt := 51) hx hb dX6_field_44 (by decide) (fun c_42 => ?_) (fun c_42 => ?_)
            · refine lv_iconst (v := 0) hx hb dX6_field_51 (by decide) ?_
              exact W.eq (by first | simp only [if_neg c_39, if_neg c_40, if_neg c_41, if_neg c_42] | rfl) (J ls (lv_sub hl [0, 1, 2, 3] rfl))
            · refine lv_iconst (v := 1) hx hb dX6_field_47 (by decide) ?_
              refine lv_goto (tgt := 52) hx hb dX6_field_48 (by decide) ?_
              exact W.eq (by first | simp only [if_neg c_39, if_neg c_40, if_neg c_41, if_pos c_42] | rfl) (J ls (lv_sub hl [0, 1, 2, 3] rfl))
  · refine lv_iconst (v := (-1)) hx hb dX6_field_7 (by decide) ?_
    exact rd_i hx hb hr hlocks (by simp only [f_X6_field, if_pos c_1]) dX6_field_8
