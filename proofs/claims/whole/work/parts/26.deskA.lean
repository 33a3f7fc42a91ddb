/-! the class itself, but for hear -/
theorem write_rng (w : Nat → Int32) (a0 a1 a2 a3 : Int32) : 0 ≤ (f_X4_write_len w a0 a1 a2 a3).toInt ∧ (f_X4_write_len w a0 a1 a2 a3).toInt ≤ 112 := by
  unfold f_X4_write_len
  split <;> decide
theorem fs_lp {size : Int32} {S : Nat → CR} {a0 : Int32} (hs : 0 ≤ size.toInt ∧ size.toInt ≤ 20) : ∀ (n : Nat) (i j : Int32) (g : Nat → Nat), Up n i size ∧ 0 ≤ i.toInt ∧ 0 ≤ j.toInt ∧ j.toInt ≤ i.toInt → (∀ k, k < 20 → g k < 20) → (0 ≤ (f_X0_forgetSilent_lp_size size S a0 n i j g).toInt ∧ (f_X0_forgetSilent_lp_size size S a0 n i j g).toInt ≤ size.toInt) ∧ ∀ k, k < 20 → f_X0_forgetSilent_lp_pi size S a0 n i j g k < 20 := by
  intro n
  induction n with
  | zero =>
    intro i j g hi hg
    refine ⟨?_, ?_⟩
    · simp only [f_X0_forgetSilent_lp_size]
      have := hi.1.1
      omega
    · simpa only [f_X0_forgetSilent_lp_pi] using hg
  | succ n ih =>
    intro i j g hi hg
    simp only [f_X0_forgetSilent_lp_size, f_X0_forgetSilent_lp_pi]
    split
    · exact ih _ _ _ (ages_nx0 hi hs) hg
    · exact ih _ _ _ (ages_nx1 hi hs) (fs_sw hs hi hg)
theorem fs_both {size : Int32} {pi : Nat → Nat} (S : Nat → CR) (a0 : Int32) (hs : 0 ≤ size.toInt ∧ size.toInt ≤ 20) (hpi : ∀ k, k < 20 → pi k < 20) : (0 ≤ (f_X0_forgetSilent_size size pi S a0).toInt ∧ (f_X0_forgetSilent_size size pi S a0).toInt ≤ 20) ∧ ∀ k, k < 20 → f_X0_forgetSilent_pi size pi S a0 k < 20 := by
  have h := fs_lp (S := S) (a0 := a0) hs size.toNatClampNeg 0 0 pi ⟨⟨by have := clamp hs.1; rw [i0]; omega, by decide, by have := hs.2; omega⟩, by decide, by decide, by decide⟩ hpi
  unfold f_X0_forgetSilent_size f_X0_forgetSilent_pi
  exact ⟨⟨h.1.1, by have := h.1.2; omega⟩, h.2⟩
def f_X5_syndrome (dw : Nat → Int32) (a0 : Int32) (a1 : Int32) (a2 : Int32) (a3 : Int32) : Int32 := (f_X4_remainder (f_X4_write_w dw a0 a1 a2 a3) (f_X4_write_len dw a0 a1 a2 a3))
def f_X5_syndrome_dw (dw : Nat → Int32) (a0 : Int32) (a1 : Int32) (a2 : Int32) (a3 : Int32) : Nat → Int32 := (f_X4_write_w dw a0 a1 a2 a3)
def f_X5_syndrome_dlen (dw : Nat → Int32) (a0 : Int32) (a1 : Int32) (a2 : Int32) (a3 : Int32) : Int32 := (f_X4_write_len dw a0 a1 a2 a3)
def f_X5_syndrome_dtr (dw : Nat → Int32) (a0 : Int32) (a1 : Int32) (a2 : Int32) (a3 : Int32) : Int32 := (f_X4_write_tr dw a0 a1 a2 a3)
set_option maxHeartbeats 4000000 in
set_option maxRecDepth 100000 in
theorem c_X5_syndrome (l : Launch) (D : va_G) (cI cJ cO : ClassId) (h0 : Nat) (d0 : Nat) (l0 : Nat) (b0 : Nat) (own : Int64) (clk : Int32) (d1 : Nat) (dlen : Int32) (dtr : Int32) (dw : Nat → Int32) (l1 : Nat) (llen : Int32) (ltr : Int32) (lw : Nat → Int32) (r0 : Nat) (size : Int32) (pad : Nat → Nat → Nat) (pi : Nat → Nat) (S : Nat → CR) (a0 : Int32) (a1 : Int32) (a2 : Int32) (a3 : Int32) : Wr l yX5_syndrome cX5_syndrome 5 (some .int) 2 44 [.ref h0, .int a0, .int a1, .int a2, .int a3] (fun U => B1 D cI cJ cO ([(h0, .inr (3, [.ref d0, .ref l0, .ref b0, .long own, .int clk])), (d0, .inr (2, [.ref d1, .int dlen, .int dtr])), (d1, .inl (cI, 4, .inl dw)), (l0, .inr (2, [.ref l1, .int llen, .int ltr])), (l1, .inl (cI, 4, .inl lw)), (b0, .inr (0, [.ref r0, .int size])), (r0, .inl (cO, 20, .inr (.inr (.inr (.inr (rsf pad pi))))))] ++ Pool pad cI cJ S) U ∧ True) D (some (.int (f_X5_syndrome dw a0 a1 a2 a3))) ([(h0, .inr (3, [.ref d0, .ref l0, .ref b0, .long own, .int clk])), (d0, .inr (2, [.ref d1, .int dlen, .int dtr])), (d1, .inl (cI, 4, .inl dw)), (l0, .inr (2, [.ref l1, .int llen, .int ltr])), (l1, .inl (cI, 4, .inl lw)), (b0, .inr (0, [.ref r0, .int size])), (r0, .inl (cO, 20, .inr (.inr (.inr (.inr (rsf pad pi))))))] ++ Pool pad cI cJ S) ([(h0, .inr (3, [.ref d0, .ref l0, .ref b0, .long own, .int clk])), (d0, .inr (2, [.ref d1, .int (f_X5_syndrome_dlen dw a0 a1 a2 a3), .int (f_X5_syndrome_dtr dw a0 a1 a2 a3)])), (d1, .inl (cI, 4, .inl (f_X5_syndrome_dw dw a0 a1 a2 a3))), (l0, .inr (2, [.ref l1, .int llen, .int ltr])), (l1, .inl (cI, 4, .inl lw)), (b0, .inr (0, [.ref r0, .int size])), (r0, .inl (cO, 20, .inr (.inr (.inr (.inr (rsf pad pi))))))] ++ Pool pad cI cJ S) := by
  refine Wr.of (by decide +kernel) (Nat.le_of_ble_eq_true rfl) ?_
  intro p e s m args below meth c hx hb hr hml hown htg hlocks A hA hP hK hD hX hS ls hl
  have hown : s.vm.findClass RX5 = some m.cls := hown
  have hl : lv_has ls 5 [(0, .ref h0), (1, .int a0), (2, .int a1), (3, .int a2), (4, .int a3)] := hl
  refine lv_aload_n hx hb dX5_syndrome_0 rfl (lv_at hl 0 rfl) ?_
  refine va_get (D := D) (ci := 3) (v := .ref d0) (C := RX5) (T := TX5) (N := 5) hx hb htg inX5 hown hK hP 0 rfl rfl 0 (by decide) (htg _ fl_X5_10) (fun _ h9 => h9) rfl dX5_syndrome_1 ?_
  refine lv_iload_n hx hb dX5_syndrome_4 rfl (lv_at hl 1 rfl) ?_
  refine lv_iload_n hx hb dX5_syndrome_5 rfl (lv_at hl 2 rfl) ?_
  refine lv_iload_n hx hb dX5_syndrome_6 rfl (lv_at hl 3 rfl) ?_
  refine lv_iload hx hb dX5_syndrome_7 (lv_at hl 4 rfl) ?_
  refine wV (As := [.int a0, .int a1, .int a2, .int a3]) (rest := []) hx hb hml hown htg (c_X4_write l D cI cJ cO d0 d1 dlen dtr dw a0 a1 a2 a3) (Blind.and Blind.b1 Blind.tt) ml_X5_36 im_X4_write se_X4_write ini_X4 co_X4_write rfl dn_X4_write rfl (va_recv hK hP (ci := 2) (q0 := 1) rfl rfl) (fun U hU hW => ⟨⟨by rw [hU]; exact hP.sub [1, 2] rfl, va_K.moved hW.alike hK, (hD.sub [1, 2] (by decide) rfl).weaken (fun _ _ _ _ => trivial)⟩, trivial⟩) hl.1 rfl (Nat.le_of_ble_eq_true rfl) ⟨Nat.le_of_ble_eq_true rfl, Nat.le_of_ble_eq_true rfl⟩ ⟨Nat.le_of_ble_eq_true rfl, Nat.le_of_ble_eq_true rfl⟩ dX5_syndrome_9 hP hD hS [1, 2] rfl (Eq.trans (b := [d0, d1]) rfl rfl) (fun H locs hP hD hS => ?_)
  have hP : va_P D vwCl ([(h0, .inr (3, [.ref d0, .ref l0, .ref b0, .long own, .int clk])), (d0, .inr (2, [.ref d1, .int (f_X4_write_len dw a0 a1 a2 a3), .int (f_X4_write_tr dw a0 a1 a2 a3)])), (d1, .inl (cI, 4, .inl (f_X4_write_w dw a0 a1 a2 a3))), (l0, .inr (2, [.ref l1, .int llen, .int ltr])), (l1, .inl (cI, 4, .inl lw)), (b0, .inr (0, [.ref r0, .int size])), (r0, .inl (cO, 20, .inr (.inr (.inr (.inr (rsf pad pi))))))] ++ Pool pad cI cJ S) H := hP
  have hD : va_D A ([(h0, .inr (3, [.ref d0, .ref l0, .ref b0, .long own, .int clk])), (d0, .inr (2, [.ref d1, .int (f_X4_write_len dw a0 a1 a2 a3), .int (f_X4_write_tr dw a0 a1 a2 a3)])), (d1, .inl (cI, 4, .inl (f_X4_write_w dw a0 a1 a2 a3))), (l0, .inr (2, [.ref l1, .int llen, .int ltr])), (l1, .inl (cI, 4, .inl lw)), (b0, .inr (0, [.ref r0, .int size])), (r0, .inl (cO, 20, .inr (.inr (.inr (.inr (rsf pad pi))))))] ++ Pool pad cI cJ S) := hD
  refine W.eq (g2 := F0 m 12 ls []) rfl ?_
  refine lv_aload_n hx hb dX5_syndrome_12 rfl (lv_at hl 0 rfl) ?_
  refine va_get (D := D) (ci := 3) (v := .ref d0) (C := RX5) (T := TX5) (N := 5) hx hb htg inX5 hown hK hP 0 rfl rfl 0 (by decide) (htg _ fl_X5_10) (fun _ h9 => h9) rfl dX5_syndrome_13 ?_
  refine rV (As := []) (rest := []) hx hb hml hown htg (c_X4_remainder l D cI cJ cO d0 d1 (f_X4_write_len dw a0 a1 a2 a3) (f_X4_write_tr dw a0 a1 a2 a3) (f_X4_write_w dw a0 a1 a2 a3) (write_rng dw a0 a1 a2 a3)) Blind.b0 ml_X5_40 im_X4_remainder se_X4_remainder ini_X4 co_X4_remainder rfl dn_X4_remainder rfl (va_recv hK hP (ci := 2) (q0 := 1) rfl rfl) (fun U hU hW => ⟨by rw [hU]; exact hP.sub [1, 2] rfl, va_K.moved hW.alike hK⟩) hl.1 rfl (Nat.le_of_ble_eq_true rfl) ⟨Nat.le_of_ble_eq_true rfl, Nat.le_of_ble_eq_true rfl⟩ ⟨Nat.le_of_ble_eq_true rfl, Nat.le_of_ble_eq_true rfl⟩ dX5_syndrome_16 ?_
  exact wr_i hx hb hr hlocks hA hS (hP.eq (by simp only [f_X5_syndrome_dw, f_X5_syndrome_dlen, f_X5_syndrome_dtr])) (by simp only [f_X5_syndrome]) dX5_syndrome_19

def f_X5_repair (dw : Nat → Int32) (a0 : Int32) (a1 : Int32) (a2 : Int32) (a3 : Int32) : Int32 := (f_X4_wrongBit (f_X4_write_w dw a0 a1 a2 a3) (f_X4_write_len dw a0 a1 a2 a3))
def f_X5_repair_dw (dw : Nat → Int32) (a0 : Int32) (a1 : Int32) (a2 : Int32) (a3 : Int32) : Nat → Int32 := (f_X4_write_w dw a0 a1 a2 a3)
def f_X5_repair_dlen (dw : Nat → Int32) (a0 : Int32) (a1 : Int32) (a2 : Int32) (a3 : Int32) : Int32 := (f_X4_write_len dw a0 a1 a2 a3)
def f_X5_repair_dtr (dw : Nat → Int32) (a0 : Int32) (a1 : Int32) (a2 : Int32) (a3 : Int32) : Int32 := (f_X4_write_tr dw a0 a1 a2 a3)
set_option maxHeartbeats 4000000 in
set_option maxRecDepth 100000 in
theorem c_X5_repair (l : Launch) (D : va_G) (cI cJ cO : ClassId) (h0 : Nat) (d0 : Nat) (l0 : Nat) (b0 : Nat) (own : Int64) (clk : Int32) (d1 : Nat) (dlen : Int32) (dtr : Int32) (dw : Nat → Int32) (l1 : Nat) (llen : Int32) (ltr : Int32) (lw : Nat → Int32) (r0 : Nat) (size : Int32) (pad : Nat → Nat → Nat) (pi : Nat → Nat) (S : Nat → CR) (a0 : Int32) (a1 : Int32) (a2 : Int32) (a3 : Int32) : Wr l yX5_repair cX5_repair 5 (some .int) 6 131 [.ref h0, .int a0, .int a1, .int a2, .int a3] (fun U => B1 D cI cJ cO ([(h0, .inr (3, [.ref d0, .ref l0, .ref b0, .long own, .int clk])), (d0, .inr (2, [.ref d1, .int dlen, .int dtr])), (d1, .inl (cI, 4, .inl dw)), (l0, .inr (2, [.ref l1, .int llen, .int ltr])), (l1, .inl (cI, 4, .inl lw)), (b0, .inr (0, [.ref r0, .int size])), (r0, .inl (cO, 20, .inr (.inr (.inr (.inr (rsf pad pi))))))] ++ Pool pad cI cJ S) U ∧ True) D (some (.int (f_X5_repair dw a0 a1 a2 a3))) ([(h0, .inr (3, [.ref d0, .ref l0, .ref b0, .long own, .int clk])), (d0, .inr (2, [.ref d1, .int dlen, .int dtr])), (d1, .inl (cI, 4, .inl dw)), (l0, .inr (2, [.ref l1, .int llen, .int ltr])), (l1, .inl (cI, 4, .inl lw)), (b0, .inr (0, [.ref r0, .int size])), (r0, .inl (cO, 20, .inr (.inr (.inr (.inr (rsf pad pi))))))] ++ Pool pad cI cJ S) ([(h0, .inr (3, [.ref d0, .ref l0, .ref b0, .long own, .int clk])), (d0, .inr (2, [.ref d1, .int (f_X5_repair_dlen dw a0 a1 a2 a3), .int (f_X5_repair_dtr dw a0 a1 a2 a3)])), (d1, .inl (cI, 4, .inl (f_X5_repair_dw dw a0 a1 a2 a3))), (l0, .inr (2, [.ref l1, .int llen, .int ltr])), (l1, .inl (cI, 4, .inl lw)), (b0, .inr (0, [.ref r0, .int size])), (r0, .inl (cO, 20, .inr (.inr (.inr (.inr (rsf pad pi))))))] ++ Pool pad cI cJ S) := by
  refine Wr.of (by decide +kernel) (Nat.le_of_ble_eq_true rfl) ?_
  intro p e s m args below meth c hx hb hr hml hown htg hlocks A hA hP hK hD hX hS ls hl
  have hown : s.vm.findClass RX5 = some m.cls := hown
  have hl : lv_has ls 5 [(0, .ref h0), (1, .int a0), (2, .int a1), (3, .int a2), (4, .int a3)] := hl
  refine lv_aload_n hx hb dX5_repair_0 rfl (lv_at hl 0 rfl) ?_
  refine va_get (D := D) (ci := 3) (v := .ref d0) (C := RX5) (T := TX5) (N := 5) hx hb htg inX5 hown hK hP 0 rfl rfl 0 (by decide) (htg _ fl_X5_10) (fun _ h9 => h9) rfl dX5_repair_1 ?_
  refine lv_iload_n hx hb dX5_repair_4 rfl (lv_at hl 1 rfl) ?_
  refine lv_iload_n hx hb dX5_repair_5 rfl (lv_at hl 2 rfl) ?_
  refine lv_iload_n hx hb dX5_repair_6 rfl (lv_at hl 3 rfl) ?_
  refine lv_iload hx hb dX5_repair_7 (lv_at hl 4 rfl) ?_
  refine wV (As := [.int a0, .int a1, .int a2, .int a3]) (rest := []) hx hb hml hown htg (c_X4_write l D cI cJ cO d0 d1 dlen dtr dw a0 a1 a2 a3) (Blind.and Blind.b1 Blind.tt) ml_X5_36 im_X4_write se_X4_write ini_X4 co_X4_write rfl dn_X4_write rfl (va_recv hK hP (ci := 2) (q0 := 1) rfl rfl) (fun U hU hW => ⟨⟨by rw [hU]; exact hP.sub [1, 2] rfl, va_K.moved hW.alike hK, (hD.sub [1, 2] (by decide) rfl).weaken (fun _ _ _ _ => trivial)⟩, trivial⟩) hl.1 rfl (Nat.le_of_ble_eq_true rfl) ⟨Nat.le_of_ble_eq_true rfl, Nat.le_of_ble_eq_true rfl⟩ ⟨Nat.le_of_ble_eq_true rfl, Nat.le_of_ble_eq_true rfl⟩ dX5_repair_9 hP hD hS [1, 2] rfl (Eq.trans (b := [d0, d1]) rfl rfl) (fun H locs hP hD hS => ?_)
  have hP : va_P D vwCl ([(h0, .inr (3, [.ref d0, .ref l0, .ref b0, .long own, .int clk])), (d0, .inr (2, [.ref d1, .int (f_X4_write_len dw a0 a1 a2 a3), .int (f_X4_write_tr dw a0 a1 a2 a3)])), (d1, .inl (cI, 4, .inl (f_X4_write_w dw a0 a1 a2 a3))), (l0, .inr (2, [.ref l1, .int llen, .int ltr])), (l1, .inl (cI, 4, .inl lw)), (b0, .inr (0, [.ref r0, .int size])), (r0, .inl (cO, 20, .inr (.inr (.inr (.inr (rsf pad pi))))))] ++ Pool pad cI cJ S) H := hP
  have hD : va_D A ([(h0, .inr (3, [.ref d0, .ref l0, .ref b0, .long own, .int clk])), (d0, .inr (2, [.ref d1, .int (f_X4_write_len dw a0 a1 a2 a3), .int (f_X4_write_tr dw a0 a1 a2 a3)])), (d1, .inl (cI, 4, .inl (f_X4_write_w dw a0 a1 a2 a3))), (l0, .inr (2, [.ref l1, .int llen, .int ltr])), (l1, .inl (cI, 4, .inl lw)), (b0, .inr (0, [.ref r0, .int size])), (r0, .inl (cO, 20, .inr (.inr (.inr (.inr (rsf pad pi))))))] ++ Pool pad cI cJ S) := hD
  refine W.eq (g2 := F0 m 12 ls []) rfl ?_
  refine lv_aload_n hx hb dX5_repair_12 rfl (lv_at hl 0 rfl) ?_
  refine va_get (D := D) (ci := 3) (v := .ref d0) (C := RX5) (T := TX5) (N := 5) hx hb htg inX5 hown hK hP 0 rfl rfl 0 (by decide) (htg _ fl_X5_10) (fun _ h9 => h9) rfl dX5_repair_13 ?_
  refine rV (As := []) (rest := []) hx hb hml hown htg (c_X4_wrongBit l D cI cJ cO d0 d1 (f_X4_write_len dw a0 a1 a2 a3) (f_X4_write_tr dw a0 a1 a2 a3) (f_X4_write_w dw a0 a1 a2 a3) (write_rng dw a0 a1 a2 a3)) Blind.b0 ml_X5_44 im_X4_wrongBit se_X4_wrongBit ini_X4 co_X4_wrongBit rfl dn_X4_wrongBit rfl (va_recv hK hP (ci := 2) (q0 := 1) rfl rfl) (fun U hU hW => ⟨by rw [hU]; exact hP.sub [1, 2] rfl, va_K.moved hW.alike hK⟩) hl.1 rfl (Nat.le_of_ble_eq_true rfl) ⟨Nat.le_of_ble_eq_true rfl, Nat.le_of_ble_eq_true rfl⟩ ⟨Nat.le_of_ble_eq_true rfl, Nat.le_of_ble_eq_true rfl⟩ dX5_repair_16 ?_
  exact wr_i hx hb hr hlocks hA hS (hP.eq (by simp only [f_X5_repair_dw, f_X5_repair_dlen, f_X5_repair_dtr])) (by simp only [f_X5_repair]) dX5_repair_19

def f_X5_seal (dw : Nat → Int32) (a0 : Int32) (a1 : Int32) (a2 : Int32) (a3 : Int32) : Int32 := ((f_X4_remainder (f_X4_write_w dw a0 a1 a2 a3) (f_X4_write_len dw a0 a1 a2 a3)) ^^^ (f_X4_parity (f_X4_write_w dw a0 a1 a2 a3) (f_X4_write_len dw a0 a1 a2 a3)))
def f_X5_seal_dw (dw : Nat → Int32) (a0 : Int32) (a1 : Int32) (a2 : Int32) (a3 : Int32) : Nat → Int32 := (f_X4_write_w dw a0 a1 a2 a3)
def f_X5_seal_dlen (dw : Nat → Int32) (a0 : Int32) (a1 : Int32) (a2 : Int32) (a3 : Int32) : Int32 := (f_X4_write_len dw a0 a1 a2 a3)
def f_X5_seal_dtr (dw : Nat → Int32) (a0 : Int32) (a1 : Int32) (a2 : Int32) (a3 : Int32) : Int32 := (f_X4_write_tr dw a0 a1 a2 a3)
set_option maxHeartbeats 4000000 in
set_option maxRecDepth 100000 in
theorem c_X5_seal (l : Launch) (D : va_G) (cI cJ cO : ClassId) (h0 : Nat) (d0 : Nat) (l0 : Nat) (b0 : Nat) (own : Int64) (clk : Int32) (d1 : Nat) (dlen : Int32) (dtr : Int32) (dw : Nat → Int32) (l1 : Nat) (llen : Int32) (ltr : Int32) (lw : Nat → Int32) (r0 : Nat) (size : Int32) (pad : Nat → Nat → Nat) (pi : Nat → Nat) (S : Nat → CR) (a0 : Int32) (a1 : Int32) (a2 : Int32) (a3 : Int32) : Wr l yX5_seal cX5_seal 5 (some .int) 3 66 [.ref h0, .int a0, .int a1, .int a2, .int a3] (fun U => B1 D cI cJ cO ([(h0, .inr (3, [.ref d0, .ref l0, .ref b0, .long own, .int clk])), (d0, .inr (2, [.ref d1, .int dlen, .int dtr])), (d1, .inl (cI, 4, .inl dw)), (l0, .inr (2, [.ref l1, .int llen, .int ltr])), (l1, .inl (cI, 4, .inl lw)), (b0, .inr (0, [.ref r0, .int size])), (r0, .inl (cO, 20, .inr (.inr (.inr (.inr (rsf pad pi))))))] ++ Pool pad cI cJ S) U ∧ True) D (some (.int (f_X5_seal dw a0 a1 a2 a3))) ([(h0, .inr (3, [.ref d0, .ref l0, .ref b0, .long own, .int clk])), (d0, .inr (2, [.ref d1, .int dlen, .int dtr])), (d1, .inl (cI, 4, .inl dw)), (l0, .inr (2, [.ref l1, .int llen, .int ltr])), (l1, .inl (cI, 4, .inl lw)), (b0, .inr (0, [.ref r0, .int size])), (r0, .inl (cO, 20, .inr (.inr (.inr (.inr (rsf pad pi))))))] ++ Pool pad cI cJ S) ([(h0, .inr (3, [.ref d0, .ref l0, .ref b0, .long own, .int clk])), (d0, .inr (2, [.ref d1, .int (f_X5_seal_dlen dw a0 a1 a2 a3), .int (f_X5_seal_dtr dw a0 a1 a2 a3)])), (d1, .inl (cI, 4, .inl (f_X5_seal_dw dw a0 a1 a2 a3))), (l0, .inr (2, [.ref l1, .int llen, .int ltr])), (l1, .inl (cI, 4, .inl lw)), (b0, .inr (0, [.ref r0, .int size])), (r0, .inl (cO, 20, .inr (.inr (.inr (.inr (rsf pad pi))))))] ++ Pool pad cI cJ S) := by
  refine Wr.of (by decide +kernel) (Nat.le_of_ble_eq_true rfl) ?_
  intro p e s m args below meth c hx hb hr hml hown htg hlocks A hA hP hK hD hX hS ls hl
  have hown : s.vm.findClass RX5 = some m.cls := hown
  have hl : lv_has ls 5 [(0, .ref h0), (1, .int a0), (2, .int a1), (3, .int a2), (4, .int a3)] := hl
  refine lv_aload_n hx hb dX5_seal_0 rfl (lv_at hl 0 rfl) ?_
  refine va_get (D := D) (ci := 3) (v := .ref d0) (C := RX5) (T := TX5) (N := 5) hx hb htg inX5 hown hK hP 0 rfl rfl 0 (by decide) (htg _ fl_X5_10) (fun _ h9 => h9) rfl dX5_seal_1 ?_
  refine lv_iload_n hx hb dX5_seal_4 rfl (lv_at hl 1 rfl) ?_
  refine lv_iload_n hx hb dX5_seal_5 rfl (lv_at hl 2 rfl) ?_
  refine lv_iload_n hx hb dX5_seal_6 rfl (lv_at hl 3 rfl) ?_
  refine lv_iload hx hb dX5_seal_7 (lv_at hl 4 rfl) ?_
  refine wV (As := [.int a0, .int a1, .int a2, .int a3]) (rest := []) hx hb hml hown htg (c_X4_write l D cI cJ cO d0 d1 dlen dtr dw a0 a1 a2 a3) (Blind.and Blind.b1 Blind.tt) ml_X5_36 im_X4_write se_X4_write ini_X4 co_X4_write rfl dn_X4_write rfl (va_recv hK hP (ci := 2) (q0 := 1) rfl rfl) (fun U hU hW => ⟨⟨by rw [hU]; exact hP.sub [1, 2] rfl, va_K.moved hW.alike hK, (hD.sub [1, 2] (by decide) rfl).weaken (fun _ _ _ _ => trivial)⟩, trivial⟩) hl.1 rfl (Nat.le_of_ble_eq_true rfl) ⟨Nat.le_of_ble_eq_true rfl, Nat.le_of_ble_eq_true rfl⟩ ⟨Nat.le_of_ble_eq_true rfl, Nat.le_of_ble_eq_true rfl⟩ dX5_seal_9 hP hD hS [1, 2] rfl (Eq.trans (b := [d0, d1]) rfl rfl) (fun H locs hP hD hS => ?_)
  have hP : va_P D vwCl ([(h0, .inr (3, [.ref d0, .ref l0, .ref b0, .long own, .int clk])), (d0, .inr (2, [.ref d1, .int (f_X4_write_len dw a0 a1 a2 a3), .int (f_X4_write_tr dw a0 a1 a2 a3)])), (d1, .inl (cI, 4, .inl (f_X4_write_w dw a0 a1 a2 a3))), (l0, .inr (2, [.ref l1, .int llen, .int ltr])), (l1, .inl (cI, 4, .inl lw)), (b0, .inr (0, [.ref r0, .int size])), (r0, .inl (cO, 20, .inr (.inr (.inr (.inr (rsf pad pi))))))] ++ Pool pad cI cJ S) H := hP
  have hD : va_D A ([(h0, .inr (3, [.ref d0, .ref l0, .ref b0, .long own, .int clk])), (d0, .inr (2, [.ref d1, .int (f_X4_write_len dw a0 a1 a2 a3), .int (f_X4_write_tr dw a0 a1 a2 a3)])), (d1, .inl (cI, 4, .inl (f_X4_write_w dw a0 a1 a2 a3))), (l0, .inr (2, [.ref l1, .int llen, .int ltr])), (l1, .inl (cI, 4, .inl lw)), (b0, .inr (0, [.ref r0, .int size])), (r0, .inl (cO, 20, .inr (.inr (.inr (.inr (rsf pad pi))))))] ++ Pool pad cI cJ S) := hD
  refine W.eq (g2 := F0 m 12 ls []) rfl ?_
  refine lv_aload_n hx hb dX5_seal_12 rfl (lv_at hl 0 rfl) ?_
  refine va_get (D := D) (ci := 3) (v := .ref d0) (C := RX5) (T := TX5) (N := 5) hx hb htg inX5 hown hK hP 0 rfl rfl 0 (by decide) (htg _ fl_X5_10) (fun _ h9 => h9) rfl dX5_seal_13 ?_
  refine rV (As := []) (rest := []) hx hb hml hown htg (c_X4_remainder l D cI cJ cO d0 d1 (f_X4_write_len dw a0 a1 a2 a3) (f_X4_write_tr dw a0 a1 a2 a3) (f_X4_write_w dw a0 a1 a2 a3) (write_rng dw a0 a1 a2 a3)) Blind.b0 ml_X5_40 im_X4_remainder se_X4_remainder ini_X4 co_X4_remainder rfl dn_X4_remainder rfl (va_recv hK hP (ci := 2) (q0 := 1) rfl rfl) (fun U hU hW => ⟨by rw [hU]; exact hP.sub [1, 2] rfl, va_K.moved hW.alike hK⟩) hl.1 rfl (Nat.le_of_ble_eq_true rfl) ⟨Nat.le_of_ble_eq_true rfl, Nat.le_of_ble_eq_true rfl⟩ ⟨Nat.le_of_ble_eq_true rfl, Nat.le_of_ble_eq_true rfl⟩ dX5_seal_16 ?_
  refine lv_aload_n hx hb dX5_seal_19 rfl (lv_at hl 0 rfl) ?_
  refine va_get (D := D) (ci := 3) (v := .ref d0) (C := RX5) (T := TX5) (N := 5) hx hb htg inX5 hown hK hP 0 rfl rfl 0 (by decide) (htg _ fl_X5_10) (fun _ h9 => h9) rfl dX5_seal_20 ?_
  refine rV (As := []) (rest := [.int (f_X4_remainder (f_X4_write_w dw a0 a1 a2 a3) (f_X4_write_len dw a0 a1 a2 a3))]) hx hb hml hown htg (c_X4_parity l D cI cJ cO d0 d1 (f_X4_write_len dw a0 a1 a2 a3) (f_X4_write_tr dw a0 a1 a2 a3) (f_X4_write_w dw a0 a1 a2 a3) (write_rng dw a0 a1 a2 a3)) Blind.b0 ml_X5_47 im_X4_parity se_X4_parity ini_X4 co_X4_parity rfl dn_X4_parity rfl (va_recv hK hP (ci := 2) (q0 := 1) rfl rfl) (fun U hU hW => ⟨by rw [hU]; exact hP.sub [1, 2] rfl, va_K.moved hW.alike hK⟩) hl.1 rfl (Nat.le_of_ble_eq_true rfl) ⟨Nat.le_of_ble_eq_true rfl, Nat.le_of_ble_eq_true rfl⟩ ⟨Nat.le_of_ble_eq_true rfl, Nat.le_of_ble_eq_true rfl⟩ dX5_seal_23 ?_
  refine lv_ixor hx hb dX5_seal_26 ?_
  exact wr_i hx hb hr hlocks hA hS (hP.eq (by simp only [f_X5_seal_dw, f_X5_seal_dlen, f_X5_seal_dtr])) (by simp only [f_X5_seal]) dX5_seal_27

def f_X5_place (own : Int64) (a0 : Int32) (a1 : Int32) : Int32 := (if (f_X2_isPlace a0 a1) = 0 then (0 : Int32) else (1 : Int32))
def f_X5_place_own (own : Int64) (a0 : Int32) (a1 : Int32) : Int64 := (if (f_X2_isPlace a0 a1) = 0 then own else (f_X2_pack a0.toInt64 a1.toInt64))
set_option maxHeartbeats 4000000 in
set_option maxRecDepth 100000 in
theorem c_X5_place (l : Launch) (D : va_G) (cI cJ cO : ClassId) (h0 : Nat) (d0 : Nat) (l0 : Nat) (b0 : Nat) (own : Int64) (clk : Int32) (d1 : Nat) (dlen : Int32) (dtr : Int32) (dw : Nat → Int32) (l1 : Nat) (llen : Int32) (ltr : Int32) (lw : Nat → Int32) (r0 : Nat) (size : Int32) (pad : Nat → Nat → Nat) (pi : Nat → Nat) (S : Nat → CR) (a0 : Int32) (a1 : Int32) : Wr l yX5_place cX5_place 3 (some .boolean) 1 23 [.ref h0, .int a0, .int a1] (fun U => B1 D cI cJ cO ([(h0, .inr (3, [.ref d0, .ref l0, .ref b0, .long own, .int clk])), (d0, .inr (2, [.ref d1, .int dlen, .int dtr])), (d1, .inl (cI, 4, .inl dw)), (l0, .inr (2, [.ref l1, .int llen, .int ltr])), (l1, .inl (cI, 4, .inl lw)), (b0, .inr (0, [.ref r0, .int size])), (r0, .inl (cO, 20, .inr (.inr (.inr (.inr (rsf pad pi))))))] ++ Pool pad cI cJ S) U ∧ True) D (some (.int (f_X5_place own a0 a1))) ([(h0, .inr (3, [.ref d0, .ref l0, .ref b0, .long own, .int clk])), (d0, .inr (2, [.ref d1, .int dlen, .int dtr])), (d1, .inl (cI, 4, .inl dw)), (l0, .inr (2, [.ref l1, .int llen, .int ltr])), (l1, .inl (cI, 4, .inl lw)), (b0, .inr (0, [.ref r0, .int size])), (r0, .inl (cO, 20, .inr (.inr (.inr (.inr (rsf pad pi))))))] ++ Pool pad cI cJ S) ([(h0, .inr (3, [.ref d0, .ref l0, .ref b0, .long (f_X5_place_own own a0 a1), .int clk])), (d0, .inr (2, [.ref d1, .int dlen, .int dtr])), (d1, .inl (cI, 4, .inl dw)), (l0, .inr (2, [.ref l1, .int llen, .int ltr])), (l1, .inl (cI, 4, .inl lw)), (b0, .inr (0, [.ref r0, .int size])), (r0, .inl (cO, 20, .inr (.inr (.inr (.inr (rsf pad pi))))))] ++ Pool pad cI cJ S) := by
  refine Wr.of (by decide +kernel) (Nat.le_of_ble_eq_true rfl) ?_
  intro p e s m args below meth c hx hb hr hml hown htg hlocks A hA hP hK hD hX hS ls hl
  have hown : s.vm.findClass RX5 = some m.cls := hown
  have hl : lv_has ls 3 [(0, .ref h0), (1, .int a0), (2, .int a1)] := hl
  refine lv_iload_n hx hb dX5_place_0 rfl (lv_at hl 1 rfl) ?_
  refine lv_iload_n hx hb dX5_place_1 rfl (lv_at hl 2 rfl) ?_
  refine rS (As := [.int a0, .int a1]) (rest := []) hx hb hml hown htg (c_X2_isPlace l a0 a1) Blind.tt ml_X5_50 st_X2_isPlace ini_X2 co_X2_isPlace dn_X2_isPlace rfl (fun _ _ _ => trivial) hl.1 rfl (Nat.le_of_ble_eq_true rfl) ⟨Nat.le_of_ble_eq_true rfl, Nat.le_of_ble_eq_true rfl⟩ ⟨Nat.le_of_ble_eq_true rfl, Nat.le_of_ble_eq_true rfl⟩ dX5_place_2 ?_
  refine lv_if_ne (tgt := 10) hx hb dX5_place_5 (by decide) (fun c_1 => ?_) (fun c_1 => ?_)
  · refine lv_aload_n hx hb dX5_place_10 rfl (lv_at hl 0 rfl) ?_
    refine lv_iload_n hx hb dX5_place_11 rfl (lv_at hl 1 rfl) ?_
    refine lv_i2l (v := a0.toInt64) hx hb dX5_place_12 rfl ?_
    refine lv_iload_n hx hb dX5_place_13 rfl (lv_at hl 2 rfl) ?_
    refine lv_i2l (v := a1.toInt64) hx hb dX5_place_14 rfl ?_
    refine rS (As := [.long a0.toInt64, .long a1.toInt64]) (rest := [.ref h0]) hx hb hml hown htg (c_X2_pack l a0.toInt64 a1.toInt64) Blind.tt ml_X5_56 st_X2_pack ini_X2 co_X2_pack dn_X2_pack rfl (fun _ _ _ => trivial) hl.1 rfl (Nat.le_of_ble_eq_true rfl) ⟨Nat.le_of_ble_eq_true rfl, Nat.le_of_ble_eq_true rfl⟩ ⟨Nat.le_of_ble_eq_true rfl, Nat.le_of_ble_eq_true rfl⟩ dX5_place_15 ?_
    refine va_put (D := D) (ci := 3) (v := .long (f_X2_pack a0.toInt64 a1.toInt64)) (ty := .long) (C := RX5) (T := TX5) (N := 5) hx hb htg inX5 tyX5 tyX5_ok nmX5 hown hK hP hD hS 0 rfl rfl 3 (by decide) (htg _ fl_X5_28) (fun _ h9 => h9) rfl (by decide +kernel) rfl rfl (Nat.le_of_ble_eq_true rfl) dX5_place_18 (fun H locs hP hD hS => ?_)
    have hP : va_P D vwCl ([(h0, .inr (3, [.ref d0, .ref l0, .ref b0, .long (f_X2_pack a0.toInt64 a1.toInt64), .int clk])), (d0, .inr (2, [.ref d1, .int dlen, .int dtr])), (d1, .inl (cI, 4, .inl dw)), (l0, .inr (2, [.ref l1, .int llen, .int ltr])), (l1, .inl (cI, 4, .inl lw)), (b0, .inr (0, [.ref r0, .int size])), (r0, .inl (cO, 20, .inr (.inr (.inr (.inr (rsf pad pi))))))] ++ Pool pad cI cJ S) H := hP
    have hD : va_D A ([(h0, .inr (3, [.ref d0, .ref l0, .ref b0, .long (f_X2_pack a0.toInt64 a1.toInt64), .int clk])), (d0, .inr (2, [.ref d1, .int dlen, .int dtr])), (d1, .inl (cI, 4, .inl dw)), (l0, .inr (2, [.ref l1, .int llen, .int ltr])), (l1, .inl (cI, 4, .inl lw)), (b0, .inr (0, [.ref r0, .int size])), (r0, .inl (cO, 20, .inr (.inr (.inr (.inr (rsf pad pi))))))] ++ Pool pad cI cJ S) := hD
    refine lv_iconst (v := 1) hx hb dX5_place_21 (by decide) ?_
    exact wr_z hx hb hr hlocks hA hS (hP.eq (by simp only [f_X5_place_own, if_neg c_1])) (by decide) (by simp only [f_X5_place, if_neg c_1]) dX5_place_22
  · refine lv_iconst (v := 0) hx hb dX5_place_8 (by decide) ?_
    exact wr_z hx hb hr hlocks hA hS (hP.eq (by simp only [f_X5_place_own, if_pos c_1])) (by decide) (by simp only [f_X5_place, if_pos c_1]) dX5_place_9

def f_X5_field (lw : Nat → Int32) (llen : Int32) (ltr : Int32) (a0 : Int32) : Int32 := (f_X4_told lw llen ltr a0)
set_option maxHeartbeats 4000000 in
set_option maxRecDepth 100000 in
theorem c_X5_field (l : Launch) (D : va_G) (cI cJ cO : ClassId) (h0 : Nat) (d0 : Nat) (l0 : Nat) (b0 : Nat) (own : Int64) (clk : Int32) (d1 : Nat) (dlen : Int32) (dtr : Int32) (dw : Nat → Int32) (l1 : Nat) (llen : Int32) (ltr : Int32) (lw : Nat → Int32) (r0 : Nat) (size : Int32) (pad : Nat → Nat → Nat) (pi : Nat → Nat) (S : Nat → CR) (a0 : Int32) (hll : 0 ≤ llen.toInt ∧ llen.toInt ≤ 112) : Rd l yX5_field cX5_field 2 (some .int) 6 131 [.ref h0, .int a0] (fun U => B0 D cI cJ cO ([(h0, .inr (3, [.ref d0, .ref l0, .ref b0, .long own, .int clk])), (d0, .inr (2, [.ref d1, .int dlen, .int dtr])), (d1, .inl (cI, 4, .inl dw)), (l0, .inr (2, [.ref l1, .int llen, .int ltr])), (l1, .inl (cI, 4, .inl lw)), (b0, .inr (0, [.ref r0, .int size])), (r0, .inl (cO, 20, .inr (.inr (.inr (.inr (rsf pad pi))))))] ++ Pool pad cI cJ S) U) (some (.int (f_X5_field lw llen ltr a0))) := by
  refine Rd.of (by decide +kernel) (Nat.le_of_ble_eq_true rfl) ?_
  intro p e s m args below meth c hx hb hr hml hown htg hlocks hB ls hl
  obtain ⟨hP, hK⟩ := hB
  have hP : va_P D vwCl ([(h0, .inr (3, [.ref d0, .ref l0, .ref b0, .long own, .int clk])), (d0, .inr (2, [.ref d1, .int dlen, .int dtr])), (d1, .inl (cI, 4, .inl dw)), (l0, .inr (2, [.ref l1, .int llen, .int ltr])), (l1, .inl (cI, 4, .inl lw)), (b0, .inr (0, [.ref r0, .int size])), (r0, .inl (cO, 20, .inr (.inr (.inr (.inr (rsf pad pi))))))] ++ Pool pad cI cJ S) s.heap := hP
  have hown : s.vm.findClass RX5 = some m.cls := hown
  have hl : lv_has ls 2 [(0, .ref h0), (1, .int a0)] := hl
  refine lv_aload_n hx hb dX5_field_0 rfl (lv_at hl 0 rfl) ?_
  refine va_get (D := D) (ci := 3) (v := .ref l0) (C := RX5) (T := TX5) (N := 5) hx hb htg inX5 hown hK hP 0 rfl rfl 1 (by decide) (htg _ fl_X5_16) (fun _ h9 => h9) rfl dX5_field_1 ?_
  refine lv_iload_n hx hb dX5_field_4 rfl (lv_at hl 1 rfl) ?_
  refine rV (As := [.int a0]) (rest := []) hx hb hml hown htg (c_X4_told l D cI cJ cO l0 l1 llen ltr lw a0 hll) Blind.b0 ml_X5_109 im_X4_told se_X4_told ini_X4 co_X4_told rfl dn_X4_told rfl (va_recv hK hP (ci := 2) (q0 := 3) rfl rfl) (fun U hU hW => ⟨by rw [hU]; exact hP.sub [3, 4] rfl, va_K.moved hW.alike hK⟩) hl.1 rfl (Nat.le_of_ble_eq_true rfl) ⟨Nat.le_of_ble_eq_true rfl, Nat.le_of_ble_eq_true rfl⟩ ⟨Nat.le_of_ble_eq_true rfl, Nat.le_of_ble_eq_true rfl⟩ dX5_field_5 ?_
  exact rd_i hx hb hr hlocks (by simp only [f_X5_field]) dX5_field_8

def f_X5_bits (lw : Nat → Int32) (llen : Int32) (a0 : Int32) (a1 : Int32) : Int32 := (f_X4_number lw llen a0 a1)
set_option maxHeartbeats 4000000 in
set_option maxRecDepth 100000 in
theorem c_X5_bits (l : Launch) (D : va_G) (cI cJ cO : ClassId) (h0 : Nat) (d0 : Nat) (l0 : Nat) (b0 : Nat) (own : Int64) (clk : Int32) (d1 : Nat) (dlen : Int32) (dtr : Int32) (dw : Nat → Int32) (l1 : Nat) (llen : Int32) (ltr : Int32) (lw : Nat → Int32) (r0 : Nat) (size : Int32) (pad : Nat → Nat → Nat) (pi : Nat → Nat) (S : Nat → CR) (a0 : Int32) (a1 : Int32) (hll : 0 ≤ llen.toInt ∧ llen.toInt ≤ 112) : Rd l yX5_bits cX5_bits 3 (some .int) 2 46 [.ref h0, .int a0, .int a1] (fun U => B0 D cI cJ cO ([(h0, .inr (3, [.ref d0, .ref l0, .ref b0, .long own, .int clk])), (d0, .inr (2, [.ref d1, .int dlen, .int dtr])), (d1, .inl (cI, 4, .inl dw)), (l0, .inr (2, [.ref l1, .int llen, .int ltr])), (l1, .inl (cI, 4, .inl lw)), (b0, .inr (0, [.ref r0, .int size])), (r0, .inl (cO, 20, .inr (.inr (.inr (.inr (rsf pad pi))))))] ++ Pool pad cI cJ S) U) (some (.int (f_X5_bits lw llen a0 a1))) := by
  refine Rd.of (by decide +kernel) (Nat.le_of_ble_eq_true rfl) ?_
  intro p e s m args below meth c hx hb hr hml hown htg hlocks hB ls hl
  obtain ⟨hP, hK⟩ := hB
  have hP : va_P D vwCl ([(h0, .inr (3, [.ref d0, .ref l0, .ref b0, .long own, .int clk])), (d0, .inr (2, [.ref d1, .int dlen, .int dtr])), (d1, .inl (cI, 4, .inl dw)), (l0, .inr (2, [.ref l1, .int llen, .int ltr])), (l1, .inl (cI, 4, .inl lw)), (b0, .inr (0, [.ref r0, .int size])), (r0, .inl (cO, 20, .inr (.inr (.inr (.inr (rsf pad pi))))))] ++ Pool pad cI cJ S) s.heap := hP
  have hown : s.vm.findClass RX5 = some m.cls := hown
  have hl : lv_has ls 3 [(0, .ref h0), (1, .int a0), (2, .int a1)] := hl
  refine lv_aload_n hx hb dX5_bits_0 rfl (lv_at hl 0 rfl) ?_
  refine va_get (D := D) (ci := 3) (v := .ref l0) (C := RX5) (T := TX5) (N := 5) hx hb htg inX5 hown hK hP 0 rfl rfl 1 (by decide) (htg _ fl_X5_16) (fun _ h9 => h9) rfl dX5_bits_1 ?_
  refine lv_iload_n hx hb dX5_bits_4 rfl (lv_at hl 1 rfl) ?_
  refine lv_iload_n hx hb dX5_bits_5 rfl (lv_at hl 2 rfl) ?_
  refine rV (As := [.int a0, .int a1]) (rest := []) hx hb hml hown htg (c_X4_number l D cI cJ cO l0 l1 llen ltr lw a0 a1 hll) Blind.b0 ml_X5_112 im_X4_number se_X4_number ini_X4 co_X4_number rfl dn_X4_number rfl (va_recv hK hP (ci := 2) (q0 := 3) rfl rfl) (fun U hU hW => ⟨by rw [hU]; exact hP.sub [3, 4] rfl, va_K.moved hW.alike hK⟩) hl.1 rfl (Nat.le_of_ble_eq_true rfl) ⟨Nat.le_of_ble_eq_true rfl, Nat.le_of_ble_eq_true rfl⟩ ⟨Nat.le_of_ble_eq_true rfl, Nat.le_of_ble_eq_true rfl⟩ dX5_bits_6 ?_
  exact rd_i hx hb hr hlocks (by simp only [f_X5_bits]) dX5_bits_9

def f_X5_crafts (size : Int32) : Int32 := (f_X0_size size)
set_option maxHeartbeats 4000000 in
set_option maxRecDepth 100000 in
theorem c_X5_crafts (l : Launch) (D : va_G) (cI cJ cO : ClassId) (h0 : Nat) (d0 : Nat) (l0 : Nat) (b0 : Nat) (own : Int64) (clk : Int32) (d1 : Nat) (dlen : Int32) (dtr : Int32) (dw : Nat → Int32) (l1 : Nat) (llen : Int32) (ltr : Int32) (lw : Nat → Int32) (r0 : Nat) (size : Int32) (pad : Nat → Nat → Nat) (pi : Nat → Nat) (S : Nat → CR) : Rd l yX5_crafts cX5_crafts 1 (some .int) 1 20 [.ref h0] (fun U => B0 D cI cJ cO ([(h0, .inr (3, [.ref d0, .ref l0, .ref b0, .long own, .int clk])), (d0, .inr (2, [.ref d1, .int dlen, .int dtr])), (d1, .inl (cI, 4, .inl dw)), (l0, .inr (2, [.ref l1, .int llen, .int ltr])), (l1, .inl (cI, 4, .inl lw)), (b0, .inr (0, [.ref r0, .int size])), (r0, .inl (cO, 20, .inr (.inr (.inr (.inr (rsf pad pi))))))] ++ Pool pad cI cJ S) U) (some (.int (f_X5_crafts size))) := by
  refine Rd.of (by decide +kernel) (Nat.le_of_ble_eq_true rfl) ?_
  intro p e s m args below meth c hx hb hr hml hown htg hlocks hB ls hl
  obtain ⟨hP, hK⟩ := hB
  have hP : va_P D vwCl ([(h0, .inr (3, [.ref d0, .ref l0, .ref b0, .long own, .int clk])), (d0, .inr (2, [.ref d1, .int dlen, .int dtr])), (d1, .inl (cI, 4, .inl dw)), (l0, .inr (2, [.ref l1, .int llen, .int ltr])), (l1, .inl (cI, 4, .inl lw)), (b0, .inr (0, [.ref r0, .int size])), (r0, .inl (cO, 20, .inr (.inr (.inr (.inr (rsf pad pi))))))] ++ Pool pad cI cJ S) s.heap := hP
  have hown : s.vm.findClass RX5 = some m.cls := hown
  have hl : lv_has ls 1 [(0, .ref h0)] := hl
  refine lv_aload_n hx hb dX5_crafts_0 rfl (lv_at hl 0 rfl) ?_
  refine va_get (D := D) (ci := 3) (v := .ref b0) (C := RX5) (T := TX5) (N := 5) hx hb htg inX5 hown hK hP 0 rfl rfl 2 (by decide) (htg _ fl_X5_22) (fun _ h9 => h9) rfl dX5_crafts_1 ?_
  refine rV (As := []) (rest := []) hx hb hml hown htg (c_X0_size l D cI cJ cO h0 d0 l0 b0 own clk d1 dlen dtr dw l1 llen ltr lw r0 size pad pi S) Blind.b0 ml_X5_116 im_X0_size se_X0_size ini_X0 co_X0_size rfl dn_X0_size rfl (va_recv hK hP (ci := 0) (q0 := 5) rfl rfl) (fun U hU hW => ⟨by rw [hU]; exact hP, va_K.moved hW.alike hK⟩) hl.1 rfl (Nat.le_of_ble_eq_true rfl) ⟨Nat.le_of_ble_eq_true rfl, Nat.le_of_ble_eq_true rfl⟩ ⟨Nat.le_of_ble_eq_true rfl, Nat.le_of_ble_eq_true rfl⟩ dX5_crafts_4 ?_
  exact rd_i hx hb hr hlocks (by simp only [f_X5_crafts]) dX5_crafts_7

def f_X5_find (size : Int32) (pi : Nat → Nat) (S : Nat → CR) (a0 : Int32) : Int32 := (f_X0_indexOf size pi S a0)
set_option maxHeartbeats 4000000 in
set_option maxRecDepth 100000 in
theorem c_X5_find (l : Launch) (D : va_G) (cI cJ cO : ClassId) (h0 : Nat) (d0 : Nat) (l0 : Nat) (b0 : Nat) (own : Int64) (clk : Int32) (d1 : Nat) (dlen : Int32) (dtr : Int32) (dw : Nat → Int32) (l1 : Nat) (llen : Int32) (ltr : Int32) (lw : Nat → Int32) (r0 : Nat) (size : Int32) (pad : Nat → Nat → Nat) (pi : Nat → Nat) (S : Nat → CR) (a0 : Int32) (hs : 0 ≤ size.toInt ∧ size.toInt ≤ 20) (hpi : ∀ k, k < 20 → pi k < 20) : Rd l yX5_find cX5_find 2 (some .int) 2 43 [.ref h0, .int a0] (fun U => B0 D cI cJ cO ([(h0, .inr (3, [.ref d0, .ref l0, .ref b0, .long own, .int clk])), (d0, .inr (2, [.ref d1, .int dlen, .int dtr])), (d1, .inl (cI, 4, .inl dw)), (l0, .inr (2, [.ref l1, .int llen, .int ltr])), (l1, .inl (cI, 4, .inl lw)), (b0, .inr (0, [.ref r0, .int size])), (r0, .inl (cO, 20, .inr (.inr (.inr (.inr (rsf pad pi))))))] ++ Pool pad cI cJ S) U) (some (.int (f_X5_find size pi S a0))) := by
  refine Rd.of (by decide +kernel) (Nat.le_of_ble_eq_true rfl) ?_
  intro p e s m args below meth c hx hb hr hml hown htg hlocks hB ls hl
  obtain ⟨hP, hK⟩ := hB
  have hP : va_P D vwCl ([(h0, .inr (3, [.ref d0, .ref l0, .ref b0, .long own, .int clk])), (d0, .inr (2, [.ref d1, .int dlen, .int dtr])), (d1, .inl (cI, 4, .inl dw)), (l0, .inr (2, [.ref l1, .int llen, .int ltr])), (l1, .inl (cI, 4, .inl lw)), (b0, .inr (0, [.ref r0, .int size])), (r0, .inl (cO, 20, .inr (.inr (.inr (.inr (rsf pad pi))))))] ++ Pool pad cI cJ S) s.heap := hP
  have hown : s.vm.findClass RX5 = some m.cls := hown
  have hl : lv_has ls 2 [(0, .ref h0), (1, .int a0)] := hl
  refine lv_aload_n hx hb dX5_find_0 rfl (lv_at hl 0 rfl) ?_
  refine va_get (D := D) (ci := 3) (v := .ref b0) (C := RX5) (T := TX5) (N := 5) hx hb htg inX5 hown hK hP 0 rfl rfl 2 (by decide) (htg _ fl_X5_22) (fun _ h9 => h9) rfl dX5_find_1 ?_
  refine lv_iload_n hx hb dX5_find_4 rfl (lv_at hl 1 rfl) ?_
  refine rV (As := [.int a0]) (rest := []) hx hb hml hown htg (c_X0_indexOf l D cI cJ cO h0 d0 l0 b0 own clk d1 dlen dtr dw l1 llen ltr lw r0 size pad pi S a0 hs hpi) Blind.b0 ml_X5_77 im_X0_indexOf se_X0_indexOf ini_X0 co_X0_indexOf rfl dn_X0_indexOf rfl (va_recv hK hP (ci := 0) (q0 := 5) rfl rfl) (fun U hU hW => ⟨by rw [hU]; exact hP, va_K.moved hW.alike hK⟩) hl.1 rfl (Nat.le_of_ble_eq_true rfl) ⟨Nat.le_of_ble_eq_true rfl, Nat.le_of_ble_eq_true rfl⟩ ⟨Nat.le_of_ble_eq_true rfl, Nat.le_of_ble_eq_true rfl⟩ dX5_find_5 ?_
  exact rd_i hx hb hr hlocks (by simp only [f_X5_find]) dX5_find_8

def f_X5_craft (size : Int32) (pi : Nat → Nat) (S : Nat → CR) (a0 : Int32) (a1 : Int32) : Int32 := (if a0 < 0 then (-1 : Int32) else (if size ≤ a0 then (-1 : Int32) else (f_X3_value (S (pi a0.toNatClampNeg)).1 a1)))
set_option maxHeartbeats 4000000 in
set_option maxRecDepth 100000 in
theorem c_X5_craft (l : Launch) (D : va_G) (cI cJ cO : ClassId) (h0 : Nat) (d0 : Nat) (l0 : Nat) (b0 : Nat) (own : Int64) (clk : Int32) (d1 : Nat) (dlen : Int32) (dtr : Int32) (dw : Nat → Int32) (l1 : Nat) (llen : Int32) (ltr : Int32) (lw : Nat → Int32) (r0 : Nat) (size : Int32) (pad : Nat → Nat → Nat) (pi : Nat → Nat) (S : Nat → CR) (a0 : Int32) (a1 : Int32) (hs : 0 ≤ size.toInt ∧ size.toInt ≤ 20) (hpi : ∀ k, k < 20 → pi k < 20) : Rd l yX5_craft cX5_craft 4 (some .int) 1 21 [.ref h0, .int a0, .int a1] (fun U => B0 D cI cJ cO ([(h0, .inr (3, [.ref d0, .ref l0, .ref b0, .long own, .int clk])), (d0, .inr (2, [.ref d1, .int dlen, .int dtr])), (d1, .inl (cI, 4, .inl dw)), (l0, .inr (2, [.ref l1, .int llen, .int ltr])), (l1, .inl (cI, 4, .inl lw)), (b0, .inr (0, [.ref r0, .int size])), (r0, .inl (cO, 20, .inr (.inr (.inr (.inr (rsf pad pi))))))] ++ Pool pad cI cJ S) U) (some (.int (f_X5_craft size pi S a0 a1))) := by
  refine Rd.of (by decide +kernel) (Nat.le_of_ble_eq_true rfl) ?_
  intro p e s m args below meth c hx hb hr hml hown htg hlocks hB ls hl
  obtain ⟨hP, hK⟩ := hB
  have hP : va_P D vwCl ([(h0, .inr (3, [.ref d0, .ref l0, .ref b0, .long own, .int clk])), (d0, .inr (2, [.ref d1, .int dlen, .int dtr])), (d1, .inl (cI, 4, .inl dw)), (l0, .inr (2, [.ref l1, .int llen, .int ltr])), (l1, .inl (cI, 4, .inl lw)), (b0, .inr (0, [.ref r0, .int size])), (r0, .inl (cO, 20, .inr (.inr (.inr (.inr (rsf pad pi))))))] ++ Pool pad cI cJ S) s.heap := hP
  have hown : s.vm.findClass RX5 = some m.cls := hown
  have hl : lv_has ls 4 [(0, .ref h0), (1, .int a0), (2, .int a1)] := hl
  refine lv_aload_n hx hb dX5_craft_0 rfl (lv_at hl 0 rfl) ?_
  refine va_get (D := D) (ci := 3) (v := .ref b0) (C := RX5) (T := TX5) (N := 5) hx hb htg inX5 hown hK hP 0 rfl rfl 2 (by decide) (htg _ fl_X5_22) (fun _ h9 => h9) rfl dX5_craft_1 ?_
  refine lv_iload_n hx hb dX5_craft_4 rfl (lv_at hl 1 rfl) ?_
  by_cases c_1 : a0 < 0
  · refine rV (As := [.int a0]) (rest := []) hx hb hml hown htg (c_X0_at_n1 l D cI cJ cO h0 d0 l0 b0 own clk d1 dlen dtr dw l1 llen ltr lw r0 size pad pi S a0 c_1) Blind.b0 ml_X5_81 im_X0_at se_X0_at ini_X0 co_X0_at rfl dn_X0_at rfl (va_recv hK hP (ci := 0) (q0 := 5) rfl rfl) (fun U hU hW => ⟨by rw [hU]; exact hP, va_K.moved hW.alike hK⟩) hl.1 rfl (Nat.le_of_ble_eq_true rfl) ⟨Nat.le_of_ble_eq_true rfl, Nat.le_of_ble_eq_true rfl⟩ ⟨Nat.le_of_ble_eq_true rfl, Nat.le_of_ble_eq_true rfl⟩ dX5_craft_5 ?_
    refine lv_astore_nN (lv' := [(3, .null), (0, .ref h0), (1, .int a0), (2, .int a1)]) hx hb dX5_craft_8 rfl hl (by decide) rfl (fun ls hl => ?_)
    refine lv_aload_nN hx hb dX5_craft_9 rfl (lv_at hl 0 rfl) ?_
    refine lv_ifnonnullN hx hb dX5_craft_10 ?_
    refine lv_iconst (v := (-1)) hx hb dX5_craft_13 (by decide) ?_
    refine lv_goto (tgt := 22) hx hb dX5_craft_14 (by decide) ?_
    exact rd_i hx hb hr hlocks (by simp only [f_X5_craft, if_pos c_1]) dX5_craft_22
  · by_cases c_2 : size ≤ a0
    · refine rV (As := [.int a0]) (rest := []) hx hb hml hown htg (c_X0_at_n2 l D cI cJ cO h0 d0 l0 b0 own clk d1 dlen dtr dw l1 llen ltr lw r0 size pad pi S a0 c_1 c_2) Blind.b0 ml_X5_81 im_X0_at se_X0_at ini_X0 co_X0_at rfl dn_X0_at rfl (va_recv hK hP (ci := 0) (q0 := 5) rfl rfl) (fun U hU hW => ⟨by rw [hU]; exact hP, va_K.moved hW.alike hK⟩) hl.1 rfl (Nat.le_of_ble_eq_true rfl) ⟨Nat.le_of_ble_eq_true rfl, Nat.le_of_ble_eq_true rfl⟩ ⟨Nat.le_of_ble_eq_true rfl, Nat.le_of_ble_eq_true rfl⟩ dX5_craft_5 ?_
      refine lv_astore_nN (lv' := [(3, .null), (0, .ref h0), (1, .int a0), (2, .int a1)]) hx hb dX5_craft_8 rfl hl (by decide) rfl (fun ls hl => ?_)
      refine lv_aload_nN hx hb dX5_craft_9 rfl (lv_at hl 0 rfl) ?_
      refine lv_ifnonnullN hx hb dX5_craft_10 ?_
      refine lv_iconst (v := (-1)) hx hb dX5_craft_13 (by decide) ?_
      refine lv_goto (tgt := 22) hx hb dX5_craft_14 (by decide) ?_
      exact rd_i hx hb hr hlocks (by simp only [f_X5_craft, if_neg c_1, if_pos c_2]) dX5_craft_22
    · refine rV (As := [.int a0]) (rest := []) hx hb hml hown htg (c_X0_at_s l D cI cJ cO h0 d0 l0 b0 own clk d1 dlen dtr dw l1 llen ltr lw r0 size pad pi S a0 hs c_1 c_2) Blind.b0 ml_X5_81 im_X0_at se_X0_at ini_X0 co_X0_at rfl dn_X0_at rfl (va_recv hK hP (ci := 0) (q0 := 5) rfl rfl) (fun U hU hW => ⟨by rw [hU]; exact hP, va_K.moved hW.alike hK⟩) hl.1 rfl (Nat.le_of_ble_eq_true rfl) ⟨Nat.le_of_ble_eq_true rfl, Nat.le_of_ble_eq_true rfl⟩ ⟨Nat.le_of_ble_eq_true rfl, Nat.le_of_ble_eq_true rfl⟩ dX5_craft_5 ?_
      refine lv_astore_n (lv' := [(3, .ref (pad (pi a0.toNatClampNeg) 0)), (0, .ref h0), (1, .int a0), (2, .int a1)]) hx hb dX5_craft_8 rfl hl (by decide) rfl (fun ls hl => ?_)
      refine lv_aload_n hx hb dX5_craft_9 rfl (lv_at hl 0 rfl) ?_
      refine lv_ifnonnull (tgt := 17) hx hb dX5_craft_10 (by decide) ?_
      refine lv_aload_n hx hb dX5_craft_17 rfl (lv_at hl 0 rfl) ?_
      refine lv_iload_n hx hb dX5_craft_18 rfl (lv_at hl 3 rfl) ?_
      refine rV (As := [.int a1]) (rest := []) hx hb hml hown htg (c_X3_value l D cI cJ cO (pad (pi a0.toNatClampNeg) 0) (pad (pi a0.toNatClampNeg) 1) (pad (pi a0.toNatClampNeg) 2) (pad (pi a0.toNatClampNeg) 3) (pad (pi a0.toNatClampNeg) 4) (S (pi a0.toNatClampNeg)).1 (S (pi a0.toNatClampNeg)).2.1 (S (pi a0.toNatClampNeg)).2.2.1 (S (pi a0.toNatClampNeg)).2.2.2 a1) Blind.b0 ml_X5_119 im_X3_value se_X3_value ini_X3 co_X3_value rfl dn_X3_value rfl (va_recv hK (pool_sub hP (hpi _ (sz_nat hs c_1 c_2))) (ci := 1) (q0 := 0) rfl rfl) (fun U hU hW => ⟨by rw [hU]; exact pool_sub hP (hpi _ (sz_nat hs c_1 c_2)), va_K.moved hW.alike hK⟩) hl.1 rfl (Nat.le_of_ble_eq_true rfl) ⟨Nat.le_of_ble_eq_true rfl, Nat.le_of_ble_eq_true rfl⟩ ⟨Nat.le_of_ble_eq_true rfl, Nat.le_of_ble_eq_true rfl⟩ dX5_craft_19 ?_
      exact rd_i hx hb hr hlocks (by simp only [f_X5_craft, if_neg c_1, if_neg c_2]) dX5_craft_22

def f_X5_sign (size : Int32) (pi : Nat → Nat) (S : Nat → CR) (a0 : Int32) (a1 : Int32) : Int32 := (if a0 < 0 then (-1 : Int32) else (if size ≤ a0 then (-1 : Int32) else (f_X3_letter (S (pi a0.toNatClampNeg)).2.1 a1)))
set_option maxHeartbeats 4000000 in
set_option maxRecDepth 100000 in
theorem c_X5_sign (l : Launch) (D : va_G) (cI cJ cO : ClassId) (h0 : Nat) (d0 : Nat) (l0 : Nat) (b0 : Nat) (own : Int64) (clk : Int32) (d1 : Nat) (dlen : Int32) (dtr : Int32) (dw : Nat → Int32) (l1 : Nat) (llen : Int32) (ltr : Int32) (lw : Nat → Int32) (r0 : Nat) (size : Int32) (pad : Nat → Nat → Nat) (pi : Nat → Nat) (S : Nat → CR) (a0 : Int32) (a1 : Int32) (hs : 0 ≤ size.toInt ∧ size.toInt ≤ 20) (hpi : ∀ k, k < 20 → pi k < 20) : Rd l yX5_sign cX5_sign 4 (some .int) 1 21 [.ref h0, .int a0, .int a1] (fun U => B0 D cI cJ cO ([(h0, .inr (3, [.ref d0, .ref l0, .ref b0, .long own, .int clk])), (d0, .inr (2, [.ref d1, .int dlen, .int dtr])), (d1, .inl (cI, 4, .inl dw)), (l0, .inr (2, [.ref l1, .int llen, .int ltr])), (l1, .inl (cI, 4, .inl lw)), (b0, .inr (0, [.ref r0, .int size])), (r0, .inl (cO, 20, .inr (.inr (.inr (.inr (rsf pad pi))))))] ++ Pool pad cI cJ S) U) (some (.int (f_X5_sign size pi S a0 a1))) := by
  refine Rd.of (by decide +kernel) (Nat.le_of_ble_eq_true rfl) ?_
  intro p e s m args below meth c hx hb hr hml hown htg hlocks hB ls hl
  obtain ⟨hP, hK⟩ := hB
  have hP : va_P D vwCl ([(h0, .inr (3, [.ref d0, .ref l0, .ref b0, .long own, .int clk])), (d0, .inr (2, [.ref d1, .int dlen, .int dtr])), (d1, .inl (cI, 4, .inl dw)), (l0, .inr (2, [.ref l1, .int llen, .int ltr])), (l1, .inl (cI, 4, .inl lw)), (b0, .inr (0, [.ref r0, .int size])), (r0, .inl (cO, 20, .inr (.inr (.inr (.inr (rsf pad pi))))))] ++ Pool pad cI cJ S) s.heap := hP
  have hown : s.vm.findClass RX5 = some m.cls := hown
  have hl : lv_has ls 4 [(0, .ref h0), (1, .int a0), (2, .int a1)] := hl
  refine lv_aload_n hx hb dX5_sign_0 rfl (lv_at hl 0 rfl) ?_
  refine va_get (D := D) (ci := 3) (v := .ref b0) (C := RX5) (T := TX5) (N := 5) hx hb htg inX5 hown hK hP 0 rfl rfl 2 (by decide) (htg _ fl_X5_22) (fun _ h9 => h9) rfl dX5_sign_1 ?_
  refine lv_iload_n hx hb dX5_sign_4 rfl (lv_at hl 1 rfl) ?_
  by_cases c_1 : a0 < 0
  · refine rV (As := [.int a0]) (rest := []) hx hb hml hown htg (c_X0_at_n1 l D cI cJ cO h0 d0 l0 b0 own clk d1 dlen dtr dw l1 llen ltr lw r0 size pad pi S a0 c_1) Blind.b0 ml_X5_81 im_X0_at se_X0_at ini_X0 co_X0_at rfl dn_X0_at rfl (va_recv hK hP (ci := 0) (q0 := 5) rfl rfl) (fun U hU hW => ⟨by rw [hU]; exact hP, va_K.moved hW.alike hK⟩) hl.1 rfl (Nat.le_of_ble_eq_true rfl) ⟨Nat.le_of_ble_eq_true rfl, Nat.le_of_ble_eq_true rfl⟩ ⟨Nat.le_of_ble_eq_true rfl, Nat.le_of_ble_eq_true rfl⟩ dX5_sign_5 ?_
    refine lv_astore_nN (lv' := [(3, .null), (0, .ref h0), (1, .int a0), (2, .int a1)]) hx hb dX5_sign_8 rfl hl (by decide) rfl (fun ls hl => ?_)
    refine lv_aload_nN hx hb dX5_sign_9 rfl (lv_at hl 0 rfl) ?_
    refine lv_ifnonnullN hx hb dX5_sign_10 ?_
    refine lv_iconst (v := (-1)) hx hb dX5_sign_13 (by decide) ?_
    refine lv_goto (tgt := 22) hx hb dX5_sign_14 (by decide) ?_
    exact rd_i hx hb hr hlocks (by simp only [f_X5_sign, if_pos c_1]) dX5_sign_22
  · by_cases c_2 : size ≤ a0
    · refine rV (As := [.int a0]) (rest := []) hx hb hml hown htg (c_X0_at_n2 l D cI cJ cO h0 d0 l0 b0 own clk d1 dlen dtr dw l1 llen ltr lw r0 size pad pi S a0 c_1 c_2) Blind.b0 ml_X5_81 im_X0_at se_X0_at ini_X0 co_X0_at rfl dn_X0_at rfl (va_recv hK hP (ci := 0) (q0 := 5) rfl rfl) (fun U hU hW => ⟨by rw [hU]; exact hP, va_K.moved hW.alike hK⟩) hl.1 rfl (Nat.le_of_ble_eq_true rfl) ⟨Nat.le_of_ble_eq_true rfl, Nat.le_of_ble_eq_true rfl⟩ ⟨Nat.le_of_ble_eq_true rfl, Nat.le_of_ble_eq_true rfl⟩ dX5_sign_5 ?_
      refine lv_astore_nN (lv' := [(3, .null), (0, .ref h0), (1, .int a0), (2, .int a1)]) hx hb dX5_sign_8 rfl hl (by decide) rfl (fun ls hl => ?_)
      refine lv_aload_nN hx hb dX5_sign_9 rfl (lv_at hl 0 rfl) ?_
      refine lv_ifnonnullN hx hb dX5_sign_10 ?_
      refine lv_iconst (v := (-1)) hx hb dX5_sign_13 (by decide) ?_
      refine lv_goto (tgt := 22) hx hb dX5_sign_14 (by decide) ?_
      exact rd_i hx hb hr hlocks (by simp only [f_X5_sign, if_neg c_1, if_pos c_2]) dX5_sign_22
    · refine rV (As := [.int a0]) (rest := []) hx hb hml hown htg (c_X0_at_s l D cI cJ cO h0 d0 l0 b0 own clk d1 dlen dtr dw l1 llen ltr lw r0 size pad pi S a0 hs c_1 c_2) Blind.b0 ml_X5_81 im_X0_at se_X0_at ini_X0 co_X0_at rfl dn_X0_at rfl (va_recv hK hP (ci := 0) (q0 := 5) rfl rfl) (fun U hU hW => ⟨by rw [hU]; exact hP, va_K.moved hW.alike hK⟩) hl.1 rfl (Nat.le_of_ble_eq_true rfl) ⟨Nat.le_of_ble_eq_true rfl, Nat.le_of_ble_eq_true rfl⟩ ⟨Nat.le_of_ble_eq_true rfl, Nat.le_of_ble_eq_true rfl⟩ dX5_sign_5 ?_
      refine lv_astore_n (lv' := [(3, .ref (pad (pi a0.toNatClampNeg) 0)), (0, .ref h0), (1, .int a0), (2, .int a1)]) hx hb dX5_sign_8 rfl hl (by decide) rfl (fun ls hl => ?_)
      refine lv_aload_n hx hb dX5_sign_9 rfl (lv_at hl 0 rfl) ?_
      refine lv_ifnonnull (tgt := 17) hx hb dX5_sign_10 (by decide) ?_
      refine lv_aload_n hx hb dX5_sign_17 rfl (lv_at hl 0 rfl) ?_
      refine lv_iload_n hx hb dX5_sign_18 rfl (lv_at hl 3 rfl) ?_
      refine rV (As := [.int a1]) (rest := []) hx hb hml hown htg (c_X3_letter l D cI cJ cO (pad (pi a0.toNatClampNeg) 0) (pad (pi a0.toNatClampNeg) 1) (pad (pi a0.toNatClampNeg) 2) (pad (pi a0.toNatClampNeg) 3) (pad (pi a0.toNatClampNeg) 4) (S (pi a0.toNatClampNeg)).1 (S (pi a0.toNatClampNeg)).2.1 (S (pi a0.toNatClampNeg)).2.2.1 (S (pi a0.toNatClampNeg)).2.2.2 a1) Blind.b0 ml_X5_122 im_X3_letter se_X3_letter ini_X3 co_X3_letter rfl dn_X3_letter rfl (va_recv hK (pool_sub hP (hpi _ (sz_nat hs c_1 c_2))) (ci := 1) (q0 := 0) rfl rfl) (fun U hU hW => ⟨by rw [hU]; exact pool_sub hP (hpi _ (sz_nat hs c_1 c_2)), va_K.moved hW.alike hK⟩) hl.1 rfl (Nat.le_of_ble_eq_true rfl) ⟨Nat.le_of_ble_eq_true rfl, Nat.le_of_ble_eq_true rfl⟩ ⟨Nat.le_of_ble_eq_true rfl, Nat.le_of_ble_eq_true rfl⟩ dX5_sign_19 ?_
      exact rd_i hx hb hr hlocks (by simp only [f_X5_sign, if_neg c_1, if_neg c_2]) dX5_sign_22

def f_X5_zones (a0 : Int32) : Int32 := (if (f_X2_isPlace a0 (0 : Int32)) = 0 then (-1 : Int32) else (f_X2_zoneCount ((100 : Int64) * a0.toInt64) (1 : Int64)))
set_option maxHeartbeats 4000000 in
set_option maxRecDepth 100000 in
theorem c_X5_zones (l : Launch) (D : va_G) (cI cJ cO : ClassId) (h0 : Nat) (d0 : Nat) (l0 : Nat) (b0 : Nat) (own : Int64) (clk : Int32) (d1 : Nat) (dlen : Int32) (dtr : Int32) (dw : Nat → Int32) (l1 : Nat) (llen : Int32) (ltr : Int32) (lw : Nat → Int32) (r0 : Nat) (size : Int32) (pad : Nat → Nat → Nat) (pi : Nat → Nat) (S : Nat → CR) (a0 : Int32) : Rd l yX5_zones cX5_zones 2 (some .int) 2 47 [.ref h0, .int a0] (fun U => B0 D cI cJ cO ([(h0, .inr (3, [.ref d0, .ref l0, .ref b0, .long own, .int clk])), (d0, .inr (2, [.ref d1, .int dlen, .int dtr])), (d1, .inl (cI, 4, .inl dw)), (l0, .inr (2, [.ref l1, .int llen, .int ltr])), (l1, .inl (cI, 4, .inl lw)), (b0, .inr (0, [.ref r0, .int size])), (r0, .inl (cO, 20, .inr (.inr (.inr (.inr (rsf pad pi))))))] ++ Pool pad cI cJ S) U ∧ Bt (fun _ => False) U) (some (.int (f_X5_zones a0))) := by
  refine Rd.of (by decide +kernel) (Nat.le_of_ble_eq_true rfl) ?_
  intro p e s m args below meth c hx hb hr hml hown htg hlocks hB ls hl
  obtain ⟨⟨hP, hK⟩, hBt⟩ := hB
  have hP : va_P D vwCl ([(h0, .inr (3, [.ref d0, .ref l0, .ref b0, .long own, .int clk])), (d0, .inr (2, [.ref d1, .int dlen, .int dtr])), (d1, .inl (cI, 4, .inl dw)), (l0, .inr (2, [.ref l1, .int llen, .int ltr])), (l1, .inl (cI, 4, .inl lw)), (b0, .inr (0, [.ref r0, .int size])), (r0, .inl (cO, 20, .inr (.inr (.inr (.inr (rsf pad pi))))))] ++ Pool pad cI cJ S) s.heap := hP
  have hS : va_S (fun _ => False) s.heap s.heap [] := va_S.rf
  have hown : s.vm.findClass RX5 = some m.cls := hown
  have hl : lv_has ls 2 [(0, .ref h0), (1, .int a0)] := hl
  refine lv_iload_n hx hb dX5_zones_0 rfl (lv_at hl 1 rfl) ?_
  refine lv_iconst (v := 0) hx hb dX5_zones_1 (by decide) ?_
  refine rS (As := [.int a0, .int (0 : Int32)]) (rest := []) hx hb hml hown htg (c_X2_isPlace l a0 (0 : Int32)) Blind.tt ml_X5_50 st_X2_isPlace ini_X2 co_X2_isPlace dn_X2_isPlace rfl (fun _ _ _ => trivial) hl.1 rfl (Nat.le_of_ble_eq_true rfl) ⟨Nat.le_of_ble_eq_true rfl, Nat.le_of_ble_eq_true rfl⟩ ⟨Nat.le_of_ble_eq_true rfl, Nat.le_of_ble_eq_true rfl⟩ dX5_zones_2 ?_
  refine lv_if_ne (tgt := 10) hx hb dX5_zones_5 (by decide) (fun c_1 => ?_) (fun c_1 => ?_)
  · refine lv_ldc2 (v := 100) hx hb hown (htg _ ct_X5_125) dX5_zones_10 ?_
    refine lv_iload_n hx hb dX5_zones_13 rfl (lv_at hl 1 rfl) ?_
    refine lv_i2l (v := a0.toInt64) hx hb dX5_zones_14 rfl ?_
    refine lv_lmul hx hb dX5_zones_15 ?_
    refine lv_lconst (v := 1) hx hb dX5_zones_16 (by decide) ?_
    refine rS (As := [.long ((100 : Int64) * a0.toInt64), .long (1 : Int64)]) (rest := []) hx hb hml hown htg (c_X2_zoneCount l ((100 : Int64) * a0.toInt64) (1 : Int64)) Blind.bt ml_X5_127 st_X2_zoneCount ini_X2 co_X2_zoneCount dn_X2_zoneCount rfl (fun U hU hW => Bt.at hBt hS (fun _ q => q.elim) hU hW) hl.1 rfl (Nat.le_of_ble_eq_true rfl) ⟨Nat.le_of_ble_eq_true rfl, Nat.le_of_ble_eq_true rfl⟩ ⟨Nat.le_of_ble_eq_true rfl, Nat.le_of_ble_eq_true rfl⟩ dX5_zones_17 ?_
    exact rd_i hx hb hr hlocks (by simp only [f_X5_zones, if_neg c_1]) dX5_zones_20
  · refine lv_iconst (v := (-1)) hx hb dX5_zones_8 (by decide) ?_
    exact rd_i hx hb hr hlocks (by simp only [f_X5_zones, if_pos c_1]) dX5_zones_9

def f_X5_encode (a0 : Int32) (a1 : Int32) (a2 : Int32) (a3 : Int32) : Int64 := (if (f_X2_isPlace a0 a1) = 0 then (-1 : Int64) else (f_X2_code a0 a1 a2 a3))
set_option maxHeartbeats 4000000 in
set_option maxRecDepth 100000 in
theorem c_X5_encode (l : Launch) (D : va_G) (cI cJ cO : ClassId) (h0 : Nat) (d0 : Nat) (l0 : Nat) (b0 : Nat) (own : Int64) (clk : Int32) (d1 : Nat) (dlen : Int32) (dtr : Int32) (dw : Nat → Int32) (l1 : Nat) (llen : Int32) (ltr : Int32) (lw : Nat → Int32) (r0 : Nat) (size : Int32) (pad : Nat → Nat → Nat) (pi : Nat → Nat) (S : Nat → CR) (a0 : Int32) (a1 : Int32) (a2 : Int32) (a3 : Int32) : Rd l yX5_encode cX5_encode 5 (some .long) 4 106 [.ref h0, .int a0, .int a1, .int a2, .int a3] (fun U => B0 D cI cJ cO ([(h0, .inr (3, [.ref d0, .ref l0, .ref b0, .long own, .int clk])), (d0, .inr (2, [.ref d1, .int dlen, .int dtr])), (d1, .inl (cI, 4, .inl dw)), (l0, .inr (2, [.ref l1, .int llen, .int ltr])), (l1, .inl (cI, 4, .inl lw)), (b0, .inr (0, [.ref r0, .int size])), (r0, .inl (cO, 20, .inr (.inr (.inr (.inr (rsf pad pi))))))] ++ Pool pad cI cJ S) U ∧ Bt (fun _ => False) U) (some (.long (f_X5_encode a0 a1 a2 a3))) := by
  refine Rd.of (by decide +kernel) (Nat.le_of_ble_eq_true rfl) ?_
  intro p e s m args below meth c hx hb hr hml hown htg hlocks hB ls hl
  obtain ⟨⟨hP, hK⟩, hBt⟩ := hB
  have hP : va_P D vwCl ([(h0, .inr (3, [.ref d0, .ref l0, .ref b0, .long own, .int clk])), (d0, .inr (2, [.ref d1, .int dlen, .int dtr])), (d1, .inl (cI, 4, .inl dw)), (l0, .inr (2, [.ref l1, .int llen, .int ltr])), (l1, .inl (cI, 4, .inl lw)), (b0, .inr (0, [.ref r0, .int size])), (r0, .inl (cO, 20, .inr (.inr (.inr (.inr (rsf pad pi))))))] ++ Pool pad cI cJ S) s.heap := hP
  have hS : va_S (fun _ => False) s.heap s.heap [] := va_S.rf
  have hown : s.vm.findClass RX5 = some m.cls := hown
  have hl : lv_has ls 5 [(0, .ref h0), (1, .int a0), (2, .int a1), (3, .int a2), (4, .int a3)] := hl
  refine lv_iload_n hx hb dX5_encode_0 rfl (lv_at hl 1 rfl) ?_
  refine lv_iload_n hx hb dX5_encode_1 rfl (lv_at hl 2 rfl) ?_
  refine rS (As := [.int a0, .int a1]) (rest := []) hx hb hml hown htg (c_X2_isPlace l a0 a1) Blind.tt ml_X5_50 st_X2_isPlace ini_X2 co_X2_isPlace dn_X2_isPlace rfl (fun _ _ _ => trivial) hl.1 rfl (Nat.le_of_ble_eq_true rfl) ⟨Nat.le_of_ble_eq_true rfl, Nat.le_of_ble_eq_true rfl⟩ ⟨Nat.le_of_ble_eq_true rfl, Nat.le_of_ble_eq_true rfl⟩ dX5_encode_2 ?_
  refine lv_if_ne (tgt := 12) hx hb dX5_encode_5 (by decide) (fun c_1 => ?_) (fun c_1 => ?_)
  · refine lv_iload_n hx hb dX5_encode_12 rfl (lv_at hl 1 rfl) ?_
    refine lv_iload_n hx hb dX5_encode_13 rfl (lv_at hl 2 rfl) ?_
    refine lv_iload_n hx hb dX5_encode_14 rfl (lv_at hl 3 rfl) ?_
    refine lv_iload hx hb dX5_encode_15 (lv_at hl 4 rfl) ?_
    refine rS (As := [.int a0, .int a1, .int a2, .int a3]) (rest := []) hx hb hml hown htg (c_X2_code l a0 a1 a2 a3) Blind.bt ml_X5_133 st_X2_code ini_X2 co_X2_code dn_X2_code rfl (fun U hU hW => Bt.at hBt hS (fun _ q => q.elim) hU hW) hl.1 rfl (Nat.le_of_ble_eq_true rfl) ⟨Nat.le_of_ble_eq_true rfl, Nat.le_of_ble_eq_true rfl⟩ ⟨Nat.le_of_ble_eq_true rfl, Nat.le_of_ble_eq_true rfl⟩ dX5_encode_17 ?_
    exact rd_l hx hb hr hlocks (by simp only [f_X5_encode, if_neg c_1]) dX5_encode_20
  · refine lv_ldc2 (v := (-1)) hx hb hown (htg _ ct_X5_131) dX5_encode_8 ?_
    exact rd_l hx hb hr hlocks (by simp only [f_X5_encode, if_pos c_1]) dX5_encode_11

def f_X5_global (a0 : Int64) (a1 : Int64) (a2 : Int32) : Int64 := (if (f_X2_isCode a0) = 0 then (-9223372036854775808 : Int64) else (if (f_X2_isCode a1) = 0 then (-9223372036854775808 : Int64) else (f_X2_placeOfPair a0 a1 a2)))
set_option maxHeartbeats 4000000 in
set_option maxRecDepth 100000 in
theorem c_X5_global (l : Launch) (D : va_G) (cI cJ cO : ClassId) (h0 : Nat) (d0 : Nat) (l0 : Nat) (b0 : Nat) (own : Int64) (clk : Int32) (d1 : Nat) (dlen : Int32) (dtr : Int32) (dw : Nat → Int32) (l1 : Nat) (llen : Int32) (ltr : Int32) (lw : Nat → Int32) (r0 : Nat) (size : Int32) (pad : Nat → Nat → Nat) (pi : Nat → Nat) (S : Nat → CR) (a0 : Int64) (a1 : Int64) (a2 : Int32) : Rd l yX5_global cX5_global 6 (some .long) 4 118 [.ref h0, .long a0, .long a1, .int a2] (fun U => B0 D cI cJ cO ([(h0, .inr (3, [.ref d0, .ref l0, .ref b0, .long own, .int clk])), (d0, .inr (2, [.ref d1, .int dlen, .int dtr])), (d1, .inl (cI, 4, .inl dw)), (l0, .inr (2, [.ref l1, .int llen, .int ltr])), (l1, .inl (cI, 4, .inl lw)), (b0, .inr (0, [.ref r0, .int size])), (r0, .inl (cO, 20, .inr (.inr (.inr (.inr (rsf pad pi))))))] ++ Pool pad cI cJ S) U ∧ Bt (fun _ => False) U) (some (.long (f_X5_global a0 a1 a2))) := by
  refine Rd.of (by decide +kernel) (Nat.le_of_ble_eq_true rfl) ?_
  intro p e s m args below meth c hx hb hr hml hown htg hlocks hB ls hl
  obtain ⟨⟨hP, hK⟩, hBt⟩ := hB
  have hP : va_P D vwCl ([(h0, .inr (3, [.ref d0, .ref l0, .ref b0, .long own, .int clk])), (d0, .inr (2, [.ref d1, .int dlen, .int dtr])), (d1, .inl (cI, 4, .inl dw)), (l0, .inr (2, [.ref l1, .int llen, .int ltr])), (l1, .inl (cI, 4, .inl lw)), (b0, .inr (0, [.ref r0, .int size])), (r0, .inl (cO, 20, .inr (.inr (.inr (.inr (rsf pad pi))))))] ++ Pool pad cI cJ S) s.heap := hP
  have hS : va_S (fun _ => False) s.heap s.heap [] := va_S.rf
  have hown : s.vm.findClass RX5 = some m.cls := hown
  have hl : lv_has ls 6 [(0, .ref h0), (1, .long a0), (3, .long a1), (5, .int a2)] := hl
  refine lv_lload_n hx hb dX5_global_0 rfl (lv_at hl 1 rfl) ?_
  refine rS (As := [.long a0]) (rest := []) hx hb hml hown htg (c_X2_isCode l a0) Blind.tt ml_X5_137 st_X2_isCode ini_X2 co_X2_isCode dn_X2_isCode rfl (fun _ _ _ => trivial) hl.1 rfl (Nat.le_of_ble_eq_true rfl) ⟨Nat.le_of_ble_eq_true rfl, Nat.le_of_ble_eq_true rfl⟩ ⟨Nat.le_of_ble_eq_true rfl, Nat.le_of_ble_eq_true rfl⟩ dX5_global_1 ?_
  refine lv_if_eq (tgt := 14) hx hb dX5_global_4 (by decide) (fun c_1 => ?_) (fun c_1 => ?_)
  · refine lv_ldc2 (v := (-9223372036854775808)) hx hb hown (htg _ ct_X5_26) dX5_global_14 ?_
    exact rd_l hx hb hr hlocks (by simp only [f_X5_global, if_pos c_1]) dX5_global_17
  · refine lv_lload_n hx hb dX5_global_7 rfl (lv_at hl 2 rfl) ?_
    refine rS (As := [.long a1]) (rest := []) hx hb hml hown htg (c_X2_isCode l a1) Blind.tt ml_X5_137 st_X2_isCode ini_X2 co_X2_isCode dn_X2_isCode rfl (fun _ _ _ => trivial) hl.1 rfl (Nat.le_of_ble_eq_true rfl) ⟨Nat.le_of_ble_eq_true rfl, Nat.le_of_ble_eq_true rfl⟩ ⟨Nat.le_of_ble_eq_true rfl, Nat.le_of_ble_eq_true rfl⟩ dX5_global_8 ?_
    refine lv_if_ne (tgt := 18) hx hb dX5_global_11 (by decide) (fun c_2 => ?_) (fun c_2 => ?_)
    · refine lv_lload_n hx hb dX5_global_18 rfl (lv_at hl 1 rfl) ?_
      refine lv_lload_n hx hb dX5_global_19 rfl (lv_at hl 2 rfl) ?_
      refine lv_iload hx hb dX5_global_20 (lv_at hl 3 rfl) ?_
      refine rS (As := [.long a0, .long a1, .int a2]) (rest := []) hx hb hml hown htg (c_X2_placeOfPair l a0 a1 a2) Blind.bt ml_X5_141 st_X2_placeOfPair ini_X2 co_X2_placeOfPair dn_X2_placeOfPair rfl (fun U hU hW => Bt.at hBt hS (fun _ q => q.elim) hU hW) hl.1 rfl (Nat.le_of_ble_eq_true rfl) ⟨Nat.le_of_ble_eq_true rfl, Nat.le_of_ble_eq_true rfl⟩ ⟨Nat.le_of_ble_eq_true rfl, Nat.le_of_ble_eq_true rfl⟩ dX5_global_22 ?_
      exact rd_l hx hb hr hlocks (by simp only [f_X5_global, if_neg c_1, if_neg c_2]) dX5_global_25
    · refine lv_ldc2 (v := (-9223372036854775808)) hx hb hown (htg _ ct_X5_26) dX5_global_14 ?_
      exact rd_l hx hb hr hlocks (by simp only [f_X5_global, if_neg c_1, if_pos c_2]) dX5_global_17

def f_X5_local (a0 : Int64) (a1 : Int32) (a2 : Int32) (a3 : Int32) (a4 : Int32) : Int64 := (if (f_X2_isCode a0) = 0 then (-9223372036854775808 : Int64) else (if (f_X2_isPlace a3 a4) = 0 then (-9223372036854775808 : Int64) else (f_X2_placeNear a0 a1 a2 (f_X2_pack a3.toInt64 a4.toInt64))))
set_option maxHeartbeats 4000000 in
set_option maxRecDepth 100000 in
theorem c_X5_local (l : Launch) (D : va_G) (cI cJ cO : ClassId) (h0 : Nat) (d0 : Nat) (l0 : Nat) (b0 : Nat) (own : Int64) (clk : Int32) (d1 : Nat) (dlen : Int32) (dtr : Int32) (dw : Nat → Int32) (l1 : Nat) (llen : Int32) (ltr : Int32) (lw : Nat → Int32) (r0 : Nat) (size : Int32) (pad : Nat → Nat → Nat) (pi : Nat → Nat) (S : Nat → CR) (a0 : Int64) (a1 : Int32) (a2 : Int32) (a3 : Int32) (a4 : Int32) : Rd l yX5_local cX5_local 7 (some .long) 4 116 [.ref h0, .long a0, .int a1, .int a2, .int a3, .int a4] (fun U => B0 D cI cJ cO ([(h0, .inr (3, [.ref d0, .ref l0, .ref b0, .long own, .int clk])), (d0, .inr (2, [.ref d1, .int dlen, .int dtr])), (d1, .inl (cI, 4, .inl dw)), (l0, .inr (2, [.ref l1, .int llen, .int ltr])), (l1, .inl (cI, 4, .inl lw)), (b0, .inr (0, [.ref r0, .int size])), (r0, .inl (cO, 20, .inr (.inr (.inr (.inr (rsf pad pi))))))] ++ Pool pad cI cJ S) U ∧ Bt (fun _ => False) U) (some (.long (f_X5_local a0 a1 a2 a3 a4))) := by
  refine Rd.of (by decide +kernel) (Nat.le_of_ble_eq_true rfl) ?_
  intro p e s m args below meth c hx hb hr hml hown htg hlocks hB ls hl
  obtain ⟨⟨hP, hK⟩, hBt⟩ := hB
  have hP : va_P D vwCl ([(h0, .inr (3, [.ref d0, .ref l0, .ref b0, .long own, .int clk])), (d0, .inr (2, [.ref d1, .int dlen, .int dtr])), (d1, .inl (cI, 4, .inl dw)), (l0, .inr (2, [.ref l1, .int llen, .int ltr])), (l1, .inl (cI, 4, .inl lw)), (b0, .inr (0, [.ref r0, .int size])), (r0, .inl (cO, 20, .inr (.inr (.inr (.inr (rsf pad pi))))))] ++ Pool pad cI cJ S) s.heap := hP
  have hS : va_S (fun _ => False) s.heap s.heap [] := va_S.rf
  have hown : s.vm.findClass RX5 = some m.cls := hown
  have hl : lv_has ls 7 [(0, .ref h0), (1, .long a0), (3, .int a1), (4, .int a2), (5, .int a3), (6, .int a4)] := hl
  refine lv_lload_n hx hb dX5_local_0 rfl (lv_at hl 1 rfl) ?_
  refine rS (As := [.long a0]) (rest := []) hx hb hml hown htg (c_X2_isCode l a0) Blind.tt ml_X5_137 st_X2_isCode ini_X2 co_X2_isCode dn_X2_isCode rfl (fun _ _ _ => trivial) hl.1 rfl (Nat.le_of_ble_eq_true rfl) ⟨Nat.le_of_ble_eq_true rfl, Nat.le_of_ble_eq_true rfl⟩ ⟨Nat.le_of_ble_eq_true rfl, Nat.le_of_ble_eq_true rfl⟩ dX5_local_1 ?_
  refine lv_if_eq (tgt := 17) hx hb dX5_local_4 (by decide) (fun c_1 => ?_) (fun c_1 => ?_)
  · refine lv_ldc2 (v := (-9223372036854775808)) hx hb hown (htg _ ct_X5_26) dX5_local_17 ?_
    exact rd_l hx hb hr hlocks (by simp only [f_X5_local, if_pos c_1]) dX5_local_20
  · refine lv_iload hx hb dX5_local_7 (lv_at hl 4 rfl) ?_
    refine lv_iload hx hb dX5_local_9 (lv_at hl 5 rfl) ?_
    refine rS (As := [.int a3, .int a4]) (rest := []) hx hb hml hown htg (c_X2_isPlace l a3 a4) Blind.tt ml_X5_50 st_X2_isPlace ini_X2 co_X2_isPlace dn_X2_isPlace rfl (fun _ _ _ => trivial) hl.1 rfl (Nat.le_of_ble_eq_true rfl) ⟨Nat.le_of_ble_eq_true rfl, Nat.le_of_ble_eq_true rfl⟩ ⟨Nat.le_of_ble_eq_true rfl, Nat.le_of_ble_eq_true rfl⟩ dX5_local_11 ?_
    refine lv_if_ne (tgt := 21) hx hb dX5_local_14 (by decide) (fun c_2 => ?_) (fun c_2 => ?_)
    · refine lv_lload_n hx hb dX5_local_21 rfl (lv_at hl 1 rfl) ?_
      refine lv_iload_n hx hb dX5_local_22 rfl (lv_at hl 2 rfl) ?_
      refine lv_iload hx hb dX5_local_23 (lv_at hl 3 rfl) ?_
      refine lv_iload hx hb dX5_local_25 (lv_at hl 4 rfl) ?_
      refine lv_i2l (v := a3.toInt64) hx hb dX5_local_27 rfl ?_
      refine lv_iload hx hb dX5_local_28 (lv_at hl 5 rfl) ?_
      refine lv_i2l (v := a4.toInt64) hx hb dX5_local_30 rfl ?_
      refine rS (As := [.long a3.toInt64, .long a4.toInt64]) (rest := [.int a2, .int a1, .long a0]) hx hb hml hown htg (c_X2_pack l a3.toInt64 a4.toInt64) Blind.tt ml_X5_56 st_X2_pack ini_X2 co_X2_pack dn_X2_pack rfl (fun _ _ _ => trivial) hl.1 rfl (Nat.le_of_ble_eq_true rfl) ⟨Nat.le_of_ble_eq_true rfl, Nat.le_of_ble_eq_true rfl⟩ ⟨Nat.le_of_ble_eq_true rfl, Nat.le_of_ble_eq_true rfl⟩ dX5_local_31 ?_
      refine rS (As := [.long a0, .int a1, .int a2, .long (f_X2_pack a3.toInt64 a4.toInt64)]) (rest := []) hx hb hml hown htg (c_X2_placeNear l a0 a1 a2 (f_X2_pack a3.toInt64 a4.toInt64)) Blind.bt ml_X5_145 st_X2_placeNear ini_X2 co_X2_placeNear dn_X2_placeNear rfl (fun U hU hW => Bt.at hBt hS (fun _ q => q.elim) hU hW) hl.1 rfl (Nat.le_of_ble_eq_true rfl) ⟨Nat.le_of_ble_eq_true rfl, Nat.le_of_ble_eq_true rfl⟩ ⟨Nat.le_of_ble_eq_true rfl, Nat.le_of_ble_eq_true rfl⟩ dX5_local_34 ?_
      exact rd_l hx hb hr hlocks (by simp only [f_X5_local, if_neg c_1, if_neg c_2]) dX5_local_37
    · refine lv_ldc2 (v := (-9223372036854775808)) hx hb hown (htg _ ct_X5_26) dX5_local_17 ?_
      exact rd_l hx hb hr hlocks (by simp only [f_X5_local, if_neg c_1, if_pos c_2]) dX5_local_20
