/-! Book -/
theorem pool_obj {pad : Nat → Nat → Nat} {cI cJ : ClassId} {S : Nat → CR} {base : va_W} {c : Nat} (hc : c < 20) : (base ++ Pool pad cI cJ S)[base.length + (5 * c + 0)]? = some (pad c 0, .inr (1, [.ref (pad c 1), .ref (pad c 2), .ref (pad c 3), .ref (pad c 4)])) := pool_at hc (by decide)
section PLF
variable {p : Program} {l : Launch} {e : Env} {R : Room} {s : State} {m : MethodId} {args : Array Value} {below : List Frame} {meth : Method} {c : Code} {H : Heap} {locs : List Loc} {cells slots : Nat} {Q : State → Prop}
variable {pc : Nat} {ls : Array Slot} {rest st0 : List Value} {cc : ByteArray} {a : Array Value} {D : va_G} {A0 : Nat → Prop} {H0 : Heap} {pad : Nat → Nat → Nat} {cI cJ : ClassId} {S S' : Nat → CR} {base base' : va_W}
/-- a call of a method that may change all the cells, crafts and all -/
theorem wVf {y : MethodName} {bytes : ByteArray} {maxL nL n index fr lo : Nat} {ret : Option FieldType} {own : String} {C : String} {b : Addr} {As : List Value} {B : State → Prop} {v : Option Value} (hx : p.tables.exec = Jvm.exec) (hb : c.code = cc) (hml : c.maxLocals = nL) (hown : s.vm.findClass own = some m.cls) (htg : ∀ w ∈ gw, w.before args s = true)
    (M : Wr l y bytes maxL ret fr lo (.ref b :: As) B D v (base ++ Pool pad cI cJ S) (base' ++ Pool pad cI cJ S')) (hB : Blind B) (h1 : Cond.methodLink own index y ∈ gw) (h2 : Cond.instanceMethod y ∈ gw) (h3 : Cond.selects C y y ∈ gw) (h4 : Cond.initialized C ∈ gw) (h5 : Cond.code y bytes maxL ret ∈ gw) (hyC : y.cls = C)
    (hd : y.cls ≠ "java/lang/invoke/MethodHandle" ∧ y.cls ≠ "java/lang/invoke/VarHandle" ∧ (parseMethodDescriptor y.desc).map (fun d => d.parameters.length) = some n) (hn : As.length = n)
    (hrec : ∃ cell : Cell, H[b]? = some cell ∧ cell.vm.isStatics = false ∧ s.vm.findClass C = some cell.cls)
    (hU : ∀ U : State, U.heap = H → s.WarmedH U.vm → B U) (hls : ls.size = nL) (hst : st0 = As.reverse ++ .ref b :: rest) (hW : (rest.map fun v => v.category).sum ≤ 8) (hR : fr + 1 ≤ R.frames ∧ 8 + (maxL + 11) + lo ≤ R.locals) (hC : cells ≤ R.cells ∧ slots ≤ R.slots) (hdg : decode cc pc = .ok (.invokevirtual index, 3))
    (hP : va_P D vwCl (base ++ Pool pad cI cJ S) H) (hD : va_D A0 (base ++ Pool pad cI cJ S)) (hS : va_S A0 H0 H locs) (hs : base'.map (·.1) = base.map (·.1))
    (kk : ∀ (H1 : Heap) (locs1 : List Loc), va_P D vwCl (base' ++ Pool pad cI cJ S') H1 → va_D A0 (base' ++ Pool pad cI cJ S') → va_S A0 H0 H1 locs1 → W p l e R s m args below meth c H1 locs1 cells slots Q (F0 m (pc + 3) ls (v.toList ++ rest))) : W p l e R s m args below meth c H locs cells slots Q (F0 m pc ls st0) := by
  have hr := va_runV (g := F0 m pc ls st0) (locs := locs) (below := below) (e := e) (meth := meth) (As := As) (rest := rest) ⟨hx, hb, hml, hown, htg⟩ M (cwV n htg (gV h1 h2 h3 h4 h5) rfl rfl rfl ⟨hyC, hd⟩ hR) ⟨hB.pc _, hrec, fun U hU1 hW1 => ⟨rfl, hU U hU1 hW1⟩⟩ rfl hn hls hst (lv_room hW) hdg hC
  have hin : ∀ q, inW (base ++ Pool pad cI cJ S) q → A0 q := by
    rintro q ⟨k, e, hk⟩
    exact hD.2 k _ hk
  intro T hT X
  obtain ⟨v', st₀, t, T', L, h0, X', hL, e1, e2, ⟨hv, hP1, hz, hk⟩, st⟩ := hr T hT X
  cases hv
  rw [h0] at hz hk
  rw [← e1] at hP1 hz
  obtain ⟨t2, a1, b1⟩ := kk T'.heap (locs ++ L) hP1 (addr_D hD (by rw [List.map_append, List.map_append, hs, pool_addr S S'])) ⟨Nat.le_trans hS.1 hz, fun q h1 h2 => by rw [e1, hk q (Nat.lt_of_lt_of_le h1 hS.1) (fun z => h2 (hin q z))]; exact hS.2.1 q h1 h2, fun q hq => by
      rcases List.mem_append.mp hq with h | h
      · exact hS.2.2 q h
      · exact hin _ (hL q h)⟩ T' rfl X'
  exact ⟨t2, st t2 a1, b1⟩
end PLF
theorem sz_in {x size : Int32} (hs : 0 ≤ size.toInt ∧ size.toInt ≤ 20) (h1 : ¬ x < 0) (h2 : ¬ size ≤ x) : vp_in x 20 := by
  rw [fa_lt, i0] at h1
  rw [fa_le] at h2
  exact in_iff (by omega) (by omega)
theorem sz_lt {x size : Int32} (hs : 0 ≤ size.toInt ∧ size.toInt ≤ 20) (h1 : ¬ x < 0) (h2 : ¬ size ≤ x) : x < 20 := by
  rw [fa_lt]
  rw [fa_le] at h2
  have e20 : (20 : Int32).toInt = 20 := rfl
  omega
theorem sz_nat {x size : Int32} (hs : 0 ≤ size.toInt ∧ size.toInt ≤ 20) (h1 : ¬ x < 0) (h2 : ¬ size ≤ x) : x.toNatClampNeg < 20 := by
  rw [fa_lt, i0] at h1
  rw [fa_le] at h2
  have := clamp (x := x) (by omega)
  omega
theorem up20 {n : Nat} {i size : Int32} (hs : 0 ≤ size.toInt ∧ size.toInt ≤ 20) (h : Up (n + 1) i size) : ¬ 20 ≤ i := by
  rw [fa_le]
  have h1 := h.1
  have e20 : (20 : Int32).toInt = 20 := rfl
  omega
theorem op_in {size : Int32} (hs : 0 ≤ size.toInt ∧ size.toInt ≤ 20) (h : size < 20) : vp_in size 20 ∧ size.toNatClampNeg < 20 := by
  rw [fa_lt] at h
  have e20 : (20 : Int32).toInt = 20 := rfl
  have := clamp hs.1
  exact ⟨in_iff hs.1 (by omega), by omega⟩
def f_X0_size (size : Int32) : Int32 := size
set_option maxHeartbeats 4000000 in
set_option maxRecDepth 100000 in
theorem c_X0_size (l : Launch) (D : va_G) (cI cJ cO : ClassId) (h0 : Nat) (d0 : Nat) (l0 : Nat) (b0 : Nat) (own : Int64) (clk : Int32) (d1 : Nat) (dlen : Int32) (dtr : Int32) (dw : Nat → Int32) (l1 : Nat) (llen : Int32) (ltr : Int32) (lw : Nat → Int32) (r0 : Nat) (size : Int32) (pad : Nat → Nat → Nat) (pi : Nat → Nat) (S : Nat → CR) : Rd l yX0_size cX0_size 1 (some .int) 0 0 [.ref b0] (fun U => B0 D cI cJ cO ([(h0, .inr (3, [.ref d0, .ref l0, .ref b0, .long own, .int clk])), (d0, .inr (2, [.ref d1, .int dlen, .int dtr])), (d1, .inl (cI, 4, .inl dw)), (l0, .inr (2, [.ref l1, .int llen, .int ltr])), (l1, .inl (cI, 4, .inl lw)), (b0, .inr (0, [.ref r0, .int size])), (r0, .inl (cO, 20, .inr (.inr (.inr (.inr (rsf pad pi))))))] ++ Pool pad cI cJ S) U) (some (.int (f_X0_size size))) := by
  refine Rd.of (by decide +kernel) (Nat.le_of_ble_eq_true rfl) ?_
  intro p e s m args below meth c hx hb hr hml hown htg hlocks hB ls hl
  obtain ⟨hP, hK⟩ := hB
  have hP : va_P D vwCl ([(h0, .inr (3, [.ref d0, .ref l0, .ref b0, .long own, .int clk])), (d0, .inr (2, [.ref d1, .int dlen, .int dtr])), (d1, .inl (cI, 4, .inl dw)), (l0, .inr (2, [.ref l1, .int llen, .int ltr])), (l1, .inl (cI, 4, .inl lw)), (b0, .inr (0, [.ref r0, .int size])), (r0, .inl (cO, 20, .inr (.inr (.inr (.inr (rsf pad pi))))))] ++ Pool pad cI cJ S) s.heap := hP
  have hown : s.vm.findClass RX0 = some m.cls := hown
  have hl : lv_has ls 1 [(0, .ref b0)] := hl
  refine lv_aload_n hx hb dX0_size_0 rfl (lv_at hl 0 rfl) ?_
  refine va_get (D := D) (ci := 0) (v := .int size) (C := RX0) (T := TX0) (N := 2) hx hb htg inX0 hown hK hP 5 rfl rfl 1 (by decide) (htg _ fl_X0_18) (fun _ h9 => h9) rfl dX0_size_1 ?_
  exact rd_i hx hb hr hlocks (by simp only [f_X0_size]) dX0_size_4

set_option maxHeartbeats 4000000 in
set_option maxRecDepth 100000 in
theorem c_X0_at_n1 (l : Launch) (D : va_G) (cI cJ cO : ClassId) (h0 : Nat) (d0 : Nat) (l0 : Nat) (b0 : Nat) (own : Int64) (clk : Int32) (d1 : Nat) (dlen : Int32) (dtr : Int32) (dw : Nat → Int32) (l1 : Nat) (llen : Int32) (ltr : Int32) (lw : Nat → Int32) (r0 : Nat) (size : Int32) (pad : Nat → Nat → Nat) (pi : Nat → Nat) (S : Nat → CR) (a0 : Int32) (hn : a0 < 0) : Rd l yX0_at cX0_at 2 (some (.object "SquitterDesk$Craft")) 0 0 [.ref b0, .int a0] (fun U => B0 D cI cJ cO ([(h0, .inr (3, [.ref d0, .ref l0, .ref b0, .long own, .int clk])), (d0, .inr (2, [.ref d1, .int dlen, .int dtr])), (d1, .inl (cI, 4, .inl dw)), (l0, .inr (2, [.ref l1, .int llen, .int ltr])), (l1, .inl (cI, 4, .inl lw)), (b0, .inr (0, [.ref r0, .int size])), (r0, .inl (cO, 20, .inr (.inr (.inr (.inr (rsf pad pi))))))] ++ Pool pad cI cJ S) U) (some .null) := by
  refine Rd.of (by decide +kernel) (Nat.le_of_ble_eq_true rfl) ?_
  intro p e s m args below meth c hx hb hr hml hown htg hlocks hB ls hl
  obtain ⟨hP, hK⟩ := hB
  have hP : va_P D vwCl ([(h0, .inr (3, [.ref d0, .ref l0, .ref b0, .long own, .int clk])), (d0, .inr (2, [.ref d1, .int dlen, .int dtr])), (d1, .inl (cI, 4, .inl dw)), (l0, .inr (2, [.ref l1, .int llen, .int ltr])), (l1, .inl (cI, 4, .inl lw)), (b0, .inr (0, [.ref r0, .int size])), (r0, .inl (cO, 20, .inr (.inr (.inr (.inr (rsf pad pi))))))] ++ Pool pad cI cJ S) s.heap := hP
  have hown : s.vm.findClass RX0 = some m.cls := hown
  have hl : lv_has ls 2 [(0, .ref b0), (1, .int a0)] := hl
  refine lv_iload_n hx hb dX0_at_0 rfl (lv_at hl 1 rfl) ?_
  refine lv_if_lt (tgt := 21) hx hb dX0_at_1 (by decide) (fun c_1 => ?_) (fun c_1 => ?_)
  · refine lv_null hx hb dX0_at_21 ?_
    refine lv_goto (tgt := 31) hx hb dX0_at_22 (by decide) ?_
    exact rd_a hx hb hr hlocks (Or.inl rfl) rfl dX0_at_31
  · exact absurd hn c_1

set_option maxHeartbeats 4000000 in
set_option maxRecDepth 100000 in
theorem c_X0_at_n2 (l : Launch) (D : va_G) (cI cJ cO : ClassId) (h0 : Nat) (d0 : Nat) (l0 : Nat) (b0 : Nat) (own : Int64) (clk : Int32) (d1 : Nat) (dlen : Int32) (dtr : Int32) (dw : Nat → Int32) (l1 : Nat) (llen : Int32) (ltr : Int32) (lw : Nat → Int32) (r0 : Nat) (size : Int32) (pad : Nat → Nat → Nat) (pi : Nat → Nat) (S : Nat → CR) (a0 : Int32) (h1_ : ¬ a0 < 0) (h2_ : size ≤ a0) : Rd l yX0_at cX0_at 2 (some (.object "SquitterDesk$Craft")) 0 0 [.ref b0, .int a0] (fun U => B0 D cI cJ cO ([(h0, .inr (3, [.ref d0, .ref l0, .ref b0, .long own, .int clk])), (d0, .inr (2, [.ref d1, .int dlen, .int dtr])), (d1, .inl (cI, 4, .inl dw)), (l0, .inr (2, [.ref l1, .int llen, .int ltr])), (l1, .inl (cI, 4, .inl lw)), (b0, .inr (0, [.ref r0, .int size])), (r0, .inl (cO, 20, .inr (.inr (.inr (.inr (rsf pad pi))))))] ++ Pool pad cI cJ S) U) (some .null) := by
  refine Rd.of (by decide +kernel) (Nat.le_of_ble_eq_true rfl) ?_
  intro p e s m args below meth c hx hb hr hml hown htg hlocks hB ls hl
  obtain ⟨hP, hK⟩ := hB
  have hP : va_P D vwCl ([(h0, .inr (3, [.ref d0, .ref l0, .ref b0, .long own, .int clk])), (d0, .inr (2, [.ref d1, .int dlen, .int dtr])), (d1, .inl (cI, 4, .inl dw)), (l0, .inr (2, [.ref l1, .int llen, .int ltr])), (l1, .inl (cI, 4, .inl lw)), (b0, .inr (0, [.ref r0, .int size])), (r0, .inl (cO, 20, .inr (.inr (.inr (.inr (rsf pad pi))))))] ++ Pool pad cI cJ S) s.heap := hP
  have hown : s.vm.findClass RX0 = some m.cls := hown
  have hl : lv_has ls 2 [(0, .ref b0), (1, .int a0)] := hl
  refine lv_iload_n hx hb dX0_at_0 rfl (lv_at hl 1 rfl) ?_
  refine lv_if_lt (tgt := 21) hx hb dX0_at_1 (by decide) (fun c_1 => ?_) (fun c_1 => ?_)
  · exact absurd c_1 h1_
  · refine lv_iload_n hx hb dX0_at_4 rfl (lv_at hl 1 rfl) ?_
    refine lv_aload_n hx hb dX0_at_5 rfl (lv_at hl 0 rfl) ?_
    refine va_get (D := D) (ci := 0) (v := .int size) (C := RX0) (T := TX0) (N := 2) hx hb htg inX0 hown hK hP 5 rfl rfl 1 (by decide) (htg _ fl_X0_18) (fun _ h9 => h9) rfl dX0_at_6 ?_
    refine lv_icmp_ge (tgt := 21) hx hb dX0_at_9 (by decide) (fun c_2 => ?_) (fun c_2 => ?_)
    · refine lv_null hx hb dX0_at_21 ?_
      refine lv_goto (tgt := 31) hx hb dX0_at_22 (by decide) ?_
      exact rd_a hx hb hr hlocks (Or.inl rfl) rfl dX0_at_31
    · exact absurd h2_ c_2

set_option maxHeartbeats 4000000 in
set_option maxRecDepth 100000 in
theorem c_X0_at_s (l : Launch) (D : va_G) (cI cJ cO : ClassId) (h0 : Nat) (d0 : Nat) (l0 : Nat) (b0 : Nat) (own : Int64) (clk : Int32) (d1 : Nat) (dlen : Int32) (dtr : Int32) (dw : Nat → Int32) (l1 : Nat) (llen : Int32) (ltr : Int32) (lw : Nat → Int32) (r0 : Nat) (size : Int32) (pad : Nat → Nat → Nat) (pi : Nat → Nat) (S : Nat → CR) (a0 : Int32) (hs : 0 ≤ size.toInt ∧ size.toInt ≤ 20) (h1_ : ¬ a0 < 0) (h2_ : ¬ size ≤ a0) : Rd l yX0_at cX0_at 2 (some (.object "SquitterDesk$Craft")) 0 0 [.ref b0, .int a0] (fun U => B0 D cI cJ cO ([(h0, .inr (3, [.ref d0, .ref l0, .ref b0, .long own, .int clk])), (d0, .inr (2, [.ref d1, .int dlen, .int dtr])), (d1, .inl (cI, 4, .inl dw)), (l0, .inr (2, [.ref l1, .int llen, .int ltr])), (l1, .inl (cI, 4, .inl lw)), (b0, .inr (0, [.ref r0, .int size])), (r0, .inl (cO, 20, .inr (.inr (.inr (.inr (rsf pad pi))))))] ++ Pool pad cI cJ S) U) (some (.ref (pad (pi a0.toNatClampNeg) 0))) := by
  refine Rd.of (by decide +kernel) (Nat.le_of_ble_eq_true rfl) ?_
  intro p e s m args below meth c hx hb hr hml hown htg hlocks hB ls hl
  obtain ⟨hP, hK⟩ := hB
  have hP : va_P D vwCl ([(h0, .inr (3, [.ref d0, .ref l0, .ref b0, .long own, .int clk])), (d0, .inr (2, [.ref d1, .int dlen, .int dtr])), (d1, .inl (cI, 4, .inl dw)), (l0, .inr (2, [.ref l1, .int llen, .int ltr])), (l1, .inl (cI, 4, .inl lw)), (b0, .inr (0, [.ref r0, .int size])), (r0, .inl (cO, 20, .inr (.inr (.inr (.inr (rsf pad pi))))))] ++ Pool pad cI cJ S) s.heap := hP
  have hown : s.vm.findClass RX0 = some m.cls := hown
  have hl : lv_has ls 2 [(0, .ref b0), (1, .int a0)] := hl
  refine lv_iload_n hx hb dX0_at_0 rfl (lv_at hl 1 rfl) ?_
  refine lv_if_lt (tgt := 21) hx hb dX0_at_1 (by decide) (fun c_1 => ?_) (fun c_1 => ?_)
  · exact absurd c_1 h1_
  · refine lv_iload_n hx hb dX0_at_4 rfl (lv_at hl 1 rfl) ?_
    refine lv_aload_n hx hb dX0_at_5 rfl (lv_at hl 0 rfl) ?_
    refine va_get (D := D) (ci := 0) (v := .int size) (C := RX0) (T := TX0) (N := 2) hx hb htg inX0 hown hK hP 5 rfl rfl 1 (by decide) (htg _ fl_X0_18) (fun _ h9 => h9) rfl dX0_at_6 ?_
    refine lv_icmp_ge (tgt := 21) hx hb dX0_at_9 (by decide) (fun c_2 => ?_) (fun c_2 => ?_)
    · exact absurd c_2 h2_
    · refine lv_iload_n hx hb dX0_at_12 rfl (lv_at hl 1 rfl) ?_
      refine lv_aload_n hx hb dX0_at_13 rfl (lv_at hl 0 rfl) ?_
      refine va_get (D := D) (ci := 0) (v := .ref r0) (C := RX0) (T := TX0) (N := 2) hx hb htg inX0 hown hK hP 5 rfl rfl 0 (by decide) (htg _ fl_X0_13) (fun _ h9 => h9) rfl dX0_at_14 ?_
      refine va_alen (v := 20) hx hb hK hP 6 2 rfl rfl rfl dX0_at_17 ?_
      refine lv_icmp_lt (tgt := 25) hx hb dX0_at_18 (by decide) (fun c_3 => ?_) (fun c_3 => ?_)
      · refine lv_aload_n hx hb dX0_at_25 rfl (lv_at hl 0 rfl) ?_
        refine va_get (D := D) (ci := 0) (v := .ref r0) (C := RX0) (T := TX0) (N := 2) hx hb htg inX0 hown hK hP 5 rfl rfl 0 (by decide) (htg _ fl_X0_13) (fun _ h9 => h9) rfl dX0_at_26 ?_
        refine lv_iload_n hx hb dX0_at_29 rfl (lv_at hl 1 rfl) ?_
        refine va_aldq' (v := (pad (pi a0.toNatClampNeg) 0)) hx hb hK hP 6 2 rfl rfl (sz_in hs h1_ h2_) rfl dX0_at_30 ?_
        exact rd_a hx hb hr hlocks (Or.inr ⟨_, rfl⟩) rfl dX0_at_31
      · exact absurd (sz_lt hs h1_ h2_) c_3

def f_X0_indexOf_lp (size : Int32) (pi : Nat → Nat) (S : Nat → CR) (a0 : Int32) : Nat → (Int32) → Int32
  | 0, i => (-1 : Int32)
  | n + 1, i => (if (f_X3_value (S (pi i.toNatClampNeg)).1 (0 : Int32)) = a0 then i else (f_X0_indexOf_lp size pi S a0 n (i + (1 : Int32))))
def f_X0_indexOf (size : Int32) (pi : Nat → Nat) (S : Nat → CR) (a0 : Int32) : Int32 := (f_X0_indexOf_lp size pi S a0 size.toNatClampNeg (0 : Int32))
set_option maxHeartbeats 4000000 in
set_option maxRecDepth 100000 in
theorem c_X0_indexOf (l : Launch) (D : va_G) (cI cJ cO : ClassId) (h0 : Nat) (d0 : Nat) (l0 : Nat) (b0 : Nat) (own : Int64) (clk : Int32) (d1 : Nat) (dlen : Int32) (dtr : Int32) (dw : Nat → Int32) (l1 : Nat) (llen : Int32) (ltr : Int32) (lw : Nat → Int32) (r0 : Nat) (size : Int32) (pad : Nat → Nat → Nat) (pi : Nat → Nat) (S : Nat → CR) (a0 : Int32) (hs : 0 ≤ size.toInt ∧ size.toInt ≤ 20) (hpi : ∀ k, k < 20 → pi k < 20) : Rd l yX0_indexOf cX0_indexOf 3 (some .int) 1 21 [.ref b0, .int a0] (fun U => B0 D cI cJ cO ([(h0, .inr (3, [.ref d0, .ref l0, .ref b0, .long own, .int clk])), (d0, .inr (2, [.ref d1, .int dlen, .int dtr])), (d1, .inl (cI, 4, .inl dw)), (l0, .inr (2, [.ref l1, .int llen, .int ltr])), (l1, .inl (cI, 4, .inl lw)), (b0, .inr (0, [.ref r0, .int size])), (r0, .inl (cO, 20, .inr (.inr (.inr (.inr (rsf pad pi))))))] ++ Pool pad cI cJ S) U) (some (.int (f_X0_indexOf size pi S a0))) := by
  refine Rd.of (by decide +kernel) (Nat.le_of_ble_eq_true rfl) ?_
  intro p e s m args below meth c hx hb hr hml hown htg hlocks hB ls hl
  obtain ⟨hP, hK⟩ := hB
  have hP : va_P D vwCl ([(h0, .inr (3, [.ref d0, .ref l0, .ref b0, .long own, .int clk])), (d0, .inr (2, [.ref d1, .int dlen, .int dtr])), (d1, .inl (cI, 4, .inl dw)), (l0, .inr (2, [.ref l1, .int llen, .int ltr])), (l1, .inl (cI, 4, .inl lw)), (b0, .inr (0, [.ref r0, .int size])), (r0, .inl (cO, 20, .inr (.inr (.inr (.inr (rsf pad pi))))))] ++ Pool pad cI cJ S) s.heap := hP
  have hown : s.vm.findClass RX0 = some m.cls := hown
  have hl : lv_has ls 3 [(0, .ref b0), (1, .int a0)] := hl
  refine lv_iconst (v := 0) hx hb dX0_indexOf_0 (by decide) ?_
  refine lv_istore_n (lv' := [(2, .int (0 : Int32)), (0, .ref b0), (1, .int a0)]) hx hb dX0_indexOf_1 rfl hl (by decide) rfl (fun ls hl => ?_)
  have Lp : ∀ (n : Nat) (i : Int32), (Up n i size ∧ 0 ≤ i.toInt) → ∀ ls : Array Slot, lv_has ls 3 [(2, .int i), (0, .ref b0), (1, .int a0)] → f_X0_indexOf_lp size pi S a0 n i = f_X0_indexOf size pi S a0 → W p l e { frames := 1, cells := 0, slots := 0, locals := 21 } s m args below meth c s.heap [] 0 0 (MQ below (rdQ (some (.int (f_X0_indexOf size pi S a0)))) args s 0 0 (fun _ => False)) (F0 m 2 ls []) := by
    intro n
    induction n with
    | zero =>
      intro i hi ls hl hE
      refine lv_iload_n hx hb dX0_indexOf_2 rfl (lv_at hl 0 rfl) ?_
      refine lv_aload_n hx hb dX0_indexOf_3 rfl (lv_at hl 1 rfl) ?_
      refine va_get (D := D) (ci := 0) (v := .int size) (C := RX0) (T := TX0) (N := 2) hx hb htg inX0 hown hK hP 5 rfl rfl 1 (by decide) (htg _ fl_X0_18) (fun _ h9 => h9) rfl dX0_indexOf_4 ?_
      refine lv_icmp_ge (tgt := 41) hx hb dX0_indexOf_7 (by decide) (fun c_1 => ?_) (fun c_1 => ?_)
      · refine lv_iconst (v := (-1)) hx hb dX0_indexOf_41 (by decide) ?_
        exact rd_i hx hb hr hlocks (by rw [← hE]; simp only [f_X0_indexOf_lp]) dX0_indexOf_42
      · exact absurd hi.1.z c_1
    | succ n ih =>
      intro i hi ls hl hE
      refine lv_iload_n hx hb dX0_indexOf_2 rfl (lv_at hl 0 rfl) ?_
      refine lv_aload_n hx hb dX0_indexOf_3 rfl (lv_at hl 1 rfl) ?_
      refine va_get (D := D) (ci := 0) (v := .int size) (C := RX0) (T := TX0) (N := 2) hx hb htg inX0 hown hK hP 5 rfl rfl 1 (by decide) (htg _ fl_X0_18) (fun _ h9 => h9) rfl dX0_indexOf_4 ?_
      refine lv_icmp_ge (tgt := 41) hx hb dX0_indexOf_7 (by decide) (fun c_2 => ?_) (fun c_2 => ?_)
      · exact absurd c_2 hi.1.s
      · refine lv_iload_n hx hb dX0_indexOf_10 rfl (lv_at hl 0 rfl) ?_
        refine lv_aload_n hx hb dX0_indexOf_11 rfl (lv_at hl 1 rfl) ?_
        refine va_get (D := D) (ci := 0) (v := .ref r0) (C := RX0) (T := TX0) (N := 2) hx hb htg inX0 hown hK hP 5 rfl rfl 0 (by decide) (htg _ fl_X0_13) (fun _ h9 => h9) rfl dX0_indexOf_12 ?_
        refine va_alen (v := 20) hx hb hK hP 6 2 rfl rfl rfl dX0_indexOf_15 ?_
        refine lv_icmp_ge (tgt := 41) hx hb dX0_indexOf_16 (by decide) (fun c_3 => ?_) (fun c_3 => ?_)
        · exact absurd c_3 (up20 hs hi.1)
        · refine lv_aload_n hx hb dX0_indexOf_19 rfl (lv_at hl 1 rfl) ?_
          refine va_get (D := D) (ci := 0) (v := .ref r0) (C := RX0) (T := TX0) (N := 2) hx hb htg inX0 hown hK hP 5 rfl rfl 0 (by decide) (htg _ fl_X0_13) (fun _ h9 => h9) rfl dX0_indexOf_20 ?_
          refine lv_iload_n hx hb dX0_indexOf_23 rfl (lv_at hl 0 rfl) ?_
          refine va_aldq' (v := (pad (pi i.toNatClampNeg) 0)) hx hb hK hP 6 2 rfl rfl (hi.1.lt hi.2 (by have := hs.2; omega)) rfl dX0_indexOf_24 ?_
          refine lv_iconst (v := 0) hx hb dX0_indexOf_25 (by decide) ?_
          refine rV (As := [.int (0 : Int32)]) (rest := []) hx hb hml hown htg (c_X3_value l D cI cJ cO (pad (pi i.toNatClampNeg) 0) (pad (pi i.toNatClampNeg) 1) (pad (pi i.toNatClampNeg) 2) (pad (pi i.toNatClampNeg) 3) (pad (pi i.toNatClampNeg) 4) (S (pi i.toNatClampNeg)).1 (S (pi i.toNatClampNeg)).2.1 (S (pi i.toNatClampNeg)).2.2.1 (S (pi i.toNatClampNeg)).2.2.2 (0 : Int32)) Blind.b0 ml_X0_22 im_X3_value se_X3_value ini_X3 co_X3_value rfl dn_X3_value rfl (va_recv hK (pool_sub hP (hpi _ (hi.1.nat hi.2 (by have := hs.2; omega)))) (ci := 1) (q0 := 0) rfl rfl) (fun U hU hW => ⟨by rw [hU]; exact pool_sub hP (hpi _ (hi.1.nat hi.2 (by have := hs.2; omega))), va_K.moved hW.alike hK⟩) hl.1 rfl (Nat.le_of_ble_eq_true rfl) ⟨Nat.le_of_ble_eq_true rfl, Nat.le_of_ble_eq_true rfl⟩ ⟨Nat.le_of_ble_eq_true rfl, Nat.le_of_ble_eq_true rfl⟩ dX0_indexOf_26 ?_
          refine lv_iload_n hx hb dX0_indexOf_29 rfl (lv_at hl 2 rfl) ?_
          refine lv_icmp_ne (tgt := 35) hx hb dX0_indexOf_30 (by decide) (fun c_4 => ?_) (fun c_4 => ?_)
          · refine lv_iinc (v := (i + (1 : Int32))) (lv' := [(2, .int (i + (1 : Int32))), (0, .ref b0), (1, .int a0)]) hx hb dX0_indexOf_35 hl (k := 0) rfl rfl (by decide) rfl (fun ls hl => ?_)
            refine lv_goto (tgt := 2) hx hb dX0_indexOf_38 (by decide) ?_
            exact ih (i + (1 : Int32)) ⟨hi.1.nx, by have e1 : (i + 1).toInt = i.toInt + 1 := (by have := hi.1.2; have := hi.1.1; rw [fb_addI] <;> rw [i1] <;> omega); have := hi.2; omega⟩ ls (lv_sub hl [0, 1, 2] rfl) (by rw [← hE]; simp only [f_X0_indexOf_lp, if_neg c_4])
          · refine lv_iload_n hx hb dX0_indexOf_33 rfl (lv_at hl 0 rfl) ?_
            exact rd_i hx hb hr hlocks (by rw [← hE]; simp only [f_X0_indexOf_lp, if_pos c_4]) dX0_indexOf_34
  exact Lp size.toNatClampNeg (0 : Int32) ⟨⟨by have := clamp hs.1; rw [i0]; omega, by decide, by have := hs.2; omega⟩, by decide⟩ ls (lv_sub hl [0, 1, 2] rfl) (by simp only [f_X0_indexOf])

set_option maxHeartbeats 4000000 in
set_option maxRecDepth 100000 in
theorem c_X0_open_n (l : Launch) (D : va_G) (cI cJ cO : ClassId) (h0 : Nat) (d0 : Nat) (l0 : Nat) (b0 : Nat) (own : Int64) (clk : Int32) (d1 : Nat) (dlen : Int32) (dtr : Int32) (dw : Nat → Int32) (l1 : Nat) (llen : Int32) (ltr : Int32) (lw : Nat → Int32) (r0 : Nat) (size : Int32) (pad : Nat → Nat → Nat) (pi : Nat → Nat) (S : Nat → CR) (a0 : Int32) (hn : ¬ size < 20) : Rd l yX0_open cX0_open 3 (some (.object "SquitterDesk$Craft")) 0 0 [.ref b0, .int a0] (fun U => B0 D cI cJ cO ([(h0, .inr (3, [.ref d0, .ref l0, .ref b0, .long own, .int clk])), (d0, .inr (2, [.ref d1, .int dlen, .int dtr])), (d1, .inl (cI, 4, .inl dw)), (l0, .inr (2, [.ref l1, .int llen, .int ltr])), (l1, .inl (cI, 4, .inl lw)), (b0, .inr (0, [.ref r0, .int size])), (r0, .inl (cO, 20, .inr (.inr (.inr (.inr (rsf pad pi))))))] ++ Pool pad cI cJ S) U) (some .null) := by
  refine Rd.of (by decide +kernel) (Nat.le_of_ble_eq_true rfl) ?_
  intro p e s m args below meth c hx hb hr hml hown htg hlocks hB ls hl
  obtain ⟨hP, hK⟩ := hB
  have hP : va_P D vwCl ([(h0, .inr (3, [.ref d0, .ref l0, .ref b0, .long own, .int clk])), (d0, .inr (2, [.ref d1, .int dlen, .int dtr])), (d1, .inl (cI, 4, .inl dw)), (l0, .inr (2, [.ref l1, .int llen, .int ltr])), (l1, .inl (cI, 4, .inl lw)), (b0, .inr (0, [.ref r0, .int size])), (r0, .inl (cO, 20, .inr (.inr (.inr (.inr (rsf pad pi))))))] ++ Pool pad cI cJ S) s.heap := hP
  have hown : s.vm.findClass RX0 = some m.cls := hown
  have hl : lv_has ls 3 [(0, .ref b0), (1, .int a0)] := hl
  refine lv_aload_n hx hb dX0_open_0 rfl (lv_at hl 0 rfl) ?_
  refine va_get (D := D) (ci := 0) (v := .int size) (C := RX0) (T := TX0) (N := 2) hx hb htg inX0 hown hK hP 5 rfl rfl 1 (by decide) (htg _ fl_X0_18) (fun _ h9 => h9) rfl dX0_open_1 ?_
  refine lv_aload_n hx hb dX0_open_4 rfl (lv_at hl 0 rfl) ?_
  refine va_get (D := D) (ci := 0) (v := .ref r0) (C := RX0) (T := TX0) (N := 2) hx hb htg inX0 hown hK hP 5 rfl rfl 0 (by decide) (htg _ fl_X0_13) (fun _ h9 => h9) rfl dX0_open_5 ?_
  refine va_alen (v := 20) hx hb hK hP 6 2 rfl rfl rfl dX0_open_8 ?_
  refine lv_icmp_lt (tgt := 14) hx hb dX0_open_9 (by decide) (fun c_1 => ?_) (fun c_1 => ?_)
  · exact absurd c_1 hn
  · refine lv_null hx hb dX0_open_12 ?_
    exact rd_a hx hb hr hlocks (Or.inl rfl) rfl dX0_open_13

def f_X0_open_s_size (size : Int32) (pi : Nat → Nat) (S : Nat → CR) (a0 : Int32) : Int32 := (size + (1 : Int32))
def f_X0_open_s_S (size : Int32) (pi : Nat → Nat) (S : Nat → CR) (a0 : Int32) : Nat → CR := (va_up S (pi size.toNatClampNeg) ((f_X3_begin_va (S (pi size.toNatClampNeg)).1 (S (pi size.toNatClampNeg)).2.1 (S (pi size.toNatClampNeg)).2.2.1 a0), (f_X3_begin_le (S (pi size.toNatClampNeg)).1 (S (pi size.toNatClampNeg)).2.1 (S (pi size.toNatClampNeg)).2.2.1 a0), (f_X3_begin_co (S (pi size.toNatClampNeg)).1 (S (pi size.toNatClampNeg)).2.1 (S (pi size.toNatClampNeg)).2.2.1 a0), (S (pi size.toNatClampNeg)).2.2.2))
set_option maxHeartbeats 4000000 in
set_option maxRecDepth 100000 in
theorem c_X0_open_s (l : Launch) (D : va_G) (cI cJ cO : ClassId) (h0 : Nat) (d0 : Nat) (l0 : Nat) (b0 : Nat) (own : Int64) (clk : Int32) (d1 : Nat) (dlen : Int32) (dtr : Int32) (dw : Nat → Int32) (l1 : Nat) (llen : Int32) (ltr : Int32) (lw : Nat → Int32) (r0 : Nat) (size : Int32) (pad : Nat → Nat → Nat) (pi : Nat → Nat) (S : Nat → CR) (a0 : Int32) (hs : 0 ≤ size.toInt ∧ size.toInt ≤ 20) (hpi : ∀ k, k < 20 → pi k < 20) (hn : size < 20) : Wr l yX0_open cX0_open 3 (some (.object "SquitterDesk$Craft")) 2 45 [.ref b0, .int a0] (fun U => B1 D cI cJ cO ([(h0, .inr (3, [.ref d0, .ref l0, .ref b0, .long own, .int clk])), (d0, .inr (2, [.ref d1, .int dlen, .int dtr])), (d1, .inl (cI, 4, .inl dw)), (l0, .inr (2, [.ref l1, .int llen, .int ltr])), (l1, .inl (cI, 4, .inl lw)), (b0, .inr (0, [.ref r0, .int size])), (r0, .inl (cO, 20, .inr (.inr (.inr (.inr (rsf pad pi))))))] ++ Pool pad cI cJ S) U ∧ True) D (some (.ref (pad (pi size.toNatClampNeg) 0))) ([(h0, .inr (3, [.ref d0, .ref l0, .ref b0, .long own, .int clk])), (d0, .inr (2, [.ref d1, .int dlen, .int dtr])), (d1, .inl (cI, 4, .inl dw)), (l0, .inr (2, [.ref l1, .int llen, .int ltr])), (l1, .inl (cI, 4, .inl lw)), (b0, .inr (0, [.ref r0, .int size])), (r0, .inl (cO, 20, .inr (.inr (.inr (.inr (rsf pad pi))))))] ++ Pool pad cI cJ S) ([(h0, .inr (3, [.ref d0, .ref l0, .ref b0, .long own, .int clk])), (d0, .inr (2, [.ref d1, .int dlen, .int dtr])), (d1, .inl (cI, 4, .inl dw)), (l0, .inr (2, [.ref l1, .int llen, .int ltr])), (l1, .inl (cI, 4, .inl lw)), (b0, .inr (0, [.ref r0, .int (f_X0_open_s_size size pi S a0)])), (r0, .inl (cO, 20, .inr (.inr (.inr (.inr (rsf pad pi))))))] ++ Pool pad cI cJ (f_X0_open_s_S size pi S a0)) := by
  refine Wr.of (by decide +kernel) (Nat.le_of_ble_eq_true rfl) ?_
  intro p e s m args below meth c hx hb hr hml hown htg hlocks A hA hP hK hD hX hS ls hl
  have hown : s.vm.findClass RX0 = some m.cls := hown
  have hl : lv_has ls 3 [(0, .ref b0), (1, .int a0)] := hl
  refine lv_aload_n hx hb dX0_open_0 rfl (lv_at hl 0 rfl) ?_
  refine va_get (D := D) (ci := 0) (v := .int size) (C := RX0) (T := TX0) (N := 2) hx hb htg inX0 hown hK hP 5 rfl rfl 1 (by decide) (htg _ fl_X0_18) (fun _ h9 => h9) rfl dX0_open_1 ?_
  refine lv_aload_n hx hb dX0_open_4 rfl (lv_at hl 0 rfl) ?_
  refine va_get (D := D) (ci := 0) (v := .ref r0) (C := RX0) (T := TX0) (N := 2) hx hb htg inX0 hown hK hP 5 rfl rfl 0 (by decide) (htg _ fl_X0_13) (fun _ h9 => h9) rfl dX0_open_5 ?_
  refine va_alen (v := 20) hx hb hK hP 6 2 rfl rfl rfl dX0_open_8 ?_
  refine lv_icmp_lt (tgt := 14) hx hb dX0_open_9 (by decide) (fun c_1 => ?_) (fun c_1 => ?_)
  · refine lv_aload_n hx hb dX0_open_14 rfl (lv_at hl 0 rfl) ?_
    refine va_get (D := D) (ci := 0) (v := .ref r0) (C := RX0) (T := TX0) (N := 2) hx hb htg inX0 hown hK hP 5 rfl rfl 0 (by decide) (htg _ fl_X0_13) (fun _ h9 => h9) rfl dX0_open_15 ?_
    refine lv_aload_n hx hb dX0_open_18 rfl (lv_at hl 0 rfl) ?_
    refine va_get (D := D) (ci := 0) (v := .int size) (C := RX0) (T := TX0) (N := 2) hx hb htg inX0 hown hK hP 5 rfl rfl 1 (by decide) (htg _ fl_X0_18) (fun _ h9 => h9) rfl dX0_open_19 ?_
    refine va_aldq' (v := (pad (pi size.toNatClampNeg) 0)) hx hb hK hP 6 2 rfl rfl (op_in hs hn).1 rfl dX0_open_22 ?_
    refine lv_astore_n (lv' := [(2, .ref (pad (pi size.toNatClampNeg) 0)), (0, .ref b0), (1, .int a0)]) hx hb dX0_open_23 rfl hl (by decide) rfl (fun ls hl => ?_)
    refine lv_aload_n hx hb dX0_open_24 rfl (lv_at hl 0 rfl) ?_
    refine lv_iload_n hx hb dX0_open_25 rfl (lv_at hl 2 rfl) ?_
    refine wP (k := (pi size.toNatClampNeg)) (wf := []) (r' := ((f_X3_begin_va (S (pi size.toNatClampNeg)).1 (S (pi size.toNatClampNeg)).2.1 (S (pi size.toNatClampNeg)).2.2.1 a0), (f_X3_begin_le (S (pi size.toNatClampNeg)).1 (S (pi size.toNatClampNeg)).2.1 (S (pi size.toNatClampNeg)).2.2.1 a0), (f_X3_begin_co (S (pi size.toNatClampNeg)).1 (S (pi size.toNatClampNeg)).2.1 (S (pi size.toNatClampNeg)).2.2.1 a0), (S (pi size.toNatClampNeg)).2.2.2)) (As := [.int a0]) (rest := []) hx hb hml hown htg (c_X3_begin l D cI cJ cO (pad (pi size.toNatClampNeg) 0) (pad (pi size.toNatClampNeg) 1) (pad (pi size.toNatClampNeg) 2) (pad (pi size.toNatClampNeg) 3) (pad (pi size.toNatClampNeg) 4) (S (pi size.toNatClampNeg)).1 (S (pi size.toNatClampNeg)).2.1 (S (pi size.toNatClampNeg)).2.2.1 (S (pi size.toNatClampNeg)).2.2.2 a0) (Blind.and Blind.b1 Blind.tt) ml_X0_26 im_X3_begin se_X3_begin ini_X3 co_X3_begin rfl dn_X3_begin rfl (fun U hU hW => ⟨⟨by rw [hU]; exact pool_subP [] [] rfl (hpi _ (op_in hs hn).2) hP, va_K.moved hW.alike hK, (pool_subD [] [] (by decide) rfl (hpi _ (op_in hs hn).2) hD).weaken (fun _ _ _ _ => trivial)⟩, trivial⟩) hl.1 rfl (Nat.le_of_ble_eq_true rfl) ⟨Nat.le_of_ble_eq_true rfl, Nat.le_of_ble_eq_true rfl⟩ ⟨Nat.le_of_ble_eq_true rfl, Nat.le_of_ble_eq_true rfl⟩ dX0_open_26 hK hP hD hS (hpi _ (op_in hs hn).2) [] rfl (fun H locs hP hD hS => ?_)
    have hP : va_P D vwCl ([(h0, .inr (3, [.ref d0, .ref l0, .ref b0, .long own, .int clk])), (d0, .inr (2, [.ref d1, .int dlen, .int dtr])), (d1, .inl (cI, 4, .inl dw)), (l0, .inr (2, [.ref l1, .int llen, .int ltr])), (l1, .inl (cI, 4, .inl lw)), (b0, .inr (0, [.ref r0, .int size])), (r0, .inl (cO, 20, .inr (.inr (.inr (.inr (rsf pad pi))))))] ++ Pool pad cI cJ (va_up S (pi size.toNatClampNeg) ((f_X3_begin_va (S (pi size.toNatClampNeg)).1 (S (pi size.toNatClampNeg)).2.1 (S (pi size.toNatClampNeg)).2.2.1 a0), (f_X3_begin_le (S (pi size.toNatClampNeg)).1 (S (pi size.toNatClampNeg)).2.1 (S (pi size.toNatClampNeg)).2.2.1 a0), (f_X3_begin_co (S (pi size.toNatClampNeg)).1 (S (pi size.toNatClampNeg)).2.1 (S (pi size.toNatClampNeg)).2.2.1 a0), (S (pi size.toNatClampNeg)).2.2.2))) H := hP
    have hD : va_D A ([(h0, .inr (3, [.ref d0, .ref l0, .ref b0, .long own, .int clk])), (d0, .inr (2, [.ref d1, .int dlen, .int dtr])), (d1, .inl (cI, 4, .inl dw)), (l0, .inr (2, [.ref l1, .int llen, .int ltr])), (l1, .inl (cI, 4, .inl lw)), (b0, .inr (0, [.ref r0, .int size])), (r0, .inl (cO, 20, .inr (.inr (.inr (.inr (rsf pad pi))))))] ++ Pool pad cI cJ (va_up S (pi size.toNatClampNeg) ((f_X3_begin_va (S (pi size.toNatClampNeg)).1 (S (pi size.toNatClampNeg)).2.1 (S (pi size.toNatClampNeg)).2.2.1 a0), (f_X3_begin_le (S (pi size.toNatClampNeg)).1 (S (pi size.toNatClampNeg)).2.1 (S (pi size.toNatClampNeg)).2.2.1 a0), (f_X3_begin_co (S (pi size.toNatClampNeg)).1 (S (pi size.toNatClampNeg)).2.1 (S (pi size.toNatClampNeg)).2.2.1 a0), (S (pi size.toNatClampNeg)).2.2.2))) := hD
    refine W.eq (g2 := F0 m 29 ls []) rfl ?_
    refine lv_aload_n hx hb dX0_open_29 rfl (lv_at hl 1 rfl) ?_
    refine lv_dup hx hb dX0_open_30 rfl ?_
    refine va_get (D := D) (ci := 0) (v := .int size) (C := RX0) (T := TX0) (N := 2) hx hb htg inX0 hown hK hP 5 rfl rfl 1 (by decide) (htg _ fl_X0_18) (fun _ h9 => h9) rfl dX0_open_31 ?_
    refine lv_iconst (v := 1) hx hb dX0_open_34 (by decide) ?_
    refine lv_iadd hx hb dX0_open_35 ?_
    refine va_put (D := D) (ci := 0) (v := .int (size + (1 : Int32))) (ty := .int) (C := RX0) (T := TX0) (N := 2) hx hb htg inX0 tyX0 tyX0_ok nmX0 hown hK hP hD hS 5 rfl rfl 1 (by decide) (htg _ fl_X0_18) (fun _ h9 => h9) rfl (by decide +kernel) rfl rfl (Nat.le_of_ble_eq_true rfl) dX0_open_36 (fun H locs hP hD hS => ?_)
    have hP : va_P D vwCl ([(h0, .inr (3, [.ref d0, .ref l0, .ref b0, .long own, .int clk])), (d0, .inr (2, [.ref d1, .int dlen, .int dtr])), (d1, .inl (cI, 4, .inl dw)), (l0, .inr (2, [.ref l1, .int llen, .int ltr])), (l1, .inl (cI, 4, .inl lw)), (b0, .inr (0, [.ref r0, .int (size + (1 : Int32))])), (r0, .inl (cO, 20, .inr (.inr (.inr (.inr (rsf pad pi))))))] ++ Pool pad cI cJ (va_up S (pi size.toNatClampNeg) ((f_X3_begin_va (S (pi size.toNatClampNeg)).1 (S (pi size.toNatClampNeg)).2.1 (S (pi size.toNatClampNeg)).2.2.1 a0), (f_X3_begin_le (S (pi size.toNatClampNeg)).1 (S (pi size.toNatClampNeg)).2.1 (S (pi size.toNatClampNeg)).2.2.1 a0), (f_X3_begin_co (S (pi size.toNatClampNeg)).1 (S (pi size.toNatClampNeg)).2.1 (S (pi size.toNatClampNeg)).2.2.1 a0), (S (pi size.toNatClampNeg)).2.2.2))) H := hP
    have hD : va_D A ([(h0, .inr (3, [.ref d0, .ref l0, .ref b0, .long own, .int clk])), (d0, .inr (2, [.ref d1, .int dlen, .int dtr])), (d1, .inl (cI, 4, .inl dw)), (l0, .inr (2, [.ref l1, .int llen, .int ltr])), (l1, .inl (cI, 4, .inl lw)), (b0, .inr (0, [.ref r0, .int (size + (1 : Int32))])), (r0, .inl (cO, 20, .inr (.inr (.inr (.inr (rsf pad pi))))))] ++ Pool pad cI cJ (va_up S (pi size.toNatClampNeg) ((f_X3_begin_va (S (pi size.toNatClampNeg)).1 (S (pi size.toNatClampNeg)).2.1 (S (pi size.toNatClampNeg)).2.2.1 a0), (f_X3_begin_le (S (pi size.toNatClampNeg)).1 (S (pi size.toNatClampNeg)).2.1 (S (pi size.toNatClampNeg)).2.2.1 a0), (f_X3_begin_co (S (pi size.toNatClampNeg)).1 (S (pi size.toNatClampNeg)).2.1 (S (pi size.toNatClampNeg)).2.2.1 a0), (S (pi size.toNatClampNeg)).2.2.2))) := hD
    refine lv_aload_n hx hb dX0_open_39 rfl (lv_at hl 0 rfl) ?_
    exact wr_a hx hb hr hlocks hA hS (hP.eq (by simp only [f_X0_open_s_size, f_X0_open_s_S])) (Or.inr ⟨_, rfl⟩) rfl dX0_open_40
  · exact absurd hn c_1

theorem fs_j {n : Nat} {i j size : Int32} (hs : 0 ≤ size.toInt ∧ size.toInt ≤ 20) (hi : Up (n + 1) i size ∧ 0 ≤ i.toInt ∧ 0 ≤ j.toInt ∧ j.toInt ≤ i.toInt) : j.toNatClampNeg < 20 := by
  have := clamp hi.2.2.1
  have := hi.1.1
  omega
theorem fs_sw {n : Nat} {i j size : Int32} {g : Nat → Nat} (hs : 0 ≤ size.toInt ∧ size.toInt ≤ 20) (hi : Up (n + 1) i size ∧ 0 ≤ i.toInt ∧ 0 ≤ j.toInt ∧ j.toInt ≤ i.toInt) (hg : ∀ k, k < 20 → g k < 20) : ∀ k, k < 20 → va_up (va_up g i.toNatClampNeg (g j.toNatClampNeg)) j.toNatClampNeg (g i.toNatClampNeg) k < 20 := by
  intro k hk
  unfold va_up
  split
  · exact hg _ (hi.1.nat hi.2.1 (by have := hs.2; omega))
  · split
    · exact hg _ (fs_j hs hi)
    · exact hg k hk
def f_X0_forgetSilent_lp_size (size : Int32) (S : Nat → CR) (a0 : Int32) : Nat → (Int32) → (Int32) → (Nat → Nat) → Int32
  | 0, i, j, g => j
  | n + 1, i, j, g => (if (600 : Int32) < (a0 - (f_X3_value (S (g i.toNatClampNeg)).1 (1 : Int32))) then (f_X0_forgetSilent_lp_size size S a0 n (i + (1 : Int32)) j g) else (f_X0_forgetSilent_lp_size size S a0 n (i + (1 : Int32)) (j + (1 : Int32)) (va_up (va_up g i.toNatClampNeg (g j.toNatClampNeg)) j.toNatClampNeg (g i.toNatClampNeg))))
def f_X0_forgetSilent_lp_pi (size : Int32) (S : Nat → CR) (a0 : Int32) : Nat → (Int32) → (Int32) → (Nat → Nat) → Nat → Nat
  | 0, i, j, g => g
  | n + 1, i, j, g => (if (600 : Int32) < (a0 - (f_X3_value (S (g i.toNatClampNeg)).1 (1 : Int32))) then (f_X0_forgetSilent_lp_pi size S a0 n (i + (1 : Int32)) j g) else (f_X0_forgetSilent_lp_pi size S a0 n (i + (1 : Int32)) (j + (1 : Int32)) (va_up (va_up g i.toNatClampNeg (g j.toNatClampNeg)) j.toNatClampNeg (g i.toNatClampNeg))))
def f_X0_forgetSilent_size (size : Int32) (pi : Nat → Nat) (S : Nat → CR) (a0 : Int32) : Int32 := (f_X0_forgetSilent_lp_size size S a0 size.toNatClampNeg (0 : Int32) (0 : Int32) pi)
def f_X0_forgetSilent_pi (size : Int32) (pi : Nat → Nat) (S : Nat → CR) (a0 : Int32) : Nat → Nat := (f_X0_forgetSilent_lp_pi size S a0 size.toNatClampNeg (0 : Int32) (0 : Int32) pi)
set_option maxHeartbeats 4000000 in
set_option maxRecDepth 100000 in
theorem c_X0_forgetSilent (l : Launch) (D : va_G) (cI cJ cO : ClassId) (h0 : Nat) (d0 : Nat) (l0 : Nat) (b0 : Nat) (own : Int64) (clk : Int32) (d1 : Nat) (dlen : Int32) (dtr : Int32) (dw : Nat → Int32) (l1 : Nat) (llen : Int32) (ltr : Int32) (lw : Nat → Int32) (r0 : Nat) (size : Int32) (pad : Nat → Nat → Nat) (pi : Nat → Nat) (S : Nat → CR) (a0 : Int32) (hs : 0 ≤ size.toInt ∧ size.toInt ≤ 20) (hpi : ∀ k, k < 20 → pi k < 20) : Wr l yX0_forgetSilent cX0_forgetSilent 5 none 1 21 [.ref b0, .int a0] (fun U => B1 D cI cJ cO ([(h0, .inr (3, [.ref d0, .ref l0, .ref b0, .long own, .int clk])), (d0, .inr (2, [.ref d1, .int dlen, .int dtr])), (d1, .inl (cI, 4, .inl dw)), (l0, .inr (2, [.ref l1, .int llen, .int ltr])), (l1, .inl (cI, 4, .inl lw)), (b0, .inr (0, [.ref r0, .int size])), (r0, .inl (cO, 20, .inr (.inr (.inr (.inr (rsf pad pi))))))] ++ Pool pad cI cJ S) U ∧ True) D none ([(h0, .inr (3, [.ref d0, .ref l0, .ref b0, .long own, .int clk])), (d0, .inr (2, [.ref d1, .int dlen, .int dtr])), (d1, .inl (cI, 4, .inl dw)), (l0, .inr (2, [.ref l1, .int llen, .int ltr])), (l1, .inl (cI, 4, .inl lw)), (b0, .inr (0, [.ref r0, .int size])), (r0, .inl (cO, 20, .inr (.inr (.inr (.inr (rsf pad pi))))))] ++ Pool pad cI cJ S) ([(h0, .inr (3, [.ref d0, .ref l0, .ref b0, .long own, .int clk])), (d0, .inr (2, [.ref d1, .int dlen, .int dtr])), (d1, .inl (cI, 4, .inl dw)), (l0, .inr (2, [.ref l1, .int llen, .int ltr])), (l1, .inl (cI, 4, .inl lw)), (b0, .inr (0, [.ref r0, .int (f_X0_forgetSilent_size size pi S a0)])), (r0, .inl (cO, 20, .inr (.inr (.inr (.inr (rsf pad (f_X0_forgetSilent_pi size pi S a0)))))))] ++ Pool pad cI cJ S) := by
  refine Wr.of (by decide +kernel) (Nat.le_of_ble_eq_true rfl) ?_
  intro p e s m args below meth c hx hb hr hml hown htg hlocks A hA hP hK hD hX hS ls hl
  have hown : s.vm.findClass RX0 = some m.cls := hown
  have hl : lv_has ls 5 [(0, .ref b0), (1, .int a0)] := hl
  refine lv_iconst (v := 0) hx hb dX0_forgetSilent_0 (by decide) ?_
  refine lv_istore_n (lv' := [(2, .int (0 : Int32)), (0, .ref b0), (1, .int a0)]) hx hb dX0_forgetSilent_1 rfl hl (by decide) rfl (fun ls hl => ?_)
  refine lv_iconst (v := 0) hx hb dX0_forgetSilent_2 (by decide) ?_
  refine lv_istore_n (lv' := [(3, .int (0 : Int32)), (2, .int (0 : Int32)), (0, .ref b0), (1, .int a0)]) hx hb dX0_forgetSilent_3 rfl hl (by decide) rfl (fun ls hl => ?_)
  have Lp : ∀ (n : Nat) (i : Int32) (j : Int32) (g : Nat → Nat), (Up n i size ∧ 0 ≤ i.toInt ∧ 0 ≤ j.toInt ∧ j.toInt ≤ i.toInt) → (∀ k, k < 20 → g k < 20) → ∀ ls : Array Slot, lv_has ls 5 [(3, .int i), (2, .int j), (0, .ref b0), (1, .int a0)] → f_X0_forgetSilent_lp_size size S a0 n i j g = f_X0_forgetSilent_size size pi S a0 → f_X0_forgetSilent_lp_pi size S a0 n i j g = f_X0_forgetSilent_pi size pi S a0 → ∀ (H : Heap) (locs : List Loc), va_P D vwCl ([(h0, .inr (3, [.ref d0, .ref l0, .ref b0, .long own, .int clk])), (d0, .inr (2, [.ref d1, .int dlen, .int dtr])), (d1, .inl (cI, 4, .inl dw)), (l0, .inr (2, [.ref l1, .int llen, .int ltr])), (l1, .inl (cI, 4, .inl lw)), (b0, .inr (0, [.ref r0, .int size])), (r0, .inl (cO, 20, .inr (.inr (.inr (.inr (rsf pad g))))))] ++ Pool pad cI cJ S) H → va_D A ([(h0, .inr (3, [.ref d0, .ref l0, .ref b0, .long own, .int clk])), (d0, .inr (2, [.ref d1, .int dlen, .int dtr])), (d1, .inl (cI, 4, .inl dw)), (l0, .inr (2, [.ref l1, .int llen, .int ltr])), (l1, .inl (cI, 4, .inl lw)), (b0, .inr (0, [.ref r0, .int size])), (r0, .inl (cO, 20, .inr (.inr (.inr (.inr (rsf pad g))))))] ++ Pool pad cI cJ S) → va_S A s.heap H locs → W p l e { frames := 1, cells := 0, slots := 0, locals := 21 } s m args below meth c H locs 0 0 (MQ below (wrQ D none ([(h0, .inr (3, [.ref d0, .ref l0, .ref b0, .long own, .int clk])), (d0, .inr (2, [.ref d1, .int dlen, .int dtr])), (d1, .inl (cI, 4, .inl dw)), (l0, .inr (2, [.ref l1, .int llen, .int ltr])), (l1, .inl (cI, 4, .inl lw)), (b0, .inr (0, [.ref r0, .int size])), (r0, .inl (cO, 20, .inr (.inr (.inr (.inr (rsf pad pi))))))] ++ Pool pad cI cJ S) ([(h0, .inr (3, [.ref d0, .ref l0, .ref b0, .long own, .int clk])), (d0, .inr (2, [.ref d1, .int dlen, .int dtr])), (d1, .inl (cI, 4, .inl dw)), (l0, .inr (2, [.ref l1, .int llen, .int ltr])), (l1, .inl (cI, 4, .inl lw)), (b0, .inr (0, [.ref r0, .int (f_X0_forgetSilent_size size pi S a0)])), (r0, .inl (cO, 20, .inr (.inr (.inr (.inr (rsf pad (f_X0_forgetSilent_pi size pi S a0)))))))] ++ Pool pad cI cJ S)) args s 0 0 (inW ([(h0, .inr (3, [.ref d0, .ref l0, .ref b0, .long own, .int clk])), (d0, .inr (2, [.ref d1, .int dlen, .int dtr])), (d1, .inl (cI, 4, .inl dw)), (l0, .inr (2, [.ref l1, .int llen, .int ltr])), (l1, .inl (cI, 4, .inl lw)), (b0, .inr (0, [.ref r0, .int size])), (r0, .inl (cO, 20, .inr (.inr (.inr (.inr (rsf pad pi))))))] ++ Pool pad cI cJ S))) (F0 m 4 ls []) := by
    intro n
    induction n with
    | zero =>
      intro i j g hi hg ls hl hEsize hEpi H locs hP hD hS
      refine lv_iload_n hx hb dX0_forgetSilent_4 rfl (lv_at hl 0 rfl) ?_
      refine lv_aload_n hx hb dX0_forgetSilent_5 rfl (lv_at hl 2 rfl) ?_
      refine va_get (D := D) (ci := 0) (v := .int size) (C := RX0) (T := TX0) (N := 2) hx hb htg inX0 hown hK hP 5 rfl rfl 1 (by decide) (htg _ fl_X0_18) (fun _ h9 => h9) rfl dX0_forgetSilent_6 ?_
      refine lv_icmp_ge (tgt := 72) hx hb dX0_forgetSilent_9 (by decide) (fun c_1 => ?_) (fun c_1 => ?_)
      · refine lv_aload_n hx hb dX0_forgetSilent_72 rfl (lv_at hl 2 rfl) ?_
        refine lv_iload_n hx hb dX0_forgetSilent_73 rfl (lv_at hl 1 rfl) ?_
        refine va_put (D := D) (ci := 0) (v := .int j) (ty := .int) (C := RX0) (T := TX0) (N := 2) hx hb htg inX0 tyX0 tyX0_ok nmX0 hown hK hP hD hS 5 rfl rfl 1 (by decide) (htg _ fl_X0_18) (fun _ h9 => h9) rfl (by decide +kernel) rfl rfl (Nat.le_of_ble_eq_true rfl) dX0_forgetSilent_74 (fun H locs hP hD hS => ?_)
        have hP : va_P D vwCl ([(h0, .inr (3, [.ref d0, .ref l0, .ref b0, .long own, .int clk])), (d0, .inr (2, [.ref d1, .int dlen, .int dtr])), (d1, .inl (cI, 4, .inl dw)), (l0, .inr (2, [.ref l1, .int llen, .int ltr])), (l1, .inl (cI, 4, .inl lw)), (b0, .inr (0, [.ref r0, .int j])), (r0, .inl (cO, 20, .inr (.inr (.inr (.inr (rsf pad g))))))] ++ Pool pad cI cJ S) H := hP
        have hD : va_D A ([(h0, .inr (3, [.ref d0, .ref l0, .ref b0, .long own, .int clk])), (d0, .inr (2, [.ref d1, .int dlen, .int dtr])), (d1, .inl (cI, 4, .inl dw)), (l0, .inr (2, [.ref l1, .int llen, .int ltr])), (l1, .inl (cI, 4, .inl lw)), (b0, .inr (0, [.ref r0, .int j])), (r0, .inl (cO, 20, .inr (.inr (.inr (.inr (rsf pad g))))))] ++ Pool pad cI cJ S) := hD
        exact wr_v hx hb hr hlocks hA hS (hP.eq (by rw [← hEsize, ← hEpi]; simp only [f_X0_forgetSilent_lp_size, f_X0_forgetSilent_lp_pi])) dX0_forgetSilent_77
      · exact absurd hi.1.z c_1
    | succ n ih =>
      intro i j g hi hg ls hl hEsize hEpi H locs hP hD hS
      refine lv_iload_n hx hb dX0_forgetSilent_4 rfl (lv_at hl 0 rfl) ?_
      refine lv_aload_n hx hb dX0_forgetSilent_5 rfl (lv_at hl 2 rfl) ?_
      refine va_get (D := D) (ci := 0) (v := .int size) (C := RX0) (T := TX0) (N := 2) hx hb htg inX0 hown hK hP 5 rfl rfl 1 (by decide) (htg _ fl_X0_18) (fun _ h9 => h9) rfl dX0_forgetSilent_6 ?_
      refine lv_icmp_ge (tgt := 72) hx hb dX0_forgetSilent_9 (by decide) (fun c_2 => ?_) (fun c_2 => ?_)
      · exact absurd c_2 hi.1.s
      · refine lv_iload_n hx hb dX0_forgetSilent_12 rfl (lv_at hl 0 rfl) ?_
        refine lv_aload_n hx hb dX0_forgetSilent_13 rfl (lv_at hl 2 rfl) ?_
        refine va_get (D := D) (ci := 0) (v := .ref r0) (C := RX0) (T := TX0) (N := 2) hx hb htg inX0 hown hK hP 5 rfl rfl 0 (by decide) (htg _ fl_X0_13) (fun _ h9 => h9) rfl dX0_forgetSilent_14 ?_
        refine va_alen (v := 20) hx hb hK hP 6 2 rfl rfl rfl dX0_forgetSilent_17 ?_
        refine lv_icmp_ge (tgt := 72) hx hb dX0_forgetSilent_18 (by decide) (fun c_3 => ?_) (fun c_3 => ?_)
        · exact absurd c_3 (up20 hs hi.1)
        · refine lv_aload_n hx hb dX0_forgetSilent_21 rfl (lv_at hl 2 rfl) ?_
          refine va_get (D := D) (ci := 0) (v := .ref r0) (C := RX0) (T := TX0) (N := 2) hx hb htg inX0 hown hK hP 5 rfl rfl 0 (by decide) (htg _ fl_X0_13) (fun _ h9 => h9) rfl dX0_forgetSilent_22 ?_
          refine lv_iload_n hx hb dX0_forgetSilent_25 rfl (lv_at hl 0 rfl) ?_
          refine va_aldq' (v := (pad (g i.toNatClampNeg) 0)) hx hb hK hP 6 2 rfl rfl (hi.1.lt hi.2.1 (by have := hs.2; omega)) rfl dX0_forgetSilent_26 ?_
          refine lv_astore (lv' := [(4, .ref (pad (g i.toNatClampNeg) 0)), (3, .int i), (2, .int j), (0, .ref b0), (1, .int a0)]) hx hb dX0_forgetSilent_27 hl (by decide) rfl (fun ls hl => ?_)
          refine lv_iload_n hx hb dX0_forgetSilent_29 rfl (lv_at hl 4 rfl) ?_
          refine lv_aload hx hb dX0_forgetSilent_30 (lv_at hl 0 rfl) ?_
          refine lv_iconst (v := 1) hx hb dX0_forgetSilent_32 (by decide) ?_
          refine rV (As := [.int (1 : Int32)]) (rest := [.int a0]) hx hb hml hown htg (c_X3_value l D cI cJ cO (pad (g i.toNatClampNeg) 0) (pad (g i.toNatClampNeg) 1) (pad (g i.toNatClampNeg) 2) (pad (g i.toNatClampNeg) 3) (pad (g i.toNatClampNeg) 4) (S (g i.toNatClampNeg)).1 (S (g i.toNatClampNeg)).2.1 (S (g i.toNatClampNeg)).2.2.1 (S (g i.toNatClampNeg)).2.2.2 (1 : Int32)) Blind.b0 ml_X0_22 im_X3_value se_X3_value ini_X3 co_X3_value rfl dn_X3_value rfl (va_recv hK (pool_sub hP (hg _ (hi.1.nat hi.2.1 (by have := hs.2; omega)))) (ci := 1) (q0 := 0) rfl rfl) (fun U hU hW => ⟨by rw [hU]; exact pool_sub hP (hg _ (hi.1.nat hi.2.1 (by have := hs.2; omega))), va_K.moved hW.alike hK⟩) hl.1 rfl (Nat.le_of_ble_eq_true rfl) ⟨Nat.le_of_ble_eq_true rfl, Nat.le_of_ble_eq_true rfl⟩ ⟨Nat.le_of_ble_eq_true rfl, Nat.le_of_ble_eq_true rfl⟩ dX0_forgetSilent_33 ?_
          refine lv_isub hx hb dX0_forgetSilent_36 ?_
          refine lv_sipush (v := 600) hx hb dX0_forgetSilent_37 (by decide) ?_
          refine lv_icmp_gt (tgt := 66) hx hb dX0_forgetSilent_40 (by decide) (fun c_4 => ?_) (fun c_4 => ?_)
          · refine lv_iinc (v := (i + (1 : Int32))) (lv' := [(3, .int (i + (1 : Int32))), (4, .ref (pad (g i.toNatClampNeg) 0)), (2, .int j), (0, .ref b0), (1, .int a0)]) hx hb dX0_forgetSilent_66 hl (k := 1) rfl rfl (by decide) rfl (fun ls hl => ?_)
            refine lv_goto (tgt := 4) hx hb dX0_forgetSilent_69 (by decide) ?_
            exact ih (i + (1 : Int32)) j g (ages_nx0 hi hs) hg ls (lv_sub hl [0, 2, 3, 4] rfl) (by rw [← hEsize]; simp only [f_X0_forgetSilent_lp_size, if_pos c_4]) (by rw [← hEpi]; simp only [f_X0_forgetSilent_lp_pi, if_pos c_4]) H locs hP hD hS
          · refine lv_aload_n hx hb dX0_forgetSilent_43 rfl (lv_at hl 3 rfl) ?_
            refine va_get (D := D) (ci := 0) (v := .ref r0) (C := RX0) (T := TX0) (N := 2) hx hb htg inX0 hown hK hP 5 rfl rfl 0 (by decide) (htg _ fl_X0_13) (fun _ h9 => h9) rfl dX0_forgetSilent_44 ?_
            refine lv_iload_n hx hb dX0_forgetSilent_47 rfl (lv_at hl 1 rfl) ?_
            refine lv_aload_n hx hb dX0_forgetSilent_48 rfl (lv_at hl 3 rfl) ?_
            refine va_get (D := D) (ci := 0) (v := .ref r0) (C := RX0) (T := TX0) (N := 2) hx hb htg inX0 hown hK hP 5 rfl rfl 0 (by decide) (htg _ fl_X0_13) (fun _ h9 => h9) rfl dX0_forgetSilent_49 ?_
            refine lv_iload_n hx hb dX0_forgetSilent_52 rfl (lv_at hl 2 rfl) ?_
            refine va_aldq' (v := (pad (g j.toNatClampNeg) 0)) hx hb hK hP 6 2 rfl rfl (in_iff hi.2.2.1 (by have := hi.1.1; have := hs.2; have := hi.2.2.2; omega)) rfl dX0_forgetSilent_53 ?_
            refine va_astq (r := (RX3, TX3, 4)) hx hb hK hP hD hS 6 2 _ 1 rfl rfl (pool_obj (hg _ (fs_j hs hi))) rfl (hi.1.lt hi.2.1 (by have := hs.2; omega)) dX0_forgetSilent_54 (fun H locs hP hD hS => ?_)
            have hP : va_P D vwCl ([(h0, .inr (3, [.ref d0, .ref l0, .ref b0, .long own, .int clk])), (d0, .inr (2, [.ref d1, .int dlen, .int dtr])), (d1, .inl (cI, 4, .inl dw)), (l0, .inr (2, [.ref l1, .int llen, .int ltr])), (l1, .inl (cI, 4, .inl lw)), (b0, .inr (0, [.ref r0, .int size])), (r0, .inl (cO, 20, .inr (.inr (.inr (.inr (rsf pad (va_up g i.toNatClampNeg (g j.toNatClampNeg))))))))] ++ Pool pad cI cJ S) H := by rw [← rs_up]; exact hP
            have hD : va_D A ([(h0, .inr (3, [.ref d0, .ref l0, .ref b0, .long own, .int clk])), (d0, .inr (2, [.ref d1, .int dlen, .int dtr])), (d1, .inl (cI, 4, .inl dw)), (l0, .inr (2, [.ref l1, .int llen, .int ltr])), (l1, .inl (cI, 4, .inl lw)), (b0, .inr (0, [.ref r0, .int size])), (r0, .inl (cO, 20, .inr (.inr (.inr (.inr (rsf pad (va_up g i.toNatClampNeg (g j.toNatClampNeg))))))))] ++ Pool pad cI cJ S) := by rw [← rs_up]; exact hD
            refine lv_aload_n hx hb dX0_forgetSilent_55 rfl (lv_at hl 3 rfl) ?_
            refine va_get (D := D) (ci := 0) (v := .ref r0) (C := RX0) (T := TX0) (N := 2) hx hb htg inX0 hown hK hP 5 rfl rfl 0 (by decide) (htg _ fl_X0_13) (fun _ h9 => h9) rfl dX0_forgetSilent_56 ?_
            refine lv_iload_n hx hb dX0_forgetSilent_59 rfl (lv_at hl 2 rfl) ?_
            refine lv_aload hx hb dX0_forgetSilent_60 (lv_at hl 0 rfl) ?_
            refine va_astq (r := (RX3, TX3, 4)) hx hb hK hP hD hS 6 2 _ 1 rfl rfl (pool_obj (hg _ (hi.1.nat hi.2.1 (by have := hs.2; omega)))) rfl (in_iff hi.2.2.1 (by have := hi.1.1; have := hs.2; have := hi.2.2.2; omega)) dX0_forgetSilent_62 (fun H locs hP hD hS => ?_)
            have hP : va_P D vwCl ([(h0, .inr (3, [.ref d0, .ref l0, .ref b0, .long own, .int clk])), (d0, .inr (2, [.ref d1, .int dlen, .int dtr])), (d1, .inl (cI, 4, .inl dw)), (l0, .inr (2, [.ref l1, .int llen, .int ltr])), (l1, .inl (cI, 4, .inl lw)), (b0, .inr (0, [.ref r0, .int size])), (r0, .inl (cO, 20, .inr (.inr (.inr (.inr (rsf pad (va_up (va_up g i.toNatClampNeg (g j.toNatClampNeg)) j.toNatClampNeg (g i.toNatClampNeg))))))))] ++ Pool pad cI cJ S) H := by rw [← rs_up]; exact hP
            have hD : va_D A ([(h0, .inr (3, [.ref d0, .ref l0, .ref b0, .long own, .int clk])), (d0, .inr (2, [.ref d1, .int dlen, .int dtr])), (d1, .inl (cI, 4, .inl dw)), (l0, .inr (2, [.ref l1, .int llen, .int ltr])), (l1, .inl (cI, 4, .inl lw)), (b0, .inr (0, [.ref r0, .int size])), (r0, .inl (cO, 20, .inr (.inr (.inr (.inr (rsf pad (va_up (va_up g i.toNatClampNeg (g j.toNatClampNeg)) j.toNatClampNeg (g i.toNatClampNeg))))))))] ++ Pool pad cI cJ S) := by rw [← rs_up]; exact hD
            refine lv_iinc (v := (j + (1 : Int32))) (lv' := [(2, .int (j + (1 : Int32))), (4, .ref (pad (g i.toNatClampNeg) 0)), (3, .int i), (0, .ref b0), (1, .int a0)]) hx hb dX0_forgetSilent_63 hl (k := 2) rfl rfl (by decide) rfl (fun ls hl => ?_)
            refine lv_iinc (v := (i + (1 : Int32))) (lv' := [(3, .int (i + (1 : Int32))), (2, .int (j + (1 : Int32))), (4, .ref (pad (g i.toNatClampNeg) 0)), (0, .ref b0), (1, .int a0)]) hx hb dX0_forgetSilent_66 hl (k := 2) rfl rfl (by decide) rfl (fun ls hl => ?_)
            refine lv_goto (tgt := 4) hx hb dX0_forgetSilent_69 (by decide) ?_
            exact ih (i + (1 : Int32)) (j + (1 : Int32)) (va_up (va_up g i.toNatClampNeg (g j.toNatClampNeg)) j.toNatClampNeg (g i.toNatClampNeg)) (ages_nx1 hi hs) (fs_sw hs hi hg) ls (lv_sub hl [0, 1, 3, 4] rfl) (by rw [← hEsize]; simp only [f_X0_forgetSilent_lp_size, if_neg c_4]) (by rw [← hEpi]; simp only [f_X0_forgetSilent_lp_pi, if_neg c_4]) H locs hP hD hS
  exact Lp size.toNatClampNeg (0 : Int32) (0 : Int32) pi ⟨⟨by have := clamp hs.1; rw [i0]; omega, by decide, by have := hs.2; omega⟩, by decide, by decide, by decide⟩ hpi ls (lv_sub hl [0, 1, 2, 3] rfl) (by simp only [f_X0_forgetSilent_size]) (by simp only [f_X0_forgetSilent_pi]) _ _ hP hD hS
