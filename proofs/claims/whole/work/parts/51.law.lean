/-! the law: its loop, its start, the claim -/
/-! THE CLAIM OUT OF ONE WALK OF THE LAW'S BODY. Your part is whole_start (and what it stands on); all else here is the same for every law, but numbers. -/
def R_law : String := "SquitterDeskLaw"
def lw_P (b : Addr) (xs : List Int32) (args : Array Value) (s : State) : Prop := args = #[.ref b] ∧ s.IntsAt b xs ∧ xs.length ≤ 3584 ∧ (Jvm.Cond.and given_1 narrow_1).before args s = true
def lw_Q (_ : Array Value) (s : State) (o : Outcome) (t : State) : Prop := o = .returned (some (.int 1)) ∧ Framed s o t [] 600000 7302250
def lw_Z (below : List Frame) (a : Array Value) (s : State) : State → Prop := fun t => ∃ o, t.status = .running ∧ Ended t below o ∧ lw_Q a s o t
/-- the law's own end, with 1 on the stack, nothing written that was there before, its room as the claim has it -/
theorem lw_ret {p : Program} {l : Launch} {e : Env} {s : State} {m : MethodId} {below : List Frame} {meth : Method} {c : Code} {b : Nat} (hx : p.tables.exec = Jvm.exec) (hb : c.code = code) (hr : meth.sig.returnType = ret) (hlocks : meth.locks = false) {pc : Nat} {H : Heap} {ls : Array Slot} (hdg : decode code pc = .ok (.ireturn, 1)) : W p l e room_1 s m #[Value.ref b] below meth c H [] 600000 7302250 (lw_Z below #[Value.ref b] s) (F0 m pc ls [.int 1]) := by
  intro T hT X
  obtain ⟨fs, hret, hrun, hended, hW, hframe⟩ := X.leave (v := some (.int 1)) (hlocks := hlocks) (fun h => by rw [hr] at h; cases h)
  have hmeth' : T.vm.method? m = some meth := X.method'
  refine ⟨T.setFrames fs, ?_, .returned (some (.int 1)), hrun, hended, rfl, ⟨_, rfl⟩, hW, hframe⟩
  jvm_step X.here [X.here.top, hx, hb, hdg, hmeth', hr, ret, narrow_b1]
  (try refine ⟨rfl, ?_⟩); (try refine ⟨rfl, ?_⟩)
  first | (intro acts; rw [hret _ acts rfl rfl rfl]) | rw [hret _ _ rfl rfl rfl]
  exact Steps.refl _
/-- what holds at the law's entry: the machine, the code, the tables' words (any of lw_tbl by 'hts w (by decide +kernel)'), the script of L ints xs at the cell b, what the Statement gives of the start (any of its parts by flat_of_before) -/
def lw_At (p : Program) (s : State) (m : MethodId) (meth : Method) (c : Code) (b L : Nat) (xs : Nat → Int32) : Prop :=
  p.tables.exec = Jvm.exec ∧ c.code = code ∧ meth.sig.returnType = ret ∧ c.maxLocals = 4 ∧ s.vm.findClass R_law = some m.cls ∧ (∀ w ∈ lw_tbl, w.before #[Value.ref b] s = true) ∧ va_X b L xs s s.heap ∧ b < s.heap.size ∧ meth.locks = false ∧ (Jvm.Cond.and given_1 narrow_1).before #[Value.ref b] s = true
def bdF : Nat → Int64 := (vp_updL (vp_updL (vp_updL (vp_updL (vp_updL (vp_updL (vp_updL (vp_updL (vp_updL (vp_updL (vp_updL (vp_updL (vp_updL (vp_updL (vp_updL (vp_updL (vp_updL (vp_updL (vp_updL (vp_updL (vp_updL (vp_updL (vp_updL (vp_updL (vp_updL (vp_updL (vp_updL (vp_updL (vp_updL (vp_updL (vp_updL (vp_updL (vp_updL (vp_updL (vp_updL (vp_updL (vp_updL (vp_updL (vp_updL (vp_updL (vp_updL (vp_updL (vp_updL (vp_updL (vp_updL (vp_updL (vp_updL (vp_updL (vp_updL (vp_updL (vp_updL (vp_updL (vp_updL (vp_updL (vp_updL (vp_updL (vp_updL (vp_updL (fun _ => 0) 0 (1047047130 : Int64)) 1 (1482817437 : Int64)) 2 (1818626357 : Int64)) 3 (2102939493 : Int64)) 4 (2354504487 : Int64)) 5 (2582924707 : Int64)) 6 (2793898710 : Int64)) 7 (2991135686 : Int64)) 8 (3177209708 : Int64)) 9 (3353993436 : Int64)) 10 (3522899598 : Int64)) 11 (3685025108 : Int64)) 12 (3841241892 : Int64)) 13 (3992256684 : Int64)) 14 (4138651832 : Int64)) 15 (4280914012 : Int64)) 16 (4419454951 : Int64)) 17 (4554626723 : Int64)) 18 (4686733252 : Int64)) 19 (4816039128 : Int64)) 20 (4942776439 : Int64)) 21 (5067150166 : Int64)) 22 (5189342469 : Int64)) 23 (5309516153 : Int64)) 24 (5427817472 : Int64)) 25 (5544378444 : Int64)) 26 (5659318756 : Int64)) 27 (5772747354 : Int64)) 28 (5884763776 : Int64)) 29 (5995459277 : Int64)) 30 (6104917774 : Int64)) 31 (6213216659 : Int64)) 32 (6320427479 : Int64)) 33 (6426616523 : Int64)) 34 (6531845310 : Int64)) 35 (6636171008 : Int64)) 36 (6739646774 : Int64)) 37 (6842322022 : Int64)) 38 (6944242631 : Int64)) 39 (7045451075 : Int64)) 40 (7145986473 : Int64)) 41 (7245884545 : Int64)) 42 (7345177442 : Int64)) 43 (7443893416 : Int64)) 44 (7542056257 : Int64)) 45 (7639684391 : Int64)) 46 (7736789461 : Int64)) 47 (7833374083 : Int64)) 48 (7929428225 : Int64)) 49 (8024923213 : Int64)) 50 (8119801349 : Int64)) 51 (8213956981 : Int64)) 52 (8307199445 : Int64)) 53 (8399173563 : Int64)) 54 (8489166191 : Int64)) 55 (8575541621 : Int64)) 56 (8653536998 : Int64)) 57 (8700000000 : Int64))
theorem bdF_ok : BD bdF := ⟨by decide +kernel, by decide +kernel⟩
theorem sw_lt {L i : Nat} (hL : L ≤ 3584) (hi : i ≤ L) (q : ¬ Int32.ofNat L - 7 < nI i) : i + 7 ≤ L := by
  have e : (Int32.ofNat L - 7).toInt = (L : Int) - 7 := by
    have h1 : (Int32.ofNat L).toInt = (L : Int) := nI_toInt (n := L) (by omega)
    rw [fb_subI] <;> rw [h1, show (7 : Int32).toInt = 7 from rfl] <;> omega
  rw [fa_lt, e, nI_toInt (by omega)] at q
  omega
set_option maxHeartbeats 4000000 in
set_option maxRecDepth 100000 in
theorem law_loop {p : Program} {l : Launch} {e : Env} {s : State} {m : MethodId} {below : List Frame} {meth : Method} {c : Code} {D : va_G} {cI cJ cO : ClassId} {b L : Nat} {xs : Nat → Int32} {x0 d0 l0 b0 d1 l1 r0 h0 h1 h2 h3 h4 : Nat} {pad : Nat → Nat → Nat} {bd : Nat → Int64} (hx : p.tables.exec = Jvm.exec) (hb : c.code = code) (hr : meth.sig.returnType = ret) (hml : c.maxLocals = 4) (hown : s.vm.findClass RL = some m.cls) (htg : ∀ w ∈ gw, w.before #[Value.ref b] s = true) (hX : va_X b L xs s s.heap) (hbl : b < s.heap.size) (hlocks : meth.locks = false) (hL : L ≤ 3584) (hK : va_K D vwCl (TY cI cJ cO) s) (hBt : Bt (AL s) s) (hbd : BD bd) :
    ∀ (n i : Nat), i ≤ L → L + 1 ≤ i + n → ∀ (own : Int64) (clk : Int32) (dlen : Int32) (dtr : Int32) (dw : Nat → Int32) (llen : Int32) (ltr : Int32) (lw : Nat → Int32) (size : Int32) (pi : Nat → Nat) (S : Nat → CR) (mn : Int32) (lt : Int32) (sz : Int32) (hsz : Int32) (hsy : Int32) (hrt : Int32) (hpl : Int32) (ola : Int32) (olo : Int32) (lat : Int32) (lon : Int32) (rw : Nat → Int32) (bt : Nat → Int32) (hd : Nat → Int32) (H : Heap) (locs : List Loc), va_P D vwCl (WD cI cJ cO x0 d0 l0 b0 own clk d1 dlen dtr dw l1 llen ltr lw r0 size pad pi S ++ WM cI cJ h0 h1 h2 mn lt h3 sz h4 hsz hsy hrt hpl ola olo lat lon bd rw bt hd) H → va_D (AL s) (WD cI cJ cO x0 d0 l0 b0 own clk d1 dlen dtr dw l1 llen ltr lw r0 size pad pi S ++ WM cI cJ h0 h1 h2 mn lt h3 sz h4 hsz hsy hrt hpl ola olo lat lon bd rw bt hd) → va_S (AL s) s.heap H locs → Rel own clk lw llen ltr size pi S rw mn lt hd hsz hsy hrt hpl ola olo → ∀ (ls : Array Slot), lv_has ls 4 [(0, .ref b), (1, .ref x0), (2, .ref h0), (3, .int (nI i))] → W p l e room_1 s m #[Value.ref b] below meth c H locs 112 1818 (lw_Z below #[Value.ref b] s) (F0 m 18 ls []) := by
  have hbA : ¬ AL s b := Nat.not_le.mpr hbl
  intro n
  induction n with
  | zero =>
    intro i h1 h2
    exact absurd h2 (by omega)
  | succ n ih =>
    intro i hiL hin own clk dlen dtr dw llen ltr lw size pi S mn lt sz hsz hsy hrt hpl ola olo lat lon rw bt hd H locs hP hD hS hR ls hl
    refine lv_iload_n hx hb dL_law_18 rfl (lv_at hl 3 rfl) ?_
    refine lv_aload_n hx hb dL_law_19 rfl (lv_at hl 0 rfl) ?_
    refine va_slen hx hb hX hbl hbA hS dL_law_20 ?_
    refine lv_bipush (v := 7) hx hb dL_law_21 (by decide) ?_
    refine lv_isub hx hb dL_law_23 ?_
    refine lv_icmp_gt (tgt := 884) hx hb dL_law_24 (by decide) (fun q => ?_) (fun q => ?_)
    · refine lv_iconst (v := 1) hx hb dL_law_884 (by decide) ?_
      refine va_forget (fun q hq => hS.2.2 q hq) ?_
      refine W.widen (k := 600000) (n := 7302250) (Nat.le_of_ble_eq_true rfl) (Nat.le_of_ble_eq_true rfl) ?_
      exact lw_ret hx hb hr hlocks dL_law_885
    · have hi := sw_lt hL hiL q
      have KK : ∀ (own : Int64) (clk : Int32) (dlen : Int32) (dtr : Int32) (dw : Nat → Int32) (llen : Int32) (ltr : Int32) (lw : Nat → Int32) (size : Int32) (pi : Nat → Nat) (S : Nat → CR) (mn : Int32) (lt : Int32) (sz : Int32) (hsz : Int32) (hsy : Int32) (hrt : Int32) (hpl : Int32) (ola : Int32) (olo : Int32) (lat : Int32) (lon : Int32) (rw : Nat → Int32) (bt : Nat → Int32) (hd : Nat → Int32) (H : Heap) (locs : List Loc), va_P D vwCl (WD cI cJ cO x0 d0 l0 b0 own clk d1 dlen dtr dw l1 llen ltr lw r0 size pad pi S ++ WM cI cJ h0 h1 h2 mn lt h3 sz h4 hsz hsy hrt hpl ola olo lat lon bd rw bt hd) H → va_D (AL s) (WD cI cJ cO x0 d0 l0 b0 own clk d1 dlen dtr dw l1 llen ltr lw r0 size pad pi S ++ WM cI cJ h0 h1 h2 mn lt h3 sz h4 hsz hsy hrt hpl ola olo lat lon bd rw bt hd) → va_S (AL s) s.heap H locs → Rel own clk lw llen ltr size pi S rw mn lt hd hsz hsy hrt hpl ola olo → W p l e room_1 s m #[Value.ref b] below meth c H locs 112 1818 (lw_Z below #[Value.ref b] s) (F0 m 878 ls []) := by
        intro own clk dlen dtr dw llen ltr lw size pi S mn lt sz hsz hsy hrt hpl ola olo lat lon rw bt hd H locs hP hD hS hR
        refine lv_iinc (v := nI (i + 7)) (lv' := [(3, .int (nI (i + 7))), (0, .ref b), (1, .ref x0), (2, .ref h0)]) hx hb dL_law_878 hl (k := 3) rfl (nI_add i 7) (by decide) rfl (fun ls hl => ?_)
        refine lv_goto (tgt := 18) hx hb dL_law_881 (by decide) ?_
        exact ih (i + 7) hi (by omega) _ _ _ _ _ _ _ _ _ _ _ _ _ _ _ _ _ _ _ _ _ _ _ _ _ H locs hP hD hS hR ls (lv_sub hl [1, 2, 3, 0] rfl)
      refine lv_aload_n hx hb dL_law_27 rfl (lv_at hl 0 rfl) ?_
      refine lv_iload_n hx hb dL_law_28 rfl (lv_at hl 3 rfl) ?_
      refine va_sld hx hb hX hbl hbA hS (vp_in_nI (by omega) (by omega)) dL_law_29 ?_
      refine lv_bipush (v := 15) hx hb dL_law_30 (by decide) ?_
      refine lv_iand hx hb dL_law_32 ?_
      obtain ⟨j, hj, ej⟩ := pk_andE (xs (nI i).toNatClampNeg) (m := 15) 4 (by decide)
      rw [ej]
      have hj16 : j = 0 ∨ j = 1 ∨ j = 2 ∨ j = 3 ∨ j = 4 ∨ j = 5 ∨ j = 6 ∨ j = 7 ∨ j = 8 ∨ j = 9 ∨ j = 10 ∨ j = 11 ∨ j = 12 ∨ j = 13 ∨ j = 14 ∨ j = 15 := by omega
      rcases hj16 with rfl | rfl | rfl | rfl | rfl | rfl | rfl | rfl | rfl | rfl | rfl | rfl | rfl | rfl | rfl | rfl
      · refine lv_tableIn (off := 75) (tgt := 108) hx hb dL_law_33 (by decide) (by decide) (by decide) (by decide) ?_
        exact law_c0 hx hb hml hown htg hX hbl hL hK hBt hbd hl hi KK hP hD hS hR
      · refine lv_tableIn (off := 128) (tgt := 161) hx hb dL_law_33 (by decide) (by decide) (by decide) (by decide) ?_
        exact law_c1 hx hb hml hown htg hX hbl hL hK hBt hbd hl hi KK hP hD hS hR
      · refine lv_tableIn (off := 181) (tgt := 214) hx hb dL_law_33 (by decide) (by decide) (by decide) (by decide) ?_
        exact law_c2 hx hb hml hown htg hX hbl hL hK hBt hbd hl hi KK hP hD hS hR
      · refine lv_tableIn (off := 234) (tgt := 267) hx hb dL_law_33 (by decide) (by decide) (by decide) (by decide) ?_
        exact law_c3 hx hb hml hown htg hX hbl hL hK hBt hbd hl hi KK hP hD hS hR
      · refine lv_tableIn (off := 267) (tgt := 300) hx hb dL_law_33 (by decide) (by decide) (by decide) (by decide) ?_
        exact law_c4 hx hb hml hown htg hX hbl hL hK hBt hbd hl hi KK hP hD hS hR
      · refine lv_tableIn (off := 330) (tgt := 363) hx hb dL_law_33 (by decide) (by decide) (by decide) (by decide) ?_
        exact law_c5 hx hb hml hown htg hX hbl hL hK hBt hbd hl hi KK hP hD hS hR
      · refine lv_tableIn (off := 353) (tgt := 386) hx hb dL_law_33 (by decide) (by decide) (by decide) (by decide) ?_
        exact law_c6 hx hb hml hown htg hX hbl hL hK hBt hbd hl hi KK hP hD hS hR
      · refine lv_tableIn (off := 386) (tgt := 419) hx hb dL_law_33 (by decide) (by decide) (by decide) (by decide) ?_
        exact law_c7 hx hb hml hown htg hX hbl hL hK hBt hbd hl hi KK hP hD hS hR
      · refine lv_tableIn (off := 399) (tgt := 432) hx hb dL_law_33 (by decide) (by decide) (by decide) (by decide) ?_
        exact law_c8 hx hb hml hown htg hX hbl hL hK hBt hbd hl hi KK hP hD hS hR
      · refine lv_tableIn (off := 422) (tgt := 455) hx hb dL_law_33 (by decide) (by decide) (by decide) (by decide) ?_
        exact law_c9 hx hb hml hown htg hX hbl hL hK hBt hbd hl hi KK hP hD hS hR
      · refine lv_tableIn (off := 455) (tgt := 488) hx hb dL_law_33 (by decide) (by decide) (by decide) (by decide) ?_
        exact law_c10 hx hb hml hown htg hX hbl hL hK hBt hbd hl hi KK hP hD hS hR
      · refine lv_tableIn (off := 488) (tgt := 521) hx hb dL_law_33 (by decide) (by decide) (by decide) (by decide) ?_
        exact law_c11 hx hb hml hown htg hX hbl hL hK hBt hbd hl hi KK hP hD hS hR
      · refine lv_tableIn (off := 511) (tgt := 544) hx hb dL_law_33 (by decide) (by decide) (by decide) (by decide) ?_
        exact law_c12 hx hb hml hown htg hX hbl hL hK hBt hbd hl hi KK hP hD hS hR
      · refine lv_tableIn (off := 597) (tgt := 630) hx hb dL_law_33 (by decide) (by decide) (by decide) (by decide) ?_
        exact law_c13 hx hb hml hown htg hX hbl hL hK hBt hbd hl hi KK hP hD hS hR
      · refine lv_tableIn (off := 717) (tgt := 750) hx hb dL_law_33 (by decide) (by decide) (by decide) (by decide) ?_
        exact law_c14 hx hb hml hown htg hX hbl hL hK hBt hbd hl hi KK hP hD hS hR
      · refine lv_tableOut (tgt := 878) hx hb dL_law_33 (by decide) (by decide) ?_
        exact KK _ _ _ _ _ _ _ _ _ _ _ _ _ _ _ _ _ _ _ _ _ _ _ _ _ H locs hP hD hS hR
theorem bt_mem : ∀ j, j < 57 → Cond.eq (.elem (.static "SquitterDesk$Compact" "BOUNDS" "[J") (.int (Int32.ofNat j))) (.long (bnd j)) ∈ flatC (Jvm.Cond.and given_1 narrow_1) := by decide +kernel
theorem bt_start {s : State} {b : Nat} (hts : ∀ w ∈ lw_tbl, w.before #[Value.ref b] s = true) (hgv : (Jvm.Cond.and given_1 narrow_1).before #[Value.ref b] s = true) : Bt (AL s) s := by
  have hs := flat_of_before _ hgv
  have harr : (Cond.arrayOf (.static "SquitterDesk$Compact" "BOUNDS" "[J") .long).before #[Value.ref b] s = true := hs _ (by decide +kernel)
  have hlen : (Cond.eq (.length (.static "SquitterDesk$Compact" "BOUNDS" "[J")) (.int (57 : Int32))).before #[Value.ref b] s = true := hs _ (by decide +kernel)
  have hA : ∀ a : Nat, a < s.heap.size → ¬ AL s a := fun a h => Nat.not_le.mpr h
  obtain ⟨t, ht, hT⟩ := va_Tof (N := 57) (f := fun j => .long (bnd j)) (A := AL s) (by decide) harr (va_eqt hlen) (fun j hj => va_eqtl (hs _ (bt_mem j hj))) hA
  exact ⟨t, va_Zref (hts (.laysStatic "SquitterDesk$Compact" "BOUNDS" "[J") (by decide +kernel)) (hts (.initialized "SquitterDesk$Compact") (by decide +kernel)) ht hA, hT⟩
set_option maxHeartbeats 4000000 in
set_option maxRecDepth 100000 in
theorem whole_start {p : Program} {e : Env} {s : State} {m : MethodId} {below : List Frame} {meth : Method} {c : Code} (l : Launch) {b L : Nat} {xs : Nat → Int32} (hL : L ≤ 3584) (C0 : lw_At p s m meth c b L xs) : W p l e room_1 s m #[Value.ref b] below meth c s.heap [] 0 0 (lw_Z below #[Value.ref b] s) (entryFrame m ([Value.ref b] : List Value).toArray 4) := by
  obtain ⟨hx, hb, hr, hml, hown, hts, hX, hbl, hlocks, hgv⟩ := id C0
  have htg := gw_hts hts
  have hown : s.vm.findClass RL = some m.cls := hown
  have hA : ∀ q : Nat, s.heap.size ≤ q → AL s q := fun _ h => h
  have hBt := bt_start hts hgv
  have hao : (Cond.arrayOver (.object "SquitterDesk$Craft")).before #[Value.ref b] s = true := hts _ (by decide +kernel)
  have hAO : va_AO "SquitterDesk$Craft" s := va_AO.of hao
  obtain ⟨c0, iS0, hKn0⟩ := u_known (C := RX0) (T := TX0) (N := 2) (n := 2) htg inX0 (htg _ it_X0)
  obtain ⟨c1, iS1, hKn1⟩ := u_known (C := RX3) (T := TX3) (N := 4) (n := 4) htg inX3 (htg _ it_X3)
  obtain ⟨c2, iS2, hKn2⟩ := u_known (C := RX4) (T := TX4) (N := 3) (n := 3) htg inX4 (htg _ it_X4)
  obtain ⟨c3, iS3, hKn3⟩ := u_known (C := RX5) (T := TX5) (N := 5) (n := 5) htg inX5 (htg _ it_X5)
  obtain ⟨c4, iS4, hKn4⟩ := u_known (C := RX6) (T := TX6) (N := 15) (n := 15) htg inX6 (htg _ it_X6)
  obtain ⟨D, hKc⟩ : ∃ (D : va_G), ∀ (k : Nat) (q : vw_C), vwCl[k]? = some q → u_Kn s q.1 q.2.1 q.2.2 (D.1 k) (D.2 k) := by
    refine ⟨(fun k => if k = 0 then c0 else if k = 1 then c1 else if k = 2 then c2 else if k = 3 then c3 else c4, fun k => if k = 0 then iS0 else if k = 1 then iS1 else if k = 2 then iS2 else if k = 3 then iS3 else iS4), ?_⟩
    intro k q hq
    match k, hq with
    | 0, hq => cases hq; exact hKn0
    | 1, hq => cases hq; exact hKn1
    | 2, hq => cases hq; exact hKn2
    | 3, hq => cases hq; exact hKn3
    | 4, hq => cases hq; exact hKn4
    | k + 5, hq => simp [vwCl] at hq
  obtain ⟨cI, kI, compI, i1, i2, i3⟩ := Cond.arrayClass_spec (htg _ ac_int)
  obtain ⟨cJ, kJ, compJ, j1, j2, j3⟩ := Cond.arrayClass_spec (htg _ ac_long)
  obtain ⟨comp, cO, kO, o1, o2, o3, o4, o5⟩ := Cond.arrayOver_spec hao
  have hK : va_K D vwCl (TY cI cJ cO) s := by
    refine ⟨hKc, fun k q hq => ?_⟩
    match k, hq with
    | 0, hq => cases hq; exact ⟨fun n z => ⟨(fun k h => by cases h), kI, i2, compI, i3⟩, i1⟩
    | 1, hq => cases hq; exact ⟨fun n z => ⟨(fun k h => by cases h), kJ, j2, compJ, j3⟩, j1⟩
    | 2, hq => cases hq; exact ⟨fun n z => ⟨(fun k h => by cases h), kO, o3, comp, o4⟩, kO, comp, o3, o4, o1, o5⟩
    | k + 3, hq => simp [TY] at hq
  have hS : va_S (AL s) s.heap s.heap [] := va_S.rf
  have hP : va_P D vwCl [] s.heap := fun k q h => by simp at h
  have hD : va_D (AL s) [] := ⟨fun i j p q h => by simp at h, fun k q h => by simp at h⟩
  have hl := lv_entry ([.ref b]) (n := 4) (Nat.le_of_ble_eq_true rfl)
  rw [lg_entry_eq]
  generalize (lg_sl ([.ref b]) ++ List.replicate (4 - (lg_sl ([.ref b])).length) Slot.unset).toArray = ls at hl ⊢
  have hl : lv_has ls 4 [(0, .ref b)] := hl
  refine va_new (ci := 3) (fs := [.null, .null, .null, .long 0, .int 0]) (C := RX5) (T := TX5) (N := 5) hx hb htg inX5 tyX5 tyX5_ok hown (htg _ cl_L_7) (htg _ it_X5) (htg _ ini_X5) hK hP hD hS hA rfl (fun j hj => by rcases (show j = 0 ∨ j = 1 ∨ j = 2 ∨ j = 3 ∨ j = 4 by omega) with rfl | rfl | rfl | rfl | rfl <;> rfl) (Nat.le_of_ble_eq_true rfl) (Nat.le_of_ble_eq_true rfl) dL_law_0 (fun x0 H hP hD hS => ?_)
  refine lv_dup hx hb dL_law_3 rfl ?_
  refine iC (wr := []) (rest := [.ref x0]) hx hb hml hown htg (c_X5_init l D cI cJ cO x0 H.size) Blind.ao (fun U _ hW => va_AO.moved hW.alike hAO) ml_L_9 im_X5_init ini_X5 co_X5_init rfl dn_X5_init hl.1 rfl (Nat.le_of_ble_eq_true rfl) ⟨Nat.le_of_ble_eq_true rfl, Nat.le_of_ble_eq_true rfl⟩ ⟨Nat.le_of_ble_eq_true rfl, Nat.le_of_ble_eq_true rfl⟩ dL_law_4 hK hP hD hS hA (fun u H locs hP hD hS => ?_)
  obtain ⟨⟨d0, d1⟩, ⟨l0, l1⟩, ⟨b0, r0, pad⟩⟩ := u
  have hP : va_P D vwCl (WD cI cJ cO x0 d0 l0 b0 (-9223372036854775808) 0 d1 0 (-1) (fun _ => 0) l1 0 (-1) (fun _ => 0) r0 0 pad (fun i => i) (fun _ => cr0)) H := hP
  have hD : va_D (AL s) (WD cI cJ cO x0 d0 l0 b0 (-9223372036854775808) 0 d1 0 (-1) (fun _ => 0) l1 0 (-1) (fun _ => 0) r0 0 pad (fun i => i) (fun _ => cr0)) := hD
  refine lv_astore_n (lv' := [(1, .ref x0), (0, .ref b)]) hx hb dL_law_7 rfl hl (by decide) rfl (fun ls hl => ?_)
  refine va_new (ci := 4) (fs := [.null, .null, .int 0, .int 0, .null, .int 0, .null, .int 0, .int 0, .int 0, .int 0, .int 0, .int 0, .int 0, .int 0]) (C := RX6) (T := TX6) (N := 15) hx hb htg inX6 tyX6 tyX6_ok hown (htg _ cl_L_10) (htg _ it_X6) (htg _ ini_X6) hK hP hD hS hA rfl (fun j hj => by rcases (show j = 0 ∨ j = 1 ∨ j = 2 ∨ j = 3 ∨ j = 4 ∨ j = 5 ∨ j = 6 ∨ j = 7 ∨ j = 8 ∨ j = 9 ∨ j = 10 ∨ j = 11 ∨ j = 12 ∨ j = 13 ∨ j = 14 by omega) with rfl | rfl | rfl | rfl | rfl | rfl | rfl | rfl | rfl | rfl | rfl | rfl | rfl | rfl | rfl <;> rfl) (Nat.le_of_ble_eq_true rfl) (Nat.le_of_ble_eq_true rfl) dL_law_8 (fun h0 H hP hD hS => ?_)
  refine lv_dup hx hb dL_law_11 rfl ?_
  refine iC (wr := WD cI cJ cO x0 d0 l0 b0 (-9223372036854775808) 0 d1 0 (-1) (fun _ => 0) l1 0 (-1) (fun _ => 0) r0 0 pad (fun i => i) (fun _ => cr0)) (rest := [.ref h0]) hx hb hml hown htg (c_X6_init l D cI cJ cO h0 H.size) Blind.tt (fun _ _ _ => trivial) ml_L_12 im_X6_init ini_X6 co_X6_init rfl dn_X6_init hl.1 rfl (Nat.le_of_ble_eq_true rfl) ⟨Nat.le_of_ble_eq_true rfl, Nat.le_of_ble_eq_true rfl⟩ ⟨Nat.le_of_ble_eq_true rfl, Nat.le_of_ble_eq_true rfl⟩ dL_law_12 hK hP hD hS hA (fun u H locs hP hD hS => ?_)
  obtain ⟨h1, h2, h3, h4⟩ := u
  have hP : va_P D vwCl (WD cI cJ cO x0 d0 l0 b0 (-9223372036854775808) 0 d1 0 (-1) (fun _ => 0) l1 0 (-1) (fun _ => 0) r0 0 pad (fun i => i) (fun _ => cr0) ++ WM cI cJ h0 h1 h2 0 0 h3 0 h4 0 0 (-1) 0 0 0 0 0 bdF (fun _ => 0) (fun _ => 0) (fun _ => 0)) H := hP
  have hD : va_D (AL s) (WD cI cJ cO x0 d0 l0 b0 (-9223372036854775808) 0 d1 0 (-1) (fun _ => 0) l1 0 (-1) (fun _ => 0) r0 0 pad (fun i => i) (fun _ => cr0) ++ WM cI cJ h0 h1 h2 0 0 h3 0 h4 0 0 (-1) 0 0 0 0 0 bdF (fun _ => 0) (fun _ => 0) (fun _ => 0)) := hD
  refine lv_astore_n (lv' := [(2, .ref h0), (1, .ref x0), (0, .ref b)]) hx hb dL_law_15 rfl hl (by decide) rfl (fun ls hl => ?_)
  refine lv_iconst (v := 0) hx hb dL_law_16 (by decide) ?_
  refine lv_istore_n (lv' := [(3, .int 0), (2, .ref h0), (1, .ref x0), (0, .ref b)]) hx hb dL_law_17 rfl hl (by decide) rfl (fun ls hl => ?_)
  refine W.widen (k := 112) (n := 1818) (Nat.le_of_ble_eq_true rfl) (Nat.le_of_ble_eq_true rfl) ?_
  exact law_loop hx hb hr hml hown htg hX hbl hlocks hL hK hBt bdF_ok (L + 1) 0 (Nat.zero_le _) (by omega) _ _ _ _ _ _ _ _ _ _ _ _ _ _ _ _ _ _ _ _ _ _ _ _ _ H locs hP hD hS rel_0 ls (lv_sub hl [3, 2, 1, 0] rfl)
set_option maxHeartbeats 4000000 in
theorem lw_walk (l : Launch) (b : Addr) (xs : List Int32) : MetFree l x (headSpec (Jvm.Cond.code x code maxLocals ret :: tables_1) room_1) (lw_P b xs) (fun _ _ _ _ _ => True) lw_Q := by
  refine MetFree.of_bodyS (code := code) (maxLocals := maxLocals) (ret := ret) (by decide) ?_ ?_
  · intro args s m h hn
    obtain ⟨meth, c, h1, h2, h3, h4, h5, h6, -, -⟩ := Cond.code_spec hn (atoms_spec (ws := Jvm.Cond.code x code maxLocals ret :: tables_1) h _ List.mem_cons_self)
    exact ⟨meth, c, h1, h2, h3, h4, h5, h6⟩
  · intro p e s m args below meth c s₁ B hml0 hP _
    obtain ⟨rfl, hx, hbd, hgv⟩ := hP
    obtain ⟨scr, harrAt, hlist, hof, hsmall⟩ := hx
    obtain ⟨hcb, hkn, -, -⟩ := State.arrayAt?_spec harrAt
    have hown : s.vm.findClass R_law = some m.cls := findClass_of_methodNamed B.named
    have hts0 : ∀ c ∈ (Jvm.Cond.code x code maxLocals ret :: tables_1), c.before #[Value.ref b] s = true := atoms_spec (ws := Jvm.Cond.code x code maxLocals ret :: tables_1) B.pre
    have hts : ∀ w ∈ lw_tbl, w.before #[Value.ref b] s = true := k2_hts_sels lw_privs (fun w hw => hts0 w (List.mem_cons_of_mem _ hw)) lw_privs_ok
    have hml : c.maxLocals = 4 := B.maxLocals_eq (hts0 _ List.mem_cons_self)
    have X₀ : Stand p l e room_1 s m #[Value.ref b] below meth c s₁ [] 0 0 := Stand.of_body B
    have hh0 : s₁.heap = s.heap := by rw [B.state]; rfl
    have hsz : scr.slots.size = xs.length := by rw [← Array.length_toList, hlist, List.length_map]
    have hval : ∀ j : Nat, j < xs.length → scr.slots[j]? = some (.int (xs.getD j 0)) := fun j hj => by
      rw [← Array.getElem?_toList, hlist]
      simp [hj]
    have hbl : b < s.heap.size := (Array.getElem?_eq_some_iff.mp hcb).1
    have hX : va_X b xs.length (fun j => xs.getD j 0) s s.heap := ⟨scr, hcb, hof, hkn, hsz, hval⟩
    have K : W p l e room_1 s m #[Value.ref b] below meth c s₁.heap [] 0 0 (lw_Z below #[Value.ref b] s) (entryFrame m ([Value.ref b] : List Value).toArray 4) := by
      rw [hh0]
      exact whole_start l hbd ⟨B.exec, B.bytes, B.returns, hml, hown, hts, hX, hbl, B.notSynchronized, hgv⟩
    obtain ⟨t, a1, o, b1, b2, b3⟩ := K s₁ rfl X₀
    exact ⟨t, o, a1, b1, b2, b3⟩
theorem lw_pre_spec {args : Array Value} {s : State} (h : (Jvm.Cond.and given_1 narrow_1).before args s = true) (hr : rest_1_c.before args s = true) : ∃ (b : Addr) (xs : List Int32), lw_P b xs args s := by
  have hs := flat_of_before _ h
  have hq := flat_of_before _ hr
  have hc : (Cond.count 1).before args s = true := hs _ (by decide +kernel)
  have harr : (Cond.arrayOf (.arg 0) .int).before args s = true := hs _ (by decide +kernel)
  have hle : (Cond.le (.length (.arg 0)) (.int 3584)).before args s = true := hs _ (by decide +kernel)
  have hlen : (Cond.isInt (.length (.arg 0))).before args s = true := hq _ (by decide +kernel)
  have hall : (Cond.all (.arg 0) (.isInt (.elem (.arg 0) (.index 0)))).before args s = true := hq _ (by decide +kernel)
  obtain ⟨b, xs, hb, hx⟩ := State.ints_of_pre rfl harr hlen hall
  have hsm : xs.length < 2 ^ 31 := hx.choose_spec.2.2.2
  have hev : (Term.length (.arg 0)).eval args s none [] s = some (.int xs.length.toInt32) := hx.length_eval hb
  have hv := Cond.le_ints hev (show (Term.int 3584).eval args s none [] s = some (.int 3584) from rfl)
  have hd : xs.length.toInt32 ≤ 3584 := by
    simpa [Cond.before, Cond.holds, hv] using hle
  have hN : xs.length ≤ 3584 := (Int32.ofNat_le_ofNat hsm (by decide)).mp (show Int32.ofNat xs.length ≤ Int32.ofNat 3584 from hd)
  exact ⟨b, xs, Cond.one_arg hc (show args[0]? = some (.ref b) from hb), hx, hN, h⟩
theorem lw_comes (l : Launch) : Comes l x (Jvm.Cond.code x code maxLocals ret :: tables_1) room_1 (fun tb e args s => Calls_1 tb e args s ∧ rest_1 tb e args s ∧ Pre_1 tb e args s)
    (fun _ _ args s o t => lw_Q args s o t) := by
  intro p e ha hc hk s m args below hf hfit hheap happ hpre
  obtain ⟨b, xs, hP⟩ := lw_pre_spec hpre.2.2 hpre.2.1
  obtain ⟨k, o, h1, h2, h3, hQ⟩ := lw_walk l b xs p e ha hc hk s m args below hf ((Spec.applies_iff_loose hf).mp happ).1 hP trivial
  exact ⟨k, o, h1, h2, h3, hQ⟩
theorem lw_frame {s t : State} {o : Outcome} {args : Array Value} (h : Framed s o t [] 600000 7302250) :
    Framed s o t (fieldLocs frame_1_writes args s ++ arrayLocs frame_1_arrays args s ++ staticLocs frame_1_statics s) 600000 7302250 := h
theorem lw_limb (L : Cond) (hL : ∀ (args : Array Value) (s t : State), L.after args s (.returned (some (.int 1))) t = true) :
    ArmFor flags0 classFile x code maxLocals ret World_1 tables_1 room_1 Calls_1 rest_1 Pre_1
      (fun tb e a s o t => postC L tb e a s o t ∧ Framed s o t (fieldLocs frame_1_writes a s ++ arrayLocs frame_1_arrays a s ++ staticLocs frame_1_statics s) 600000 7302250) := by
  intro l _ _ _ p e ha hc hk s m args below hf hfit hheap happ hpre
  obtain ⟨k, o, h1, h2, h3, rfl, hF⟩ := lw_comes l p e ha hc hk s m args below hf hfit hheap happ hpre
  exact ⟨k, _, h1, h2, h3, hL args s _, lw_frame hF⟩
theorem i_vc : Claimed_1_1 ∧ Claimed_1_2 := ⟨lw_limb limb_1_1 (fun args s t => by simp [limb_1_1, Cond.after, Cond.holds, Cond.value]), lw_limb limb_1_2 (fun args s t => Cond.after_iff.mpr (by
  first | (rw [show limb_1_2 = Cond.eq .result (.int 1) from rfl, Cond.eq_ints (x := 1) (y := 1) rfl rfl]; simp; done) | (simp [limb_1_2, Cond.value, Term.eval]; done)))⟩
