/-! the law: worlds side by side, its calls, its own loads; the relation at the start and behind each call -/
theorem P_l {D : va_G} {cl : List vw_C} {wl wr : va_W} {H : Heap} (h : va_P D cl (wl ++ wr) H) : va_P D cl wl H := fun k q hk => h k q (by rw [List.getElem?_append_left (List.getElem?_eq_some_iff.mp hk).1]; exact hk)
theorem P_r {D : va_G} {cl : List vw_C} {wl wr : va_W} {H : Heap} (h : va_P D cl (wl ++ wr) H) : va_P D cl wr H := fun k q hk => h (wl.length + k) q (by rw [List.getElem?_append_right (by omega), show wl.length + k - wl.length = k by omega]; exact hk)
theorem D_l {A : Nat → Prop} {wl wr : va_W} (h : va_D A (wl ++ wr)) : va_D A wl :=
  ⟨fun i j p q hi hj e => h.1 i j p q (by rw [List.getElem?_append_left (List.getElem?_eq_some_iff.mp hi).1]; exact hi) (by rw [List.getElem?_append_left (List.getElem?_eq_some_iff.mp hj).1]; exact hj) e,
   fun k q hk => h.2 k q (by rw [List.getElem?_append_left (List.getElem?_eq_some_iff.mp hk).1]; exact hk)⟩
theorem D_r {A : Nat → Prop} {wl wr : va_W} (h : va_D A (wl ++ wr)) : va_D A wr :=
  ⟨fun i j p q hi hj e => by
    have := h.1 (wl.length + i) (wl.length + j) p q (by rw [List.getElem?_append_right (by omega), show wl.length + i - wl.length = i by omega]; exact hi) (by rw [List.getElem?_append_right (by omega), show wl.length + j - wl.length = j by omega]; exact hj) e
    omega,
   fun k q hk => h.2 (wl.length + k) q (by rw [List.getElem?_append_right (by omega), show wl.length + k - wl.length = k by omega]; exact hk)⟩
theorem D_x {A : Nat → Prop} {wl wr : va_W} (h : va_D A (wl ++ wr)) {q r : Nat × va_E} {i j : Nat} (hi : wl[i]? = some q) (hj : wr[j]? = some r) : q.1 ≠ r.1 := fun e => by
  have hil := (List.getElem?_eq_some_iff.mp hi).1
  have := h.1 i (wl.length + j) q r (by rw [List.getElem?_append_left hil]; exact hi) (by rw [List.getElem?_append_right (by omega), show wl.length + j - wl.length = j by omega]; exact hj) e
  omega
theorem in_l {A : Nat → Prop} {wl : va_W} (h : va_D A wl) : ∀ q, inW wl q → A q := by
  rintro q ⟨k, e, hk⟩
  exact h.2 k _ hk
section LW
variable {p : Program} {l : Launch} {e : Env} {R : Room} {s : State} {m : MethodId} {args : Array Value} {below : List Frame} {meth : Method} {c : Code} {H : Heap} {locs : List Loc} {cells slots : Nat} {Q : State → Prop}
variable {pc : Nat} {ls : Array Slot} {rest st0 : List Value} {cc : ByteArray} {D : va_G} {A0 : Nat → Prop} {H0 : Heap}
/-- a call of a method that changes a part of the cells in place -/
theorem lwV {y : MethodName} {bytes : ByteArray} {maxL nL n index fr lo : Nat} {ret : Option FieldType} {own : String} {C : String} {b : Addr} {As : List Value} {B : State → Prop} {v : Option Value} {wl wd wd' wr : va_W} (hx : p.tables.exec = Jvm.exec) (hb : c.code = cc) (hml : c.maxLocals = nL) (hown : s.vm.findClass own = some m.cls) (htg : ∀ w ∈ gw, w.before args s = true)
    (M : Wr l y bytes maxL ret fr lo (.ref b :: As) B D v wd wd') (hB : Blind B) (h1 : Cond.methodLink own index y ∈ gw) (h2 : Cond.instanceMethod y ∈ gw) (h3 : Cond.selects C y y ∈ gw) (h4 : Cond.initialized C ∈ gw) (h5 : Cond.code y bytes maxL ret ∈ gw) (hyC : y.cls = C)
    (hd : y.cls ≠ "java/lang/invoke/MethodHandle" ∧ y.cls ≠ "java/lang/invoke/VarHandle" ∧ (parseMethodDescriptor y.desc).map (fun d => d.parameters.length) = some n) (hn : As.length = n)
    (hrec : ∃ cell : Cell, H[b]? = some cell ∧ cell.vm.isStatics = false ∧ s.vm.findClass C = some cell.cls)
    (hU : ∀ U : State, U.heap = H → s.WarmedH U.vm → B U) (hls : ls.size = nL) (hst : st0 = As.reverse ++ .ref b :: rest) (hW : (rest.map fun v => v.category).sum ≤ 8) (hR : fr + 1 ≤ R.frames ∧ 8 + (maxL + 11) + lo ≤ R.locals) (hC : cells ≤ R.cells ∧ slots ≤ R.slots) (hdg : decode cc pc = .ok (.invokevirtual index, 3))
    (hP : va_P D vwCl (wl ++ (wd ++ wr)) H) (hD : va_D A0 (wl ++ (wd ++ wr))) (hS : va_S A0 H0 H locs) (hs : wd'.map (·.1) = wd.map (·.1))
    (kk : ∀ (H1 : Heap) (locs1 : List Loc), va_P D vwCl (wl ++ (wd' ++ wr)) H1 → va_D A0 (wl ++ (wd' ++ wr)) → va_S A0 H0 H1 locs1 → W p l e R s m args below meth c H1 locs1 cells slots Q (F0 m (pc + 3) ls (v.toList ++ rest))) : W p l e R s m args below meth c H locs cells slots Q (F0 m pc ls st0) := by
  have hr := va_runV (g := F0 m pc ls st0) (locs := locs) (below := below) (e := e) (meth := meth) (As := As) (rest := rest) ⟨hx, hb, hml, hown, htg⟩ M (cwV n htg (gV h1 h2 h3 h4 h5) rfl rfl rfl ⟨hyC, hd⟩ hR) ⟨hB.pc _, hrec, fun U hU1 hW1 => ⟨rfl, hU U hU1 hW1⟩⟩ rfl hn hls hst (lv_room hW) hdg hC
  have hDd : va_D A0 wd := D_l (D_r hD)
  have hin : ∀ q, inW wd q → A0 q := in_l hDd
  intro T hT X
  obtain ⟨v', st₀, t, T', L, h0, X', hL, e1, e2, ⟨hv, hP1, hz, hk⟩, st⟩ := hr T hT X
  cases hv
  rw [h0] at hz hk
  rw [← e1] at hP1 hz
  have kept : ∀ (q : Nat × va_E), va_at D vwCl q H → (∀ (j : Nat) (r : Nat × va_E), wd[j]? = some r → q.1 ≠ r.1) → va_at D vwCl q T'.heap := fun q hq hn => hq.kept (by
    rw [e1]
    exact hk q.1 hq.lt (fun ⟨j, en, hj⟩ => hn j _ hj rfl))
  have hP2 : va_P D vwCl (wl ++ (wd' ++ wr)) T'.heap := by
    refine va_P.app (fun k q hq => kept q (P_l hP k q hq) (fun j r hj => ?_)) (va_P.app hP1 (fun k q hq => kept q (P_r (P_r hP) k q hq) (fun j r hj => ?_)))
    · exact D_x hD hq (show (wd ++ wr)[j]? = some r by rw [List.getElem?_append_left (List.getElem?_eq_some_iff.mp hj).1]; exact hj)
    · exact fun z => D_x (D_r hD) hj hq z.symm
  obtain ⟨t2, a1, b1⟩ := kk T'.heap (locs ++ L) hP2 (addr_D hD (by rw [List.map_append, List.map_append, List.map_append, List.map_append, hs])) ⟨Nat.le_trans hS.1 hz, fun q h1 h2 => by rw [e1, hk q (Nat.lt_of_lt_of_le h1 hS.1) (fun z => h2 (hin q z))]; exact hS.2.1 q h1 h2, fun q hq => by
      rcases List.mem_append.mp hq with h | h
      · exact hS.2.2 q h
      · exact hin _ (hL q h)⟩ T' rfl X'
  exact ⟨t2, st t2 a1, b1⟩
/-- an int of the script -/
theorem ld5 {b L : Nat} {xs : Nat → Int32} {lv : List (Nat × Value)} {i : Nat} (hx : p.tables.exec = Jvm.exec) (hb : c.code = cc) (hX : va_X b L xs s H0) (hbl : b < H0.size) (hbA : ¬ A0 b) (hS : va_S A0 H0 H locs) (hl0 : ls[0]? = some (.val (.ref b))) (hl3 : ls[3]? = some (.val (.int (nI i)))) (hL : L ≤ 3584) {n : Int} (k : Nat) (hn : Int32.ofInt n = nI k) (hk : i + k < L)
    (g0 : decode cc pc = .ok (.aload_n 0, 1)) (g1 : decode cc (pc + 1) = .ok (.iload_n 3, 1)) (g2 : decode cc (pc + 1 + 1) = .ok (.iconst n, 1)) (g3 : decode cc (pc + 1 + 1 + 1) = .ok (.iadd, 1)) (g4 : decode cc (pc + 1 + 1 + 1 + 1) = .ok (.iaload, 1))
    (kk : W p l e R s m args below meth c H locs cells slots Q (F0 m (pc + 5) ls (.int (xs (i + k)) :: rest))) : W p l e R s m args below meth c H locs cells slots Q (F0 m pc ls rest) := by
  refine lv_aload_n hx hb g0 rfl hl0 ?_
  refine lv_iload_n hx hb g1 rfl hl3 ?_
  refine lv_iconst (v := nI k) hx hb g2 hn ?_
  refine lv_iadd hx hb g3 ?_
  have hin : vp_in (nI i + nI k) L := by rw [nI_add]; exact vp_in_nI hk (by omega)
  refine va_sld hx hb hX hbl hbA hS hin g4 ?_
  rw [nI_add, nI_clamp (by omega)]
  exact kk
/-- the same, its number by a longer instruction -/
theorem ld6 {b L : Nat} {xs : Nat → Int32} {lv : List (Nat × Value)} {i : Nat} (hx : p.tables.exec = Jvm.exec) (hb : c.code = cc) (hX : va_X b L xs s H0) (hbl : b < H0.size) (hbA : ¬ A0 b) (hS : va_S A0 H0 H locs) (hl0 : ls[0]? = some (.val (.ref b))) (hl3 : ls[3]? = some (.val (.int (nI i)))) (hL : L ≤ 3584) {n : Int} (k : Nat) (hn : (Int8.ofInt n).toInt32 = nI k) (hk : i + k < L)
    (g0 : decode cc pc = .ok (.aload_n 0, 1)) (g1 : decode cc (pc + 1) = .ok (.iload_n 3, 1)) (g2 : decode cc (pc + 1 + 1) = .ok (.bipush n, 2)) (g3 : decode cc (pc + 1 + 1 + 2) = .ok (.iadd, 1)) (g4 : decode cc (pc + 1 + 1 + 2 + 1) = .ok (.iaload, 1))
    (kk : W p l e R s m args below meth c H locs cells slots Q (F0 m (pc + 6) ls (.int (xs (i + k)) :: rest))) : W p l e R s m args below meth c H locs cells slots Q (F0 m pc ls rest) := by
  refine lv_aload_n hx hb g0 rfl hl0 ?_
  refine lv_iload_n hx hb g1 rfl hl3 ?_
  refine lv_bipush (v := nI k) hx hb g2 hn ?_
  refine lv_iadd hx hb g3 ?_
  have hin : vp_in (nI i + nI k) L := by rw [nI_add]; exact vp_in_nI hk (by omega)
  refine va_sld hx hb hX hbl hbA hS hin g4 ?_
  rw [nI_add, nI_clamp (by omega)]
  exact kk
/-- an int as a boolean -/
theorem bz {x : Int32} {t1 t2 : Nat} (hx : p.tables.exec = Jvm.exec) (hb : c.code = cc) (g0 : decode cc pc = .ok (.ifCond .eq 7, 3)) (g1 : decode cc (pc + 3) = .ok (.iconst 1, 1)) (g2 : decode cc (pc + 3 + 1) = .ok (.goto 4, 3)) (g3 : decode cc t1 = .ok (.iconst 0, 1)) (h1 : t1 = pc + 7) (h2 : t2 = pc + 8)
    (kk : W p l e R s m args below meth c H locs cells slots Q (F0 m t2 ls (.int (if x = 0 then 0 else 1) :: rest))) : W p l e R s m args below meth c H locs cells slots Q (F0 m pc ls (.int x :: rest)) := by
  refine lv_if_eq (tgt := t1) hx hb g0 (by omega) (fun q => ?_) (fun q => ?_)
  · rw [if_pos q] at kk
    refine lv_iconst (v := 0) hx hb g3 (by decide) ?_
    rw [show t1 + 1 = t2 by omega]
    exact kk
  · rw [if_neg q] at kk
    refine lv_iconst (v := 1) hx hb g1 (by decide) ?_
    refine lv_goto (tgt := t2) hx hb g2 (by omega) ?_
    exact kk
end LW
/-! the relation -/
theorem rel_size {own : Int64} {clk : Int32} {lw : Nat → Int32} {llen ltr size : Int32} {pi : Nat → Nat} {S : Nat → CR} {rw : Nat → Int32} {mn lt : Int32} {hd : Nat → Int32} {hsz hsy hrt hpl ola olo : Int32} (h : Rel own clk lw llen ltr size pi S rw mn lt hd hsz hsy hrt hpl ola olo) : (0 ≤ size.toInt ∧ size.toInt ≤ 20) ∧ (0 ≤ mn.toInt ∧ mn.toInt ≤ 20) ∧ (∀ k, k < 20 → pi k < 20) ∧ RowsOK rw ∧ (¬ hpl = 0 → InR ola olo) ∧ (0 ≤ llen.toInt ∧ llen.toInt ≤ 112) ∧ (0 ≤ hsz.toInt ∧ hsz.toInt ≤ 112) := by
  obtain ⟨hc, ⟨N, hN, e1, e2, hB⟩, hO, hSm, hz, hr, hH⟩ := h
  subst e1 e2 hz
  have t : (nI N).toInt = (N : Int) := nI_toInt (by omega)
  refine ⟨by rw [t]; omega, by rw [t]; omega, hB.1, fun j hj => ?_, fun q => ?_, ?_⟩
  · obtain ⟨k, hk, ek⟩ := nat_of (x := j) hj.1
    subst ek
    have hk20 : k < 20 := by rw [nI_toInt (by have := hj.2; omega)] at hj; omega
    have a15 : (f_X6_at (nI k) 15).toNatClampNeg = 40 * k + 15 := at_n (w := 15) hk20 (by decide)
    have a16 : (f_X6_at (nI k) 16).toNatClampNeg = 40 * k + 16 := at_n (w := 16) hk20 (by decide)
    have a17 : (f_X6_at (nI k) 17).toNatClampNeg = 40 * k + 17 := at_n (w := 17) hk20 (by decide)
    unfold PlOK
    rw [a15, a16, a17]
    exact (hB.2.2.2.1 k hk20).2
  · rcases hO with ⟨o1, -⟩ | ⟨-, -, o3⟩
    · exact absurd o1 q
    · exact o3
  · have : 0 ≤ llen.toInt ∧ llen.toInt ≤ 112 := by
      rcases hH with ⟨z, -⟩ | ⟨z | z, -⟩ <;> rw [z] <;> decide
    exact ⟨this, this⟩
theorem told_0 (w : Nat → Int32) (a : Int32) : f_X4_told w 0 (-1) a = -1 := by
  have hof : ∀ x, f_X4_isOf w 0 x = 0 := fun x => if_pos rfl
  unfold f_X4_told f_X4_part
  simp [hof]
theorem field_rel {own : Int64} {clk : Int32} {lw : Nat → Int32} {llen ltr size : Int32} {pi : Nat → Nat} {S : Nat → CR} {rw : Nat → Int32} {mn lt : Int32} {hd : Nat → Int32} {hsz hsy hrt hpl ola olo : Int32} (h : Rel own clk lw llen ltr size pi S rw mn lt hd hsz hsy hrt hpl ola olo) (a : Int32) : f_X5_field lw llen ltr a = f_X6_field hd hsz hsy hrt a := by
  obtain ⟨hc, ⟨N, hN, e1, e2, hB⟩, hO, hSm, hz, hr, hH⟩ := h
  subst hz hr
  unfold f_X5_field
  rcases hH with ⟨z1, z2⟩ | ⟨z1, z2⟩
  · subst z1 z2
    rw [told_0]
    unfold f_X6_field
    rw [if_pos rfl]
  · rw [z2]
    exact field_eq hSm z1 ltr a
theorem bits_rel {own : Int64} {clk : Int32} {lw : Nat → Int32} {llen ltr size : Int32} {pi : Nat → Nat} {S : Nat → CR} {rw : Nat → Int32} {mn lt : Int32} {hd : Nat → Int32} {hsz hsy hrt hpl ola olo : Int32} (h : Rel own clk lw llen ltr size pi S rw mn lt hd hsz hsy hrt hpl ola olo) (a a' : Int32) : f_X5_bits lw llen a a' = f_X6_bits hd hsz a a' := by
  have hr := (rel_size h).2.2.2.2.2.2
  obtain ⟨hc, ⟨N, hN, e1, e2, hB⟩, hO, hSm, hz, hr2, hH⟩ := h
  subst hz
  unfold f_X5_bits
  exact bits_eq hSm hr.1 hr.2 a a'
theorem crafts_rel {own : Int64} {clk : Int32} {lw : Nat → Int32} {llen ltr size : Int32} {pi : Nat → Nat} {S : Nat → CR} {rw : Nat → Int32} {mn lt : Int32} {hd : Nat → Int32} {hsz hsy hrt hpl ola olo : Int32} (h : Rel own clk lw llen ltr size pi S rw mn lt hd hsz hsy hrt hpl ola olo) : f_X5_crafts size = f_X6_crafts mn := by
  obtain ⟨hc, ⟨N, hN, e1, e2, hB⟩, hO, hSm, hz, hr2, hH⟩ := h
  exact e1.trans e2.symm
theorem find_rel {own : Int64} {clk : Int32} {lw : Nat → Int32} {llen ltr size : Int32} {pi : Nat → Nat} {S : Nat → CR} {rw : Nat → Int32} {mn lt : Int32} {hd : Nat → Int32} {hsz hsy hrt hpl ola olo : Int32} (h : Rel own clk lw llen ltr size pi S rw mn lt hd hsz hsy hrt hpl ola olo) (a : Int32) : f_X5_find size pi S a = f_X6_find mn rw a := by
  obtain ⟨hc, ⟨N, hN, e1, e2, hB⟩, hO, hSm, hz, hr2, hH⟩ := h
  subst e1 e2
  exact find_eq hB hN a
theorem craft_rel {own : Int64} {clk : Int32} {lw : Nat → Int32} {llen ltr size : Int32} {pi : Nat → Nat} {S : Nat → CR} {rw : Nat → Int32} {mn lt : Int32} {hd : Nat → Int32} {hsz hsy hrt hpl ola olo : Int32} (h : Rel own clk lw llen ltr size pi S rw mn lt hd hsz hsy hrt hpl ola olo) (a a' : Int32) : f_X5_craft size pi S a a' = f_X6_craft mn rw a a' := by
  obtain ⟨hc, ⟨N, hN, e1, e2, hB⟩, hO, hSm, hz, hr2, hH⟩ := h
  subst e1 e2
  exact craft_eq hB hN a a'
theorem sign_rel {own : Int64} {clk : Int32} {lw : Nat → Int32} {llen ltr size : Int32} {pi : Nat → Nat} {S : Nat → CR} {rw : Nat → Int32} {mn lt : Int32} {hd : Nat → Int32} {hsz hsy hrt hpl ola olo : Int32} (h : Rel own clk lw llen ltr size pi S rw mn lt hd hsz hsy hrt hpl ola olo) (a a' : Int32) : f_X5_sign size pi S a a' = f_X6_sign mn rw a a' := by
  obtain ⟨hc, ⟨N, hN, e1, e2, hB⟩, hO, hSm, hz, hr2, hH⟩ := h
  subst e1 e2
  exact sign_eq hB hN a a'
theorem place_rel {own : Int64} {clk : Int32} {lw : Nat → Int32} {llen ltr size : Int32} {pi : Nat → Nat} {S : Nat → CR} {rw : Nat → Int32} {mn lt : Int32} {hd : Nat → Int32} {hsz hsy hrt hpl ola olo : Int32} (h : Rel own clk lw llen ltr size pi S rw mn lt hd hsz hsy hrt hpl ola olo) (a a' : Int32) : f_X5_place own a a' = f_X6_place hpl ola olo a a' ∧ Rel (f_X5_place_own own a a') clk lw llen ltr size pi S rw mn lt hd hsz hsy hrt (f_X6_place_hpl hpl ola olo a a') (f_X6_place_ola hpl ola olo a a') (f_X6_place_olo hpl ola olo a a') := by
  obtain ⟨hc, hN, hO, hSm, hz, hr2, hH⟩ := h
  unfold f_X5_place f_X6_place f_X5_place_own f_X6_place_hpl f_X6_place_ola f_X6_place_olo
  by_cases q1 : f_X6_isLatitude a = 0
  · have q0 := (place_0 a a').mpr (Or.inl q1)
    simp only [if_pos q0, if_pos q1]
    exact ⟨trivial, hc, hN, hO, hSm, hz, hr2, hH⟩
  · by_cases q2 : f_X6_isLongitude a' = 0
    · have q0 := (place_0 a a').mpr (Or.inr q2)
      simp only [if_pos q0, if_neg q1, if_pos q2]
      exact ⟨trivial, hc, hN, hO, hSm, hz, hr2, hH⟩
    · have q0 : ¬ f_X2_isPlace a a' = 0 := fun z => ((place_0 a a').mp z).elim q1 q2
      simp only [if_neg q0, if_neg q1, if_neg q2]
      exact ⟨trivial, hc, hN, Or.inr ⟨by decide, rfl, (lat_1 q1).1, (lat_1 q1).2, (lon_1 q2).1, (lon_1 q2).2⟩, hSm, hz, hr2, hH⟩
theorem rel_0 : Rel (-9223372036854775808) 0 (fun _ => 0) 0 (-1) 0 (fun i => i) (fun _ => cr0) (fun _ => 0) 0 0 (fun _ => 0) 0 0 (-1) 0 0 0 := by
  refine ⟨rfl, ⟨0, by decide, rfl, rfl, fun k h => h, fun j k _ _ h => h, fun k h => absurd h (by omega), fun k _ => ⟨rfl, fun _ => ?_⟩, fun j k h => absurd h (by omega)⟩, Or.inl ⟨rfl, rfl⟩, fun k hk => ?_, rfl, rfl, Or.inl ⟨rfl, rfl⟩⟩
  · show InR 0 0
    exact ⟨by decide, by decide, by decide, by decide⟩
  · rw [bf_at _ hk, q_0]
    rfl
