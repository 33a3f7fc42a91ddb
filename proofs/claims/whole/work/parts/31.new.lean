/-! how cells are made -/
abbrev In (l : Launch) (y : MethodName) (cc : ByteArray) (maxL fr lo mc ms : Nat) (av : List Value) (D : va_G) (cI cJ cO : ClassId) (wd : va_W) {T : Type} (wd' : T → va_W) (X : State → Prop) (sz : Nat) : Prop :=
  Met l y (Cond.code y cc maxL none :: gw) { frames := fr, cells := mc, slots := ms, locals := lo } (va_Pc av (fun U => U.heap.size = sz ∧ B1 D cI cJ cO wd U ∧ X U)) (va_Qv (fun _ : T => True) (fun u t => va_P D vwCl (wd' u) t.heap ∧ va_D (va_A wd sz) (wd' u)) (va_A wd sz)) mc ms (va_A wd sz)
theorem In.of {l : Launch} {y : MethodName} {cc : ByteArray} {maxL fr lo mc ms : Nat} {av : List Value} {D : va_G} {cI cJ cO : ClassId} {wd : va_W} {T : Type} {wd' : T → va_W} {X : State → Prop} {sz : Nat} (hy : plainFor y = true) (hn : (lg_sl av).length ≤ maxL)
    (body : ∀ (p : Program) (e : Env) (s : State) (m : MethodId) (args : Array Value) (below : List Frame) (meth : Method) (c : Code), p.tables.exec = Jvm.exec → c.code = cc → meth.sig.returnType = none → c.maxLocals = maxL → s.vm.findClass y.cls = some m.cls → (∀ w ∈ gw, w.before args s = true) → meth.locks = false → meth.name = y.name →
      ∀ A : Nat → Prop, A = va_A wd s.heap.size → s.heap.size = sz → (∀ q, s.heap.size ≤ q → A q) → va_P D vwCl wd s.heap → va_K D vwCl (TY cI cJ cO) s → va_D A wd → X s → va_S A s.heap s.heap [] → ∀ ls : Array Slot, lv_has ls maxL (lv_args 0 av) →
      W p l e { frames := fr, cells := mc, slots := ms, locals := lo } s m args below meth c s.heap [] 0 0 (MQ below (va_Qv (fun _ : T => True) (fun u t => va_P D vwCl (wd' u) t.heap ∧ va_D A (wd' u)) A) args s mc ms A) (F0 m 0 ls [])) : In l y cc maxL fr lo mc ms av D cI cJ cO wd wd' X sz := by
  refine Met.ofWF (cc := cc) (maxL := maxL) (ret := none) hy rfl ?_
  intro p e s m args below meth c s₁ Bd hml hv
  obtain ⟨rfl, hsz, ⟨hP, hK, hD⟩, hX⟩ := hv
  have hts := atoms_spec (ws := Cond.code y cc maxL none :: gw) Bd.pre
  have hown : s.vm.findClass y.cls = some m.cls := findClass_of_methodNamed Bd.named
  have hl := lv_entry av (n := maxL) hn
  rw [lg_entry_eq]
  have h := body p e s m _ below meth c Bd.exec Bd.bytes Bd.returns hml hown (fun w h => hts w (List.mem_cons_of_mem _ h)) Bd.notSynchronized (name_of_methodNamed Bd.named Bd.method).1 _ rfl hsz (fun q h => Or.inr h) hP hK hD.self hX va_S.rf _ hl
  rw [← hsz]
  exact h
section NW
variable {p : Program} {l : Launch} {e : Env} {R : Room} {s : State} {m : MethodId} {args : Array Value} {below : List Frame} {meth : Method} {c : Code} {H : Heap} {locs : List Loc} {cells slots : Nat} {Q : State → Prop}
variable {pc : Nat} {ls : Array Slot} {rest st0 : List Value} {cc : ByteArray} {D : va_G} {A : Nat → Prop} {H0 : Heap} {cI cJ cO : ClassId} {ws : va_W}
theorem newI (hx : p.tables.exec = Jvm.exec) (hb : c.code = cc) (htg : ∀ w ∈ gw, w.before args s = true) (hK : va_K D vwCl (TY cI cJ cO) s) (hP : va_P D vwCl ws H) (hD : va_D A ws) (hS : va_S A H0 H locs) (hA : ∀ q, H0.size ≤ q → A q) {n : Int32} (N : Nat) (hn : ¬ n < 0) (hN : n.toNatClampNeg = N) (hB : N * 4 ≤ 536870912) (hc : cells + 1 ≤ R.cells) (hs : slots + N ≤ R.slots) (hdg : decode cc pc = .ok (.newarray .int, 2))
    (kk : ∀ (q : Nat) (H1 : Heap), va_P D vwCl (ws ++ [(q, .inl (cI, N, .inl (fun _ => 0)))]) H1 → va_D A (ws ++ [(q, .inl (cI, N, .inl (fun _ => 0)))]) → va_S A H0 H1 locs → W p l e R s m args below meth c H1 locs (cells + 1) (slots + N) Q (F0 m (pc + 2) ls (.ref q :: rest))) : W p l e R s m args below meth c H locs cells slots Q (F0 m pc ls (.int n :: rest)) := by
  refine va_newa (atype := .int) (ty := .int) (a0 := (N, .inl (fun _ => 0))) hx hb (htg _ ac_int) rfl hK hP hD hS hA (fun cA => rfl) hn hN hB hc hs hdg (fun q cA H1 hK1 hP1 hD1 hS1 => ?_)
  have e1 : s.vm.findClass ("[" ++ (FieldType.int).toString) = some cA := (hK1.2 3 (cA, .int) rfl).2
  have e2 : s.vm.findClass ("[" ++ (FieldType.int).toString) = some cI := (hK.2 0 (cI, .int) rfl).2
  have e3 : cA = cI := Option.some.inj (e1.symm.trans e2)
  subst e3
  exact kk q H1 hP1 hD1 hS1
theorem newJ (hx : p.tables.exec = Jvm.exec) (hb : c.code = cc) (htg : ∀ w ∈ gw, w.before args s = true) (hK : va_K D vwCl (TY cI cJ cO) s) (hP : va_P D vwCl ws H) (hD : va_D A ws) (hS : va_S A H0 H locs) (hA : ∀ q, H0.size ≤ q → A q) {n : Int32} (N : Nat) (hn : ¬ n < 0) (hN : n.toNatClampNeg = N) (hB : N * 8 ≤ 536870912) (hc : cells + 1 ≤ R.cells) (hs : slots + N ≤ R.slots) (hdg : decode cc pc = .ok (.newarray .long, 2))
    (kk : ∀ (q : Nat) (H1 : Heap), va_P D vwCl (ws ++ [(q, .inl (cJ, N, .inr (.inl (fun _ => 0))))]) H1 → va_D A (ws ++ [(q, .inl (cJ, N, .inr (.inl (fun _ => 0))))]) → va_S A H0 H1 locs → W p l e R s m args below meth c H1 locs (cells + 1) (slots + N) Q (F0 m (pc + 2) ls (.ref q :: rest))) : W p l e R s m args below meth c H locs cells slots Q (F0 m pc ls (.int n :: rest)) := by
  refine va_newa (atype := .long) (ty := .long) (a0 := (N, .inr (.inl (fun _ => 0)))) hx hb (htg _ ac_long) rfl hK hP hD hS hA (fun cA => rfl) hn hN hB hc hs hdg (fun q cA H1 hK1 hP1 hD1 hS1 => ?_)
  have e1 : s.vm.findClass ("[" ++ (FieldType.long).toString) = some cA := (hK1.2 3 (cA, .long) rfl).2
  have e2 : s.vm.findClass ("[" ++ (FieldType.long).toString) = some cJ := (hK.2 1 (cJ, .long) rfl).2
  have e3 : cA = cJ := Option.some.inj (e1.symm.trans e2)
  subst e3
  exact kk q H1 hP1 hD1 hS1
theorem newQ (hx : p.tables.exec = Jvm.exec) (hb : c.code = cc) {own : String} {index : Nat} (hown : s.vm.findClass own = some m.cls) (hcl : (Cond.classLink own index "SquitterDesk$Craft").before args s = true) (hAO : va_AO "SquitterDesk$Craft" s) (hK : va_K D vwCl (TY cI cJ cO) s) (hP : va_P D vwCl ws H) (hD : va_D A ws) (hS : va_S A H0 H locs) (hA : ∀ q, H0.size ≤ q → A q) {n : Int32} (N : Nat) (hn : ¬ n < 0) (hN : n.toNatClampNeg = N) (hB : N * 4 ≤ 536870912) (hc : cells + 1 ≤ R.cells) (hs : slots + N ≤ R.slots) (hdg : decode cc pc = .ok (.anewarray index, 3))
    (kk : ∀ (q : Nat) (H1 : Heap), va_P D vwCl (ws ++ [(q, .inl (cO, N, .inr (.inr (.inr (.inr (fun _ => none))))))]) H1 → va_D A (ws ++ [(q, .inl (cO, N, .inr (.inr (.inr (.inr (fun _ => none))))))]) → va_S A H0 H1 locs → W p l e R s m args below meth c H1 locs (cells + 1) (slots + N) Q (F0 m (pc + 3) ls (.ref q :: rest))) : W p l e R s m args below meth c H locs cells slots Q (F0 m pc ls (.int n :: rest)) := by
  refine va_newq hx hb hown hcl hAO hK hP hD hS hA hn hN hB hc hs hdg (fun q cA H1 hK1 hP1 hD1 hS1 => ?_)
  obtain ⟨_, _, _, _, _, e1⟩ := (hK1.2 3 (cA, .object "SquitterDesk$Craft") rfl).2
  obtain ⟨_, _, _, _, _, e2⟩ := (hK.2 2 (cO, .object "SquitterDesk$Craft") rfl).2
  have e3 : cA = cO := Option.some.inj (e1.symm.trans e2)
  subst e3
  exact kk q H1 hP1 hD1 hS1
theorem join_last {A0 : Nat → Prop} {H1 : Heap} {wr wc w1 : va_W} (hP : va_P D vwCl (wr ++ wc) H) (hD : va_D A0 (wr ++ wc)) (hk : ∀ q : Nat, q < H.size → ¬ va_A wc H.size q → H1[q]? = H[q]?) (hF : ∀ q, va_A wc H.size q → A0 q) (hP1 : va_P D vwCl w1 H1) (hD1 : va_D (va_A wc H.size) w1) : va_P D vwCl (wr ++ w1) H1 ∧ va_D A0 (wr ++ w1) := by
  have apart : ∀ (k : Nat) (q : Nat × va_E), wr[k]? = some q → q.1 < H.size ∧ ¬ va_A wc H.size q.1 := by
    intro k q hq
    have hkl := (List.getElem?_eq_some_iff.mp hq).1
    have hq2 : (wr ++ wc)[k]? = some q := by rw [List.getElem?_append_left hkl]; exact hq
    have hl := (hP k q hq2).lt
    refine ⟨hl, fun h => ?_⟩
    rcases h with ⟨j, e, h⟩ | h
    · have h2 : (wr ++ wc)[wr.length + j]? = some (q.1, e) := by rw [List.getElem?_append_right (by omega), show wr.length + j - wr.length = j by omega]; exact h
      have := hD.1 k _ q _ hq2 h2 rfl
      omega
    · omega
  refine ⟨va_P.app (fun k q hq => ?_) hP1, va_D.app ⟨fun i j p q hi hj he => ?_, fun k q hq => ?_⟩ (hD1.weaken (fun k q _ h => hF q.1 h)) (fun i j x y hx hy hxy => (apart i x hx).2 (by rw [hxy]; exact hD1.2 j y hy))⟩
  · have hkl := (List.getElem?_eq_some_iff.mp hq).1
    exact (hP k q (by rw [List.getElem?_append_left hkl]; exact hq)).kept (hk q.1 (apart k q hq).1 (apart k q hq).2)
  · exact hD.1 i j p q (by rw [List.getElem?_append_left (List.getElem?_eq_some_iff.mp hi).1]; exact hi) (by rw [List.getElem?_append_left (List.getElem?_eq_some_iff.mp hj).1]; exact hj) he
  · exact hD.2 k q (by rw [List.getElem?_append_left (List.getElem?_eq_some_iff.mp hq).1]; exact hq)
/-- a constructor's call on the object that was made last -/
theorem iC {y : MethodName} {bytes : ByteArray} {maxL nL index fr lo mc ms : Nat} {own : String} {b : Addr} {X : State → Prop} {T : Type} {wr wc : va_W} {wd' : T → va_W} (hx : p.tables.exec = Jvm.exec) (hb : c.code = cc) (hml : c.maxLocals = nL) (hown : s.vm.findClass own = some m.cls) (htg : ∀ w ∈ gw, w.before args s = true)
    (M : In l y bytes maxL fr lo mc ms [.ref b] D cI cJ cO wc wd' X H.size) (hX : Blind X) (hU : ∀ U : State, U.heap = H → s.WarmedH U.vm → X U) (h1 : Cond.methodLink own index y ∈ gw) (h2 : Cond.instanceMethod y ∈ gw) (h4 : Cond.initialized y.cls ∈ gw) (h5 : Cond.code y bytes maxL none ∈ gw) (hy1 : y.name = "<init>")
    (hd : y.cls ≠ "java/lang/invoke/MethodHandle" ∧ y.cls ≠ "java/lang/invoke/VarHandle" ∧ (parseMethodDescriptor y.desc).map (fun d => d.parameters.length) = some 0)
    (hls : ls.size = nL) (hst : st0 = .ref b :: rest) (hW : (rest.map fun v => v.category).sum ≤ 8) (hR : fr + 1 ≤ R.frames ∧ 8 + (maxL + 11) + lo ≤ R.locals) (hC : cells + mc ≤ R.cells ∧ slots + ms ≤ R.slots) (hdg : decode cc pc = .ok (.invokespecial index, 3))
    (hK : va_K D vwCl (TY cI cJ cO) s) (hP : va_P D vwCl (wr ++ wc) H) (hD : va_D A (wr ++ wc)) (hS : va_S A H0 H locs) (hA : ∀ q, H0.size ≤ q → A q)
    (kk : ∀ (u : T) (H1 : Heap) (locs1 : List Loc), va_P D vwCl (wr ++ wd' u) H1 → va_D A (wr ++ wd' u) → va_S A H0 H1 locs1 → W p l e R s m args below meth c H1 locs1 (cells + mc) (slots + ms) Q (F0 m (pc + 3) ls rest)) : W p l e R s m args below meth c H locs cells slots Q (F0 m pc ls st0) := by
  have hF : ∀ q, va_A wc H.size q → A q := by
    rintro q (⟨j, e, h⟩ | h)
    · exact hD.2 (wr.length + j) (q, e) (by rw [List.getElem?_append_right (by omega), show wr.length + j - wr.length = j by omega]; exact h)
    · exact hA q (Nat.le_trans hS.1 h)
  have hPc : va_P D vwCl wc H := fun k q hk => hP (wr.length + k) q (by rw [List.getElem?_append_right (by omega), show wr.length + k - wr.length = k by omega]; exact hk)
  have hDc : va_D (fun _ => True) wc := ⟨fun i j p q hi hj he => by
    have := hD.1 (wr.length + i) (wr.length + j) p q (by rw [List.getElem?_append_right (by omega), show wr.length + i - wr.length = i by omega]; exact hi) (by rw [List.getElem?_append_right (by omega), show wr.length + j - wr.length = j by omega]; exact hj) he
    omega, fun _ _ _ => trivial⟩
  refine va_callv (va_runI (As := []) (rest := rest) ⟨hx, hb, hml, hown, htg⟩ M (cwI 0 htg (gC h5) rfl rfl rfl (htg _ h4) (htg _ h1) (htg _ h2) hy1 hd hR) ⟨Blind.pc (fun a U g mk h => ⟨h.1, Blind.b1 a U g mk h.2.1, hX a U g mk h.2.2⟩) _, fun U hU1 hW1 => ⟨rfl, by rw [hU1], ⟨by rw [hU1]; exact hPc, va_K.moved hW1.alike hK, hDc⟩, hU U hU1 hW1⟩⟩ rfl rfl hls hst (lv_room hW) hdg hC) hS (fun q _ h => hF q h) hF (fun u t H1 locs1 ht hvm hw hB hz1 hk1 hS1 => ?_)
  obtain ⟨hP1, hD1⟩ := hB
  rw [ht] at hP1
  obtain ⟨p1, p2⟩ := join_last hP hD hk1 hF hP1 hD1
  exact kk u H1 locs1 p1 p2 hS1
theorem in_v {T : Type} {wd' : T → va_W} (u : T) (hx : p.tables.exec = Jvm.exec) (hb : c.code = cc) (hr : meth.sig.returnType = none) (hlocks : meth.locks = false) (hS : va_S A s.heap H locs) (hP : va_P D vwCl (wd' u) H) (hD : va_D A (wd' u)) (hdg : decode cc pc = .ok (.return_, 1)) : W p l e R s m args below meth c H locs cells slots (MQ below (va_Qv (fun _ : T => True) (fun u t => va_P D vwCl (wd' u) t.heap ∧ va_D A (wd' u)) A) args s cells slots A) (F0 m pc ls []) :=
  W.vret hx hb hr (fun t ht _ => ⟨⟨u, rfl, trivial, by rw [ht]; exact hP, hD⟩, hS.F ht⟩) hS.2.2 hdg
end NW
