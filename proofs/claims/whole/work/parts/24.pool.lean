/-! the crafts: a pool of twenty, five cells each -/
abbrev CR : Type := (Nat → Int32) × (Nat → Int32) × (Nat → Int64) × (Nat → Int32)
abbrev CWc (pad : Nat → Nat → Nat) (cI cJ : ClassId) (c : Nat) (r : CR) : va_W := [(pad c 0, .inr (1, [.ref (pad c 1), .ref (pad c 2), .ref (pad c 3), .ref (pad c 4)])), (pad c 1, .inl (cI, 18, .inl r.1)), (pad c 2, .inl (cI, 8, .inl r.2.1)), (pad c 3, .inl (cJ, 2, .inr (.inl r.2.2.1))), (pad c 4, .inl (cI, 2, .inl r.2.2.2))]
def pcell (pad : Nat → Nat → Nat) (cI cJ : ClassId) (c : Nat) (r : CR) (k : Nat) : Nat × va_E := (pad c k, if k = 0 then .inr (1, [.ref (pad c 1), .ref (pad c 2), .ref (pad c 3), .ref (pad c 4)]) else if k = 1 then .inl (cI, 18, .inl r.1) else if k = 2 then .inl (cI, 8, .inl r.2.1) else if k = 3 then .inl (cJ, 2, .inr (.inl r.2.2.1)) else .inl (cI, 2, .inl r.2.2.2))
theorem CWc_at {pad : Nat → Nat → Nat} {cI cJ : ClassId} {c : Nat} {r : CR} {k : Nat} (hk : k < 5) : (CWc pad cI cJ c r)[k]? = some (pcell pad cI cJ c r k) := by
  match k, hk with
  | 0, _ => rfl
  | 1, _ => rfl
  | 2, _ => rfl
  | 3, _ => rfl
  | 4, _ => rfl
theorem CWc_of {pad : Nat → Nat → Nat} {cI cJ : ClassId} {c : Nat} {r : CR} {k : Nat} {q : Nat × va_E} (h : (CWc pad cI cJ c r)[k]? = some q) : k < 5 ∧ q = pcell pad cI cJ c r k := by
  have hk : k < 5 := (List.getElem?_eq_some_iff.mp h).1
  rw [CWc_at hk] at h
  exact ⟨hk, (Option.some.inj h).symm⟩
def Pool (pad : Nat → Nat → Nat) (cI cJ : ClassId) (S : Nat → CR) : va_W := (List.range 100).map (fun n => pcell pad cI cJ (n / 5) (S (n / 5)) (n % 5))
section PL
variable {pad : Nat → Nat → Nat} {cI cJ : ClassId} {S : Nat → CR} {D : va_G} {H H1 : Heap} {A : Nat → Prop} {base : va_W}
theorem pool_get (n : Nat) : (Pool pad cI cJ S)[n]? = if n < 100 then some (pcell pad cI cJ (n / 5) (S (n / 5)) (n % 5)) else none := by
  unfold Pool
  rw [List.getElem?_map]
  split
  · rename_i h
    rw [List.getElem?_range h]; rfl
  · rename_i h
    rw [List.getElem?_eq_none (by simp; omega)]; rfl
theorem pool_at {c k : Nat} (hc : c < 20) (hk : k < 5) : (base ++ Pool pad cI cJ S)[base.length + (5 * c + k)]? = some (pcell pad cI cJ c (S c) k) := by
  rw [List.getElem?_append_right (by omega), show base.length + (5 * c + k) - base.length = 5 * c + k by omega, pool_get, if_pos (by omega), show (5 * c + k) / 5 = c by omega, show (5 * c + k) % 5 = k by omega]
theorem pool_sub {c : Nat} (h : va_P D vwCl (base ++ Pool pad cI cJ S) H) (hc : c < 20) : va_P D vwCl (CWc pad cI cJ c (S c)) H := by
  intro k q hk
  obtain ⟨h5, rfl⟩ := CWc_of hk
  exact h _ _ (pool_at hc h5)
theorem pool_gd (fr : va_W) (is : List Nat) (hf : is.map (fun i => base[i]?) = fr.map some) {c : Nat} (hc : c < 20) (k : Nat) (q : Nat × va_E) (hk : (CWc pad cI cJ c (S c) ++ fr)[k]? = some q) : (base ++ Pool pad cI cJ S)[if k < 5 then base.length + (5 * c + k) else (is[k - 5]?).getD 0]? = some q ∧ (¬ k < 5 → (is[k - 5]?).getD 0 < base.length) := by
  by_cases h5 : k < 5
  · rw [if_pos h5, pool_at hc h5]
    rw [List.getElem?_append_left (by simpa using h5), CWc_at h5] at hk
    exact ⟨hk, fun z => absurd h5 z⟩
  · rw [if_neg h5]
    rw [List.getElem?_append_right (by simpa using h5)] at hk
    have hk : fr[k - 5]? = some q := hk
    have h1 : (is.map (fun i => base[i]?))[k - 5]? = some (some q) := by rw [hf, List.getElem?_map, hk]; rfl
    rw [List.getElem?_map] at h1
    cases hi : is[k - 5]? with
    | none => rw [hi] at h1; cases h1
    | some i =>
      rw [hi] at h1
      have h2 : base[i]? = some q := Option.some.inj h1
      have hlt := (List.getElem?_eq_some_iff.mp h2).1
      exact ⟨by rw [show (some i).getD 0 = i from rfl, List.getElem?_append_left hlt]; exact h2, fun _ => hlt⟩
theorem pool_subP (fr : va_W) (is : List Nat) (hf : is.map (fun i => base[i]?) = fr.map some) {c : Nat} (hc : c < 20) (h : va_P D vwCl (base ++ Pool pad cI cJ S) H) : va_P D vwCl (CWc pad cI cJ c (S c) ++ fr) H :=
  fun k q hk => h _ _ (pool_gd fr is hf hc k q hk).1
theorem pool_subD (fr : va_W) (is : List Nat) (hn : va_nd is = true) (hf : is.map (fun i => base[i]?) = fr.map some) {c : Nat} (hc : c < 20) (h : va_D A (base ++ Pool pad cI cJ S)) : va_D A (CWc pad cI cJ c (S c) ++ fr) := by
  have hlen : is.length = fr.length := by simpa using congrArg List.length hf
  refine ⟨fun i j p q hi hj he => ?_, fun k q hk => h.2 _ _ (pool_gd fr is hf hc k q hk).1⟩
  obtain ⟨g1, l1⟩ := pool_gd fr is hf hc i p hi
  obtain ⟨g2, l2⟩ := pool_gd fr is hf hc j q hj
  have e := h.1 _ _ p q g1 g2 he
  by_cases a : i < 5
  · by_cases b : j < 5
    · rw [if_pos a, if_pos b] at e; omega
    · rw [if_pos a, if_neg b] at e
      have := l2 b; omega
  · by_cases b : j < 5
    · rw [if_neg a, if_pos b] at e
      have := l1 a; omega
    · rw [if_neg a, if_neg b] at e
      have hi5 : i - 5 < is.length := by
        have := (List.getElem?_eq_some_iff.mp hi).1
        simp at this; omega
      have hj5 : j - 5 < is.length := by
        have := (List.getElem?_eq_some_iff.mp hj).1
        simp at this; omega
      have e1 : is[i - 5]? = some (is[i - 5]) := List.getElem?_eq_getElem hi5
      have e2 : is[j - 5]? = some (is[j - 5]) := List.getElem?_eq_getElem hj5
      rw [e1, e2] at e
      have e3 : is[i - 5] = is[j - 5] := e
      have := va_nd_inj is hn (i - 5) (j - 5) (is[i - 5]) e1 (by rw [e2, e3])
      omega
theorem addr_D {ws ws' : va_W} (h : va_D A ws) (e : ws'.map (·.1) = ws.map (·.1)) : va_D A ws' := by
  have at' : ∀ (k : Nat) (q : Nat × va_E), ws'[k]? = some q → ∃ q0, ws[k]? = some q0 ∧ q0.1 = q.1 := by
    intro k q hk
    have h1 : (ws'.map (·.1))[k]? = some q.1 := by rw [List.getElem?_map, hk]; rfl
    rw [e, List.getElem?_map] at h1
    cases hw : ws[k]? with
    | none => rw [hw] at h1; cases h1
    | some q0 => rw [hw] at h1; exact ⟨q0, rfl, Option.some.inj h1⟩
  refine ⟨fun i j p q hi hj he => ?_, fun k q hk => ?_⟩
  · obtain ⟨p0, a1, a2⟩ := at' i p hi
    obtain ⟨q0, b1, b2⟩ := at' j q hj
    exact h.1 i j p0 q0 a1 b1 (by rw [a2, b2]; exact he)
  · obtain ⟨q0, a1, a2⟩ := at' k q hk
    rw [← a2]; exact h.2 k q0 a1
theorem pool_addr (S S' : Nat → CR) : (Pool pad cI cJ S).map (·.1) = (Pool pad cI cJ S').map (·.1) := by
  unfold Pool
  rw [List.map_map, List.map_map]
  rfl
theorem pool_put (fr : va_W) (is : List Nat) (hf : is.map (fun i => base[i]?) = fr.map some) {c : Nat} (hc : c < 20) (r' : CR) (hP : va_P D vwCl (base ++ Pool pad cI cJ S) H) (hD : va_D A (base ++ Pool pad cI cJ S))
    (hk : ∀ q : Nat, q < H.size → ¬ inW (CWc pad cI cJ c (S c) ++ fr) q → H1[q]? = H[q]?) (hP1 : va_P D vwCl (CWc pad cI cJ c r' ++ fr) H1) :
    va_P D vwCl (base ++ Pool pad cI cJ (va_up S c r')) H1 ∧ va_D A (base ++ Pool pad cI cJ (va_up S c r')) := by
  refine ⟨fun j q hj => ?_, addr_D hD (by rw [List.map_append, List.map_append, pool_addr S (va_up S c r')])⟩
  -- what lies among the changed cells
  have inside : ∀ (j : Nat) (q : Nat × va_E), (base ++ Pool pad cI cJ S)[j]? = some q → inW (CWc pad cI cJ c (S c) ++ fr) q.1 → ∃ k, (CWc pad cI cJ c (S c) ++ fr)[k]? = some q ∧ j = (if k < 5 then base.length + (5 * c + k) else (is[k - 5]?).getD 0) ∧ (¬ k < 5 → (is[k - 5]?).getD 0 < base.length) := by
    rintro j q hj ⟨k, e, hke⟩
    obtain ⟨g1, l1⟩ := pool_gd fr is hf hc k (q.1, e) hke
    have e1 := hD.1 _ _ q (q.1, e) hj g1 rfl
    rw [← e1, hj] at g1
    exact ⟨k, by rw [hke]; exact g1.symm, e1, l1⟩
  by_cases hb : j < base.length
  · rw [List.getElem?_append_left hb] at hj
    have hj0 : (base ++ Pool pad cI cJ S)[j]? = some q := by rw [List.getElem?_append_left hb]; exact hj
    by_cases hin : inW (CWc pad cI cJ c (S c) ++ fr) q.1
    · obtain ⟨k, h1, h2, h3⟩ := inside j q hj0 hin
      by_cases h5 : k < 5
      · rw [if_pos h5] at h2; omega
      · have h1' : fr[k - 5]? = some q := by
          rw [List.getElem?_append_right (by simpa using h5)] at h1; exact h1
        refine hP1 k q ?_
        rw [List.getElem?_append_right (by simpa using h5)]; exact h1'
    · exact (hP j q hj0).kept (hk q.1 (hP j q hj0).lt hin)
  · rw [List.getElem?_append_right (by omega), pool_get] at hj
    split at hj
    · rename_i h100
      have hj := (Option.some.inj hj)
      by_cases hcc : (j - base.length) / 5 = c
      · rw [hcc, va_up_self] at hj
        have h5 : (j - base.length) % 5 < 5 := Nat.mod_lt _ (by omega)
        refine hP1 ((j - base.length) % 5) q ?_
        rw [List.getElem?_append_left (by simpa using h5), CWc_at h5, hj]
      · rw [va_up_ne _ _ hcc] at hj
        have hj0 : (base ++ Pool pad cI cJ S)[j]? = some q := by
          rw [List.getElem?_append_right (by omega), pool_get, if_pos h100, hj]
        refine (hP j q hj0).kept (hk q.1 (hP j q hj0).lt (fun hin => ?_))
        obtain ⟨k, h1, h2, h3⟩ := inside j q hj0 hin
        by_cases h5 : k < 5
        · rw [if_pos h5] at h2; omega
        · rw [if_neg h5] at h2
          have := h3 h5; omega
    · cases hj
theorem pool_in (fr : va_W) (is : List Nat) (hf : is.map (fun i => base[i]?) = fr.map some) {c : Nat} (hc : c < 20) (hD : va_D A (base ++ Pool pad cI cJ S)) : ∀ q, inW (CWc pad cI cJ c (S c) ++ fr) q → A q := by
  rintro q ⟨k, e, hke⟩
  exact hD.2 _ _ (pool_gd fr is hf hc k (q, e) hke).1
end PL
/-- what the book's rows hold: crafts by their numbers -/
def rsf (pad : Nat → Nat → Nat) (pi : Nat → Nat) : Nat → Option Nat := fun i => some (pad (pi i) 0)
theorem rs_up (pad : Nat → Nat → Nat) (pi : Nat → Nat) (j c : Nat) : va_up (rsf pad pi) j (some (pad c 0)) = rsf pad (va_up pi j c) := by
  funext i
  unfold rsf va_up
  split <;> rfl
section PLW
variable {p : Program} {l : Launch} {e : Env} {R : Room} {s : State} {m : MethodId} {args : Array Value} {below : List Frame} {meth : Method} {c : Code} {H : Heap} {locs : List Loc} {cells slots : Nat} {Q : State → Prop}
variable {pc : Nat} {ls : Array Slot} {rest st0 : List Value} {cc : ByteArray} {a : Array Value} {D : va_G} {A0 : Nat → Prop} {H0 : Heap} {pad : Nat → Nat → Nat} {cI cJ cO : ClassId} {S : Nat → CR} {base : va_W} {ad : Nat} {tys : List (ClassId × FieldType)} {ws : va_W}
/-- a call of a craft's method that changes that craft alone -/
theorem wP {y : MethodName} {bytes : ByteArray} {maxL nL n index fr lo : Nat} {ret : Option FieldType} {own : String} {k : Nat} {As : List Value} {B : State → Prop} {v : Option Value} {wf : va_W} {r' : CR} (hx : p.tables.exec = Jvm.exec) (hb : c.code = cc) (hml : c.maxLocals = nL) (hown : s.vm.findClass own = some m.cls) (htg : ∀ w ∈ gw, w.before args s = true)
    (M : Wr l y bytes maxL ret fr lo (.ref (pad k 0) :: As) B D v (CWc pad cI cJ k (S k) ++ wf) (CWc pad cI cJ k r' ++ wf)) (hB : Blind B) (h1 : Cond.methodLink own index y ∈ gw) (h2 : Cond.instanceMethod y ∈ gw) (h3 : Cond.selects RX3 y y ∈ gw) (h4 : Cond.initialized RX3 ∈ gw) (h5 : Cond.code y bytes maxL ret ∈ gw) (hyC : y.cls = RX3)
    (hd : y.cls ≠ "java/lang/invoke/MethodHandle" ∧ y.cls ≠ "java/lang/invoke/VarHandle" ∧ (parseMethodDescriptor y.desc).map (fun d => d.parameters.length) = some n) (hn : As.length = n)
    (hU : ∀ U : State, U.heap = H → s.WarmedH U.vm → B U) (hls : ls.size = nL) (hst : st0 = As.reverse ++ .ref (pad k 0) :: rest) (hW : (rest.map fun v => v.category).sum ≤ 8) (hR : fr + 1 ≤ R.frames ∧ 8 + (maxL + 11) + lo ≤ R.locals) (hC : cells ≤ R.cells ∧ slots ≤ R.slots) (hdg : decode cc pc = .ok (.invokevirtual index, 3))
    (hK : va_K D vwCl tys s) (hP : va_P D vwCl (base ++ Pool pad cI cJ S) H) (hD : va_D A0 (base ++ Pool pad cI cJ S)) (hS : va_S A0 H0 H locs) (hc : k < 20) (is : List Nat) (hf : is.map (fun i => base[i]?) = wf.map some)
    (kk : ∀ (H1 : Heap) (locs1 : List Loc), va_P D vwCl (base ++ Pool pad cI cJ (va_up S k r')) H1 → va_D A0 (base ++ Pool pad cI cJ (va_up S k r')) → va_S A0 H0 H1 locs1 → W p l e R s m args below meth c H1 locs1 cells slots Q (F0 m (pc + 3) ls (v.toList ++ rest))) : W p l e R s m args below meth c H locs cells slots Q (F0 m pc ls st0) := by
  have hr := va_runV (g := F0 m pc ls st0) (locs := locs) (below := below) (e := e) (meth := meth) (As := As) (rest := rest) ⟨hx, hb, hml, hown, htg⟩ M (cwV n htg (gV h1 h2 h3 h4 h5) rfl rfl rfl ⟨hyC, hd⟩ hR) ⟨hB.pc _, va_recv hK (pool_sub hP hc) (ci := 1) (q0 := 0) rfl rfl, fun U hU1 hW1 => ⟨rfl, hU U hU1 hW1⟩⟩ rfl hn hls hst (lv_room hW) hdg hC
  intro T hT X
  obtain ⟨v', st₀, t, T', L, h0, X', hL, e1, e2, ⟨hv, hP1, hz, hk⟩, st⟩ := hr T hT X
  cases hv
  rw [h0] at hz hk
  rw [← e1] at hP1 hz
  have hk' : ∀ q : Nat, q < H.size → ¬ inW (CWc pad cI cJ k (S k) ++ wf) q → T'.heap[q]? = H[q]? := fun q h1 h2 => by rw [e1]; exact hk q h1 h2
  obtain ⟨p1, p2⟩ := pool_put wf is hf hc r' hP hD hk' hP1
  obtain ⟨t2, a1, b1⟩ := kk T'.heap (locs ++ L) p1 p2 ⟨Nat.le_trans hS.1 hz, fun q h1 h2 => by rw [hk' q (Nat.lt_of_lt_of_le h1 hS.1) (fun z => h2 (pool_in wf is hf hc hD q z))]; exact hS.2.1 q h1 h2, fun q hq => by
      rcases List.mem_append.mp hq with h | h
      · exact hS.2.2 q h
      · exact pool_in wf is hf hc hD _ (hL q h)⟩ T' rfl X'
  exact ⟨t2, st t2 a1, b1⟩
theorem va_aldq' (hexec : p.tables.exec = Jvm.exec) (hb : c.code = cc) {cl : List vw_C} (hK : va_K D cl tys s) (hP : va_P D cl ws H) (q0 t0 : Nat) {cA : ClassId} {C : String} {n : Nat} {f : Nat → Option Nat} (ha : ws[q0]? = some (ad, .inl (cA, n, .inr (.inr (.inr (.inr f)))))) (ht : tys[t0]? = some (cA, .object C)) {i : Int32} (hin : vp_in i n) {v : Nat} (hv : f i.toNatClampNeg = some v) (hdg : decode cc pc = .ok (.aaload, 1))
    (kk : W p l e R s m args below meth c H locs cells slots Q (F0 m (pc + 1) ls (.ref v :: rest))) : W p l e R s m args below meth c H locs cells slots Q (F0 m pc ls (.int i :: .ref ad :: rest)) := by
  refine va_aldq hexec hb hK hP q0 t0 ha ht hin hdg ?_
  rw [hv]
  exact kk
theorem rd_a {v w : Value} (hx : p.tables.exec = Jvm.exec) (hb : c.code = cc) (hr : meth.sig.returnType = some (.object "SquitterDesk$Craft")) (hlocks : meth.locks = false) (hw : w = .null ∨ ∃ a, w = .ref a) (hv : w = v) (hdg : decode cc pc = .ok (.areturn, 1)) : W p l e R s m args below meth c s.heap [] 0 0 (MQ below (rdQ (some v)) args s 0 0 (fun _ => False)) (F0 m pc ls [w]) := by
  subst hv
  exact W.aret hx hb hr (Or.inl ⟨_, rfl⟩) hw (fun t ht _ => ⟨rfl, ht⟩) (fun _ h => by cases h) hdg
theorem wr_a {A : Nat → Prop} {wd wd' : va_W} {v w : Value} (hx : p.tables.exec = Jvm.exec) (hb : c.code = cc) (hr : meth.sig.returnType = some (.object "SquitterDesk$Craft")) (hlocks : meth.locks = false) (hA : A = inW wd) (hS : va_S A s.heap H locs) (hP : va_P D vwCl wd' H) (hw : w = .null ∨ ∃ a, w = .ref a) (hv : w = v) (hdg : decode cc pc = .ok (.areturn, 1)) : W p l e R s m args below meth c H locs 0 0 (MQ below (wrQ D (some v) wd wd') args s 0 0 (inW wd)) (F0 m pc ls [w]) := by
  subst hA; subst hv
  exact W.aret hx hb hr (Or.inl ⟨_, rfl⟩) hw (fun t ht _ => ⟨rfl, by rw [ht]; exact hP, hS.F ht⟩) hS.2.2 hdg
end PLW
theorem Up.nat {n : Nat} {k b : Int32} {N : Nat} (h : Up (n + 1) k b) (h0 : 0 ≤ k.toInt) (hb : b.toInt ≤ N) : k.toNatClampNeg < N := by
  have := clamp h0
  have := h.1
  omega
