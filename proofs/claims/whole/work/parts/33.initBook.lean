/-! Book's constructor: twenty crafts -/
def cr0 : CR := (fun _ => 0, fun _ => 0, fun _ => 0, fun _ => 0)
def PoolN (n : Nat) (pad : Nat → Nat → Nat) (cI cJ : ClassId) (S : Nat → CR) : va_W := (List.range (5 * n)).map (fun k => pcell pad cI cJ (k / 5) (S (k / 5)) (k % 5))
theorem poolN_succ (n : Nat) (pad : Nat → Nat → Nat) (cI cJ : ClassId) (S : Nat → CR) : PoolN (n + 1) pad cI cJ S = PoolN n pad cI cJ S ++ CWc pad cI cJ n (S n) := by
  unfold PoolN
  have e : List.range (5 * (n + 1)) = List.range (5 * n) ++ [5 * n, 5 * n + 1, 5 * n + 2, 5 * n + 3, 5 * n + 4] := by
    rw [show 5 * (n + 1) = 5 * n + 1 + 1 + 1 + 1 + 1 by omega, List.range_succ, List.range_succ, List.range_succ, List.range_succ, List.range_succ]
    simp
  rw [e, List.map_append]
  have h0 : 5 * n / 5 = n := by omega
  have h1 : (5 * n + 1) / 5 = n := by omega
  have h2 : (5 * n + 2) / 5 = n := by omega
  have h3 : (5 * n + 3) / 5 = n := by omega
  have h4 : (5 * n + 4) / 5 = n := by omega
  have g0 : 5 * n % 5 = 0 := by omega
  have g1 : (5 * n + 1) % 5 = 1 := by omega
  have g2 : (5 * n + 2) % 5 = 2 := by omega
  have g3 : (5 * n + 3) % 5 = 3 := by omega
  have g4 : (5 * n + 4) % 5 = 4 := by omega
  congr 1
  simp only [List.map_cons, List.map_nil, h0, h1, h2, h3, h4, g0, g1, g2, g3, g4]
  rfl
theorem poolN_congr {n : Nat} {pad pad' : Nat → Nat → Nat} {cI cJ : ClassId} {S : Nat → CR} (h : ∀ c, c < n → ∀ k, pad c k = pad' c k) : PoolN n pad cI cJ S = PoolN n pad' cI cJ S := by
  unfold PoolN
  refine List.map_congr_left (fun k hk => ?_)
  have hk := List.mem_range.mp hk
  have hc : k / 5 < n := by omega
  unfold pcell
  rw [h _ hc, h _ hc, h _ hc, h _ hc, h _ hc]
def padU (pad : Nat → Nat → Nat) (i q : Nat) (u : Nat × Nat × Nat × Nat) : Nat → Nat → Nat := fun c k => if c = i then (if k = 0 then q else if k = 1 then u.1 else if k = 2 then u.2.1 else if k = 3 then u.2.2.1 else u.2.2.2) else pad c k
theorem padU_new (pad : Nat → Nat → Nat) (i q : Nat) (u : Nat × Nat × Nat × Nat) (cI cJ : ClassId) : CWc (padU pad i q u) cI cJ i cr0 = w_X3_init cI cJ q u := by
  simp [padU, w_X3_init, cr0]
theorem padU_old {pad : Nat → Nat → Nat} {i q : Nat} {u : Nat × Nat × Nat × Nat} {c : Nat} (h : c ≠ i) (k : Nat) : pad c k = padU pad i q u c k := by
  simp [padU, h]
def rsi (pad : Nat → Nat → Nat) (i : Nat) : Nat → Option Nat := fun k => if k < i then some (pad k 0) else none
theorem rsi0 (pad : Nat → Nat → Nat) : rsi pad 0 = fun _ => none := funext (fun k => if_neg (Nat.not_lt_zero k))
theorem rsi_up (pad : Nat → Nat → Nat) (i q : Nat) (u : Nat × Nat × Nat × Nat) : va_up (rsi pad i) i (some q) = rsi (padU pad i q u) (i + 1) := by
  funext k
  unfold va_up rsi padU
  by_cases h : k = i
  · subst h
    simp
  · by_cases h2 : k < i
    · simp [h, h2, Nat.lt_succ_of_lt h2]
    · have h3 : ¬ k < i + 1 := by omega
      simp [h, h2, h3]
theorem grow_eq (pad : Nat → Nat → Nat) (i q : Nat) (u : Nat × Nat × Nat × Nat) (cI cJ : ClassId) (base : va_W) : (base ++ PoolN i pad cI cJ (fun _ => cr0)) ++ w_X3_init cI cJ q u = base ++ PoolN (i + 1) (padU pad i q u) cI cJ (fun _ => cr0) := by
  rw [List.append_assoc, poolN_succ, padU_new, ← poolN_congr (pad := pad) (pad' := padU pad i q u) (fun c hc k => padU_old (by omega) k)]
theorem vp_ref_congr {cA : ClassId} {n : Nat} {f g : Nat → Option Nat} (h : ∀ k, k < n → f k = g k) : vp_cell cA (n, .inr (.inr (.inr (.inr f)))) = vp_cell cA (n, .inr (.inr (.inr (.inr g)))) := by
  rw [vp_cell_q, vp_cell_q]
  unfold arrV
  congr 1
  congr 1
  funext j
  show va_rf (f j.val) = va_rf (g j.val)
  rw [h j.val j.isLt]
theorem ref_congr {D : va_G} {H : Heap} {a q1 : Nat} {e : va_E} {cO : ClassId} {f g : Nat → Option Nat} {P : va_W} (h : ∀ k, k < 20 → f k = g k) (hP : va_P D vwCl ([(a, e), (q1, .inl (cO, 20, .inr (.inr (.inr (.inr f)))))] ++ P) H) : va_P D vwCl ([(a, e), (q1, .inl (cO, 20, .inr (.inr (.inr (.inr g)))))] ++ P) H := by
  intro k q hk
  match k, hk with
  | 0, hk => exact hP 0 q hk
  | 1, hk =>
    have hk : some (q1, (Sum.inl (cO, 20, .inr (.inr (.inr (.inr g)))) : va_E)) = some q := hk
    have h1 := hP 1 _ rfl
    cases hk
    show H[q1]? = some (vp_cell cO (20, .inr (.inr (.inr (.inr g)))))
    rw [← vp_ref_congr h]
    exact h1
  | k + 2, hk => exact hP (k + 2) q hk
def w_X0_init (cI cJ cO : ClassId) (h0 : Nat) (u : Nat × (Nat → Nat → Nat)) : va_W := [(h0, .inr (0, [.ref u.1, .int 0])), (u.1, .inl (cO, 20, .inr (.inr (.inr (.inr (rsf u.2 (fun i => i)))))))] ++ Pool u.2 cI cJ (fun _ => cr0)
set_option maxHeartbeats 4000000 in
set_option maxRecDepth 100000 in
theorem c_X0_init (l : Launch) (D : va_G) (cI cJ cO : ClassId) (h0 sz : Nat) : In l yX0_init cX0_init 2 2 32 101 700 [.ref h0] D cI cJ cO [(h0, .inr (0, [.null, .int 0]))] (w_X0_init cI cJ cO h0) (va_AO "SquitterDesk$Craft") sz := by
  refine In.of (by decide +kernel) (Nat.le_of_ble_eq_true rfl) ?_
  intro p e s m args below meth c hx hb hr hml hown htg hlocks hin A hA hsz hA0 hP hK hD hX hS ls hl
  have hown : s.vm.findClass RX0 = some m.cls := hown
  have hl : lv_has ls 2 [(0, .ref h0)] := hl
  have hP : va_P D vwCl [(h0, .inr (0, [.null, .int 0]))] s.heap := hP
  refine lv_aload_n hx hb dX0_init_0 rfl (lv_at hl 0 rfl) ?_
  refine W.objInit hx hb hown (htg _ ml_X0_3) (htg _ im_objectInit) (htg _ co_objectInit) rfl (by rw [hml]; exact hl.1) rfl dX0_init_1 (Nat.le_of_ble_eq_true rfl) (Nat.le_of_ble_eq_true rfl) ?_
  refine W.eq (g2 := F0 m 4 ls []) rfl ?_
  refine lv_aload_n hx hb dX0_init_4 rfl (lv_at hl 0 rfl) ?_
  refine lv_bipush (v := 20) hx hb dX0_init_5 (by decide) ?_
  refine newQ hx hb hown (htg _ cl_X0_11) hX hK hP hD hS hA0 20 (by decide) (by decide) (by decide) (Nat.le_of_ble_eq_true rfl) (Nat.le_of_ble_eq_true rfl) dX0_init_7 (fun q1 H hP hD hS => ?_)
  have hP : va_P D vwCl [(h0, .inr (0, [.null, .int 0])), (q1, .inl (cO, 20, .inr (.inr (.inr (.inr (fun _ => none))))))] H := hP
  have hD : va_D A [(h0, .inr (0, [.null, .int 0])), (q1, .inl (cO, 20, .inr (.inr (.inr (.inr (fun _ => none))))))] := hD
  refine va_putF (D := D) (ci := 0) (v := .ref q1) (ty := .array (.object "SquitterDesk$Craft")) (C := RX0) (T := TX0) (N := 2) hx hb htg inX0 tyX0 tyX0_ok nmX0 hown hK hP hD hS 0 rfl rfl 0 (by decide) (htg _ fl_X0_13) (fun _ h9 => h9) rfl hin rfl (by decide +kernel) rfl rfl (Nat.le_of_ble_eq_true rfl) dX0_init_10 (fun H locs hP hD hS => ?_)
  have hP : va_P D vwCl ([(h0, .inr (0, [.ref q1, .int 0])), (q1, .inl (cO, 20, .inr (.inr (.inr (.inr (rsi (fun _ _ => 0) 0))))))] ++ PoolN 0 (fun _ _ => 0) cI cJ (fun _ => cr0)) H := hP.eq (by rw [rsi0]; rfl)
  have hD : va_D A ([(h0, .inr (0, [.ref q1, .int 0])), (q1, .inl (cO, 20, .inr (.inr (.inr (.inr (rsi (fun _ _ => 0) 0))))))] ++ PoolN 0 (fun _ _ => 0) cI cJ (fun _ => cr0)) := addr_D hD rfl
  refine lv_iconst (v := 0) hx hb dX0_init_13 (by decide) ?_
  refine lv_istore_n (lv' := [(1, .int 0), (0, .ref h0)]) hx hb dX0_init_14 rfl hl (by decide) rfl (fun ls hl => ?_)
  have Lp : ∀ (n i : Nat) (pad : Nat → Nat → Nat), i + n = 20 → ∀ ls : Array Slot, lv_has ls 2 [(1, .int (nI i)), (0, .ref h0)] → ∀ (H : Heap) (locs : List Loc), va_P D vwCl ([(h0, .inr (0, [.ref q1, .int 0])), (q1, .inl (cO, 20, .inr (.inr (.inr (.inr (rsi pad i))))))] ++ PoolN i pad cI cJ (fun _ => cr0)) H → va_D A ([(h0, .inr (0, [.ref q1, .int 0])), (q1, .inl (cO, 20, .inr (.inr (.inr (.inr (rsi pad i))))))] ++ PoolN i pad cI cJ (fun _ => cr0)) → va_S A s.heap H locs → W p l e { frames := 2, cells := 101, slots := 700, locals := 32 } s m args below meth c H locs (1 + 5 * i) (20 + 34 * i) (MQ below (va_Qv (fun _ : Nat × (Nat → Nat → Nat) => True) (fun u t => va_P D vwCl (w_X0_init cI cJ cO h0 u) t.heap ∧ va_D A (w_X0_init cI cJ cO h0 u)) A) args s 101 700 A) (F0 m 15 ls []) := by
    intro n
    induction n with
    | zero =>
      intro i pad hi ls hl H locs hP hD hS
      have hi : i = 20 := by omega
      subst hi
      refine lv_iload_n hx hb dX0_init_15 rfl (lv_at hl 0 rfl) ?_
      refine lv_aload_n hx hb dX0_init_16 rfl (lv_at hl 1 rfl) ?_
      refine va_get (D := D) (ci := 0) (v := .ref q1) (C := RX0) (T := TX0) (N := 2) hx hb htg inX0 hown hK hP 0 rfl rfl 0 (by decide) (htg _ fl_X0_13) (fun _ h9 => h9) rfl dX0_init_17 ?_
      refine va_alen (v := 20) hx hb hK hP 1 2 rfl rfl rfl dX0_init_20 ?_
      refine lv_icmp_ge (tgt := 43) hx hb dX0_init_21 (by decide) (fun c_1 => ?_) (fun c_1 => ?_)
      · refine lv_aload_n hx hb dX0_init_43 rfl (lv_at hl 1 rfl) ?_
        refine lv_iconst (v := 0) hx hb dX0_init_44 (by decide) ?_
        refine va_put (D := D) (ci := 0) (v := .int 0) (ty := .int) (C := RX0) (T := TX0) (N := 2) hx hb htg inX0 tyX0 tyX0_ok nmX0 hown hK hP hD hS 0 rfl rfl 1 (by decide) (htg _ fl_X0_18) (fun _ h9 => h9) rfl (by decide +kernel) rfl rfl (Nat.le_of_ble_eq_true rfl) dX0_init_45 (fun H locs hP hD hS => ?_)
        have hP : va_P D vwCl ([(h0, .inr (0, [.ref q1, .int 0])), (q1, .inl (cO, 20, .inr (.inr (.inr (.inr (rsi pad 20))))))] ++ Pool pad cI cJ (fun _ => cr0)) H := hP
        have hD : va_D A ([(h0, .inr (0, [.ref q1, .int 0])), (q1, .inl (cO, 20, .inr (.inr (.inr (.inr (rsi pad 20))))))] ++ Pool pad cI cJ (fun _ => cr0)) := hD
        have hP := ref_congr (g := rsf pad (fun i => i)) (fun k hk => by unfold rsi rsf; rw [if_pos hk]) hP
        exact in_v (wd' := w_X0_init cI cJ cO h0) (q1, pad) hx hb hr hlocks hS hP (addr_D hD rfl) dX0_init_48
      · exact absurd (by decide) c_1
    | succ n ih =>
      intro i pad hi ls hl H locs hP hD hS
      have hi20 : i < 20 := by omega
      refine lv_iload_n hx hb dX0_init_15 rfl (lv_at hl 0 rfl) ?_
      refine lv_aload_n hx hb dX0_init_16 rfl (lv_at hl 1 rfl) ?_
      refine va_get (D := D) (ci := 0) (v := .ref q1) (C := RX0) (T := TX0) (N := 2) hx hb htg inX0 hown hK hP 0 rfl rfl 0 (by decide) (htg _ fl_X0_13) (fun _ h9 => h9) rfl dX0_init_17 ?_
      refine va_alen (v := 20) hx hb hK hP 1 2 rfl rfl rfl dX0_init_20 ?_
      refine lv_icmp_ge (tgt := 43) hx hb dX0_init_21 (by decide) (fun c_1 => ?_) (fun c_1 => ?_)
      · exact absurd c_1 (nI_ge hi20 (by decide))
      · refine lv_aload_n hx hb dX0_init_24 rfl (lv_at hl 1 rfl) ?_
        refine va_get (D := D) (ci := 0) (v := .ref q1) (C := RX0) (T := TX0) (N := 2) hx hb htg inX0 hown hK hP 0 rfl rfl 0 (by decide) (htg _ fl_X0_13) (fun _ h9 => h9) rfl dX0_init_25 ?_
        refine lv_iload_n hx hb dX0_init_28 rfl (lv_at hl 0 rfl) ?_
        refine va_new (ci := 1) (fs := [.null, .null, .null, .null]) (C := RX3) (T := TX3) (N := 4) hx hb htg inX3 tyX3 tyX3_ok hown (htg _ cl_X0_11) (htg _ it_X3) (htg _ ini_X3) hK hP hD hS hA0 rfl (fun j hj => by rcases (show j = 0 ∨ j = 1 ∨ j = 2 ∨ j = 3 by omega) with rfl | rfl | rfl | rfl <;> rfl) (show 1 + 5 * i + 1 ≤ 101 by omega) (show 20 + 34 * i + 4 ≤ 700 by omega) dX0_init_29 (fun q H hP hD hS => ?_)
        refine lv_dup hx hb dX0_init_32 rfl ?_
        refine iC (rest := [.ref q, .int (nI i), .ref q1]) hx hb hml hown htg (c_X3_init l D cI cJ cO q H.size) Blind.tt (fun _ _ _ => trivial) ml_X0_17 im_X3_init ini_X3 co_X3_init rfl dn_X3_init hl.1 rfl (Nat.le_of_ble_eq_true rfl) ⟨Nat.le_of_ble_eq_true rfl, Nat.le_of_ble_eq_true rfl⟩ ⟨show 1 + 5 * i + 1 + 4 ≤ 101 by omega, show 20 + 34 * i + 4 + 30 ≤ 700 by omega⟩ dX0_init_33 hK hP hD hS hA0 (fun u H locs hP hD hS => ?_)
        refine va_astq (r := (RX3, TX3, 4)) (v := q) (vs := [.ref u.1, .ref u.2.1, .ref u.2.2.1, .ref u.2.2.2]) hx hb hK hP hD hS 1 2 ([(h0, (.inr (0, [.ref q1, .int 0]) : va_E)), (q1, .inl (cO, 20, .inr (.inr (.inr (.inr (rsi pad i))))))] ++ PoolN i pad cI cJ (fun _ => cr0)).length 1 rfl rfl (by rw [List.getElem?_append_right (Nat.le_refl _), Nat.sub_self]; rfl) rfl (vp_in_nI hi20 (by decide)) dX0_init_36 (fun H locs hP hD hS => ?_)
        have hP : va_P D vwCl (([(h0, .inr (0, [.ref q1, .int 0])), (q1, .inl (cO, 20, .inr (.inr (.inr (.inr (va_up (rsi pad i) (nI i).toNatClampNeg (some q)))))))] ++ PoolN i pad cI cJ (fun _ => cr0)) ++ w_X3_init cI cJ q u) H := hP
        have hD : va_D A (([(h0, .inr (0, [.ref q1, .int 0])), (q1, .inl (cO, 20, .inr (.inr (.inr (.inr (va_up (rsi pad i) (nI i).toNatClampNeg (some q)))))))] ++ PoolN i pad cI cJ (fun _ => cr0)) ++ w_X3_init cI cJ q u) := hD
        rw [nI_clamp (by omega), rsi_up pad i q u, grow_eq] at hP hD
        refine lv_iinc (v := nI (i + 1)) (lv' := [(1, .int (nI (i + 1))), (0, .ref h0)]) hx hb dX0_init_37 hl (k := 0) rfl (nI_1 i) (by decide) rfl (fun ls hl => ?_)
        refine lv_goto (tgt := 15) hx hb dX0_init_40 (by decide) ?_
        refine W.widen (k := 1 + 5 * (i + 1)) (n := 20 + 34 * (i + 1)) (by omega) (by omega) ?_
        exact ih (i + 1) (padU pad i q u) (by omega) ls hl H locs hP hD hS
  exact Lp 20 0 (fun _ _ => 0) rfl ls hl H locs hP hD hS
