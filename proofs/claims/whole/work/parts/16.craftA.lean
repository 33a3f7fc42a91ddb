/-! Arrays.fill, Craft -/
def f_J7_fill_53178_18_lp_f (a1 : Int32) : Nat → (Int32) → (Nat → Int32) → Nat → Int32
  | 0, i, g => g
  | n + 1, i, g => (f_J7_fill_53178_18_lp_f a1 n (i + (1 : Int32)) (upd g i.toNatClampNeg a1))
def f_J7_fill_53178_18_f (f : Nat → Int32) (a1 : Int32) : Nat → Int32 := (f_J7_fill_53178_18_lp_f a1 18 (0 : Int32) f)
set_option maxHeartbeats 4000000 in
set_option maxRecDepth 100000 in
theorem c_J7_fill_53178_18 (l : Launch) (D : va_G) (cI cJ cO : ClassId) (a0 : Nat) (f : Nat → Int32) (a1 : Int32) : Wr l yJ7_fill_53178 cJ7_fill_53178 4 none 0 0 [.ref a0, .int a1] (fun U => B1 D cI cJ cO [(a0, .inl (cI, 18, .inl f))] U ∧ True) D none [(a0, .inl (cI, 18, .inl f))] [(a0, .inl (cI, 18, .inl (f_J7_fill_53178_18_f f a1)))] := by
  refine Wr.of (by decide +kernel) (Nat.le_of_ble_eq_true rfl) ?_
  intro p e s m args below meth c hx hb hr hml hown htg hlocks A hA hP hK hD hX hS ls hl
  have hown : s.vm.findClass RJ7 = some m.cls := hown
  have hl : lv_has ls 4 [(0, .ref a0), (1, .int a1)] := hl
  refine lv_iconst (v := 0) hx hb dJ7_fill_53178_0 (by decide) ?_
  refine lv_istore_n (lv' := [(2, .int (0 : Int32)), (0, .ref a0), (1, .int a1)]) hx hb dJ7_fill_53178_1 rfl hl (by decide) rfl (fun ls hl => ?_)
  refine lv_aload_n hx hb dJ7_fill_53178_2 rfl (lv_at hl 1 rfl) ?_
  refine va_alen (v := 18) hx hb hK hP 0 0 rfl rfl rfl dJ7_fill_53178_3 ?_
  refine lv_istore_n (lv' := [(3, .int (18 : Int32)), (2, .int (0 : Int32)), (0, .ref a0), (1, .int a1)]) hx hb dJ7_fill_53178_4 rfl hl (by decide) rfl (fun ls hl => ?_)
  have Lp : ∀ (n : Nat) (i : Int32) (g : Nat → Int32), Up n i 18 ∧ 0 ≤ i.toInt → ∀ ls : Array Slot, lv_has ls 4 [(2, .int i), (3, .int (18 : Int32)), (0, .ref a0), (1, .int a1)] → f_J7_fill_53178_18_lp_f a1 n i g = f_J7_fill_53178_18_f f a1 → ∀ (H : Heap) (locs : List Loc), va_P D vwCl [(a0, .inl (cI, 18, .inl g))] H → va_D A [(a0, .inl (cI, 18, .inl g))] → va_S A s.heap H locs → W p l e { frames := 0, cells := 0, slots := 0, locals := 0 } s m args below meth c H locs 0 0 (MQ below (wrQ D none [(a0, .inl (cI, 18, .inl f))] [(a0, .inl (cI, 18, .inl (f_J7_fill_53178_18_f f a1)))]) args s 0 0 (inW [(a0, .inl (cI, 18, .inl f))])) (F0 m 5 ls []) := by
    intro n
    induction n with
    | zero =>
      intro i g hi ls hl hAf H locs hP hD hS
      refine lv_iload_n hx hb dJ7_fill_53178_5 rfl (lv_at hl 0 rfl) ?_
      refine lv_iload_n hx hb dJ7_fill_53178_6 rfl (lv_at hl 1 rfl) ?_
      refine lv_icmp_ge (tgt := 20) hx hb dJ7_fill_53178_7 (by decide) (fun c_1 => ?_) (fun c_1 => ?_)
      · exact wr_v hx hb hr hlocks hA hS (hP.eq (by rw [← hAf]; simp only [f_J7_fill_53178_18_lp_f])) dJ7_fill_53178_20
      · exact absurd hi.1.z c_1
    | succ n ih =>
      intro i g hi ls hl hAf H locs hP hD hS
      refine lv_iload_n hx hb dJ7_fill_53178_5 rfl (lv_at hl 0 rfl) ?_
      refine lv_iload_n hx hb dJ7_fill_53178_6 rfl (lv_at hl 1 rfl) ?_
      refine lv_icmp_ge (tgt := 20) hx hb dJ7_fill_53178_7 (by decide) (fun c_2 => ?_) (fun c_2 => ?_)
      · exact absurd c_2 hi.1.s
      · refine lv_aload_n hx hb dJ7_fill_53178_10 rfl (lv_at hl 2 rfl) ?_
        refine lv_iload_n hx hb dJ7_fill_53178_11 rfl (lv_at hl 0 rfl) ?_
        refine lv_iload_n hx hb dJ7_fill_53178_12 rfl (lv_at hl 3 rfl) ?_
        refine va_iast' (j := i.toNatClampNeg) hx hb hK hP hD hS 0 0 rfl rfl (hi.1.lt hi.2 (by decide)) rfl dJ7_fill_53178_13 (fun H locs hP hD hS => ?_)
        have hP : va_P D vwCl [(a0, .inl (cI, 18, .inl (upd g i.toNatClampNeg a1)))] H := hP
        have hD : va_D A [(a0, .inl (cI, 18, .inl (upd g i.toNatClampNeg a1)))] := hD
        refine lv_iinc (v := (i + (1 : Int32))) (lv' := [(2, .int (i + (1 : Int32))), (3, .int (18 : Int32)), (0, .ref a0), (1, .int a1)]) hx hb dJ7_fill_53178_14 hl (k := 0) rfl rfl (by decide) rfl (fun ls hl => ?_)
        refine lv_goto (tgt := 5) hx hb dJ7_fill_53178_17 (by decide) ?_
        exact ih (i + (1 : Int32)) (upd g i.toNatClampNeg a1) ⟨hi.1.nx, by have e1 : (i + 1).toInt = i.toInt + 1 := (by have := hi.1.2; have := hi.1.1; rw [fb_addI] <;> rw [i1] <;> omega); have := hi.2; omega⟩ ls (lv_sub hl [0, 1, 2, 3] rfl) (by rw [← hAf]; simp only [f_J7_fill_53178_18_lp_f]) H locs hP hD hS
  exact Lp 18 (0 : Int32) f ⟨⟨by decide, by decide, by decide⟩, by decide⟩ ls (lv_sub hl [1, 0, 2, 3] rfl) (by simp only [f_J7_fill_53178_18_f]) _ _ hP hD hS

def f_J7_fill_53178_8_lp_f (a1 : Int32) : Nat → (Int32) → (Nat → Int32) → Nat → Int32
  | 0, i, g => g
  | n + 1, i, g => (f_J7_fill_53178_8_lp_f a1 n (i + (1 : Int32)) (upd g i.toNatClampNeg a1))
def f_J7_fill_53178_8_f (f : Nat → Int32) (a1 : Int32) : Nat → Int32 := (f_J7_fill_53178_8_lp_f a1 8 (0 : Int32) f)
set_option maxHeartbeats 4000000 in
set_option maxRecDepth 100000 in
theorem c_J7_fill_53178_8 (l : Launch) (D : va_G) (cI cJ cO : ClassId) (a0 : Nat) (f : Nat → Int32) (a1 : Int32) : Wr l yJ7_fill_53178 cJ7_fill_53178 4 none 0 0 [.ref a0, .int a1] (fun U => B1 D cI cJ cO [(a0, .inl (cI, 8, .inl f))] U ∧ True) D none [(a0, .inl (cI, 8, .inl f))] [(a0, .inl (cI, 8, .inl (f_J7_fill_53178_8_f f a1)))] := by
  refine Wr.of (by decide +kernel) (Nat.le_of_ble_eq_true rfl) ?_
  intro p e s m args below meth c hx hb hr hml hown htg hlocks A hA hP hK hD hX hS ls hl
  have hown : s.vm.findClass RJ7 = some m.cls := hown
  have hl : lv_has ls 4 [(0, .ref a0), (1, .int a1)] := hl
  refine lv_iconst (v := 0) hx hb dJ7_fill_53178_0 (by decide) ?_
  refine lv_istore_n (lv' := [(2, .int (0 : Int32)), (0, .ref a0), (1, .int a1)]) hx hb dJ7_fill_53178_1 rfl hl (by decide) rfl (fun ls hl => ?_)
  refine lv_aload_n hx hb dJ7_fill_53178_2 rfl (lv_at hl 1 rfl) ?_
  refine va_alen (v := 8) hx hb hK hP 0 0 rfl rfl rfl dJ7_fill_53178_3 ?_
  refine lv_istore_n (lv' := [(3, .int (8 : Int32)), (2, .int (0 : Int32)), (0, .ref a0), (1, .int a1)]) hx hb dJ7_fill_53178_4 rfl hl (by decide) rfl (fun ls hl => ?_)
  have Lp : ∀ (n : Nat) (i : Int32) (g : Nat → Int32), Up n i 8 ∧ 0 ≤ i.toInt → ∀ ls : Array Slot, lv_has ls 4 [(2, .int i), (3, .int (8 : Int32)), (0, .ref a0), (1, .int a1)] → f_J7_fill_53178_8_lp_f a1 n i g = f_J7_fill_53178_8_f f a1 → ∀ (H : Heap) (locs : List Loc), va_P D vwCl [(a0, .inl (cI, 8, .inl g))] H → va_D A [(a0, .inl (cI, 8, .inl g))] → va_S A s.heap H locs → W p l e { frames := 0, cells := 0, slots := 0, locals := 0 } s m args below meth c H locs 0 0 (MQ below (wrQ D none [(a0, .inl (cI, 8, .inl f))] [(a0, .inl (cI, 8, .inl (f_J7_fill_53178_8_f f a1)))]) args s 0 0 (inW [(a0, .inl (cI, 8, .inl f))])) (F0 m 5 ls []) := by
    intro n
    induction n with
    | zero =>
      intro i g hi ls hl hAf H locs hP hD hS
      refine lv_iload_n hx hb dJ7_fill_53178_5 rfl (lv_at hl 0 rfl) ?_
      refine lv_iload_n hx hb dJ7_fill_53178_6 rfl (lv_at hl 1 rfl) ?_
      refine lv_icmp_ge (tgt := 20) hx hb dJ7_fill_53178_7 (by decide) (fun c_1 => ?_) (fun c_1 => ?_)
      · exact wr_v hx hb hr hlocks hA hS (hP.eq (by rw [← hAf]; simp only [f_J7_fill_53178_8_lp_f])) dJ7_fill_53178_20
      · exact absurd hi.1.z c_1
    | succ n ih =>
      intro i g hi ls hl hAf H locs hP hD hS
      refine lv_iload_n hx hb dJ7_fill_53178_5 rfl (lv_at hl 0 rfl) ?_
      refine lv_iload_n hx hb dJ7_fill_53178_6 rfl (lv_at hl 1 rfl) ?_
      refine lv_icmp_ge (tgt := 20) hx hb dJ7_fill_53178_7 (by decide) (fun c_2 => ?_) (fun c_2 => ?_)
      · exact absurd c_2 hi.1.s
      · refine lv_aload_n hx hb dJ7_fill_53178_10 rfl (lv_at hl 2 rfl) ?_
        refine lv_iload_n hx hb dJ7_fill_53178_11 rfl (lv_at hl 0 rfl) ?_
        refine lv_iload_n hx hb dJ7_fill_53178_12 rfl (lv_at hl 3 rfl) ?_
        refine va_iast' (j := i.toNatClampNeg) hx hb hK hP hD hS 0 0 rfl rfl (hi.1.lt hi.2 (by decide)) rfl dJ7_fill_53178_13 (fun H locs hP hD hS => ?_)
        have hP : va_P D vwCl [(a0, .inl (cI, 8, .inl (upd g i.toNatClampNeg a1)))] H := hP
        have hD : va_D A [(a0, .inl (cI, 8, .inl (upd g i.toNatClampNeg a1)))] := hD
        refine lv_iinc (v := (i + (1 : Int32))) (lv' := [(2, .int (i + (1 : Int32))), (3, .int (8 : Int32)), (0, .ref a0), (1, .int a1)]) hx hb dJ7_fill_53178_14 hl (k := 0) rfl rfl (by decide) rfl (fun ls hl => ?_)
        refine lv_goto (tgt := 5) hx hb dJ7_fill_53178_17 (by decide) ?_
        exact ih (i + (1 : Int32)) (upd g i.toNatClampNeg a1) ⟨hi.1.nx, by have e1 : (i + 1).toInt = i.toInt + 1 := (by have := hi.1.2; have := hi.1.1; rw [fb_addI] <;> rw [i1] <;> omega); have := hi.2; omega⟩ ls (lv_sub hl [0, 1, 2, 3] rfl) (by rw [← hAf]; simp only [f_J7_fill_53178_8_lp_f]) H locs hP hD hS
  exact Lp 8 (0 : Int32) f ⟨⟨by decide, by decide, by decide⟩, by decide⟩ ls (lv_sub hl [1, 0, 2, 3] rfl) (by simp only [f_J7_fill_53178_8_f]) _ _ hP hD hS

def f_J7_fill_d0a16_lp_f (a1 : Int64) : Nat → (Int32) → (Nat → Int64) → Nat → Int64
  | 0, i, g => g
  | n + 1, i, g => (f_J7_fill_d0a16_lp_f a1 n (i + (1 : Int32)) (vp_updL g i.toNatClampNeg a1))
def f_J7_fill_d0a16_f (f : Nat → Int64) (a1 : Int64) : Nat → Int64 := (f_J7_fill_d0a16_lp_f a1 2 (0 : Int32) f)
set_option maxHeartbeats 4000000 in
set_option maxRecDepth 100000 in
theorem c_J7_fill_d0a16 (l : Launch) (D : va_G) (cI cJ cO : ClassId) (a0 : Nat) (f : Nat → Int64) (a1 : Int64) : Wr l yJ7_fill_d0a16 cJ7_fill_d0a16 5 none 0 0 [.ref a0, .long a1] (fun U => B1 D cI cJ cO [(a0, .inl (cJ, 2, .inr (.inl f)))] U ∧ True) D none [(a0, .inl (cJ, 2, .inr (.inl f)))] [(a0, .inl (cJ, 2, .inr (.inl (f_J7_fill_d0a16_f f a1))))] := by
  refine Wr.of (by decide +kernel) (Nat.le_of_ble_eq_true rfl) ?_
  intro p e s m args below meth c hx hb hr hml hown htg hlocks A hA hP hK hD hX hS ls hl
  have hown : s.vm.findClass RJ7 = some m.cls := hown
  have hl : lv_has ls 5 [(0, .ref a0), (1, .long a1)] := hl
  refine lv_iconst (v := 0) hx hb dJ7_fill_d0a16_0 (by decide) ?_
  refine lv_istore_n (lv' := [(3, .int (0 : Int32)), (0, .ref a0), (1, .long a1)]) hx hb dJ7_fill_d0a16_1 rfl hl (by decide) rfl (fun ls hl => ?_)
  refine lv_aload_n hx hb dJ7_fill_d0a16_2 rfl (lv_at hl 1 rfl) ?_
  refine va_alen (v := 2) hx hb hK hP 0 1 rfl rfl rfl dJ7_fill_d0a16_3 ?_
  refine lv_istore (lv' := [(4, .int (2 : Int32)), (3, .int (0 : Int32)), (0, .ref a0), (1, .long a1)]) hx hb dJ7_fill_d0a16_4 hl (by decide) rfl (fun ls hl => ?_)
  have Lp : ∀ (n : Nat) (i : Int32) (g : Nat → Int64), Up n i 2 ∧ 0 ≤ i.toInt → ∀ ls : Array Slot, lv_has ls 5 [(3, .int i), (4, .int (2 : Int32)), (0, .ref a0), (1, .long a1)] → f_J7_fill_d0a16_lp_f a1 n i g = f_J7_fill_d0a16_f f a1 → ∀ (H : Heap) (locs : List Loc), va_P D vwCl [(a0, .inl (cJ, 2, .inr (.inl g)))] H → va_D A [(a0, .inl (cJ, 2, .inr (.inl g)))] → va_S A s.heap H locs → W p l e { frames := 0, cells := 0, slots := 0, locals := 0 } s m args below meth c H locs 0 0 (MQ below (wrQ D none [(a0, .inl (cJ, 2, .inr (.inl f)))] [(a0, .inl (cJ, 2, .inr (.inl (f_J7_fill_d0a16_f f a1))))]) args s 0 0 (inW [(a0, .inl (cJ, 2, .inr (.inl f)))])) (F0 m 6 ls []) := by
    intro n
    induction n with
    | zero =>
      intro i g hi ls hl hAf H locs hP hD hS
      refine lv_iload_n hx hb dJ7_fill_d0a16_6 rfl (lv_at hl 0 rfl) ?_
      refine lv_iload hx hb dJ7_fill_d0a16_7 (lv_at hl 1 rfl) ?_
      refine lv_icmp_ge (tgt := 22) hx hb dJ7_fill_d0a16_9 (by decide) (fun c_1 => ?_) (fun c_1 => ?_)
      · exact wr_v hx hb hr hlocks hA hS (hP.eq (by rw [← hAf]; simp only [f_J7_fill_d0a16_lp_f])) dJ7_fill_d0a16_22
      · exact absurd hi.1.z c_1
    | succ n ih =>
      intro i g hi ls hl hAf H locs hP hD hS
      refine lv_iload_n hx hb dJ7_fill_d0a16_6 rfl (lv_at hl 0 rfl) ?_
      refine lv_iload hx hb dJ7_fill_d0a16_7 (lv_at hl 1 rfl) ?_
      refine lv_icmp_ge (tgt := 22) hx hb dJ7_fill_d0a16_9 (by decide) (fun c_2 => ?_) (fun c_2 => ?_)
      · exact absurd c_2 hi.1.s
      · refine lv_aload_n hx hb dJ7_fill_d0a16_12 rfl (lv_at hl 2 rfl) ?_
        refine lv_iload_n hx hb dJ7_fill_d0a16_13 rfl (lv_at hl 0 rfl) ?_
        refine lv_lload_n hx hb dJ7_fill_d0a16_14 rfl (lv_at hl 3 rfl) ?_
        refine va_last' (j := i.toNatClampNeg) hx hb hK hP hD hS 0 1 rfl rfl (hi.1.lt hi.2 (by decide)) rfl dJ7_fill_d0a16_15 (fun H locs hP hD hS => ?_)
        have hP : va_P D vwCl [(a0, .inl (cJ, 2, .inr (.inl (vp_updL g i.toNatClampNeg a1))))] H := hP
        have hD : va_D A [(a0, .inl (cJ, 2, .inr (.inl (vp_updL g i.toNatClampNeg a1))))] := hD
        refine lv_iinc (v := (i + (1 : Int32))) (lv' := [(3, .int (i + (1 : Int32))), (4, .int (2 : Int32)), (0, .ref a0), (1, .long a1)]) hx hb dJ7_fill_d0a16_16 hl (k := 0) rfl rfl (by decide) rfl (fun ls hl => ?_)
        refine lv_goto (tgt := 6) hx hb dJ7_fill_d0a16_19 (by decide) ?_
        exact ih (i + (1 : Int32)) (vp_updL g i.toNatClampNeg a1) ⟨hi.1.nx, by have e1 : (i + 1).toInt = i.toInt + 1 := (by have := hi.1.2; have := hi.1.1; rw [fb_addI] <;> rw [i1] <;> omega); have := hi.2; omega⟩ ls (lv_sub hl [0, 1, 2, 3] rfl) (by rw [← hAf]; simp only [f_J7_fill_d0a16_lp_f]) H locs hP hD hS
  exact Lp 2 (0 : Int32) f ⟨⟨by decide, by decide, by decide⟩, by decide⟩ ls (lv_sub hl [1, 0, 2, 3] rfl) (by simp only [f_J7_fill_d0a16_f]) _ _ hP hD hS

theorem inB {x b : Int32} {N : Nat} (hb : b.toInt = N) (h1 : ¬ x < 0) (h2 : x < b) : vp_in x N := by
  rw [fa_lt] at h1 h2
  exact in_iff (by rw [i0] at h1; omega) (by omega)
def f_X3_value (va : Nat → Int32) (a0 : Int32) : Int32 := (if a0 < 0 then (-1 : Int32) else (if a0 < (18 : Int32) then (va a0.toNatClampNeg) else (-1 : Int32)))
set_option maxHeartbeats 4000000 in
set_option maxRecDepth 100000 in
theorem c_X3_value (l : Launch) (D : va_G) (cI cJ cO : ClassId) (h0 : Nat) (h1 : Nat) (h2 : Nat) (h3 : Nat) (h4 : Nat) (va : Nat → Int32) (le : Nat → Int32) (co : Nat → Int64) (ct : Nat → Int32) (a0 : Int32) : Rd l yX3_value cX3_value 2 (some .int) 0 0 [.ref h0, .int a0] (fun U => B0 D cI cJ cO [(h0, .inr (1, [.ref h1, .ref h2, .ref h3, .ref h4])), (h1, .inl (cI, 18, .inl va)), (h2, .inl (cI, 8, .inl le)), (h3, .inl (cJ, 2, .inr (.inl co))), (h4, .inl (cI, 2, .inl ct))] U) (some (.int (f_X3_value va a0))) := by
  refine Rd.of (by decide +kernel) (Nat.le_of_ble_eq_true rfl) ?_
  intro p e s m args below meth c hx hb hr hml hown htg hlocks hB ls hl
  obtain ⟨hP, hK⟩ := hB
  have hP : va_P D vwCl [(h0, .inr (1, [.ref h1, .ref h2, .ref h3, .ref h4])), (h1, .inl (cI, 18, .inl va)), (h2, .inl (cI, 8, .inl le)), (h3, .inl (cJ, 2, .inr (.inl co))), (h4, .inl (cI, 2, .inl ct))] s.heap := hP
  have hown : s.vm.findClass RX3 = some m.cls := hown
  have hl : lv_has ls 2 [(0, .ref h0), (1, .int a0)] := hl
  refine lv_iload_n hx hb dX3_value_0 rfl (lv_at hl 1 rfl) ?_
  refine lv_if_lt (tgt := 13) hx hb dX3_value_1 (by decide) (fun c_1 => ?_) (fun c_1 => ?_)
  · refine lv_iconst (v := (-1)) hx hb dX3_value_13 (by decide) ?_
    refine lv_goto (tgt := 23) hx hb dX3_value_14 (by decide) ?_
    exact rd_i hx hb hr hlocks (by simp only [f_X3_value, if_pos c_1]) dX3_value_23
  · refine lv_iload_n hx hb dX3_value_4 rfl (lv_at hl 1 rfl) ?_
    refine lv_aload_n hx hb dX3_value_5 rfl (lv_at hl 0 rfl) ?_
    refine va_get (D := D) (ci := 1) (v := .ref h1) (C := RX3) (T := TX3) (N := 4) hx hb htg inX3 hown hK hP 0 rfl rfl 0 (by decide) (htg _ fl_X3_9) (fun _ h9 => h9) rfl dX3_value_6 ?_
    refine va_alen (v := 18) hx hb hK hP 1 0 rfl rfl rfl dX3_value_9 ?_
    refine lv_icmp_lt (tgt := 17) hx hb dX3_value_10 (by decide) (fun c_2 => ?_) (fun c_2 => ?_)
    · refine lv_aload_n hx hb dX3_value_17 rfl (lv_at hl 0 rfl) ?_
      refine va_get (D := D) (ci := 1) (v := .ref h1) (C := RX3) (T := TX3) (N := 4) hx hb htg inX3 hown hK hP 0 rfl rfl 0 (by decide) (htg _ fl_X3_9) (fun _ h9 => h9) rfl dX3_value_18 ?_
      refine lv_iload_n hx hb dX3_value_21 rfl (lv_at hl 1 rfl) ?_
      refine va_iald' (v := (va a0.toNatClampNeg)) hx hb hK hP 1 0 rfl rfl (inB (N := 18) (by decide) c_1 c_2) rfl dX3_value_22 ?_
      exact rd_i hx hb hr hlocks (by simp only [f_X3_value, if_neg c_1, if_pos c_2]) dX3_value_23
    · refine lv_iconst (v := (-1)) hx hb dX3_value_13 (by decide) ?_
      refine lv_goto (tgt := 23) hx hb dX3_value_14 (by decide) ?_
      exact rd_i hx hb hr hlocks (by simp only [f_X3_value, if_neg c_1, if_neg c_2]) dX3_value_23

def f_X3_letter (le : Nat → Int32) (a0 : Int32) : Int32 := (if a0 < 0 then (-1 : Int32) else (if a0 < (8 : Int32) then (le a0.toNatClampNeg) else (-1 : Int32)))
set_option maxHeartbeats 4000000 in
set_option maxRecDepth 100000 in
theorem c_X3_letter (l : Launch) (D : va_G) (cI cJ cO : ClassId) (h0 : Nat) (h1 : Nat) (h2 : Nat) (h3 : Nat) (h4 : Nat) (va : Nat → Int32) (le : Nat → Int32) (co : Nat → Int64) (ct : Nat → Int32) (a0 : Int32) : Rd l yX3_letter cX3_letter 2 (some .int) 0 0 [.ref h0, .int a0] (fun U => B0 D cI cJ cO [(h0, .inr (1, [.ref h1, .ref h2, .ref h3, .ref h4])), (h1, .inl (cI, 18, .inl va)), (h2, .inl (cI, 8, .inl le)), (h3, .inl (cJ, 2, .inr (.inl co))), (h4, .inl (cI, 2, .inl ct))] U) (some (.int (f_X3_letter le a0))) := by
  refine Rd.of (by decide +kernel) (Nat.le_of_ble_eq_true rfl) ?_
  intro p e s m args below meth c hx hb hr hml hown htg hlocks hB ls hl
  obtain ⟨hP, hK⟩ := hB
  have hP : va_P D vwCl [(h0, .inr (1, [.ref h1, .ref h2, .ref h3, .ref h4])), (h1, .inl (cI, 18, .inl va)), (h2, .inl (cI, 8, .inl le)), (h3, .inl (cJ, 2, .inr (.inl co))), (h4, .inl (cI, 2, .inl ct))] s.heap := hP
  have hown : s.vm.findClass RX3 = some m.cls := hown
  have hl : lv_has ls 2 [(0, .ref h0), (1, .int a0)] := hl
  refine lv_iload_n hx hb dX3_letter_0 rfl (lv_at hl 1 rfl) ?_
  refine lv_if_lt (tgt := 13) hx hb dX3_letter_1 (by decide) (fun c_1 => ?_) (fun c_1 => ?_)
  · refine lv_iconst (v := (-1)) hx hb dX3_letter_13 (by decide) ?_
    refine lv_goto (tgt := 23) hx hb dX3_letter_14 (by decide) ?_
    exact rd_i hx hb hr hlocks (by simp only [f_X3_letter, if_pos c_1]) dX3_letter_23
  · refine lv_iload_n hx hb dX3_letter_4 rfl (lv_at hl 1 rfl) ?_
    refine lv_aload_n hx hb dX3_letter_5 rfl (lv_at hl 0 rfl) ?_
    refine va_get (D := D) (ci := 1) (v := .ref h2) (C := RX3) (T := TX3) (N := 4) hx hb htg inX3 hown hK hP 0 rfl rfl 1 (by decide) (htg _ fl_X3_15) (fun _ h9 => h9) rfl dX3_letter_6 ?_
    refine va_alen (v := 8) hx hb hK hP 2 0 rfl rfl rfl dX3_letter_9 ?_
    refine lv_icmp_lt (tgt := 17) hx hb dX3_letter_10 (by decide) (fun c_2 => ?_) (fun c_2 => ?_)
    · refine lv_aload_n hx hb dX3_letter_17 rfl (lv_at hl 0 rfl) ?_
      refine va_get (D := D) (ci := 1) (v := .ref h2) (C := RX3) (T := TX3) (N := 4) hx hb htg inX3 hown hK hP 0 rfl rfl 1 (by decide) (htg _ fl_X3_15) (fun _ h9 => h9) rfl dX3_letter_18 ?_
      refine lv_iload_n hx hb dX3_letter_21 rfl (lv_at hl 1 rfl) ?_
      refine va_iald' (v := (le a0.toNatClampNeg)) hx hb hK hP 2 0 rfl rfl (inB (N := 8) (by decide) c_1 c_2) rfl dX3_letter_22 ?_
      exact rd_i hx hb hr hlocks (by simp only [f_X3_letter, if_neg c_1, if_pos c_2]) dX3_letter_23
    · refine lv_iconst (v := (-1)) hx hb dX3_letter_13 (by decide) ?_
      refine lv_goto (tgt := 23) hx hb dX3_letter_14 (by decide) ?_
      exact rd_i hx hb hr hlocks (by simp only [f_X3_letter, if_neg c_1, if_neg c_2]) dX3_letter_23

def f_X3_begin_va (va : Nat → Int32) (le : Nat → Int32) (co : Nat → Int64) (a0 : Int32) : Nat → Int32 := (upd (upd (upd (f_J7_fill_53178_18_f va (-2147483648 : Int32)) 0 a0) 2 (0 : Int32)) 3 (0 : Int32))
def f_X3_begin_le (va : Nat → Int32) (le : Nat → Int32) (co : Nat → Int64) (a0 : Int32) : Nat → Int32 := (f_J7_fill_53178_8_f le (-1 : Int32))
def f_X3_begin_co (va : Nat → Int32) (le : Nat → Int32) (co : Nat → Int64) (a0 : Int32) : Nat → Int64 := (f_J7_fill_d0a16_f co (-1 : Int64))
set_option maxHeartbeats 4000000 in
set_option maxRecDepth 100000 in
theorem c_X3_begin (l : Launch) (D : va_G) (cI cJ cO : ClassId) (h0 : Nat) (h1 : Nat) (h2 : Nat) (h3 : Nat) (h4 : Nat) (va : Nat → Int32) (le : Nat → Int32) (co : Nat → Int64) (ct : Nat → Int32) (a0 : Int32) : Wr l yX3_begin cX3_begin 2 none 1 24 [.ref h0, .int a0] (fun U => B1 D cI cJ cO [(h0, .inr (1, [.ref h1, .ref h2, .ref h3, .ref h4])), (h1, .inl (cI, 18, .inl va)), (h2, .inl (cI, 8, .inl le)), (h3, .inl (cJ, 2, .inr (.inl co))), (h4, .inl (cI, 2, .inl ct))] U ∧ True) D none [(h0, .inr (1, [.ref h1, .ref h2, .ref h3, .ref h4])), (h1, .inl (cI, 18, .inl va)), (h2, .inl (cI, 8, .inl le)), (h3, .inl (cJ, 2, .inr (.inl co))), (h4, .inl (cI, 2, .inl ct))] [(h0, .inr (1, [.ref h1, .ref h2, .ref h3, .ref h4])), (h1, .inl (cI, 18, .inl (f_X3_begin_va va le co a0))), (h2, .inl (cI, 8, .inl (f_X3_begin_le va le co a0))), (h3, .inl (cJ, 2, .inr (.inl (f_X3_begin_co va le co a0)))), (h4, .inl (cI, 2, .inl ct))] := by
  refine Wr.of (by decide +kernel) (Nat.le_of_ble_eq_true rfl) ?_
  intro p e s m args below meth c hx hb hr hml hown htg hlocks A hA hP hK hD hX hS ls hl
  have hown : s.vm.findClass RX3 = some m.cls := hown
  have hl : lv_has ls 2 [(0, .ref h0), (1, .int a0)] := hl
  refine lv_aload_n hx hb dX3_begin_0 rfl (lv_at hl 0 rfl) ?_
  refine va_get (D := D) (ci := 1) (v := .ref h1) (C := RX3) (T := TX3) (N := 4) hx hb htg inX3 hown hK hP 0 rfl rfl 0 (by decide) (htg _ fl_X3_9) (fun _ h9 => h9) rfl dX3_begin_1 ?_
  refine lv_ldc (v := (-2147483648)) hx hb hown (htg _ ct_X3_25) dX3_begin_4 ?_
  refine wS (As := [.ref h1, .int (-2147483648 : Int32)]) (rest := []) hx hb hml hown htg (c_J7_fill_53178_18 l D cI cJ cO h1 va (-2147483648 : Int32)) (Blind.and Blind.b1 Blind.tt) ml_X3_26 st_J7_fill_53178 ini_J7 co_J7_fill_53178 dn_J7_fill_53178 rfl (fun U hU hW => ⟨⟨by rw [hU]; exact hP.sub [1] rfl, va_K.moved hW.alike hK, (hD.sub [1] (by decide) rfl).weaken (fun _ _ _ _ => trivial)⟩, trivial⟩) hl.1 rfl (Nat.le_of_ble_eq_true rfl) ⟨Nat.le_of_ble_eq_true rfl, Nat.le_of_ble_eq_true rfl⟩ ⟨Nat.le_of_ble_eq_true rfl, Nat.le_of_ble_eq_true rfl⟩ dX3_begin_6 hP hD hS [1] rfl (Eq.trans (b := [h1]) rfl rfl) (fun H locs hP hD hS => ?_)
  have hP : va_P D vwCl [(h0, .inr (1, [.ref h1, .ref h2, .ref h3, .ref h4])), (h1, .inl (cI, 18, .inl (f_J7_fill_53178_18_f va (-2147483648 : Int32)))), (h2, .inl (cI, 8, .inl le)), (h3, .inl (cJ, 2, .inr (.inl co))), (h4, .inl (cI, 2, .inl ct))] H := hP
  have hD : va_D A [(h0, .inr (1, [.ref h1, .ref h2, .ref h3, .ref h4])), (h1, .inl (cI, 18, .inl (f_J7_fill_53178_18_f va (-2147483648 : Int32)))), (h2, .inl (cI, 8, .inl le)), (h3, .inl (cJ, 2, .inr (.inl co))), (h4, .inl (cI, 2, .inl ct))] := hD
  refine W.eq (g2 := F0 m 9 ls []) rfl ?_
  refine lv_aload_n hx hb dX3_begin_9 rfl (lv_at hl 0 rfl) ?_
  refine va_get (D := D) (ci := 1) (v := .ref h2) (C := RX3) (T := TX3) (N := 4) hx hb htg inX3 hown hK hP 0 rfl rfl 1 (by decide) (htg _ fl_X3_15) (fun _ h9 => h9) rfl dX3_begin_10 ?_
  refine lv_iconst (v := (-1)) hx hb dX3_begin_13 (by decide) ?_
  refine wS (As := [.ref h2, .int (-1 : Int32)]) (rest := []) hx hb hml hown htg (c_J7_fill_53178_8 l D cI cJ cO h2 le (-1 : Int32)) (Blind.and Blind.b1 Blind.tt) ml_X3_26 st_J7_fill_53178 ini_J7 co_J7_fill_53178 dn_J7_fill_53178 rfl (fun U hU hW => ⟨⟨by rw [hU]; exact hP.sub [2] rfl, va_K.moved hW.alike hK, (hD.sub [2] (by decide) rfl).weaken (fun _ _ _ _ => trivial)⟩, trivial⟩) hl.1 rfl (Nat.le_of_ble_eq_true rfl) ⟨Nat.le_of_ble_eq_true rfl, Nat.le_of_ble_eq_true rfl⟩ ⟨Nat.le_of_ble_eq_true rfl, Nat.le_of_ble_eq_true rfl⟩ dX3_begin_14 hP hD hS [2] rfl (Eq.trans (b := [h2]) rfl rfl) (fun H locs hP hD hS => ?_)
  have hP : va_P D vwCl [(h0, .inr (1, [.ref h1, .ref h2, .ref h3, .ref h4])), (h1, .inl (cI, 18, .inl (f_J7_fill_53178_18_f va (-2147483648 : Int32)))), (h2, .inl (cI, 8, .inl (f_J7_fill_53178_8_f le (-1 : Int32)))), (h3, .inl (cJ, 2, .inr (.inl co))), (h4, .inl (cI, 2, .inl ct))] H := hP
  have hD : va_D A [(h0, .inr (1, [.ref h1, .ref h2, .ref h3, .ref h4])), (h1, .inl (cI, 18, .inl (f_J7_fill_53178_18_f va (-2147483648 : Int32)))), (h2, .inl (cI, 8, .inl (f_J7_fill_53178_8_f le (-1 : Int32)))), (h3, .inl (cJ, 2, .inr (.inl co))), (h4, .inl (cI, 2, .inl ct))] := hD
  refine W.eq (g2 := F0 m 17 ls []) rfl ?_
  refine lv_aload_n hx hb dX3_begin_17 rfl (lv_at hl 0 rfl) ?_
  refine va_get (D := D) (ci := 1) (v := .ref h3) (C := RX3) (T := TX3) (N := 4) hx hb htg inX3 hown hK hP 0 rfl rfl 2 (by decide) (htg _ fl_X3_18) (fun _ h9 => h9) rfl dX3_begin_18 ?_
  refine lv_ldc2 (v := (-1)) hx hb hown (htg _ ct_X3_32) dX3_begin_21 ?_
  refine wS (As := [.ref h3, .long (-1 : Int64)]) (rest := []) hx hb hml hown htg (c_J7_fill_d0a16 l D cI cJ cO h3 co (-1 : Int64)) (Blind.and Blind.b1 Blind.tt) ml_X3_34 st_J7_fill_d0a16 ini_J7 co_J7_fill_d0a16 dn_J7_fill_d0a16 rfl (fun U hU hW => ⟨⟨by rw [hU]; exact hP.sub [3] rfl, va_K.moved hW.alike hK, (hD.sub [3] (by decide) rfl).weaken (fun _ _ _ _ => trivial)⟩, trivial⟩) hl.1 rfl (Nat.le_of_ble_eq_true rfl) ⟨Nat.le_of_ble_eq_true rfl, Nat.le_of_ble_eq_true rfl⟩ ⟨Nat.le_of_ble_eq_true rfl, Nat.le_of_ble_eq_true rfl⟩ dX3_begin_24 hP hD hS [3] rfl (Eq.trans (b := [h3]) rfl rfl) (fun H locs hP hD hS => ?_)
  have hP : va_P D vwCl [(h0, .inr (1, [.ref h1, .ref h2, .ref h3, .ref h4])), (h1, .inl (cI, 18, .inl (f_J7_fill_53178_18_f va (-2147483648 : Int32)))), (h2, .inl (cI, 8, .inl (f_J7_fill_53178_8_f le (-1 : Int32)))), (h3, .inl (cJ, 2, .inr (.inl (f_J7_fill_d0a16_f co (-1 : Int64))))), (h4, .inl (cI, 2, .inl ct))] H := hP
  have hD : va_D A [(h0, .inr (1, [.ref h1, .ref h2, .ref h3, .ref h4])), (h1, .inl (cI, 18, .inl (f_J7_fill_53178_18_f va (-2147483648 : Int32)))), (h2, .inl (cI, 8, .inl (f_J7_fill_53178_8_f le (-1 : Int32)))), (h3, .inl (cJ, 2, .inr (.inl (f_J7_fill_d0a16_f co (-1 : Int64))))), (h4, .inl (cI, 2, .inl ct))] := hD
  refine W.eq (g2 := F0 m 27 ls []) rfl ?_
  refine lv_aload_n hx hb dX3_begin_27 rfl (lv_at hl 0 rfl) ?_
  refine va_get (D := D) (ci := 1) (v := .ref h1) (C := RX3) (T := TX3) (N := 4) hx hb htg inX3 hown hK hP 0 rfl rfl 0 (by decide) (htg _ fl_X3_9) (fun _ h9 => h9) rfl dX3_begin_28 ?_
  refine lv_iconst (v := 0) hx hb dX3_begin_31 (by decide) ?_
  refine lv_iload_n hx hb dX3_begin_32 rfl (lv_at hl 1 rfl) ?_
  refine va_iast' (j := 0) hx hb hK hP hD hS 1 0 rfl rfl (by unfold vp_in; decide) (by decide) dX3_begin_33 (fun H locs hP hD hS => ?_)
  have hP : va_P D vwCl [(h0, .inr (1, [.ref h1, .ref h2, .ref h3, .ref h4])), (h1, .inl (cI, 18, .inl (upd (f_J7_fill_53178_18_f va (-2147483648 : Int32)) 0 a0))), (h2, .inl (cI, 8, .inl (f_J7_fill_53178_8_f le (-1 : Int32)))), (h3, .inl (cJ, 2, .inr (.inl (f_J7_fill_d0a16_f co (-1 : Int64))))), (h4, .inl (cI, 2, .inl ct))] H := hP
  have hD : va_D A [(h0, .inr (1, [.ref h1, .ref h2, .ref h3, .ref h4])), (h1, .inl (cI, 18, .inl (upd (f_J7_fill_53178_18_f va (-2147483648 : Int32)) 0 a0))), (h2, .inl (cI, 8, .inl (f_J7_fill_53178_8_f le (-1 : Int32)))), (h3, .inl (cJ, 2, .inr (.inl (f_J7_fill_d0a16_f co (-1 : Int64))))), (h4, .inl (cI, 2, .inl ct))] := hD
  refine lv_aload_n hx hb dX3_begin_34 rfl (lv_at hl 0 rfl) ?_
  refine va_get (D := D) (ci := 1) (v := .ref h1) (C := RX3) (T := TX3) (N := 4) hx hb htg inX3 hown hK hP 0 rfl rfl 0 (by decide) (htg _ fl_X3_9) (fun _ h9 => h9) rfl dX3_begin_35 ?_
  refine lv_iconst (v := 2) hx hb dX3_begin_38 (by decide) ?_
  refine lv_iconst (v := 0) hx hb dX3_begin_39 (by decide) ?_
  refine va_iast' (j := 2) hx hb hK hP hD hS 1 0 rfl rfl (by unfold vp_in; decide) (by decide) dX3_begin_40 (fun H locs hP hD hS => ?_)
  have hP : va_P D vwCl [(h0, .inr (1, [.ref h1, .ref h2, .ref h3, .ref h4])), (h1, .inl (cI, 18, .inl (upd (upd (f_J7_fill_53178_18_f va (-2147483648 : Int32)) 0 a0) 2 (0 : Int32)))), (h2, .inl (cI, 8, .inl (f_J7_fill_53178_8_f le (-1 : Int32)))), (h3, .inl (cJ, 2, .inr (.inl (f_J7_fill_d0a16_f co (-1 : Int64))))), (h4, .inl (cI, 2, .inl ct))] H := hP
  have hD : va_D A [(h0, .inr (1, [.ref h1, .ref h2, .ref h3, .ref h4])), (h1, .inl (cI, 18, .inl (upd (upd (f_J7_fill_53178_18_f va (-2147483648 : Int32)) 0 a0) 2 (0 : Int32)))), (h2, .inl (cI, 8, .inl (f_J7_fill_53178_8_f le (-1 : Int32)))), (h3, .inl (cJ, 2, .inr (.inl (f_J7_fill_d0a16_f co (-1 : Int64))))), (h4, .inl (cI, 2, .inl ct))] := hD
  refine lv_aload_n hx hb dX3_begin_41 rfl (lv_at hl 0 rfl) ?_
  refine va_get (D := D) (ci := 1) (v := .ref h1) (C := RX3) (T := TX3) (N := 4) hx hb htg inX3 hown hK hP 0 rfl rfl 0 (by decide) (htg _ fl_X3_9) (fun _ h9 => h9) rfl dX3_begin_42 ?_
  refine lv_iconst (v := 3) hx hb dX3_begin_45 (by decide) ?_
  refine lv_iconst (v := 0) hx hb dX3_begin_46 (by decide) ?_
  refine va_iast' (j := 3) hx hb hK hP hD hS 1 0 rfl rfl (by unfold vp_in; decide) (by decide) dX3_begin_47 (fun H locs hP hD hS => ?_)
  have hP : va_P D vwCl [(h0, .inr (1, [.ref h1, .ref h2, .ref h3, .ref h4])), (h1, .inl (cI, 18, .inl (upd (upd (upd (f_J7_fill_53178_18_f va (-2147483648 : Int32)) 0 a0) 2 (0 : Int32)) 3 (0 : Int32)))), (h2, .inl (cI, 8, .inl (f_J7_fill_53178_8_f le (-1 : Int32)))), (h3, .inl (cJ, 2, .inr (.inl (f_J7_fill_d0a16_f co (-1 : Int64))))), (h4, .inl (cI, 2, .inl ct))] H := hP
  have hD : va_D A [(h0, .inr (1, [.ref h1, .ref h2, .ref h3, .ref h4])), (h1, .inl (cI, 18, .inl (upd (upd (upd (f_J7_fill_53178_18_f va (-2147483648 : Int32)) 0 a0) 2 (0 : Int32)) 3 (0 : Int32)))), (h2, .inl (cI, 8, .inl (f_J7_fill_53178_8_f le (-1 : Int32)))), (h3, .inl (cJ, 2, .inr (.inl (f_J7_fill_d0a16_f co (-1 : Int64))))), (h4, .inl (cI, 2, .inl ct))] := hD
  exact wr_v hx hb hr hlocks hA hS (hP.eq (by simp only [f_X3_begin_va, f_X3_begin_le, f_X3_begin_co])) dX3_begin_48

def f_X3_countFrame_va (va : Nat → Int32) (tr : Int32) (a1 : Int32) : Nat → Int32 := (if (f_X4_turnedBit tr) = (-1 : Int32) then (upd (upd va 1 a1) 2 (((upd va 1 a1) 2) + (1 : Int32))) else (upd (upd (upd va 1 a1) 2 (((upd va 1 a1) 2) + (1 : Int32))) 3 (((upd (upd va 1 a1) 2 (((upd va 1 a1) 2) + (1 : Int32))) 3) + (1 : Int32))))
set_option maxHeartbeats 4000000 in
set_option maxRecDepth 100000 in
theorem c_X3_countFrame (l : Launch) (D : va_G) (cI cJ cO : ClassId) (h0 : Nat) (h1 : Nat) (h2 : Nat) (h3 : Nat) (h4 : Nat) (va : Nat → Int32) (le : Nat → Int32) (co : Nat → Int64) (ct : Nat → Int32) (a0 : Nat) (g1 : Nat) (len : Int32) (tr : Int32) (w : Nat → Int32) (a1 : Int32) : Wr l yX3_countFrame cX3_countFrame 3 none 1 20 [.ref h0, .ref a0, .int a1] (fun U => B1 D cI cJ cO [(h0, .inr (1, [.ref h1, .ref h2, .ref h3, .ref h4])), (h1, .inl (cI, 18, .inl va)), (h2, .inl (cI, 8, .inl le)), (h3, .inl (cJ, 2, .inr (.inl co))), (h4, .inl (cI, 2, .inl ct)), (a0, .inr (2, [.ref g1, .int len, .int tr])), (g1, .inl (cI, 4, .inl w))] U ∧ True) D none [(h0, .inr (1, [.ref h1, .ref h2, .ref h3, .ref h4])), (h1, .inl (cI, 18, .inl va)), (h2, .inl (cI, 8, .inl le)), (h3, .inl (cJ, 2, .inr (.inl co))), (h4, .inl (cI, 2, .inl ct)), (a0, .inr (2, [.ref g1, .int len, .int tr])), (g1, .inl (cI, 4, .inl w))] [(h0, .inr (1, [.ref h1, .ref h2, .ref h3, .ref h4])), (h1, .inl (cI, 18, .inl (f_X3_countFrame_va va tr a1))), (h2, .inl (cI, 8, .inl le)), (h3, .inl (cJ, 2, .inr (.inl co))), (h4, .inl (cI, 2, .inl ct)), (a0, .inr (2, [.ref g1, .int len, .int tr])), (g1, .inl (cI, 4, .inl w))] := by
  refine Wr.of (by decide +kernel) (Nat.le_of_ble_eq_true rfl) ?_
  intro p e s m args below meth c hx hb hr hml hown htg hlocks A hA hP hK hD hX hS ls hl
  have hown : s.vm.findClass RX3 = some m.cls := hown
  have hl : lv_has ls 3 [(0, .ref h0), (1, .ref a0), (2, .int a1)] := hl
  refine lv_aload_n hx hb dX3_countFrame_0 rfl (lv_at hl 0 rfl) ?_
  refine va_get (D := D) (ci := 1) (v := .ref h1) (C := RX3) (T := TX3) (N := 4) hx hb htg inX3 hown hK hP 0 rfl rfl 0 (by decide) (htg _ fl_X3_9) (fun _ h9 => h9) rfl dX3_countFrame_1 ?_
  refine lv_iconst (v := 1) hx hb dX3_countFrame_4 (by decide) ?_
  refine lv_iload_n hx hb dX3_countFrame_5 rfl (lv_at hl 2 rfl) ?_
  refine va_iast' (j := 1) hx hb hK hP hD hS 1 0 rfl rfl (by unfold vp_in; decide) (by decide) dX3_countFrame_6 (fun H locs hP hD hS => ?_)
  have hP : va_P D vwCl [(h0, .inr (1, [.ref h1, .ref h2, .ref h3, .ref h4])), (h1, .inl (cI, 18, .inl (upd va 1 a1))), (h2, .inl (cI, 8, .inl le)), (h3, .inl (cJ, 2, .inr (.inl co))), (h4, .inl (cI, 2, .inl ct)), (a0, .inr (2, [.ref g1, .int len, .int tr])), (g1, .inl (cI, 4, .inl w))] H := hP
  have hD : va_D A [(h0, .inr (1, [.ref h1, .ref h2, .ref h3, .ref h4])), (h1, .inl (cI, 18, .inl (upd va 1 a1))), (h2, .inl (cI, 8, .inl le)), (h3, .inl (cJ, 2, .inr (.inl co))), (h4, .inl (cI, 2, .inl ct)), (a0, .inr (2, [.ref g1, .int len, .int tr])), (g1, .inl (cI, 4, .inl w))] := hD
  refine lv_aload_n hx hb dX3_countFrame_7 rfl (lv_at hl 0 rfl) ?_
  refine va_get (D := D) (ci := 1) (v := .ref h1) (C := RX3) (T := TX3) (N := 4) hx hb htg inX3 hown hK hP 0 rfl rfl 0 (by decide) (htg _ fl_X3_9) (fun _ h9 => h9) rfl dX3_countFrame_8 ?_
  refine lv_iconst (v := 2) hx hb dX3_countFrame_11 (by decide) ?_
  refine lv_dup2_11 hx hb dX3_countFrame_12 rfl rfl ?_
  refine va_iald' (v := ((upd va 1 a1) 2)) hx hb hK hP 1 0 rfl rfl (by unfold vp_in; decide) (congrArg (upd va 1 a1) (by decide)) dX3_countFrame_13 ?_
  refine lv_iconst (v := 1) hx hb dX3_countFrame_14 (by decide) ?_
  refine lv_iadd hx hb dX3_countFrame_15 ?_
  refine va_iast' (j := 2) hx hb hK hP hD hS 1 0 rfl rfl (by unfold vp_in; decide) (by decide) dX3_countFrame_16 (fun H locs hP hD hS => ?_)
  have hP : va_P D vwCl [(h0, .inr (1, [.ref h1, .ref h2, .ref h3, .ref h4])), (h1, .inl (cI, 18, .inl (upd (upd va 1 a1) 2 (((upd va 1 a1) 2) + (1 : Int32))))), (h2, .inl (cI, 8, .inl le)), (h3, .inl (cJ, 2, .inr (.inl co))), (h4, .inl (cI, 2, .inl ct)), (a0, .inr (2, [.ref g1, .int len, .int tr])), (g1, .inl (cI, 4, .inl w))] H := hP
  have hD : va_D A [(h0, .inr (1, [.ref h1, .ref h2, .ref h3, .ref h4])), (h1, .inl (cI, 18, .inl (upd (upd va 1 a1) 2 (((upd va 1 a1) 2) + (1 : Int32))))), (h2, .inl (cI, 8, .inl le)), (h3, .inl (cJ, 2, .inr (.inl co))), (h4, .inl (cI, 2, .inl ct)), (a0, .inr (2, [.ref g1, .int len, .int tr])), (g1, .inl (cI, 4, .inl w))] := hD
  refine lv_aload_n hx hb dX3_countFrame_17 rfl (lv_at hl 1 rfl) ?_
  refine rV (As := []) (rest := []) hx hb hml hown htg (c_X4_turnedBit l D cI cJ cO a0 g1 len tr w) Blind.b0 ml_X3_37 im_X4_turnedBit se_X4_turnedBit ini_X4 co_X4_turnedBit rfl dn_X4_turnedBit rfl (va_recv hK hP (ci := 2) (q0 := 5) rfl rfl) (fun U hU hW => ⟨by rw [hU]; exact hP.sub [5, 6] rfl, va_K.moved hW.alike hK⟩) hl.1 rfl (Nat.le_of_ble_eq_true rfl) ⟨Nat.le_of_ble_eq_true rfl, Nat.le_of_ble_eq_true rfl⟩ ⟨Nat.le_of_ble_eq_true rfl, Nat.le_of_ble_eq_true rfl⟩ dX3_countFrame_18 ?_
  refine lv_iconst (v := (-1)) hx hb dX3_countFrame_21 (by decide) ?_
  refine lv_icmp_eq (tgt := 35) hx hb dX3_countFrame_22 (by decide) (fun c_1 => ?_) (fun c_1 => ?_)
  · exact wr_v hx hb hr hlocks hA hS (hP.eq (by simp only [f_X3_countFrame_va, if_pos c_1])) dX3_countFrame_35
  · refine lv_aload_n hx hb dX3_countFrame_25 rfl (lv_at hl 0 rfl) ?_
    refine va_get (D := D) (ci := 1) (v := .ref h1) (C := RX3) (T := TX3) (N := 4) hx hb htg inX3 hown hK hP 0 rfl rfl 0 (by decide) (htg _ fl_X3_9) (fun _ h9 => h9) rfl dX3_countFrame_26 ?_
    refine lv_iconst (v := 3) hx hb dX3_countFrame_29 (by decide) ?_
    refine lv_dup2_11 hx hb dX3_countFrame_30 rfl rfl ?_
    refine va_iald' (v := ((upd (upd va 1 a1) 2 (((upd va 1 a1) 2) + (1 : Int32))) 3)) hx hb hK hP 1 0 rfl rfl (by unfold vp_in; decide) (congrArg (upd (upd va 1 a1) 2 (((upd va 1 a1) 2) + (1 : Int32))) (by decide)) dX3_countFrame_31 ?_
    refine lv_iconst (v := 1) hx hb dX3_countFrame_32 (by decide) ?_
    refine lv_iadd hx hb dX3_countFrame_33 ?_
    refine va_iast' (j := 3) hx hb hK hP hD hS 1 0 rfl rfl (by unfold vp_in; decide) (by decide) dX3_countFrame_34 (fun H locs hP hD hS => ?_)
    have hP : va_P D vwCl [(h0, .inr (1, [.ref h1, .ref h2, .ref h3, .ref h4])), (h1, .inl (cI, 18, .inl (upd (upd (upd va 1 a1) 2 (((upd va 1 a1) 2) + (1 : Int32))) 3 (((upd (upd va 1 a1) 2 (((upd va 1 a1) 2) + (1 : Int32))) 3) + (1 : Int32))))), (h2, .inl (cI, 8, .inl le)), (h3, .inl (cJ, 2, .inr (.inl co))), (h4, .inl (cI, 2, .inl ct)), (a0, .inr (2, [.ref g1, .int len, .int tr])), (g1, .inl (cI, 4, .inl w))] H := hP
    have hD : va_D A [(h0, .inr (1, [.ref h1, .ref h2, .ref h3, .ref h4])), (h1, .inl (cI, 18, .inl (upd (upd (upd va 1 a1) 2 (((upd va 1 a1) 2) + (1 : Int32))) 3 (((upd (upd va 1 a1) 2 (((upd va 1 a1) 2) + (1 : Int32))) 3) + (1 : Int32))))), (h2, .inl (cI, 8, .inl le)), (h3, .inl (cJ, 2, .inr (.inl co))), (h4, .inl (cI, 2, .inl ct)), (a0, .inr (2, [.ref g1, .int len, .int tr])), (g1, .inl (cI, 4, .inl w))] := hD
    exact wr_v hx hb hr hlocks hA hS (hP.eq (by simp only [f_X3_countFrame_va, if_neg c_1])) dX3_countFrame_35

def f_X3_learnReply_va (va : Nat → Int32) (w : Nat → Int32) (len : Int32) : Nat → Int32 := (if (f_X4_isOf w len (1114129 : Int32)) = 0 then (if (f_X4_isOf w len (2097184 : Int32)) = 0 then va else (upd va 5 (f_X1_squawk (f_X4_number w len (20 : Int32) (13 : Int32))))) else (if (f_X4_isOf w len (2097184 : Int32)) = 0 then (upd va 4 (f_X1_altitude (f_X4_number w len (20 : Int32) (13 : Int32)))) else (upd (upd va 4 (f_X1_altitude (f_X4_number w len (20 : Int32) (13 : Int32)))) 5 (f_X1_squawk (f_X4_number w len (20 : Int32) (13 : Int32))))))
set_option maxHeartbeats 4000000 in
set_option maxRecDepth 100000 in
theorem c_X3_learnReply (l : Launch) (D : va_G) (cI cJ cO : ClassId) (h0 : Nat) (h1 : Nat) (h2 : Nat) (h3 : Nat) (h4 : Nat) (va : Nat → Int32) (le : Nat → Int32) (co : Nat → Int64) (ct : Nat → Int32) (a0 : Nat) (g1 : Nat) (len : Int32) (tr : Int32) (w : Nat → Int32) (hlen : 0 ≤ len.toInt ∧ len.toInt ≤ 112) : Wr l yX3_learnReply cX3_learnReply 2 none 4 87 [.ref h0, .ref a0] (fun U => B1 D cI cJ cO [(h0, .inr (1, [.ref h1, .ref h2, .ref h3, .ref h4])), (h1, .inl (cI, 18, .inl va)), (h2, .inl (cI, 8, .inl le)), (h3, .inl (cJ, 2, .inr (.inl co))), (h4, .inl (cI, 2, .inl ct)), (a0, .inr (2, [.ref g1, .int len, .int tr])), (g1, .inl (cI, 4, .inl w))] U ∧ True) D none [(h0, .inr (1, [.ref h1, .ref h2, .ref h3, .ref h4])), (h1, .inl (cI, 18, .inl va)), (h2, .inl (cI, 8, .inl le)), (h3, .inl (cJ, 2, .inr (.inl co))), (h4, .inl (cI, 2, .inl ct)), (a0, .inr (2, [.ref g1, .int len, .int tr])), (g1, .inl (cI, 4, .inl w))] [(h0, .inr (1, [.ref h1, .ref h2, .ref h3, .ref h4])), (h1, .inl (cI, 18, .inl (f_X3_learnReply_va va w len))), (h2, .inl (cI, 8, .inl le)), (h3, .inl (cJ, 2, .inr (.inl co))), (h4, .inl (cI, 2, .inl ct)), (a0, .inr (2, [.ref g1, .int len, .int tr])), (g1, .inl (cI, 4, .inl w))] := by
  refine Wr.of (by decide +kernel) (Nat.le_of_ble_eq_true rfl) ?_
  intro p e s m args below meth c hx hb hr hml hown htg hlocks A hA hP hK hD hX hS ls hl
  have hown : s.vm.findClass RX3 = some m.cls := hown
  have hl : lv_has ls 2 [(0, .ref h0), (1, .ref a0)] := hl
  refine lv_aload_n hx hb dX3_learnReply_0 rfl (lv_at hl 1 rfl) ?_
  refine lv_ldc (v := 1114129) hx hb hown (htg _ ct_X3_43) dX3_learnReply_1 ?_
  refine rV (As := [.int (1114129 : Int32)]) (rest := []) hx hb hml hown htg (c_X4_isOf l D cI cJ cO a0 g1 len tr w (1114129 : Int32) hlen) Blind.b0 ml_X3_44 im_X4_isOf se_X4_isOf ini_X4 co_X4_isOf rfl dn_X4_isOf rfl (va_recv hK hP (ci := 2) (q0 := 5) rfl rfl) (fun U hU hW => ⟨by rw [hU]; exact hP.sub [5, 6] rfl, va_K.moved hW.alike hK⟩) hl.1 rfl (Nat.le_of_ble_eq_true rfl) ⟨Nat.le_of_ble_eq_true rfl, Nat.le_of_ble_eq_true rfl⟩ ⟨Nat.le_of_ble_eq_true rfl, Nat.le_of_ble_eq_true rfl⟩ dX3_learnReply_3 ?_
  refine lv_if_eq (tgt := 26) hx hb dX3_learnReply_6 (by decide) (fun c_1 => ?_) (fun c_1 => ?_)
  · refine lv_aload_n hx hb dX3_learnReply_26 rfl (lv_at hl 1 rfl) ?_
    refine lv_ldc (v := 2097184) hx hb hown (htg _ ct_X3_58) dX3_learnReply_27 ?_
    refine rV (As := [.int (2097184 : Int32)]) (rest := []) hx hb hml hown htg (c_X4_isOf l D cI cJ cO a0 g1 len tr w (2097184 : Int32) hlen) Blind.b0 ml_X3_44 im_X4_isOf se_X4_isOf ini_X4 co_X4_isOf rfl dn_X4_isOf rfl (va_recv hK hP (ci := 2) (q0 := 5) rfl rfl) (fun U hU hW => ⟨by rw [hU]; exact hP.sub [5, 6] rfl, va_K.moved hW.alike hK⟩) hl.1 rfl (Nat.le_of_ble_eq_true rfl) ⟨Nat.le_of_ble_eq_true rfl, Nat.le_of_ble_eq_true rfl⟩ ⟨Nat.le_of_ble_eq_true rfl, Nat.le_of_ble_eq_true rfl⟩ dX3_learnReply_29 ?_
    refine lv_if_eq (tgt := 52) hx hb dX3_learnReply_32 (by decide) (fun c_2 => ?_) (fun c_2 => ?_)
    · exact wr_v hx hb hr hlocks hA hS (hP.eq (by simp only [f_X3_learnReply_va, if_pos c_1, if_pos c_2])) dX3_learnReply_52
    · refine lv_aload_n hx hb dX3_learnReply_35 rfl (lv_at hl 0 rfl) ?_
      refine va_get (D := D) (ci := 1) (v := .ref h1) (C := RX3) (T := TX3) (N := 4) hx hb htg inX3 hown hK hP 0 rfl rfl 0 (by decide) (htg _ fl_X3_9) (fun _ h9 => h9) rfl dX3_learnReply_36 ?_
      refine lv_iconst (v := 5) hx hb dX3_learnReply_39 (by decide) ?_
      refine lv_aload_n hx hb dX3_learnReply_40 rfl (lv_at hl 1 rfl) ?_
      refine lv_bipush (v := 20) hx hb dX3_learnReply_41 (by decide) ?_
      refine lv_bipush (v := 13) hx hb dX3_learnReply_43 (by decide) ?_
      refine rV (As := [.int (20 : Int32), .int (13 : Int32)]) (rest := [.int (5 : Int32), .ref h1]) hx hb hml hown htg (c_X4_number l D cI cJ cO a0 g1 len tr w (20 : Int32) (13 : Int32) hlen) Blind.b0 ml_X3_48 im_X4_number se_X4_number ini_X4 co_X4_number rfl dn_X4_number rfl (va_recv hK hP (ci := 2) (q0 := 5) rfl rfl) (fun U hU hW => ⟨by rw [hU]; exact hP.sub [5, 6] rfl, va_K.moved hW.alike hK⟩) hl.1 rfl (Nat.le_of_ble_eq_true rfl) ⟨Nat.le_of_ble_eq_true rfl, Nat.le_of_ble_eq_true rfl⟩ ⟨Nat.le_of_ble_eq_true rfl, Nat.le_of_ble_eq_true rfl⟩ dX3_learnReply_45 ?_
      refine rS (As := [.int (f_X4_number w len (20 : Int32) (13 : Int32))]) (rest := [.int (5 : Int32), .ref h1]) hx hb hml hown htg (c_X1_squawk l (f_X4_number w len (20 : Int32) (13 : Int32))) Blind.tt ml_X3_59 st_X1_squawk ini_X1 co_X1_squawk dn_X1_squawk rfl (fun _ _ _ => trivial) hl.1 rfl (Nat.le_of_ble_eq_true rfl) ⟨Nat.le_of_ble_eq_true rfl, Nat.le_of_ble_eq_true rfl⟩ ⟨Nat.le_of_ble_eq_true rfl, Nat.le_of_ble_eq_true rfl⟩ dX3_learnReply_48 ?_
      refine va_iast' (j := 5) hx hb hK hP hD hS 1 0 rfl rfl (by unfold vp_in; decide) (by decide) dX3_learnReply_51 (fun H locs hP hD hS => ?_)
      have hP : va_P D vwCl [(h0, .inr (1, [.ref h1, .ref h2, .ref h3, .ref h4])), (h1, .inl (cI, 18, .inl (upd va 5 (f_X1_squawk (f_X4_number w len (20 : Int32) (13 : Int32)))))), (h2, .inl (cI, 8, .inl le)), (h3, .inl (cJ, 2, .inr (.inl co))), (h4, .inl (cI, 2, .inl ct)), (a0, .inr (2, [.ref g1, .int len, .int tr])), (g1, .inl (cI, 4, .inl w))] H := hP
      have hD : va_D A [(h0, .inr (1, [.ref h1, .ref h2, .ref h3, .ref h4])), (h1, .inl (cI, 18, .inl (upd va 5 (f_X1_squawk (f_X4_number w len (20 : Int32) (13 : Int32)))))), (h2, .inl (cI, 8, .inl le)), (h3, .inl (cJ, 2, .inr (.inl co))), (h4, .inl (cI, 2, .inl ct)), (a0, .inr (2, [.ref g1, .int len, .int tr])), (g1, .inl (cI, 4, .inl w))] := hD
      exact wr_v hx hb hr hlocks hA hS (hP.eq (by simp only [f_X3_learnReply_va, if_pos c_1, if_neg c_2])) dX3_learnReply_52
  · refine lv_aload_n hx hb dX3_learnReply_9 rfl (lv_at hl 0 rfl) ?_
    refine va_get (D := D) (ci := 1) (v := .ref h1) (C := RX3) (T := TX3) (N := 4) hx hb htg inX3 hown hK hP 0 rfl rfl 0 (by decide) (htg _ fl_X3_9) (fun _ h9 => h9) rfl dX3_learnReply_10 ?_
    refine lv_iconst (v := 4) hx hb dX3_learnReply_13 (by decide) ?_
    refine lv_aload_n hx hb dX3_learnReply_14 rfl (lv_at hl 1 rfl) ?_
    refine lv_bipush (v := 20) hx hb dX3_learnReply_15 (by decide) ?_
    refine lv_bipush (v := 13) hx hb dX3_learnReply_17 (by decide) ?_
    refine rV (As := [.int (20 : Int32), .int (13 : Int32)]) (rest := [.int (4 : Int32), .ref h1]) hx hb hml hown htg (c_X4_number l D cI cJ cO a0 g1 len tr w (20 : Int32) (13 : Int32) hlen) Blind.b0 ml_X3_48 im_X4_number se_X4_number ini_X4 co_X4_number rfl dn_X4_number rfl (va_recv hK hP (ci := 2) (q0 := 5) rfl rfl) (fun U hU hW => ⟨by rw [hU]; exact hP.sub [5, 6] rfl, va_K.moved hW.alike hK⟩) hl.1 rfl (Nat.le_of_ble_eq_true rfl) ⟨Nat.le_of_ble_eq_true rfl, Nat.le_of_ble_eq_true rfl⟩ ⟨Nat.le_of_ble_eq_true rfl, Nat.le_of_ble_eq_true rfl⟩ dX3_learnReply_19 ?_
    refine rS (As := [.int (f_X4_number w len (20 : Int32) (13 : Int32))]) (rest := [.int (4 : Int32), .ref h1]) hx hb hml hown htg (c_X1_altitude l (f_X4_number w len (20 : Int32) (13 : Int32))) Blind.tt ml_X3_52 st_X1_altitude ini_X1 co_X1_altitude dn_X1_altitude rfl (fun _ _ _ => trivial) hl.1 rfl (Nat.le_of_ble_eq_true rfl) ⟨Nat.le_of_ble_eq_true rfl, Nat.le_of_ble_eq_true rfl⟩ ⟨Nat.le_of_ble_eq_true rfl, Nat.le_of_ble_eq_true rfl⟩ dX3_learnReply_22 ?_
    refine va_iast' (j := 4) hx hb hK hP hD hS 1 0 rfl rfl (by unfold vp_in; decide) (by decide) dX3_learnReply_25 (fun H locs hP hD hS => ?_)
    have hP : va_P D vwCl [(h0, .inr (1, [.ref h1, .ref h2, .ref h3, .ref h4])), (h1, .inl (cI, 18, .inl (upd va 4 (f_X1_altitude (f_X4_number w len (20 : Int32) (13 : Int32)))))), (h2, .inl (cI, 8, .inl le)), (h3, .inl (cJ, 2, .inr (.inl co))), (h4, .inl (cI, 2, .inl ct)), (a0, .inr (2, [.ref g1, .int len, .int tr])), (g1, .inl (cI, 4, .inl w))] H := hP
    have hD : va_D A [(h0, .inr (1, [.ref h1, .ref h2, .ref h3, .ref h4])), (h1, .inl (cI, 18, .inl (upd va 4 (f_X1_altitude (f_X4_number w len (20 : Int32) (13 : Int32)))))), (h2, .inl (cI, 8, .inl le)), (h3, .inl (cJ, 2, .inr (.inl co))), (h4, .inl (cI, 2, .inl ct)), (a0, .inr (2, [.ref g1, .int len, .int tr])), (g1, .inl (cI, 4, .inl w))] := hD
    refine lv_aload_n hx hb dX3_learnReply_26 rfl (lv_at hl 1 rfl) ?_
    refine lv_ldc (v := 2097184) hx hb hown (htg _ ct_X3_58) dX3_learnReply_27 ?_
    refine rV (As := [.int (2097184 : Int32)]) (rest := []) hx hb hml hown htg (c_X4_isOf l D cI cJ cO a0 g1 len tr w (2097184 : Int32) hlen) Blind.b0 ml_X3_44 im_X4_isOf se_X4_isOf ini_X4 co_X4_isOf rfl dn_X4_isOf rfl (va_recv hK hP (ci := 2) (q0 := 5) rfl rfl) (fun U hU hW => ⟨by rw [hU]; exact hP.sub [5, 6] rfl, va_K.moved hW.alike hK⟩) hl.1 rfl (Nat.le_of_ble_eq_true rfl) ⟨Nat.le_of_ble_eq_true rfl, Nat.le_of_ble_eq_true rfl⟩ ⟨Nat.le_of_ble_eq_true rfl, Nat.le_of_ble_eq_true rfl⟩ dX3_learnReply_29 ?_
    refine lv_if_eq (tgt := 52) hx hb dX3_learnReply_32 (by decide) (fun c_3 => ?_) (fun c_3 => ?_)
    · exact wr_v hx hb hr hlocks hA hS (hP.eq (by simp only [f_X3_learnReply_va, if_neg c_1, if_pos c_3])) dX3_learnReply_52
    · refine lv_aload_n hx hb dX3_learnReply_35 rfl (lv_at hl 0 rfl) ?_
      refine va_get (D := D) (ci := 1) (v := .ref h1) (C := RX3) (T := TX3) (N := 4) hx hb htg inX3 hown hK hP 0 rfl rfl 0 (by decide) (htg _ fl_X3_9) (fun _ h9 => h9) rfl dX3_learnReply_36 ?_
      refine lv_iconst (v := 5) hx hb dX3_learnReply_39 (by decide) ?_
      refine lv_aload_n hx hb dX3_learnReply_40 rfl (lv_at hl 1 rfl) ?_
      refine lv_bipush (v := 20) hx hb dX3_learnReply_41 (by decide) ?_
      refine lv_bipush (v := 13) hx hb dX3_learnReply_43 (by decide) ?_
      refine rV (As := [.int (20 : Int32), .int (13 : Int32)]) (rest := [.int (5 : Int32), .ref h1]) hx hb hml hown htg (c_X4_number l D cI cJ cO a0 g1 len tr w (20 : Int32) (13 : Int32) hlen) Blind.b0 ml_X3_48 im_X4_number se_X4_number ini_X4 co_X4_number rfl dn_X4_number rfl (va_recv hK hP (ci := 2) (q0 := 5) rfl rfl) (fun U hU hW => ⟨by rw [hU]; exact hP.sub [5, 6] rfl, va_K.moved hW.alike hK⟩) hl.1 rfl (Nat.le_of_ble_eq_true rfl) ⟨Nat.le_of_ble_eq_true rfl, Nat.le_of_ble_eq_true rfl⟩ ⟨Nat.le_of_ble_eq_true rfl, Nat.le_of_ble_eq_true rfl⟩ dX3_learnReply_45 ?_
      refine rS (As := [.int (f_X4_number w len (20 : Int32) (13 : Int32))]) (rest := [.int (5 : Int32), .ref h1]) hx hb hml hown htg (c_X1_squawk l (f_X4_number w len (20 : Int32) (13 : Int32))) Blind.tt ml_X3_59 st_X1_squawk ini_X1 co_X1_squawk dn_X1_squawk rfl (fun _ _ _ => trivial) hl.1 rfl (Nat.le_of_ble_eq_true rfl) ⟨Nat.le_of_ble_eq_true rfl, Nat.le_of_ble_eq_true rfl⟩ ⟨Nat.le_of_ble_eq_true rfl, Nat.le_of_ble_eq_true rfl⟩ dX3_learnReply_48 ?_
      refine va_iast' (j := 5) hx hb hK hP hD hS 1 0 rfl rfl (by unfold vp_in; decide) (by decide) dX3_learnReply_51 (fun H locs hP hD hS => ?_)
      have hP : va_P D vwCl [(h0, .inr (1, [.ref h1, .ref h2, .ref h3, .ref h4])), (h1, .inl (cI, 18, .inl (upd (upd va 4 (f_X1_altitude (f_X4_number w len (20 : Int32) (13 : Int32)))) 5 (f_X1_squawk (f_X4_number w len (20 : Int32) (13 : Int32)))))), (h2, .inl (cI, 8, .inl le)), (h3, .inl (cJ, 2, .inr (.inl co))), (h4, .inl (cI, 2, .inl ct)), (a0, .inr (2, [.ref g1, .int len, .int tr])), (g1, .inl (cI, 4, .inl w))] H := hP
      have hD : va_D A [(h0, .inr (1, [.ref h1, .ref h2, .ref h3, .ref h4])), (h1, .inl (cI, 18, .inl (upd (upd va 4 (f_X1_altitude (f_X4_number w len (20 : Int32) (13 : Int32)))) 5 (f_X1_squawk (f_X4_number w len (20 : Int32) (13 : Int32)))))), (h2, .inl (cI, 8, .inl le)), (h3, .inl (cJ, 2, .inr (.inl co))), (h4, .inl (cI, 2, .inl ct)), (a0, .inr (2, [.ref g1, .int len, .int tr])), (g1, .inl (cI, 4, .inl w))] := hD
      exact wr_v hx hb hr hlocks hA hS (hP.eq (by simp only [f_X3_learnReply_va, if_neg c_1, if_neg c_3])) dX3_learnReply_52

def f_X3_isOdd (w : Nat → Int32) (len : Int32) : Int32 := (if (f_X4_message w len (22 : Int32) (22 : Int32)) = (1 : Int32) then (1 : Int32) else (0 : Int32))
set_option maxHeartbeats 4000000 in
set_option maxRecDepth 100000 in
theorem c_X3_isOdd (l : Launch) (D : va_G) (cI cJ cO : ClassId) (a0 : Nat) (g1 : Nat) (len : Int32) (tr : Int32) (w : Nat → Int32) (hlen : 0 ≤ len.toInt ∧ len.toInt ≤ 112) : Rd l yX3_isOdd cX3_isOdd 1 (some .boolean) 3 68 [.ref a0] (fun U => B0 D cI cJ cO [(a0, .inr (2, [.ref g1, .int len, .int tr])), (g1, .inl (cI, 4, .inl w))] U) (some (.int (f_X3_isOdd w len))) := by
  refine Rd.of (by decide +kernel) (Nat.le_of_ble_eq_true rfl) ?_
  intro p e s m args below meth c hx hb hr hml hown htg hlocks hB ls hl
  obtain ⟨hP, hK⟩ := hB
  have hP : va_P D vwCl [(a0, .inr (2, [.ref g1, .int len, .int tr])), (g1, .inl (cI, 4, .inl w))] s.heap := hP
  have hown : s.vm.findClass RX3 = some m.cls := hown
  have hl : lv_has ls 1 [(0, .ref a0)] := hl
  refine lv_aload_n hx hb dX3_isOdd_0 rfl (lv_at hl 0 rfl) ?_
  refine lv_bipush (v := 22) hx hb dX3_isOdd_1 (by decide) ?_
  refine lv_bipush (v := 22) hx hb dX3_isOdd_3 (by decide) ?_
  refine rV (As := [.int (22 : Int32), .int (22 : Int32)]) (rest := []) hx hb hml hown htg (c_X4_message l D cI cJ cO a0 g1 len tr w (22 : Int32) (22 : Int32) hlen) Blind.b0 ml_X3_63 im_X4_message se_X4_message ini_X4 co_X4_message rfl dn_X4_message rfl (va_recv hK hP (ci := 2) (q0 := 0) rfl rfl) (fun U hU hW => ⟨by rw [hU]; exact hP, va_K.moved hW.alike hK⟩) hl.1 rfl (Nat.le_of_ble_eq_true rfl) ⟨Nat.le_of_ble_eq_true rfl, Nat.le_of_ble_eq_true rfl⟩ ⟨Nat.le_of_ble_eq_true rfl, Nat.le_of_ble_eq_true rfl⟩ dX3_isOdd_5 ?_
  refine lv_iconst (v := 1) hx hb dX3_isOdd_8 (by decide) ?_
  refine lv_icmp_ne (tgt := 16) hx hb dX3_isOdd_9 (by decide) (fun c_1 => ?_) (fun c_1 => ?_)
  · refine lv_iconst (v := 0) hx hb dX3_isOdd_16 (by decide) ?_
    exact rd_z hx hb hr hlocks (by decide) (by simp only [f_X3_isOdd, if_neg c_1]) dX3_isOdd_17
  · refine lv_iconst (v := 1) hx hb dX3_isOdd_12 (by decide) ?_
    refine lv_goto (tgt := 17) hx hb dX3_isOdd_13 (by decide) ?_
    exact rd_z hx hb hr hlocks (by decide) (by simp only [f_X3_isOdd, if_pos c_1]) dX3_isOdd_17

def f_X3_codeIn (w : Nat → Int32) (len : Int32) : Int64 := (((131072 : Int64) * (f_X4_message w len (23 : Int32) (39 : Int32)).toInt64) + (f_X4_message w len (40 : Int32) (56 : Int32)).toInt64)
set_option maxHeartbeats 4000000 in
set_option maxRecDepth 100000 in
theorem c_X3_codeIn (l : Launch) (D : va_G) (cI cJ cO : ClassId) (a0 : Nat) (g1 : Nat) (len : Int32) (tr : Int32) (w : Nat → Int32) (hlen : 0 ≤ len.toInt ∧ len.toInt ≤ 112) : Rd l yX3_codeIn cX3_codeIn 1 (some .long) 3 68 [.ref a0] (fun U => B0 D cI cJ cO [(a0, .inr (2, [.ref g1, .int len, .int tr])), (g1, .inl (cI, 4, .inl w))] U) (some (.long (f_X3_codeIn w len))) := by
  refine Rd.of (by decide +kernel) (Nat.le_of_ble_eq_true rfl) ?_
  intro p e s m args below meth c hx hb hr hml hown htg hlocks hB ls hl
  obtain ⟨hP, hK⟩ := hB
  have hP : va_P D vwCl [(a0, .inr (2, [.ref g1, .int len, .int tr])), (g1, .inl (cI, 4, .inl w))] s.heap := hP
  have hown : s.vm.findClass RX3 = some m.cls := hown
  have hl : lv_has ls 1 [(0, .ref a0)] := hl
  refine lv_ldc2 (v := 131072) hx hb hown (htg _ ct_X3_140) dX3_codeIn_0 ?_
  refine lv_aload_n hx hb dX3_codeIn_3 rfl (lv_at hl 0 rfl) ?_
  refine lv_bipush (v := 23) hx hb dX3_codeIn_4 (by decide) ?_
  refine lv_bipush (v := 39) hx hb dX3_codeIn_6 (by decide) ?_
  refine rV (As := [.int (23 : Int32), .int (39 : Int32)]) (rest := [.long (131072 : Int64)]) hx hb hml hown htg (c_X4_message l D cI cJ cO a0 g1 len tr w (23 : Int32) (39 : Int32) hlen) Blind.b0 ml_X3_63 im_X4_message se_X4_message ini_X4 co_X4_message rfl dn_X4_message rfl (va_recv hK hP (ci := 2) (q0 := 0) rfl rfl) (fun U hU hW => ⟨by rw [hU]; exact hP, va_K.moved hW.alike hK⟩) hl.1 rfl (Nat.le_of_ble_eq_true rfl) ⟨Nat.le_of_ble_eq_true rfl, Nat.le_of_ble_eq_true rfl⟩ ⟨Nat.le_of_ble_eq_true rfl, Nat.le_of_ble_eq_true rfl⟩ dX3_codeIn_8 ?_
  refine lv_i2l (v := (f_X4_message w len (23 : Int32) (39 : Int32)).toInt64) hx hb dX3_codeIn_11 rfl ?_
  refine lv_lmul hx hb dX3_codeIn_12 ?_
  refine lv_aload_n hx hb dX3_codeIn_13 rfl (lv_at hl 0 rfl) ?_
  refine lv_bipush (v := 40) hx hb dX3_codeIn_14 (by decide) ?_
  refine lv_bipush (v := 56) hx hb dX3_codeIn_16 (by decide) ?_
  refine rV (As := [.int (40 : Int32), .int (56 : Int32)]) (rest := [.long ((131072 : Int64) * (f_X4_message w len (23 : Int32) (39 : Int32)).toInt64)]) hx hb hml hown htg (c_X4_message l D cI cJ cO a0 g1 len tr w (40 : Int32) (56 : Int32) hlen) Blind.b0 ml_X3_63 im_X4_message se_X4_message ini_X4 co_X4_message rfl dn_X4_message rfl (va_recv hK hP (ci := 2) (q0 := 0) rfl rfl) (fun U hU hW => ⟨by rw [hU]; exact hP, va_K.moved hW.alike hK⟩) hl.1 rfl (Nat.le_of_ble_eq_true rfl) ⟨Nat.le_of_ble_eq_true rfl, Nat.le_of_ble_eq_true rfl⟩ ⟨Nat.le_of_ble_eq_true rfl, Nat.le_of_ble_eq_true rfl⟩ dX3_codeIn_18 ?_
  refine lv_i2l (v := (f_X4_message w len (40 : Int32) (56 : Int32)).toInt64) hx hb dX3_codeIn_21 rfl ?_
  refine lv_ladd hx hb dX3_codeIn_22 ?_
  exact rd_l hx hb hr hlocks (by simp only [f_X3_codeIn]) dX3_codeIn_23

def f_X3_hasFreshPlace (va : Nat → Int32) (a0 : Int32) : Int32 := (if (va 17) = (-2147483648 : Int32) then (0 : Int32) else (if (300 : Int32) < (a0 - (va 17)) then (0 : Int32) else (1 : Int32)))
set_option maxHeartbeats 4000000 in
set_option maxRecDepth 100000 in
theorem c_X3_hasFreshPlace (l : Launch) (D : va_G) (cI cJ cO : ClassId) (h0 : Nat) (h1 : Nat) (h2 : Nat) (h3 : Nat) (h4 : Nat) (va : Nat → Int32) (le : Nat → Int32) (co : Nat → Int64) (ct : Nat → Int32) (a0 : Int32) : Rd l yX3_hasFreshPlace cX3_hasFreshPlace 2 (some .boolean) 0 0 [.ref h0, .int a0] (fun U => B0 D cI cJ cO [(h0, .inr (1, [.ref h1, .ref h2, .ref h3, .ref h4])), (h1, .inl (cI, 18, .inl va)), (h2, .inl (cI, 8, .inl le)), (h3, .inl (cJ, 2, .inr (.inl co))), (h4, .inl (cI, 2, .inl ct))] U) (some (.int (f_X3_hasFreshPlace va a0))) := by
  refine Rd.of (by decide +kernel) (Nat.le_of_ble_eq_true rfl) ?_
  intro p e s m args below meth c hx hb hr hml hown htg hlocks hB ls hl
  obtain ⟨hP, hK⟩ := hB
  have hP : va_P D vwCl [(h0, .inr (1, [.ref h1, .ref h2, .ref h3, .ref h4])), (h1, .inl (cI, 18, .inl va)), (h2, .inl (cI, 8, .inl le)), (h3, .inl (cJ, 2, .inr (.inl co))), (h4, .inl (cI, 2, .inl ct))] s.heap := hP
  have hown : s.vm.findClass RX3 = some m.cls := hown
  have hl : lv_has ls 2 [(0, .ref h0), (1, .int a0)] := hl
  refine lv_aload_n hx hb dX3_hasFreshPlace_0 rfl (lv_at hl 0 rfl) ?_
  refine va_get (D := D) (ci := 1) (v := .ref h1) (C := RX3) (T := TX3) (N := 4) hx hb htg inX3 hown hK hP 0 rfl rfl 0 (by decide) (htg _ fl_X3_9) (fun _ h9 => h9) rfl dX3_hasFreshPlace_1 ?_
  refine lv_bipush (v := 17) hx hb dX3_hasFreshPlace_4 (by decide) ?_
  refine va_iald' (v := (va 17)) hx hb hK hP 1 0 rfl rfl (by unfold vp_in; decide) (congrArg va (by decide)) dX3_hasFreshPlace_6 ?_
  refine lv_ldc (v := (-2147483648)) hx hb hown (htg _ ct_X3_25) dX3_hasFreshPlace_7 ?_
  refine lv_icmp_eq (tgt := 31) hx hb dX3_hasFreshPlace_9 (by decide) (fun c_1 => ?_) (fun c_1 => ?_)
  · refine lv_iconst (v := 0) hx hb dX3_hasFreshPlace_31 (by decide) ?_
    exact rd_z hx hb hr hlocks (by decide) (by simp only [f_X3_hasFreshPlace, if_pos c_1]) dX3_hasFreshPlace_32
  · refine lv_iload_n hx hb dX3_hasFreshPlace_12 rfl (lv_at hl 1 rfl) ?_
    refine lv_aload_n hx hb dX3_hasFreshPlace_13 rfl (lv_at hl 0 rfl) ?_
    refine va_get (D := D) (ci := 1) (v := .ref h1) (C := RX3) (T := TX3) (N := 4) hx hb htg inX3 hown hK hP 0 rfl rfl 0 (by decide) (htg _ fl_X3_9) (fun _ h9 => h9) rfl dX3_hasFreshPlace_14 ?_
    refine lv_bipush (v := 17) hx hb dX3_hasFreshPlace_17 (by decide) ?_
    refine va_iald' (v := (va 17)) hx hb hK hP 1 0 rfl rfl (by unfold vp_in; decide) (congrArg va (by decide)) dX3_hasFreshPlace_19 ?_
    refine lv_isub hx hb dX3_hasFreshPlace_20 ?_
    refine lv_sipush (v := 300) hx hb dX3_hasFreshPlace_21 (by decide) ?_
    refine lv_icmp_gt (tgt := 31) hx hb dX3_hasFreshPlace_24 (by decide) (fun c_2 => ?_) (fun c_2 => ?_)
    · refine lv_iconst (v := 0) hx hb dX3_hasFreshPlace_31 (by decide) ?_
      exact rd_z hx hb hr hlocks (by decide) (by simp only [f_X3_hasFreshPlace, if_neg c_1, if_pos c_2]) dX3_hasFreshPlace_32
    · refine lv_iconst (v := 1) hx hb dX3_hasFreshPlace_27 (by decide) ?_
      refine lv_goto (tgt := 32) hx hb dX3_hasFreshPlace_28 (by decide) ?_
      exact rd_z hx hb hr hlocks (by decide) (by simp only [f_X3_hasFreshPlace, if_neg c_1, if_neg c_2]) dX3_hasFreshPlace_32

def f_X3_lastPlace (va : Nat → Int32) : Int64 := (f_X2_pack (va 15).toInt64 (va 16).toInt64)
set_option maxHeartbeats 4000000 in
set_option maxRecDepth 100000 in
theorem c_X3_lastPlace (l : Launch) (D : va_G) (cI cJ cO : ClassId) (h0 : Nat) (h1 : Nat) (h2 : Nat) (h3 : Nat) (h4 : Nat) (va : Nat → Int32) (le : Nat → Int32) (co : Nat → Int64) (ct : Nat → Int32) : Rd l yX3_lastPlace cX3_lastPlace 1 (some .long) 1 23 [.ref h0] (fun U => B0 D cI cJ cO [(h0, .inr (1, [.ref h1, .ref h2, .ref h3, .ref h4])), (h1, .inl (cI, 18, .inl va)), (h2, .inl (cI, 8, .inl le)), (h3, .inl (cJ, 2, .inr (.inl co))), (h4, .inl (cI, 2, .inl ct))] U) (some (.long (f_X3_lastPlace va))) := by
  refine Rd.of (by decide +kernel) (Nat.le_of_ble_eq_true rfl) ?_
  intro p e s m args below meth c hx hb hr hml hown htg hlocks hB ls hl
  obtain ⟨hP, hK⟩ := hB
  have hP : va_P D vwCl [(h0, .inr (1, [.ref h1, .ref h2, .ref h3, .ref h4])), (h1, .inl (cI, 18, .inl va)), (h2, .inl (cI, 8, .inl le)), (h3, .inl (cJ, 2, .inr (.inl co))), (h4, .inl (cI, 2, .inl ct))] s.heap := hP
  have hown : s.vm.findClass RX3 = some m.cls := hown
  have hl : lv_has ls 1 [(0, .ref h0)] := hl
  refine lv_aload_n hx hb dX3_lastPlace_0 rfl (lv_at hl 0 rfl) ?_
  refine va_get (D := D) (ci := 1) (v := .ref h1) (C := RX3) (T := TX3) (N := 4) hx hb htg inX3 hown hK hP 0 rfl rfl 0 (by decide) (htg _ fl_X3_9) (fun _ h9 => h9) rfl dX3_lastPlace_1 ?_
  refine lv_bipush (v := 15) hx hb dX3_lastPlace_4 (by decide) ?_
  refine va_iald' (v := (va 15)) hx hb hK hP 1 0 rfl rfl (by unfold vp_in; decide) (congrArg va (by decide)) dX3_lastPlace_6 ?_
  refine lv_i2l (v := (va 15).toInt64) hx hb dX3_lastPlace_7 rfl ?_
  refine lv_aload_n hx hb dX3_lastPlace_8 rfl (lv_at hl 0 rfl) ?_
  refine va_get (D := D) (ci := 1) (v := .ref h1) (C := RX3) (T := TX3) (N := 4) hx hb htg inX3 hown hK hP 0 rfl rfl 0 (by decide) (htg _ fl_X3_9) (fun _ h9 => h9) rfl dX3_lastPlace_9 ?_
  refine lv_bipush (v := 16) hx hb dX3_lastPlace_12 (by decide) ?_
  refine va_iald' (v := (va 16)) hx hb hK hP 1 0 rfl rfl (by unfold vp_in; decide) (congrArg va (by decide)) dX3_lastPlace_14 ?_
  refine lv_i2l (v := (va 16).toInt64) hx hb dX3_lastPlace_15 rfl ?_
  refine rS (As := [.long (va 15).toInt64, .long (va 16).toInt64]) (rest := []) hx hb hml hown htg (c_X2_pack l (va 15).toInt64 (va 16).toInt64) Blind.tt ml_X3_129 st_X2_pack ini_X2 co_X2_pack dn_X2_pack rfl (fun _ _ _ => trivial) hl.1 rfl (Nat.le_of_ble_eq_true rfl) ⟨Nat.le_of_ble_eq_true rfl, Nat.le_of_ble_eq_true rfl⟩ ⟨Nat.le_of_ble_eq_true rfl, Nat.le_of_ble_eq_true rfl⟩ dX3_lastPlace_16 ?_
  exact rd_l hx hb hr hlocks (by simp only [f_X3_lastPlace]) dX3_lastPlace_19

def f_X3_keepPlace_va (va : Nat → Int32) (a0 : Int64) (a1 : Int32) : Nat → Int32 := (if a0 = (-9223372036854775808 : Int64) then va else (upd (upd (upd va 15 (f_X2_latitudeOf a0)) 16 (f_X2_longitudeOf a0)) 17 a1))
set_option maxHeartbeats 4000000 in
set_option maxRecDepth 100000 in
theorem c_X3_keepPlace (l : Launch) (D : va_G) (cI cJ cO : ClassId) (h0 : Nat) (h1 : Nat) (h2 : Nat) (h3 : Nat) (h4 : Nat) (va : Nat → Int32) (le : Nat → Int32) (co : Nat → Int64) (ct : Nat → Int32) (a0 : Int64) (a1 : Int32) : Wr l yX3_keepPlace cX3_keepPlace 4 none 1 21 [.ref h0, .long a0, .int a1] (fun U => B1 D cI cJ cO [(h0, .inr (1, [.ref h1, .ref h2, .ref h3, .ref h4])), (h1, .inl (cI, 18, .inl va)), (h2, .inl (cI, 8, .inl le)), (h3, .inl (cJ, 2, .inr (.inl co))), (h4, .inl (cI, 2, .inl ct))] U ∧ True) D none [(h0, .inr (1, [.ref h1, .ref h2, .ref h3, .ref h4])), (h1, .inl (cI, 18, .inl va)), (h2, .inl (cI, 8, .inl le)), (h3, .inl (cJ, 2, .inr (.inl co))), (h4, .inl (cI, 2, .inl ct))] [(h0, .inr (1, [.ref h1, .ref h2, .ref h3, .ref h4])), (h1, .inl (cI, 18, .inl (f_X3_keepPlace_va va a0 a1))), (h2, .inl (cI, 8, .inl le)), (h3, .inl (cJ, 2, .inr (.inl co))), (h4, .inl (cI, 2, .inl ct))] := by
  refine Wr.of (by decide +kernel) (Nat.le_of_ble_eq_true rfl) ?_
  intro p e s m args below meth c hx hb hr hml hown htg hlocks A hA hP hK hD hX hS ls hl
  have hown : s.vm.findClass RX3 = some m.cls := hown
  have hl : lv_has ls 4 [(0, .ref h0), (1, .long a0), (3, .int a1)] := hl
  refine lv_lload_n hx hb dX3_keepPlace_0 rfl (lv_at hl 1 rfl) ?_
  refine lv_ldc2 (v := (-9223372036854775808)) hx hb hown (htg _ ct_X3_95) dX3_keepPlace_1 ?_
  refine lc_ne (tgt := 9) hx hb dX3_keepPlace_4 dX3_keepPlace_5 (by decide) (fun c_1 => ?_) (fun c_1 => ?_)
  · refine lv_aload_n hx hb dX3_keepPlace_9 rfl (lv_at hl 0 rfl) ?_
    refine va_get (D := D) (ci := 1) (v := .ref h1) (C := RX3) (T := TX3) (N := 4) hx hb htg inX3 hown hK hP 0 rfl rfl 0 (by decide) (htg _ fl_X3_9) (fun _ h9 => h9) rfl dX3_keepPlace_10 ?_
    refine lv_bipush (v := 15) hx hb dX3_keepPlace_13 (by decide) ?_
    refine lv_lload_n hx hb dX3_keepPlace_15 rfl (lv_at hl 1 rfl) ?_
    refine rS (As := [.long a0]) (rest := [.int (15 : Int32), .ref h1]) hx hb hml hown htg (c_X2_latitudeOf l a0) Blind.tt ml_X3_133 st_X2_latitudeOf ini_X2 co_X2_latitudeOf dn_X2_latitudeOf rfl (fun _ _ _ => trivial) hl.1 rfl (Nat.le_of_ble_eq_true rfl) ⟨Nat.le_of_ble_eq_true rfl, Nat.le_of_ble_eq_true rfl⟩ ⟨Nat.le_of_ble_eq_true rfl, Nat.le_of_ble_eq_true rfl⟩ dX3_keepPlace_16 ?_
    refine va_iast' (j := 15) hx hb hK hP hD hS 1 0 rfl rfl (by unfold vp_in; decide) (by decide) dX3_keepPlace_19 (fun H locs hP hD hS => ?_)
    have hP : va_P D vwCl [(h0, .inr (1, [.ref h1, .ref h2, .ref h3, .ref h4])), (h1, .inl (cI, 18, .inl (upd va 15 (f_X2_latitudeOf a0)))), (h2, .inl (cI, 8, .inl le)), (h3, .inl (cJ, 2, .inr (.inl co))), (h4, .inl (cI, 2, .inl ct))] H := hP
    have hD : va_D A [(h0, .inr (1, [.ref h1, .ref h2, .ref h3, .ref h4])), (h1, .inl (cI, 18, .inl (upd va 15 (f_X2_latitudeOf a0)))), (h2, .inl (cI, 8, .inl le)), (h3, .inl (cJ, 2, .inr (.inl co))), (h4, .inl (cI, 2, .inl ct))] := hD
    refine lv_aload_n hx hb dX3_keepPlace_20 rfl (lv_at hl 0 rfl) ?_
    refine va_get (D := D) (ci := 1) (v := .ref h1) (C := RX3) (T := TX3) (N := 4) hx hb htg inX3 hown hK hP 0 rfl rfl 0 (by decide) (htg _ fl_X3_9) (fun _ h9 => h9) rfl dX3_keepPlace_21 ?_
    refine lv_bipush (v := 16) hx hb dX3_keepPlace_24 (by decide) ?_
    refine lv_lload_n hx hb dX3_keepPlace_26 rfl (lv_at hl 1 rfl) ?_
    refine rS (As := [.long a0]) (rest := [.int (16 : Int32), .ref h1]) hx hb hml hown htg (c_X2_longitudeOf l a0) Blind.tt ml_X3_137 st_X2_longitudeOf ini_X2 co_X2_longitudeOf dn_X2_longitudeOf rfl (fun _ _ _ => trivial) hl.1 rfl (Nat.le_of_ble_eq_true rfl) ⟨Nat.le_of_ble_eq_true rfl, Nat.le_of_ble_eq_true rfl⟩ ⟨Nat.le_of_ble_eq_true rfl, Nat.le_of_ble_eq_true rfl⟩ dX3_keepPlace_27 ?_
    refine va_iast' (j := 16) hx hb hK hP hD hS 1 0 rfl rfl (by unfold vp_in; decide) (by decide) dX3_keepPlace_30 (fun H locs hP hD hS => ?_)
    have hP : va_P D vwCl [(h0, .inr (1, [.ref h1, .ref h2, .ref h3, .ref h4])), (h1, .inl (cI, 18, .inl (upd (upd va 15 (f_X2_latitudeOf a0)) 16 (f_X2_longitudeOf a0)))), (h2, .inl (cI, 8, .inl le)), (h3, .inl (cJ, 2, .inr (.inl co))), (h4, .inl (cI, 2, .inl ct))] H := hP
    have hD : va_D A [(h0, .inr (1, [.ref h1, .ref h2, .ref h3, .ref h4])), (h1, .inl (cI, 18, .inl (upd (upd va 15 (f_X2_latitudeOf a0)) 16 (f_X2_longitudeOf a0)))), (h2, .inl (cI, 8, .inl le)), (h3, .inl (cJ, 2, .inr (.inl co))), (h4, .inl (cI, 2, .inl ct))] := hD
    refine lv_aload_n hx hb dX3_keepPlace_31 rfl (lv_at hl 0 rfl) ?_
    refine va_get (D := D) (ci := 1) (v := .ref h1) (C := RX3) (T := TX3) (N := 4) hx hb htg inX3 hown hK hP 0 rfl rfl 0 (by decide) (htg _ fl_X3_9) (fun _ h9 => h9) rfl dX3_keepPlace_32 ?_
    refine lv_bipush (v := 17) hx hb dX3_keepPlace_35 (by decide) ?_
    refine lv_iload_n hx hb dX3_keepPlace_37 rfl (lv_at hl 2 rfl) ?_
    refine va_iast' (j := 17) hx hb hK hP hD hS 1 0 rfl rfl (by unfold vp_in; decide) (by decide) dX3_keepPlace_38 (fun H locs hP hD hS => ?_)
    have hP : va_P D vwCl [(h0, .inr (1, [.ref h1, .ref h2, .ref h3, .ref h4])), (h1, .inl (cI, 18, .inl (upd (upd (upd va 15 (f_X2_latitudeOf a0)) 16 (f_X2_longitudeOf a0)) 17 a1))), (h2, .inl (cI, 8, .inl le)), (h3, .inl (cJ, 2, .inr (.inl co))), (h4, .inl (cI, 2, .inl ct))] H := hP
    have hD : va_D A [(h0, .inr (1, [.ref h1, .ref h2, .ref h3, .ref h4])), (h1, .inl (cI, 18, .inl (upd (upd (upd va 15 (f_X2_latitudeOf a0)) 16 (f_X2_longitudeOf a0)) 17 a1))), (h2, .inl (cI, 8, .inl le)), (h3, .inl (cJ, 2, .inr (.inl co))), (h4, .inl (cI, 2, .inl ct))] := hD
    exact wr_v hx hb hr hlocks hA hS (hP.eq (by simp only [f_X3_keepPlace_va, if_neg c_1])) dX3_keepPlace_39
  · exact wr_v hx hb hr hlocks hA hS (hP.eq (by simp only [f_X3_keepPlace_va, if_pos c_1])) dX3_keepPlace_8

def f_X3_learnName_lp_va (va : Nat → Int32) (w : Nat → Int32) (len : Int32) (a1 : Int32) : Nat → (Int32) → (Nat → Int32) → Nat → Int32
  | 0, i, g => (upd va 6 a1)
  | n + 1, i, g => (f_X3_learnName_lp_va va w len a1 n (i + (1 : Int32)) (upd g i.toNatClampNeg (f_X1_letter (f_X4_message w len ((9 : Int32) + ((6 : Int32) * i)) ((14 : Int32) + ((6 : Int32) * i))))))
def f_X3_learnName_lp_le (va : Nat → Int32) (w : Nat → Int32) (len : Int32) (a1 : Int32) : Nat → (Int32) → (Nat → Int32) → Nat → Int32
  | 0, i, g => g
  | n + 1, i, g => (f_X3_learnName_lp_le va w len a1 n (i + (1 : Int32)) (upd g i.toNatClampNeg (f_X1_letter (f_X4_message w len ((9 : Int32) + ((6 : Int32) * i)) ((14 : Int32) + ((6 : Int32) * i))))))
def f_X3_learnName_va (va : Nat → Int32) (le : Nat → Int32) (w : Nat → Int32) (len : Int32) (a1 : Int32) : Nat → Int32 := (f_X3_learnName_lp_va va w len a1 8 (0 : Int32) le)
def f_X3_learnName_le (va : Nat → Int32) (le : Nat → Int32) (w : Nat → Int32) (len : Int32) (a1 : Int32) : Nat → Int32 := (f_X3_learnName_lp_le va w len a1 8 (0 : Int32) le)
set_option maxHeartbeats 4000000 in
set_option maxRecDepth 100000 in
theorem c_X3_learnName (l : Launch) (D : va_G) (cI cJ cO : ClassId) (h0 : Nat) (h1 : Nat) (h2 : Nat) (h3 : Nat) (h4 : Nat) (va : Nat → Int32) (le : Nat → Int32) (co : Nat → Int64) (ct : Nat → Int32) (a0 : Nat) (g1 : Nat) (len : Int32) (tr : Int32) (w : Nat → Int32) (a1 : Int32) (hlen : 0 ≤ len.toInt ∧ len.toInt ≤ 112) : Wr l yX3_learnName cX3_learnName 4 none 3 68 [.ref h0, .ref a0, .int a1] (fun U => B1 D cI cJ cO [(h0, .inr (1, [.ref h1, .ref h2, .ref h3, .ref h4])), (h1, .inl (cI, 18, .inl va)), (h2, .inl (cI, 8, .inl le)), (h3, .inl (cJ, 2, .inr (.inl co))), (h4, .inl (cI, 2, .inl ct)), (a0, .inr (2, [.ref g1, .int len, .int tr])), (g1, .inl (cI, 4, .inl w))] U ∧ True) D none [(h0, .inr (1, [.ref h1, .ref h2, .ref h3, .ref h4])), (h1, .inl (cI, 18, .inl va)), (h2, .inl (cI, 8, .inl le)), (h3, .inl (cJ, 2, .inr (.inl co))), (h4, .inl (cI, 2, .inl ct)), (a0, .inr (2, [.ref g1, .int len, .int tr])), (g1, .inl (cI, 4, .inl w))] [(h0, .inr (1, [.ref h1, .ref h2, .ref h3, .ref h4])), (h1, .inl (cI, 18, .inl (f_X3_learnName_va va le w len a1))), (h2, .inl (cI, 8, .inl (f_X3_learnName_le va le w len a1))), (h3, .inl (cJ, 2, .inr (.inl co))), (h4, .inl (cI, 2, .inl ct)), (a0, .inr (2, [.ref g1, .int len, .int tr])), (g1, .inl (cI, 4, .inl w))] := by
  refine Wr.of (by decide +kernel) (Nat.le_of_ble_eq_true rfl) ?_
  intro p e s m args below meth c hx hb hr hml hown htg hlocks A hA hP hK hD hX hS ls hl
  have hown : s.vm.findClass RX3 = some m.cls := hown
  have hl : lv_has ls 4 [(0, .ref h0), (1, .ref a0), (2, .int a1)] := hl
  refine lv_aload_n hx hb dX3_learnName_0 rfl (lv_at hl 0 rfl) ?_
  refine va_get (D := D) (ci := 1) (v := .ref h1) (C := RX3) (T := TX3) (N := 4) hx hb htg inX3 hown hK hP 0 rfl rfl 0 (by decide) (htg _ fl_X3_9) (fun _ h9 => h9) rfl dX3_learnName_1 ?_
  refine lv_bipush (v := 6) hx hb dX3_learnName_4 (by decide) ?_
  refine lv_iload_n hx hb dX3_learnName_6 rfl (lv_at hl 2 rfl) ?_
  refine va_iast' (j := 6) hx hb hK hP hD hS 1 0 rfl rfl (by unfold vp_in; decide) (by decide) dX3_learnName_7 (fun H locs hP hD hS => ?_)
  have hP : va_P D vwCl [(h0, .inr (1, [.ref h1, .ref h2, .ref h3, .ref h4])), (h1, .inl (cI, 18, .inl (upd va 6 a1))), (h2, .inl (cI, 8, .inl le)), (h3, .inl (cJ, 2, .inr (.inl co))), (h4, .inl (cI, 2, .inl ct)), (a0, .inr (2, [.ref g1, .int len, .int tr])), (g1, .inl (cI, 4, .inl w))] H := hP
  have hD : va_D A [(h0, .inr (1, [.ref h1, .ref h2, .ref h3, .ref h4])), (h1, .inl (cI, 18, .inl (upd va 6 a1))), (h2, .inl (cI, 8, .inl le)), (h3, .inl (cJ, 2, .inr (.inl co))), (h4, .inl (cI, 2, .inl ct)), (a0, .inr (2, [.ref g1, .int len, .int tr])), (g1, .inl (cI, 4, .inl w))] := hD
  refine lv_iconst (v := 0) hx hb dX3_learnName_8 (by decide) ?_
  refine lv_istore_n (lv' := [(3, .int (0 : Int32)), (0, .ref h0), (1, .ref a0), (2, .int a1)]) hx hb dX3_learnName_9 rfl hl (by decide) rfl (fun ls hl => ?_)
  have Lp : ∀ (n : Nat) (i : Int32) (g : Nat → Int32), Up n i 8 ∧ 0 ≤ i.toInt → ∀ ls : Array Slot, lv_has ls 4 [(3, .int i), (0, .ref h0), (1, .ref a0), (2, .int a1)] → f_X3_learnName_lp_va va w len a1 n i g = f_X3_learnName_va va le w len a1 → f_X3_learnName_lp_le va w len a1 n i g = f_X3_learnName_le va le w len a1 → ∀ (H : Heap) (locs : List Loc), va_P D vwCl [(h0, .inr (1, [.ref h1, .ref h2, .ref h3, .ref h4])), (h1, .inl (cI, 18, .inl (upd va 6 a1))), (h2, .inl (cI, 8, .inl g)), (h3, .inl (cJ, 2, .inr (.inl co))), (h4, .inl (cI, 2, .inl ct)), (a0, .inr (2, [.ref g1, .int len, .int tr])), (g1, .inl (cI, 4, .inl w))] H → va_D A [(h0, .inr (1, [.ref h1, .ref h2, .ref h3, .ref h4])), (h1, .inl (cI, 18, .inl (upd va 6 a1))), (h2, .inl (cI, 8, .inl g)), (h3, .inl (cJ, 2, .inr (.inl co))), (h4, .inl (cI, 2, .inl ct)), (a0, .inr (2, [.ref g1, .int len, .int tr])), (g1, .inl (cI, 4, .inl w))] → va_S A s.heap H locs → W p l e { frames := 3, cells := 0, slots := 0, locals := 68 } s m args below meth c H locs 0 0 (MQ below (wrQ D none [(h0, .inr (1, [.ref h1, .ref h2, .ref h3, .ref h4])), (h1, .inl (cI, 18, .inl va)), (h2, .inl (cI, 8, .inl le)), (h3, .inl (cJ, 2, .inr (.inl co))), (h4, .inl (cI, 2, .inl ct)), (a0, .inr (2, [.ref g1, .int len, .int tr])), (g1, .inl (cI, 4, .inl w))] [(h0, .inr (1, [.ref h1, .ref h2, .ref h3, .ref h4])), (h1, .inl (cI, 18, .inl (f_X3_learnName_va va le w len a1))), (h2, .inl (cI, 8, .inl (f_X3_learnName_le va le w len a1))), (h3, .inl (cJ, 2, .inr (.inl co))), (h4, .inl (cI, 2, .inl ct)), (a0, .inr (2, [.ref g1, .int len, .int tr])), (g1, .inl (cI, 4, .inl w))]) args s 0 0 (inW [(h0, .inr (1, [.ref h1, .ref h2, .ref h3, .ref h4])), (h1, .inl (cI, 18, .inl va)), (h2, .inl (cI, 8, .inl le)), (h3, .inl (cJ, 2, .inr (.inl co))), (h4, .inl (cI, 2, .inl ct)), (a0, .inr (2, [.ref g1, .int len, .int tr])), (g1, .inl (cI, 4, .inl w))])) (F0 m 10 ls []) := by
    intro n
    induction n with
    | zero =>
      intro i g hi ls hl hAva hAle H locs hP hD hS
      refine lv_iload_n hx hb dX3_learnName_10 rfl (lv_at hl 0 rfl) ?_
      refine lv_aload_n hx hb dX3_learnName_11 rfl (lv_at hl 1 rfl) ?_
      refine va_get (D := D) (ci := 1) (v := .ref h2) (C := RX3) (T := TX3) (N := 4) hx hb htg inX3 hown hK hP 0 rfl rfl 1 (by decide) (htg _ fl_X3_15) (fun _ h9 => h9) rfl dX3_learnName_12 ?_
      refine va_alen (v := 8) hx hb hK hP 2 0 rfl rfl rfl dX3_learnName_15 ?_
      refine lv_icmp_ge (tgt := 52) hx hb dX3_learnName_16 (by decide) (fun c_1 => ?_) (fun c_1 => ?_)
      · exact wr_v hx hb hr hlocks hA hS (hP.eq (by rw [← hAva, ← hAle]; simp only [f_X3_learnName_lp_va, f_X3_learnName_lp_le])) dX3_learnName_52
      · exact absurd hi.1.z c_1
    | succ n ih =>
      intro i g hi ls hl hAva hAle H locs hP hD hS
      refine lv_iload_n hx hb dX3_learnName_10 rfl (lv_at hl 0 rfl) ?_
      refine lv_aload_n hx hb dX3_learnName_11 rfl (lv_at hl 1 rfl) ?_
      refine va_get (D := D) (ci := 1) (v := .ref h2) (C := RX3) (T := TX3) (N := 4) hx hb htg inX3 hown hK hP 0 rfl rfl 1 (by decide) (htg _ fl_X3_15) (fun _ h9 => h9) rfl dX3_learnName_12 ?_
      refine va_alen (v := 8) hx hb hK hP 2 0 rfl rfl rfl dX3_learnName_15 ?_
      refine lv_icmp_ge (tgt := 52) hx hb dX3_learnName_16 (by decide) (fun c_2 => ?_) (fun c_2 => ?_)
      · exact absurd c_2 hi.1.s
      · refine lv_aload_n hx hb dX3_learnName_19 rfl (lv_at hl 1 rfl) ?_
        refine va_get (D := D) (ci := 1) (v := .ref h2) (C := RX3) (T := TX3) (N := 4) hx hb htg inX3 hown hK hP 0 rfl rfl 1 (by decide) (htg _ fl_X3_15) (fun _ h9 => h9) rfl dX3_learnName_20 ?_
        refine lv_iload_n hx hb dX3_learnName_23 rfl (lv_at hl 0 rfl) ?_
        refine lv_aload_n hx hb dX3_learnName_24 rfl (lv_at hl 2 rfl) ?_
        refine lv_bipush (v := 9) hx hb dX3_learnName_25 (by decide) ?_
        refine lv_bipush (v := 6) hx hb dX3_learnName_27 (by decide) ?_
        refine lv_iload_n hx hb dX3_learnName_29 rfl (lv_at hl 0 rfl) ?_
        refine lv_imul hx hb dX3_learnName_30 ?_
        refine lv_iadd hx hb dX3_learnName_31 ?_
        refine lv_bipush (v := 14) hx hb dX3_learnName_32 (by decide) ?_
        refine lv_bipush (v := 6) hx hb dX3_learnName_34 (by decide) ?_
        refine lv_iload_n hx hb dX3_learnName_36 rfl (lv_at hl 0 rfl) ?_
        refine lv_imul hx hb dX3_learnName_37 ?_
        refine lv_iadd hx hb dX3_learnName_38 ?_
        refine rV (As := [.int ((9 : Int32) + ((6 : Int32) * i)), .int ((14 : Int32) + ((6 : Int32) * i))]) (rest := [.int i, .ref h2]) hx hb hml hown htg (c_X4_message l D cI cJ cO a0 g1 len tr w ((9 : Int32) + ((6 : Int32) * i)) ((14 : Int32) + ((6 : Int32) * i)) hlen) Blind.b0 ml_X3_63 im_X4_message se_X4_message ini_X4 co_X4_message rfl dn_X4_message rfl (va_recv hK hP (ci := 2) (q0 := 5) rfl rfl) (fun U hU hW => ⟨by rw [hU]; exact hP.sub [5, 6] rfl, va_K.moved hW.alike hK⟩) hl.1 rfl (Nat.le_of_ble_eq_true rfl) ⟨Nat.le_of_ble_eq_true rfl, Nat.le_of_ble_eq_true rfl⟩ ⟨Nat.le_of_ble_eq_true rfl, Nat.le_of_ble_eq_true rfl⟩ dX3_learnName_39 ?_
        refine rS (As := [.int (f_X4_message w len ((9 : Int32) + ((6 : Int32) * i)) ((14 : Int32) + ((6 : Int32) * i)))]) (rest := [.int i, .ref h2]) hx hb hml hown htg (c_X1_letter l (f_X4_message w len ((9 : Int32) + ((6 : Int32) * i)) ((14 : Int32) + ((6 : Int32) * i)))) Blind.tt ml_X3_81 st_X1_letter ini_X1 co_X1_letter dn_X1_letter rfl (fun _ _ _ => trivial) hl.1 rfl (Nat.le_of_ble_eq_true rfl) ⟨Nat.le_of_ble_eq_true rfl, Nat.le_of_ble_eq_true rfl⟩ ⟨Nat.le_of_ble_eq_true rfl, Nat.le_of_ble_eq_true rfl⟩ dX3_learnName_42 ?_
        refine va_iast' (j := i.toNatClampNeg) hx hb hK hP hD hS 2 0 rfl rfl (hi.1.lt hi.2 (by decide)) rfl dX3_learnName_45 (fun H locs hP hD hS => ?_)
        have hP : va_P D vwCl [(h0, .inr (1, [.ref h1, .ref h2, .ref h3, .ref h4])), (h1, .inl (cI, 18, .inl (upd va 6 a1))), (h2, .inl (cI, 8, .inl (upd g i.toNatClampNeg (f_X1_letter (f_X4_message w len ((9 : Int32) + ((6 : Int32) * i)) ((14 : Int32) + ((6 : Int32) * i))))))), (h3, .inl (cJ, 2, .inr (.inl co))), (h4, .inl (cI, 2, .inl ct)), (a0, .inr (2, [.ref g1, .int len, .int tr])), (g1, .inl (cI, 4, .inl w))] H := hP
        have hD : va_D A [(h0, .inr (1, [.ref h1, .ref h2, .ref h3, .ref h4])), (h1, .inl (cI, 18, .inl (upd va 6 a1))), (h2, .inl (cI, 8, .inl (upd g i.toNatClampNeg (f_X1_letter (f_X4_message w len ((9 : Int32) + ((6 : Int32) * i)) ((14 : Int32) + ((6 : Int32) * i))))))), (h3, .inl (cJ, 2, .inr (.inl co))), (h4, .inl (cI, 2, .inl ct)), (a0, .inr (2, [.ref g1, .int len, .int tr])), (g1, .inl (cI, 4, .inl w))] := hD
        refine lv_iinc (v := (i + (1 : Int32))) (lv' := [(3, .int (i + (1 : Int32))), (0, .ref h0), (1, .ref a0), (2, .int a1)]) hx hb dX3_learnName_46 hl (k := 0) rfl rfl (by decide) rfl (fun ls hl => ?_)
        refine lv_goto (tgt := 10) hx hb dX3_learnName_49 (by decide) ?_
        exact ih (i + (1 : Int32)) (upd g i.toNatClampNeg (f_X1_letter (f_X4_message w len ((9 : Int32) + ((6 : Int32) * i)) ((14 : Int32) + ((6 : Int32) * i))))) ⟨hi.1.nx, by have e1 : (i + 1).toInt = i.toInt + 1 := (by have := hi.1.2; have := hi.1.1; rw [fb_addI] <;> rw [i1] <;> omega); have := hi.2; omega⟩ ls (lv_sub hl [0, 1, 2, 3] rfl) (by rw [← hAva]; simp only [f_X3_learnName_lp_va]) (by rw [← hAle]; simp only [f_X3_learnName_lp_le]) H locs hP hD hS
  exact Lp 8 (0 : Int32) le ⟨⟨by decide, by decide, by decide⟩, by decide⟩ ls (lv_sub hl [0, 1, 2, 3] rfl) (by simp only [f_X3_learnName_va]) (by simp only [f_X3_learnName_le]) H locs hP hD hS
