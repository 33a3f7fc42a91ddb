/-! what a frame that is heard does to its craft, and to the rest -/
def Rel (own : Int64) (clk : Int32) (lw : Nat → Int32) (llen ltr size : Int32) (pi : Nat → Nat) (S : Nat → CR) (rw : Nat → Int32) (mn lt : Int32) (hd : Nat → Int32) (hsz hsy hrt hpl ola olo : Int32) : Prop :=
  clk = lt ∧ (∃ N : Nat, N ≤ 20 ∧ size = nI N ∧ mn = nI N ∧ BookR N pi S rw) ∧ OwnR own hpl ola olo ∧ Same lw hd ∧ llen = hsz ∧ ltr = hrt ∧ ((hsz = 0 ∧ hrt = -1) ∨ ((hsz = 56 ∨ hsz = 112) ∧ hsy = f_X4_remainder lw llen))
theorem upd_same (f : Nat → Int32) (k : Nat) : upd f k (f k) = f := by
  funext j
  by_cases h : j = k
  · subst h; rw [upd_is]
  · rw [upd_no _ _ h]
theorem count_row {a : Int32} {va le : Nat → Int32} {co : Nat → Int64} {ct r : Nat → Int32} (h : Row va le co ct r) (hp : Pl a r) (rw : Nat → Int32) {i : Nat} (hi : i < 20) (t : Int32) {tr : Int32} (htr : tr = -1 ∨ 0 ≤ tr.toInt) :
    ∃ r', (upd (upd (upd (putR rw i r) (f_X6_at (nI i) (1 : Int32)).toNatClampNeg t) (f_X6_at (nI i) (2 : Int32)).toNatClampNeg (((upd (putR rw i r) (f_X6_at (nI i) (1 : Int32)).toNatClampNeg t) (f_X6_at (nI i) (2 : Int32)).toNatClampNeg) + (1 : Int32))) (f_X6_at (nI i) (3 : Int32)).toNatClampNeg (((upd (upd (putR rw i r) (f_X6_at (nI i) (1 : Int32)).toNatClampNeg t) (f_X6_at (nI i) (2 : Int32)).toNatClampNeg (((upd (putR rw i r) (f_X6_at (nI i) (1 : Int32)).toNatClampNeg t) (f_X6_at (nI i) (2 : Int32)).toNatClampNeg) + (1 : Int32))) (f_X6_at (nI i) (3 : Int32)).toNatClampNeg) + (if 0 ≤ tr then (1 : Int32) else (0 : Int32)))) = putR rw i r' ∧ Row (f_X3_countFrame_va va tr t) le co ct r' ∧ Pl a r' := by
  have a1 : (f_X6_at (nI i) 1).toNatClampNeg = 40 * i + 1 := at_n (w := 1) hi (by decide)
  have a2 : (f_X6_at (nI i) 2).toNatClampNeg = 40 * i + 2 := at_n (w := 2) hi (by decide)
  have a3 : (f_X6_at (nI i) 3).toNatClampNeg = 40 * i + 3 := at_n (w := 3) hi (by decide)
  rw [a1, a2, a3, putR_upd rw r i (w := 1) (by decide) t, putR_at rw (upd r 1 t) i (w := 2) (by decide), putR_upd rw (upd r 1 t) i (w := 2) (by decide)]
  have R2 := (h.v 1 (by decide) t).v 2 (by decide) ((upd r 1 t) 2 + 1)
  have e2 : (upd va 1 t) 2 = (upd r 1 t) 2 := (h.v 1 (by decide) t).1 2 (by decide)
  have P2 := (hp.v 1 (Or.inl (by decide)) t).v 2 (Or.inl (by decide)) ((upd r 1 t) 2 + 1)
  rw [← e2] at R2
  unfold f_X3_countFrame_va f_X4_turnedBit
  rw [← e2] at P2 ⊢
  have e3 : (upd (upd va 1 t) 2 ((upd va 1 t) 2 + 1)) 3 = (upd (upd r 1 t) 2 ((upd va 1 t) 2 + 1)) 3 := R2.1 3 (by decide)
  rw [putR_at rw _ i (w := 3) (by decide), ← e3, putR_upd rw _ i (w := 3) (by decide)]
  rcases htr with e | e
  · subst e
    rw [if_pos rfl, if_neg (by decide), Int32.add_zero, e3, upd_same]
    exact ⟨_, rfl, R2, P2⟩
  · have n1 : ¬ tr = -1 := fun q => by rw [q] at e; exact absurd e (by decide)
    have n2 : (0 : Int32) ≤ tr := by rw [fa_le, i0]; exact e
    rw [if_neg n1, if_pos n2]
    exact ⟨_, rfl, R2.v 3 (by decide) _, P2.v 3 (Or.inl (by decide)) _⟩
/-- all that a frame tells -/
theorem learn_row {bd : Nat → Int64} (hbd : BD bd) {a : Int32} {va le : Nat → Int32} {co : Nat → Int64} {ct r : Nat → Int32} (h : Row va le co ct r) (hp : Pl a r) (rw : Nat → Int32) {i : Nat} (hi : i < 20) {w b : Nat → Int32} {len : Int32} (hs : Same w b) (hl : len = 56 ∨ len = 112) (h112 : f_X6_number b 1 5 = 17 ∨ f_X6_number b 1 5 = 18 → len = 112) (hk : ¬ f_X6_isKnown (f_X6_number b 1 5) = 0) (lat lon t : Int32) {own : Int64} {hpl ola olo : Int32} (ho : OwnR own hpl ola olo) (rt mnx ltx szx hzx hyx hrx : Int32) (hdx : Nat → Int32) :
    ∃ r', f_X6_hear_c396_rw bd hpl ola olo t (f_X6_number b 1 5) rt (nI i) (putR rw i r) b hdx mnx ltx szx hzx hyx hrx lat lon = putR rw i r' ∧ Row (f_X3_learnMessage_va (f_X3_learnReply_va va w len) le co ct w len t own) (f_X3_learnMessage_le (f_X3_learnReply_va va w len) le co ct w len t own) (f_X3_learnMessage_co (f_X3_learnReply_va va w len) le co ct w len t own) (f_X3_learnMessage_ct (f_X3_learnReply_va va w len) le co ct w len t own) r' ∧ Pl a r' := by
  have hb := same_bits hs
  have oM := of_msg hs hl
  have oT := of_alt hs hl
  have oI := of_idn hs hl
  have n20 : f_X4_number w len 20 13 = f_X6_number b 20 32 := num_inN hs hl (x := 20) (y := 32) (by decide) (by decide) (by decide) (by decide)
  obtain ⟨m, hm, em⟩ : ∃ m : Nat, m < 2 ^ 13 ∧ f_X6_number b 20 32 = nI m := num_rngN hb (x := 20) (y := 32) 13 (by decide) (by decide) (by decide) (by decide)
  have halt : f_X1_altitude (f_X6_number b 20 32) = f_X6_altitude (f_X6_number b 20 32) := by rw [em]; exact altitude_eq (by omega)
  have hsq : f_X1_squawk (f_X6_number b 20 32) = f_X6_squawk (f_X6_number b 20 32) := by rw [em]; exact squawk_eq (by omega)
  have a4 : (f_X6_at (nI i) 4).toNatClampNeg = 40 * i + 4 := at_n (w := 4) hi (by decide)
  have a5 : (f_X6_at (nI i) 5).toNatClampNeg = 40 * i + 5 := at_n (w := 5) hi (by decide)
  have hno : ∀ va' : Nat → Int32, f_X4_isOf w len 393216 = 0 → f_X3_learnMessage_va va' le co ct w len t own = va' ∧ f_X3_learnMessage_le va' le co ct w len t own = le ∧ f_X3_learnMessage_co va' le co ct w len t own = co ∧ f_X3_learnMessage_ct va' le co ct w len t own = ct := by
    intro va' q
    unfold f_X3_learnMessage_va f_X3_learnMessage_le f_X3_learnMessage_co f_X3_learnMessage_ct
    rw [if_pos q, if_pos q, if_pos q, if_pos q]
    exact ⟨rfl, rfl, rfl, rfl⟩
  have kno := known_or hk
  clear hk
  have hA : (f_X6_number b 1 5 = 0 ∨ f_X6_number b 1 5 = 4 ∨ f_X6_number b 1 5 = 16 ∨ f_X6_number b 1 5 = 20) → f_X6_hear_c396_rw bd hpl ola olo t (f_X6_number b 1 5) rt (nI i) (putR rw i r) b hdx mnx ltx szx hzx hyx hrx lat lon = upd (putR rw i r) (f_X6_at (nI i) (4 : Int32)).toNatClampNeg (f_X6_altitude (f_X6_number b (20 : Int32) (32 : Int32))) := by
    intro q
    rcases q with e | e | e | e <;> rw [e] <;> rfl
  have hI : (f_X6_number b 1 5 = 5 ∨ f_X6_number b 1 5 = 21) → f_X6_hear_c396_rw bd hpl ola olo t (f_X6_number b 1 5) rt (nI i) (putR rw i r) b hdx mnx ltx szx hzx hyx hrx lat lon = upd (putR rw i r) (f_X6_at (nI i) (5 : Int32)).toNatClampNeg (f_X6_squawk (f_X6_number b (20 : Int32) (32 : Int32))) := by
    intro q
    rcases q with e | e <;> rw [e] <;> rfl
  have hM : (f_X6_number b 1 5 = 17 ∨ f_X6_number b 1 5 = 18) → f_X6_hear_c396_rw bd hpl ola olo t (f_X6_number b 1 5) rt (nI i) (putR rw i r) b hdx mnx ltx szx hzx hyx hrx lat lon = f_X6_tells_rw bd (putR rw i r) b hpl ola olo lat lon (nI i) t := by
    intro q
    rcases q with e | e <;> rw [e] <;> rfl
  have hE : f_X6_number b 1 5 = 11 → f_X6_hear_c396_rw bd hpl ola olo t (f_X6_number b 1 5) rt (nI i) (putR rw i r) b hdx mnx ltx szx hzx hyx hrx lat lon = putR rw i r := by
    intro e
    rw [e]; rfl
  generalize f_X6_number b 1 5 = d at *
  by_cases gM : d = 17 ∨ d = 18
  · have hl2 := h112 gM
    subst hl2
    have oT0 : f_X4_isOf w 112 1114129 = 0 := oT.mpr (by rcases gM with e | e <;> subst e <;> decide)
    have oI0 : f_X4_isOf w 112 2097184 = 0 := oI.mpr (by rcases gM with e | e <;> subst e <;> decide)
    have er : f_X3_learnReply_va va w 112 = va := by
      unfold f_X3_learnReply_va
      rw [if_pos oT0, if_pos oI0]
    rw [hM gM, er]
    exact tells_row hbd h hp rw hi hs (fun q => (oM.mp q) gM) lat lon t ho
  · obtain ⟨z1, z2, z3, z4⟩ := hno (f_X3_learnReply_va va w len) (oM.mpr gM)
    rw [z1, z2, z3, z4]
    unfold f_X3_learnReply_va
    by_cases gA : d = 0 ∨ d = 4 ∨ d = 16 ∨ d = 20
    · have oI0 : f_X4_isOf w len 2097184 = 0 := oI.mpr (by rcases gA with e | e | e | e <;> subst e <;> decide)
      rw [hA gA, if_neg (fun q => (oT.mp q) gA), if_pos oI0, n20, halt, a4, putR_upd _ _ _ (by decide)]
      exact ⟨_, rfl, h.v 4 (by decide) _, hp.v 4 (Or.inl (by decide)) _⟩
    · by_cases gI : d = 5 ∨ d = 21
      · rw [hI gI, if_pos (oT.mpr gA), if_neg (fun q => (oI.mp q) gI), n20, hsq, a5, putR_upd _ _ _ (by decide)]
        exact ⟨_, rfl, h.v 5 (by decide) _, hp.v 5 (Or.inl (by decide)) _⟩
      · have e11 : d = 11 := by
          rcases kno with e | e | e | e | e | e | e | e | e
          · exact absurd (Or.inl e) gA
          · exact absurd (Or.inr (Or.inl e)) gA
          · exact absurd (Or.inl e) gI
          · exact e
          · exact absurd (Or.inr (Or.inr (Or.inl e))) gA
          · exact absurd (Or.inl e) gM
          · exact absurd (Or.inr e) gM
          · exact absurd (Or.inr (Or.inr (Or.inr e))) gA
          · exact absurd (Or.inr e) gI
        rw [hE e11, if_pos (oT.mpr gA), if_pos (oI.mpr gI)]
        exact ⟨r, rfl, h, hp⟩
theorem row_put {rw r' : Nat → Int32} {i : Nat} {w : Nat} (hw : w < 40) : rowOf (putR rw i r') i w = r' w := putR_at rw r' i hw
theorem row_far {rw r' : Nat → Int32} {i j : Nat} (hj : j ≠ i) {w : Nat} (hw : w < 40) : rowOf (putR rw i r') j w = rowOf rw j w := putR_ne rw r' hj hw
/-- one craft's row anew -/
theorem book_put {N : Nat} {pi : Nat → Nat} {S : Nat → CR} {rw : Nat → Int32} (h : BookR N pi S rw) (hN : N ≤ 20) {k : Nat} (hk : k < N) {S' : Nat → CR} {r' : Nat → Int32} (h1 : RowC (S' (pi k)) r') (h2 : Pl (rowOf rw k 0) r') (h3 : ∀ c, c ≠ pi k → S' c = S c) : BookR N pi S' (putR rw k r') := by
  obtain ⟨b1, b2, b3, b4, b5⟩ := h
  have r0 : ∀ j, j < 20 → rowOf (putR rw k r') j 0 = rowOf rw j 0 := fun j hj => by
    by_cases e : j = k
    · subst e; rw [row_put (by decide)]; exact h2.1
    · rw [row_far e (by decide)]
  refine ⟨b1, b2, fun j hj => ?_, fun j hj => ?_, fun u j hu hj q => ?_⟩
  · by_cases e : j = k
    · subst e
      exact h1.ext (fun w hw => row_put hw)
    · rw [h3 _ (fun q => e (b2 j k (by omega) (by omega) q))]
      exact (b3 j hj).ext (fun w hw => row_far e hw)
  · rw [r0 j hj]
    by_cases e : j = k
    · subst e
      exact h2.ext (fun w hw => row_put hw)
    · exact (b4 j hj).ext (fun w hw => row_far e hw)
  · rw [r0 u (by omega), r0 j (by omega)] at q
    exact b5 u j hu hj q
set_option maxHeartbeats 4000000 in
theorem tail_eq {bd : Nat → Int64} (hbd : BD bd) {N : Nat} {pi : Nat → Nat} {S : Nat → CR} {rw : Nat → Int32} (hB : BookR N pi S rw) (hN : N ≤ 20) {k : Nat} (hk : k < N) {w b : Nat → Int32} {len : Int32} (hs : Same w b) (hl : len = 56 ∨ len = 112) (h112 : f_X6_number b 1 5 = 17 ∨ f_X6_number b 1 5 = 18 → len = 112) (hkn : ¬ f_X6_isKnown (f_X6_number b 1 5) = 0) {own : Int64} {hpl ola olo : Int32} (ho : OwnR own hpl ola olo) {tr : Int32} (htr : tr = -1 ∨ 0 ≤ tr.toInt) (t dtx llx ltx lat lon hzx hyx hrx : Int32) (lwx hdx : Nat → Int32) :
    f_X5_hear_c144 own t (pi k) t w len tr lwx llx ltx (nI N) pi S = f_X6_hear_c291 bd hpl ola olo t (f_X6_number b 1 5) (f_X4_remainder w len) tr (nI k) rw b hdx (nI N) t len hzx hyx hrx lat lon
    ∧ Rel own (f_X5_hear_c144_clk own t (pi k) t w len tr lwx llx ltx (nI N) pi S) (f_X5_hear_c144_lw own t (pi k) t w len tr lwx llx ltx (nI N) pi S) (f_X5_hear_c144_llen own t (pi k) t w len tr lwx llx ltx (nI N) pi S) (f_X5_hear_c144_ltr own t (pi k) t w len tr lwx llx ltx (nI N) pi S) (f_X5_hear_c144_size own t (pi k) t w len tr lwx llx ltx (nI N) pi S) (f_X5_hear_c144_pi own t (pi k) t w len tr lwx llx ltx (nI N) pi S) (f_X5_hear_c144_S own t (pi k) t w len tr lwx llx ltx (nI N) pi S)
      (f_X6_hear_c291_rw bd hpl ola olo t (f_X6_number b 1 5) (f_X4_remainder w len) tr (nI k) rw b hdx (nI N) t len hzx hyx hrx lat lon) (f_X6_hear_c291_mn bd hpl ola olo t (f_X6_number b 1 5) (f_X4_remainder w len) tr (nI k) rw b hdx (nI N) t len hzx hyx hrx lat lon) (f_X6_hear_c291_lt bd hpl ola olo t (f_X6_number b 1 5) (f_X4_remainder w len) tr (nI k) rw b hdx (nI N) t len hzx hyx hrx lat lon) (f_X6_hear_c291_hd bd hpl ola olo t (f_X6_number b 1 5) (f_X4_remainder w len) tr (nI k) rw b hdx (nI N) t len hzx hyx hrx lat lon) (f_X6_hear_c291_hsz bd hpl ola olo t (f_X6_number b 1 5) (f_X4_remainder w len) tr (nI k) rw b hdx (nI N) t len hzx hyx hrx lat lon) (f_X6_hear_c291_hsy bd hpl ola olo t (f_X6_number b 1 5) (f_X4_remainder w len) tr (nI k) rw b hdx (nI N) t len hzx hyx hrx lat lon) (f_X6_hear_c291_hrt bd hpl ola olo t (f_X6_number b 1 5) (f_X4_remainder w len) tr (nI k) rw b hdx (nI N) t len hzx hyx hrx lat lon) hpl ola olo := by
  have hs2 := copy_same hs lwx len tr
  have hk20 : k < 20 := by omega
  have kno := known_or hkn
  have hR := hB.2.2.1 k hk
  have hP := hB.2.2.2.1 k hk20
  obtain ⟨r1, c1, c2, c3⟩ := count_row hR hP rw hk20 t htr
  obtain ⟨r2, l1, l2, l3⟩ := learn_row hbd c2 c3 rw hk20 hs2 hl h112 hkn lat lon t ho tr (nI N) t len len (f_X4_remainder w len) tr (f_X6_hear_sl1 b 112 (0 : Int32) hdx)
  rw [putR_self] at c1
  have eA : f_X6_hear_c291 bd hpl ola olo t (f_X6_number b 1 5) (f_X4_remainder w len) tr (nI k) rw b hdx (nI N) t len hzx hyx hrx lat lon = if 0 ≤ tr then (1 : Int32) else (0 : Int32) := by
    rcases kno with e | e | e | e | e | e | e | e | e <;> rw [e] <;> rfl
  have eR : f_X6_hear_c291_rw bd hpl ola olo t (f_X6_number b 1 5) (f_X4_remainder w len) tr (nI k) rw b hdx (nI N) t len hzx hyx hrx lat lon = putR rw k r2 := by
    unfold f_X6_hear_c291_rw
    rw [c1, l1]
  have eM : f_X6_hear_c291_mn bd hpl ola olo t (f_X6_number b 1 5) (f_X4_remainder w len) tr (nI k) rw b hdx (nI N) t len hzx hyx hrx lat lon = nI N := by
    rcases kno with e | e | e | e | e | e | e | e | e <;> rw [e] <;> rfl
  have eL : f_X6_hear_c291_lt bd hpl ola olo t (f_X6_number b 1 5) (f_X4_remainder w len) tr (nI k) rw b hdx (nI N) t len hzx hyx hrx lat lon = t := by
    rcases kno with e | e | e | e | e | e | e | e | e <;> rw [e] <;> rfl
  have eH : f_X6_hear_c291_hd bd hpl ola olo t (f_X6_number b 1 5) (f_X4_remainder w len) tr (nI k) rw b hdx (nI N) t len hzx hyx hrx lat lon = f_X6_hear_sl1 b 112 (0 : Int32) hdx := by
    rcases kno with e | e | e | e | e | e | e | e | e <;> rw [e] <;> rfl
  have eZ : f_X6_hear_c291_hsz bd hpl ola olo t (f_X6_number b 1 5) (f_X4_remainder w len) tr (nI k) rw b hdx (nI N) t len hzx hyx hrx lat lon = len := by
    rcases kno with e | e | e | e | e | e | e | e | e <;> rw [e] <;> rfl
  have eY : f_X6_hear_c291_hsy bd hpl ola olo t (f_X6_number b 1 5) (f_X4_remainder w len) tr (nI k) rw b hdx (nI N) t len hzx hyx hrx lat lon = f_X4_remainder w len := by
    rcases kno with e | e | e | e | e | e | e | e | e <;> rw [e] <;> rfl
  have eT : f_X6_hear_c291_hrt bd hpl ola olo t (f_X6_number b 1 5) (f_X4_remainder w len) tr (nI k) rw b hdx (nI N) t len hzx hyx hrx lat lon = tr := by
    rcases kno with e | e | e | e | e | e | e | e | e <;> rw [e] <;> rfl
  rw [eA, eR, eM, eL, eH, eZ, eY, eT]
  have fA : f_X5_hear_c144 own t (pi k) t w len tr lwx llx ltx (nI N) pi S = if tr = -1 then (0 : Int32) else (1 : Int32) := rfl
  rw [fA]
  refine ⟨?_, rfl, ⟨N, hN, rfl, rfl, ?_⟩, ho, ?_, rfl, rfl, Or.inr ⟨hl, ?_⟩⟩
  · rcases htr with e | e
    · subst e; rfl
    · have n1 : ¬ tr = -1 := fun q => by rw [q] at e; exact absurd e (by decide)
      have n2 : (0 : Int32) ≤ tr := by rw [fa_le, i0]; exact e
      rw [if_neg n1, if_pos n2]
  · refine book_put hB hN hk ?_ l3 (fun c hc => ?_)
    · have eS : f_X5_hear_c144_S own t (pi k) t w len tr lwx llx ltx (nI N) pi S (pi k) = (f_X3_learnMessage_va (f_X3_learnReply_va (f_X3_countFrame_va (S (pi k)).1 tr t) (f_X4_copy_w lwx w len tr) len) (S (pi k)).2.1 (S (pi k)).2.2.1 (S (pi k)).2.2.2 (f_X4_copy_w lwx w len tr) len t own, f_X3_learnMessage_le (f_X3_learnReply_va (f_X3_countFrame_va (S (pi k)).1 tr t) (f_X4_copy_w lwx w len tr) len) (S (pi k)).2.1 (S (pi k)).2.2.1 (S (pi k)).2.2.2 (f_X4_copy_w lwx w len tr) len t own, f_X3_learnMessage_co (f_X3_learnReply_va (f_X3_countFrame_va (S (pi k)).1 tr t) (f_X4_copy_w lwx w len tr) len) (S (pi k)).2.1 (S (pi k)).2.2.1 (S (pi k)).2.2.2 (f_X4_copy_w lwx w len tr) len t own, f_X3_learnMessage_ct (f_X3_learnReply_va (f_X3_countFrame_va (S (pi k)).1 tr t) (f_X4_copy_w lwx w len tr) len) (S (pi k)).2.1 (S (pi k)).2.2.1 (S (pi k)).2.2.2 (f_X4_copy_w lwx w len tr) len t own) := by
        simp only [f_X5_hear_c144_S, f_X5_hear_c155_S, f_X5_hear_c166_S, f_X5_hear_c175_S, f_X5_hear_c190_S, va_up_self, f_X4_copy_len, f_X4_copy_tr]
      rw [eS]
      exact l2
    · simp only [f_X5_hear_c144_S, f_X5_hear_c155_S, f_X5_hear_c166_S, f_X5_hear_c175_S, f_X5_hear_c190_S]
      rw [va_up_ne _ _ hc, va_up_ne _ _ hc, va_up_ne _ _ hc]
  · have : f_X5_hear_c144_lw own t (pi k) t w len tr lwx llx ltx (nI N) pi S = f_X4_copy_w lwx w len tr := rfl
    rw [this]
    exact heard_same hs2 hdx
  · have : f_X5_hear_c144_lw own t (pi k) t w len tr lwx llx ltx (nI N) pi S = f_X4_copy_w lwx w len tr := rfl
    rw [this]
    have e2 : f_X5_hear_c144_llen own t (pi k) t w len tr lwx llx ltx (nI N) pi S = len := rfl
    rw [e2, rem_eq hs hl, rem_eq hs2 hl]
