section
/-! tables of the claim: PART A of the skeleton -/
/-- a private method of a class that the tables say can be made, by its rows of tables_1 -/
def lw_okq (q : MethodName × Nat) : Prop := (q.1.cls ≠ "java/lang/invoke/MethodHandle" ∧ q.1.cls ≠ "java/lang/invoke/VarHandle") ∧ Cond.instantiable q.1.cls q.2 ∈ tables_1 ∧ Cond.privateMethod q.1 ∈ tables_1 ∧ Cond.instanceMethod q.1 ∈ tables_1
theorem lw_p0 : lw_okq (⟨"SquitterDesk$Frame", "bit", "(I)I"⟩, 3) := ⟨⟨by decide +kernel, by decide +kernel⟩, List.mem_of_getElem? (i := 20) (by decide +kernel), List.mem_of_getElem? (i := 100) (by decide +kernel), List.mem_of_getElem? (i := 101) (by decide +kernel)⟩
theorem lw_p1 : lw_okq (⟨"SquitterDesk$Frame", "isSound", "(I)Z"⟩, 3) := ⟨⟨by decide +kernel, by decide +kernel⟩, List.mem_of_getElem? (i := 20) (by decide +kernel), List.mem_of_getElem? (i := 118) (by decide +kernel), List.mem_of_getElem? (i := 119) (by decide +kernel)⟩
theorem lw_p2 : lw_okq (⟨"SquitterDesk$Frame", "format", "()I"⟩, 3) := ⟨⟨by decide +kernel, by decide +kernel⟩, List.mem_of_getElem? (i := 20) (by decide +kernel), List.mem_of_getElem? (i := 127) (by decide +kernel), List.mem_of_getElem? (i := 128) (by decide +kernel)⟩
theorem lw_p3 : lw_okq (⟨"SquitterDesk$Frame", "turn", "(I)V"⟩, 3) := ⟨⟨by decide +kernel, by decide +kernel⟩, List.mem_of_getElem? (i := 20) (by decide +kernel), List.mem_of_getElem? (i := 178) (by decide +kernel), List.mem_of_getElem? (i := 179) (by decide +kernel)⟩
theorem lw_p4 : lw_okq (⟨"SquitterDesk$Craft", "learnName", "(LSquitterDesk$Frame;I)V"⟩, 4) := ⟨⟨by decide +kernel, by decide +kernel⟩, List.mem_of_getElem? (i := 44) (by decide +kernel), List.mem_of_getElem? (i := 260) (by decide +kernel), List.mem_of_getElem? (i := 261) (by decide +kernel)⟩
theorem lw_p5 : lw_okq (⟨"SquitterDesk$Craft", "learnOnGround", "(LSquitterDesk$Frame;IJ)V"⟩, 4) := ⟨⟨by decide +kernel, by decide +kernel⟩, List.mem_of_getElem? (i := 44) (by decide +kernel), List.mem_of_getElem? (i := 267) (by decide +kernel), List.mem_of_getElem? (i := 268) (by decide +kernel)⟩
theorem lw_p6 : lw_okq (⟨"SquitterDesk$Craft", "hasFreshPlace", "(I)Z"⟩, 4) := ⟨⟨by decide +kernel, by decide +kernel⟩, List.mem_of_getElem? (i := 44) (by decide +kernel), List.mem_of_getElem? (i := 275) (by decide +kernel), List.mem_of_getElem? (i := 276) (by decide +kernel)⟩
theorem lw_p7 : lw_okq (⟨"SquitterDesk$Craft", "lastPlace", "()J"⟩, 4) := ⟨⟨by decide +kernel, by decide +kernel⟩, List.mem_of_getElem? (i := 44) (by decide +kernel), List.mem_of_getElem? (i := 279) (by decide +kernel), List.mem_of_getElem? (i := 280) (by decide +kernel)⟩
theorem lw_p8 : lw_okq (⟨"SquitterDesk$Craft", "keepPlace", "(JI)V"⟩, 4) := ⟨⟨by decide +kernel, by decide +kernel⟩, List.mem_of_getElem? (i := 44) (by decide +kernel), List.mem_of_getElem? (i := 354) (by decide +kernel), List.mem_of_getElem? (i := 355) (by decide +kernel)⟩
theorem lw_p9 : lw_okq (⟨"SquitterDesk$Craft", "learnMotion", "(LSquitterDesk$Frame;I)V"⟩, 4) := ⟨⟨by decide +kernel, by decide +kernel⟩, List.mem_of_getElem? (i := 44) (by decide +kernel), List.mem_of_getElem? (i := 360) (by decide +kernel), List.mem_of_getElem? (i := 361) (by decide +kernel)⟩
theorem lw_p10 : lw_okq (⟨"SquitterDesk$Craft", "learnInAir", "(LSquitterDesk$Frame;II)V"⟩, 4) := ⟨⟨by decide +kernel, by decide +kernel⟩, List.mem_of_getElem? (i := 44) (by decide +kernel), List.mem_of_getElem? (i := 374) (by decide +kernel), List.mem_of_getElem? (i := 375) (by decide +kernel)⟩
theorem lw_p11 : lw_okq (⟨"SquitterDesk$Frame", "part", "(III)I"⟩, 3) := ⟨⟨by decide +kernel, by decide +kernel⟩, List.mem_of_getElem? (i := 20) (by decide +kernel), List.mem_of_getElem? (i := 404) (by decide +kernel), List.mem_of_getElem? (i := 405) (by decide +kernel)⟩
theorem lw_p12 : lw_okq (⟨"SquitterDeskModel", "frame", "(IIII)V"⟩, 15) := ⟨⟨by decide +kernel, by decide +kernel⟩, List.mem_of_getElem? (i := 475) (by decide +kernel), List.mem_of_getElem? (i := 589) (by decide +kernel), List.mem_of_getElem? (i := 590) (by decide +kernel)⟩
theorem lw_p13 : lw_okq (⟨"SquitterDeskModel", "remainder", "()I"⟩, 15) := ⟨⟨by decide +kernel, by decide +kernel⟩, List.mem_of_getElem? (i := 475) (by decide +kernel), List.mem_of_getElem? (i := 593) (by decide +kernel), List.mem_of_getElem? (i := 594) (by decide +kernel)⟩
theorem lw_p14 : lw_okq (⟨"SquitterDeskModel", "number", "([III)I"⟩, 15) := ⟨⟨by decide +kernel, by decide +kernel⟩, List.mem_of_getElem? (i := 475) (by decide +kernel), List.mem_of_getElem? (i := 607) (by decide +kernel), List.mem_of_getElem? (i := 608) (by decide +kernel)⟩
theorem lw_p15 : lw_okq (⟨"SquitterDeskModel", "isWrong", "(II)Z"⟩, 15) := ⟨⟨by decide +kernel, by decide +kernel⟩, List.mem_of_getElem? (i := 475) (by decide +kernel), List.mem_of_getElem? (i := 611) (by decide +kernel), List.mem_of_getElem? (i := 612) (by decide +kernel)⟩
def lw_privs_1 : List (MethodName × Nat) := [(⟨"SquitterDesk$Frame", "bit", "(I)I"⟩, 3), (⟨"SquitterDesk$Frame", "isSound", "(I)Z"⟩, 3), (⟨"SquitterDesk$Frame", "format", "()I"⟩, 3), (⟨"SquitterDesk$Frame", "turn", "(I)V"⟩, 3), (⟨"SquitterDesk$Craft", "learnName", "(LSquitterDesk$Frame;I)V"⟩, 4), (⟨"SquitterDesk$Craft", "learnOnGround", "(LSquitterDesk$Frame;IJ)V"⟩, 4), (⟨"SquitterDesk$Craft", "hasFreshPlace", "(I)Z"⟩, 4), (⟨"SquitterDesk$Craft", "lastPlace", "()J"⟩, 4), (⟨"SquitterDesk$Craft", "keepPlace", "(JI)V"⟩, 4), (⟨"SquitterDesk$Craft", "learnMotion", "(LSquitterDesk$Frame;I)V"⟩, 4), (⟨"SquitterDesk$Craft", "learnInAir", "(LSquitterDesk$Frame;II)V"⟩, 4), (⟨"SquitterDesk$Frame", "part", "(III)I"⟩, 3), (⟨"SquitterDeskModel", "frame", "(IIII)V"⟩, 15), (⟨"SquitterDeskModel", "remainder", "()I"⟩, 15), (⟨"SquitterDeskModel", "number", "([III)I"⟩, 15), (⟨"SquitterDeskModel", "isWrong", "(II)Z"⟩, 15)]
theorem lw_r1 : ∀ q ∈ lw_privs_1, lw_okq q := List.forall_mem_cons.mpr ⟨lw_p0, List.forall_mem_cons.mpr ⟨lw_p1, List.forall_mem_cons.mpr ⟨lw_p2, List.forall_mem_cons.mpr ⟨lw_p3, List.forall_mem_cons.mpr ⟨lw_p4, List.forall_mem_cons.mpr ⟨lw_p5, List.forall_mem_cons.mpr ⟨lw_p6, List.forall_mem_cons.mpr ⟨lw_p7, List.forall_mem_cons.mpr ⟨lw_p8, List.forall_mem_cons.mpr ⟨lw_p9, List.forall_mem_cons.mpr ⟨lw_p10, List.forall_mem_cons.mpr ⟨lw_p11, List.forall_mem_cons.mpr ⟨lw_p12, List.forall_mem_cons.mpr ⟨lw_p13, List.forall_mem_cons.mpr ⟨lw_p14, List.forall_mem_cons.mpr ⟨lw_p15, fun _ h => absurd h List.not_mem_nil⟩⟩⟩⟩⟩⟩⟩⟩⟩⟩⟩⟩⟩⟩⟩⟩
theorem lw_p16 : lw_okq (⟨"SquitterDeskModel", "toTurn", "()I"⟩, 15) := ⟨⟨by decide +kernel, by decide +kernel⟩, List.mem_of_getElem? (i := 475) (by decide +kernel), List.mem_of_getElem? (i := 615) (by decide +kernel), List.mem_of_getElem? (i := 616) (by decide +kernel)⟩
theorem lw_p17 : lw_okq (⟨"SquitterDeskModel", "zonesOf", "(JJ)I"⟩, 15) := ⟨⟨by decide +kernel, by decide +kernel⟩, List.mem_of_getElem? (i := 475) (by decide +kernel), List.mem_of_getElem? (i := 629) (by decide +kernel), List.mem_of_getElem? (i := 630) (by decide +kernel)⟩
theorem lw_p18 : lw_okq (⟨"SquitterDeskModel", "isTold", "(J)Z"⟩, 15) := ⟨⟨by decide +kernel, by decide +kernel⟩, List.mem_of_getElem? (i := 475) (by decide +kernel), List.mem_of_getElem? (i := 666) (by decide +kernel), List.mem_of_getElem? (i := 667) (by decide +kernel)⟩
theorem lw_p19 : lw_okq (⟨"SquitterDeskModel", "globalOf", "(JJZ)Z"⟩, 15) := ⟨⟨by decide +kernel, by decide +kernel⟩, List.mem_of_getElem? (i := 475) (by decide +kernel), List.mem_of_getElem? (i := 671) (by decide +kernel), List.mem_of_getElem? (i := 672) (by decide +kernel)⟩
theorem lw_p20 : lw_okq (⟨"SquitterDeskModel", "localOf", "(JZZII)Z"⟩, 15) := ⟨⟨by decide +kernel, by decide +kernel⟩, List.mem_of_getElem? (i := 475) (by decide +kernel), List.mem_of_getElem? (i := 693) (by decide +kernel), List.mem_of_getElem? (i := 694) (by decide +kernel)⟩
theorem lw_p21 : lw_okq (⟨"SquitterDeskModel", "at", "(II)I"⟩, 15) := ⟨⟨by decide +kernel, by decide +kernel⟩, List.mem_of_getElem? (i := 475) (by decide +kernel), List.mem_of_getElem? (i := 708) (by decide +kernel), List.mem_of_getElem? (i := 709) (by decide +kernel)⟩
theorem lw_p22 : lw_okq (⟨"SquitterDeskModel", "ages", "(I)V"⟩, 15) := ⟨⟨by decide +kernel, by decide +kernel⟩, List.mem_of_getElem? (i := 475) (by decide +kernel), List.mem_of_getElem? (i := 717) (by decide +kernel), List.mem_of_getElem? (i := 718) (by decide +kernel)⟩
theorem lw_p23 : lw_okq (⟨"SquitterDeskModel", "altitude", "(I)I"⟩, 15) := ⟨⟨by decide +kernel, by decide +kernel⟩, List.mem_of_getElem? (i := 475) (by decide +kernel), List.mem_of_getElem? (i := 729) (by decide +kernel), List.mem_of_getElem? (i := 730) (by decide +kernel)⟩
theorem lw_p24 : lw_okq (⟨"SquitterDeskModel", "of", "(II)I"⟩, 15) := ⟨⟨by decide +kernel, by decide +kernel⟩, List.mem_of_getElem? (i := 475) (by decide +kernel), List.mem_of_getElem? (i := 733) (by decide +kernel), List.mem_of_getElem? (i := 734) (by decide +kernel)⟩
theorem lw_p25 : lw_okq (⟨"SquitterDeskModel", "ungray", "(II)I"⟩, 15) := ⟨⟨by decide +kernel, by decide +kernel⟩, List.mem_of_getElem? (i := 475) (by decide +kernel), List.mem_of_getElem? (i := 737) (by decide +kernel), List.mem_of_getElem? (i := 738) (by decide +kernel)⟩
theorem lw_p26 : lw_okq (⟨"SquitterDeskModel", "squawk", "(I)I"⟩, 15) := ⟨⟨by decide +kernel, by decide +kernel⟩, List.mem_of_getElem? (i := 475) (by decide +kernel), List.mem_of_getElem? (i := 741) (by decide +kernel), List.mem_of_getElem? (i := 742) (by decide +kernel)⟩
theorem lw_p27 : lw_okq (⟨"SquitterDeskModel", "tells", "(II)V"⟩, 15) := ⟨⟨by decide +kernel, by decide +kernel⟩, List.mem_of_getElem? (i := 475) (by decide +kernel), List.mem_of_getElem? (i := 745) (by decide +kernel), List.mem_of_getElem? (i := 746) (by decide +kernel)⟩
theorem lw_p28 : lw_okq (⟨"SquitterDeskModel", "part", "(II)I"⟩, 15) := ⟨⟨by decide +kernel, by decide +kernel⟩, List.mem_of_getElem? (i := 475) (by decide +kernel), List.mem_of_getElem? (i := 749) (by decide +kernel), List.mem_of_getElem? (i := 750) (by decide +kernel)⟩
theorem lw_p29 : lw_okq (⟨"SquitterDeskModel", "speed", "(I)I"⟩, 15) := ⟨⟨by decide +kernel, by decide +kernel⟩, List.mem_of_getElem? (i := 475) (by decide +kernel), List.mem_of_getElem? (i := 753) (by decide +kernel), List.mem_of_getElem? (i := 754) (by decide +kernel)⟩
theorem lw_p30 : lw_okq (⟨"SquitterDeskModel", "onGround", "(II)V"⟩, 15) := ⟨⟨by decide +kernel, by decide +kernel⟩, List.mem_of_getElem? (i := 475) (by decide +kernel), List.mem_of_getElem? (i := 758) (by decide +kernel), List.mem_of_getElem? (i := 759) (by decide +kernel)⟩
theorem lw_p31 : lw_okq (⟨"SquitterDeskModel", "isFresh", "(II)Z"⟩, 15) := ⟨⟨by decide +kernel, by decide +kernel⟩, List.mem_of_getElem? (i := 475) (by decide +kernel), List.mem_of_getElem? (i := 762) (by decide +kernel), List.mem_of_getElem? (i := 763) (by decide +kernel)⟩
def lw_privs_2 : List (MethodName × Nat) := [(⟨"SquitterDeskModel", "toTurn", "()I"⟩, 15), (⟨"SquitterDeskModel", "zonesOf", "(JJ)I"⟩, 15), (⟨"SquitterDeskModel", "isTold", "(J)Z"⟩, 15), (⟨"SquitterDeskModel", "globalOf", "(JJZ)Z"⟩, 15), (⟨"SquitterDeskModel", "localOf", "(JZZII)Z"⟩, 15), (⟨"SquitterDeskModel", "at", "(II)I"⟩, 15), (⟨"SquitterDeskModel", "ages", "(I)V"⟩, 15), (⟨"SquitterDeskModel", "altitude", "(I)I"⟩, 15), (⟨"SquitterDeskModel", "of", "(II)I"⟩, 15), (⟨"SquitterDeskModel", "ungray", "(II)I"⟩, 15), (⟨"SquitterDeskModel", "squawk", "(I)I"⟩, 15), (⟨"SquitterDeskModel", "tells", "(II)V"⟩, 15), (⟨"SquitterDeskModel", "part", "(II)I"⟩, 15), (⟨"SquitterDeskModel", "speed", "(I)I"⟩, 15), (⟨"SquitterDeskModel", "onGround", "(II)V"⟩, 15), (⟨"SquitterDeskModel", "isFresh", "(II)Z"⟩, 15)]
theorem lw_r2 : ∀ q ∈ lw_privs_2, lw_okq q := List.forall_mem_cons.mpr ⟨lw_p16, List.forall_mem_cons.mpr ⟨lw_p17, List.forall_mem_cons.mpr ⟨lw_p18, List.forall_mem_cons.mpr ⟨lw_p19, List.forall_mem_cons.mpr ⟨lw_p20, List.forall_mem_cons.mpr ⟨lw_p21, List.forall_mem_cons.mpr ⟨lw_p22, List.forall_mem_cons.mpr ⟨lw_p23, List.forall_mem_cons.mpr ⟨lw_p24, List.forall_mem_cons.mpr ⟨lw_p25, List.forall_mem_cons.mpr ⟨lw_p26, List.forall_mem_cons.mpr ⟨lw_p27, List.forall_mem_cons.mpr ⟨lw_p28, List.forall_mem_cons.mpr ⟨lw_p29, List.forall_mem_cons.mpr ⟨lw_p30, List.forall_mem_cons.mpr ⟨lw_p31, fun _ h => absurd h List.not_mem_nil⟩⟩⟩⟩⟩⟩⟩⟩⟩⟩⟩⟩⟩⟩⟩⟩
theorem lw_p32 : lw_okq (⟨"SquitterDeskModel", "toldNow", "()J"⟩, 15) := ⟨⟨by decide +kernel, by decide +kernel⟩, List.mem_of_getElem? (i := 475) (by decide +kernel), List.mem_of_getElem? (i := 766) (by decide +kernel), List.mem_of_getElem? (i := 767) (by decide +kernel)⟩
theorem lw_p33 : lw_okq (⟨"SquitterDeskModel", "comes", "(IIZ)V"⟩, 15) := ⟨⟨by decide +kernel, by decide +kernel⟩, List.mem_of_getElem? (i := 475) (by decide +kernel), List.mem_of_getElem? (i := 770) (by decide +kernel), List.mem_of_getElem? (i := 771) (by decide +kernel)⟩
theorem lw_p34 : lw_okq (⟨"SquitterDeskModel", "inAir", "(II)V"⟩, 15) := ⟨⟨by decide +kernel, by decide +kernel⟩, List.mem_of_getElem? (i := 475) (by decide +kernel), List.mem_of_getElem? (i := 774) (by decide +kernel), List.mem_of_getElem? (i := 775) (by decide +kernel)⟩
theorem lw_p35 : lw_okq (⟨"SquitterDeskModel", "moves", "(II)V"⟩, 15) := ⟨⟨by decide +kernel, by decide +kernel⟩, List.mem_of_getElem? (i := 475) (by decide +kernel), List.mem_of_getElem? (i := 778) (by decide +kernel), List.mem_of_getElem? (i := 779) (by decide +kernel)⟩
theorem lw_p36 : lw_okq (⟨"SquitterDeskModel", "isCraft", "(I)Z"⟩, 15) := ⟨⟨by decide +kernel, by decide +kernel⟩, List.mem_of_getElem? (i := 475) (by decide +kernel), List.mem_of_getElem? (i := 802) (by decide +kernel), List.mem_of_getElem? (i := 803) (by decide +kernel)⟩
def lw_privs_3 : List (MethodName × Nat) := [(⟨"SquitterDeskModel", "toldNow", "()J"⟩, 15), (⟨"SquitterDeskModel", "comes", "(IIZ)V"⟩, 15), (⟨"SquitterDeskModel", "inAir", "(II)V"⟩, 15), (⟨"SquitterDeskModel", "moves", "(II)V"⟩, 15), (⟨"SquitterDeskModel", "isCraft", "(I)Z"⟩, 15)]
theorem lw_r3 : ∀ q ∈ lw_privs_3, lw_okq q := List.forall_mem_cons.mpr ⟨lw_p32, List.forall_mem_cons.mpr ⟨lw_p33, List.forall_mem_cons.mpr ⟨lw_p34, List.forall_mem_cons.mpr ⟨lw_p35, List.forall_mem_cons.mpr ⟨lw_p36, fun _ h => absurd h List.not_mem_nil⟩⟩⟩⟩⟩
def lw_privs : List (MethodName × Nat) := lw_privs_1 ++ (lw_privs_2 ++ (lw_privs_3))
def lw_tbl : List Cond := k2_sels lw_privs ++ tables_1
theorem lw_privs_ok : ∀ q ∈ lw_privs, lw_okq q := by
  show ∀ q ∈ lw_privs_1 ++ (lw_privs_2 ++ (lw_privs_3)), lw_okq q
  exact List.forall_mem_append.mpr ⟨lw_r1, List.forall_mem_append.mpr ⟨lw_r2, lw_r3⟩⟩
end
section
/-! names of classes, fields, methods -/
def RX0 : String := "SquitterDesk$Book"
def TX0 : u_T := fun k => match k with
  | 0 => ("SquitterDesk$Book", "rows", "[LSquitterDesk$Craft;", true)
  | _ => ("SquitterDesk$Book", "size", "I", false)
def tyX0 : Nat → FieldType := fun k => match k with
  | 0 => .array (.object "SquitterDesk$Craft")
  | _ => .int
abbrev wsX00 : List Cond := u_ws RX0 TX0 2
theorem nmX0 : ∀ a, a < 2 → ∀ b, b < 2 → a ≠ b → (TX0 a).2.1 ≠ (TX0 b).2.1 := by decide +kernel
theorem tyX0_ok : ∀ k, k < 2 → parseFieldDescriptor (TX0 k).2.2.1 = some (tyX0 k) := by decide +kernel
abbrev cX0_init : ByteArray := prog_2_method_1_code
def yX0_init : MethodName := ⟨RX0, "<init>", "()V"⟩
abbrev cX0_size : ByteArray := prog_2_method_2_code
def yX0_size : MethodName := ⟨RX0, "size", "()I"⟩
abbrev cX0_at : ByteArray := prog_2_method_3_code
def yX0_at : MethodName := ⟨RX0, "at", "(I)LSquitterDesk$Craft;"⟩
abbrev cX0_indexOf : ByteArray := prog_2_method_4_code
def yX0_indexOf : MethodName := ⟨RX0, "indexOf", "(I)I"⟩
abbrev cX0_open : ByteArray := prog_2_method_5_code
def yX0_open : MethodName := ⟨RX0, "open", "(I)LSquitterDesk$Craft;"⟩
abbrev cX0_forgetSilent : ByteArray := prog_2_method_6_code
def yX0_forgetSilent : MethodName := ⟨RX0, "forgetSilent", "(I)V"⟩
def RX1 : String := "SquitterDesk$Codes"
def TX1 : u_T := fun k => match k with
  | _ => ("", "", "", false)
def tyX1 : Nat → FieldType := fun k => match k with
  | _ => .int
abbrev wsX10 : List Cond := u_ws RX1 TX1 0
abbrev cX1_altitude : ByteArray := prog_3_method_2_code
def yX1_altitude : MethodName := ⟨RX1, "altitude", "(I)I"⟩
abbrev cX1_withM : ByteArray := prog_3_method_3_code
def yX1_withM : MethodName := ⟨RX1, "withM", "(I)I"⟩
abbrev cX1_altitudeOfGray : ByteArray := prog_3_method_4_code
def yX1_altitudeOfGray : MethodName := ⟨RX1, "altitudeOfGray", "(I)I"⟩
abbrev cX1_ofGray : ByteArray := prog_3_method_5_code
def yX1_ofGray : MethodName := ⟨RX1, "ofGray", "(I)I"⟩
abbrev cX1_squawk : ByteArray := prog_3_method_6_code
def yX1_squawk : MethodName := ⟨RX1, "squawk", "(I)I"⟩
abbrev cX1_three : ByteArray := prog_3_method_7_code
def yX1_three : MethodName := ⟨RX1, "three", "(IIII)I"⟩
abbrev cX1_letter : ByteArray := prog_3_method_8_code
def yX1_letter : MethodName := ⟨RX1, "letter", "(I)I"⟩
abbrev cX1_groundSpeed : ByteArray := prog_3_method_9_code
def yX1_groundSpeed : MethodName := ⟨RX1, "groundSpeed", "(I)I"⟩
abbrev cX1_lessOne : ByteArray := prog_3_method_10_code
def yX1_lessOne : MethodName := ⟨RX1, "lessOne", "(III)I"⟩
abbrev cX1_speedOf : ByteArray := prog_3_method_11_code
def yX1_speedOf : MethodName := ⟨RX1, "speedOf", "(II)I"⟩
abbrev cX1_root : ByteArray := prog_3_method_12_code
def yX1_root : MethodName := ⟨RX1, "root", "(J)I"⟩
def RX2 : String := "SquitterDesk$Compact"
def TX2 : u_T := fun k => match k with
  | _ => ("", "", "", false)
def tyX2 : Nat → FieldType := fun k => match k with
  | _ => .int
abbrev wsX20 : List Cond := u_ws RX2 TX2 0
abbrev cX2_isPlace : ByteArray := prog_4_method_2_code
def yX2_isPlace : MethodName := ⟨RX2, "isPlace", "(II)Z"⟩
abbrev cX2_isCode : ByteArray := prog_4_method_3_code
def yX2_isCode : MethodName := ⟨RX2, "isCode", "(J)Z"⟩
abbrev cX2_pack : ByteArray := prog_4_method_4_code
def yX2_pack : MethodName := ⟨RX2, "pack", "(JJ)J"⟩
abbrev cX2_latitudeOf : ByteArray := prog_4_method_5_code
def yX2_latitudeOf : MethodName := ⟨RX2, "latitudeOf", "(J)I"⟩
abbrev cX2_longitudeOf : ByteArray := prog_4_method_6_code
def yX2_longitudeOf : MethodName := ⟨RX2, "longitudeOf", "(J)I"⟩
abbrev cX2_zoneCount : ByteArray := prog_4_method_7_code
def yX2_zoneCount : MethodName := ⟨RX2, "zoneCount", "(JJ)I"⟩
abbrev cX2_code : ByteArray := prog_4_method_8_code
def yX2_code : MethodName := ⟨RX2, "code", "(IIZZ)J"⟩
abbrev cX2_placeOfPair : ByteArray := prog_4_method_9_code
def yX2_placeOfPair : MethodName := ⟨RX2, "placeOfPair", "(JJZ)J"⟩
abbrev cX2_placeNear : ByteArray := prog_4_method_10_code
def yX2_placeNear : MethodName := ⟨RX2, "placeNear", "(JZZJ)J"⟩
abbrev cX2_placeAt : ByteArray := prog_4_method_11_code
def yX2_placeAt : MethodName := ⟨RX2, "placeAt", "(JJJZZ)J"⟩
abbrev cX2_turnOf : ByteArray := prog_4_method_12_code
def yX2_turnOf : MethodName := ⟨RX2, "turnOf", "(Z)J"⟩
abbrev cX2_bandsOf : ByteArray := prog_4_method_13_code
def yX2_bandsOf : MethodName := ⟨RX2, "bandsOf", "(Z)J"⟩
abbrev cX2_zonesOf : ByteArray := prog_4_method_14_code
def yX2_zonesOf : MethodName := ⟨RX2, "zonesOf", "(IZ)J"⟩
abbrev cX2_yOf : ByteArray := prog_4_method_15_code
def yX2_yOf : MethodName := ⟨RX2, "yOf", "(J)J"⟩
abbrev cX2_xOf : ByteArray := prog_4_method_16_code
def yX2_xOf : MethodName := ⟨RX2, "xOf", "(J)J"⟩
abbrev cX2_nearestStep : ByteArray := prog_4_method_17_code
def yX2_nearestStep : MethodName := ⟨RX2, "nearestStep", "(JJJ)J"⟩
abbrev cX2_stepNear : ByteArray := prog_4_method_18_code
def yX2_stepNear : MethodName := ⟨RX2, "stepNear", "(JJJJ)J"⟩
abbrev cX2_stepInBand : ByteArray := prog_4_method_19_code
def yX2_stepInBand : MethodName := ⟨RX2, "stepInBand", "(JJJ)J"⟩
abbrev cX2_isBeyondPole : ByteArray := prog_4_method_20_code
def yX2_isBeyondPole : MethodName := ⟨RX2, "isBeyondPole", "(JJJ)Z"⟩
abbrev cX2_zoneCountAt : ByteArray := prog_4_method_21_code
def yX2_zoneCountAt : MethodName := ⟨RX2, "zoneCountAt", "(JJJ)I"⟩
abbrev cX2_quotient : ByteArray := prog_4_method_22_code
def yX2_quotient : MethodName := ⟨RX2, "quotient", "(JJ)J"⟩
abbrev cX2_remainder : ByteArray := prog_4_method_23_code
def yX2_remainder : MethodName := ⟨RX2, "remainder", "(JJ)J"⟩
def RX3 : String := "SquitterDesk$Craft"
def TX3 : u_T := fun k => match k with
  | 0 => ("SquitterDesk$Craft", "values", "[I", true)
  | 1 => ("SquitterDesk$Craft", "letters", "[I", true)
  | 2 => ("SquitterDesk$Craft", "codes", "[J", true)
  | _ => ("SquitterDesk$Craft", "codeTimes", "[I", true)
def tyX3 : Nat → FieldType := fun k => match k with
  | 0 => .array .int
  | 1 => .array .int
  | 2 => .array .long
  | _ => .array .int
abbrev wsX30 : List Cond := u_ws RX3 TX3 4
theorem nmX3 : ∀ a, a < 4 → ∀ b, b < 4 → a ≠ b → (TX3 a).2.1 ≠ (TX3 b).2.1 := by decide +kernel
theorem tyX3_ok : ∀ k, k < 4 → parseFieldDescriptor (TX3 k).2.2.1 = some (tyX3 k) := by decide +kernel
abbrev cX3_init : ByteArray := prog_5_method_1_code
def yX3_init : MethodName := ⟨RX3, "<init>", "()V"⟩
abbrev cX3_begin : ByteArray := prog_5_method_2_code
def yX3_begin : MethodName := ⟨RX3, "begin", "(I)V"⟩
abbrev cX3_value : ByteArray := prog_5_method_3_code
def yX3_value : MethodName := ⟨RX3, "value", "(I)I"⟩
abbrev cX3_letter : ByteArray := prog_5_method_4_code
def yX3_letter : MethodName := ⟨RX3, "letter", "(I)I"⟩
abbrev cX3_countFrame : ByteArray := prog_5_method_5_code
def yX3_countFrame : MethodName := ⟨RX3, "countFrame", "(LSquitterDesk$Frame;I)V"⟩
abbrev cX3_learnReply : ByteArray := prog_5_method_6_code
def yX3_learnReply : MethodName := ⟨RX3, "learnReply", "(LSquitterDesk$Frame;)V"⟩
abbrev cX3_learnMessage : ByteArray := prog_5_method_7_code
def yX3_learnMessage : MethodName := ⟨RX3, "learnMessage", "(LSquitterDesk$Frame;IJ)V"⟩
abbrev cX3_learnName : ByteArray := prog_5_method_8_code
def yX3_learnName : MethodName := ⟨RX3, "learnName", "(LSquitterDesk$Frame;I)V"⟩
abbrev cX3_learnOnGround : ByteArray := prog_5_method_9_code
def yX3_learnOnGround : MethodName := ⟨RX3, "learnOnGround", "(LSquitterDesk$Frame;IJ)V"⟩
abbrev cX3_learnInAir : ByteArray := prog_5_method_10_code
def yX3_learnInAir : MethodName := ⟨RX3, "learnInAir", "(LSquitterDesk$Frame;II)V"⟩
abbrev cX3_learnMotion : ByteArray := prog_5_method_11_code
def yX3_learnMotion : MethodName := ⟨RX3, "learnMotion", "(LSquitterDesk$Frame;I)V"⟩
abbrev cX3_hasFreshPlace : ByteArray := prog_5_method_12_code
def yX3_hasFreshPlace : MethodName := ⟨RX3, "hasFreshPlace", "(I)Z"⟩
abbrev cX3_lastPlace : ByteArray := prog_5_method_13_code
def yX3_lastPlace : MethodName := ⟨RX3, "lastPlace", "()J"⟩
abbrev cX3_keepPlace : ByteArray := prog_5_method_14_code
def yX3_keepPlace : MethodName := ⟨RX3, "keepPlace", "(JI)V"⟩
abbrev cX3_isOdd : ByteArray := prog_5_method_15_code
def yX3_isOdd : MethodName := ⟨RX3, "isOdd", "(LSquitterDesk$Frame;)Z"⟩
abbrev cX3_codeIn : ByteArray := prog_5_method_16_code
def yX3_codeIn : MethodName := ⟨RX3, "codeIn", "(LSquitterDesk$Frame;)J"⟩
def RX4 : String := "SquitterDesk$Frame"
def TX4 : u_T := fun k => match k with
  | 0 => ("SquitterDesk$Frame", "words", "[I", true)
  | 1 => ("SquitterDesk$Frame", "length", "I", false)
  | _ => ("SquitterDesk$Frame", "turned", "I", false)
def tyX4 : Nat → FieldType := fun k => match k with
  | 0 => .array .int
  | 1 => .int
  | _ => .int
abbrev wsX40 : List Cond := u_ws RX4 TX4 3
theorem nmX4 : ∀ a, a < 3 → ∀ b, b < 3 → a ≠ b → (TX4 a).2.1 ≠ (TX4 b).2.1 := by decide +kernel
theorem tyX4_ok : ∀ k, k < 3 → parseFieldDescriptor (TX4 k).2.2.1 = some (tyX4 k) := by decide +kernel
abbrev cX4_init : ByteArray := prog_6_method_1_code
def yX4_init : MethodName := ⟨RX4, "<init>", "()V"⟩
abbrev cX4_write : ByteArray := prog_6_method_2_code
def yX4_write : MethodName := ⟨RX4, "write", "(IIII)V"⟩
abbrev cX4_copy : ByteArray := prog_6_method_3_code
def yX4_copy : MethodName := ⟨RX4, "copy", "(LSquitterDesk$Frame;)V"⟩
abbrev cX4_turnedBit : ByteArray := prog_6_method_4_code
def yX4_turnedBit : MethodName := ⟨RX4, "turnedBit", "()I"⟩
abbrev cX4_number : ByteArray := prog_6_method_5_code
def yX4_number : MethodName := ⟨RX4, "number", "(II)I"⟩
abbrev cX4_message : ByteArray := prog_6_method_6_code
def yX4_message : MethodName := ⟨RX4, "message", "(II)I"⟩
abbrev cX4_parity : ByteArray := prog_6_method_7_code
def yX4_parity : MethodName := ⟨RX4, "parity", "()I"⟩
abbrev cX4_remainder : ByteArray := prog_6_method_8_code
def yX4_remainder : MethodName := ⟨RX4, "remainder", "()I"⟩
abbrev cX4_wrongBit : ByteArray := prog_6_method_9_code
def yX4_wrongBit : MethodName := ⟨RX4, "wrongBit", "()I"⟩
abbrev cX4_putRight : ByteArray := prog_6_method_10_code
def yX4_putRight : MethodName := ⟨RX4, "putRight", "()Z"⟩
abbrev cX4_address : ByteArray := prog_6_method_11_code
def yX4_address : MethodName := ⟨RX4, "address", "()I"⟩
abbrev cX4_isOf : ByteArray := prog_6_method_12_code
def yX4_isOf : MethodName := ⟨RX4, "isOf", "(I)Z"⟩
abbrev cX4_told : ByteArray := prog_6_method_13_code
def yX4_told : MethodName := ⟨RX4, "told", "(I)I"⟩
abbrev cX4_part : ByteArray := prog_6_method_14_code
def yX4_part : MethodName := ⟨RX4, "part", "(III)I"⟩
abbrev cX4_format : ByteArray := prog_6_method_15_code
def yX4_format : MethodName := ⟨RX4, "format", "()I"⟩
abbrev cX4_isSound : ByteArray := prog_6_method_16_code
def yX4_isSound : MethodName := ⟨RX4, "isSound", "(I)Z"⟩
abbrev cX4_bit : ByteArray := prog_6_method_17_code
def yX4_bit : MethodName := ⟨RX4, "bit", "(I)I"⟩
abbrev cX4_turn : ByteArray := prog_6_method_18_code
def yX4_turn : MethodName := ⟨RX4, "turn", "(I)V"⟩
abbrev cX4_reduced : ByteArray := prog_6_method_19_code
def yX4_reduced : MethodName := ⟨RX4, "reduced", "(I)I"⟩
def RX5 : String := "SquitterDesk"
def TX5 : u_T := fun k => match k with
  | 0 => ("SquitterDesk", "draft", "LSquitterDesk$Frame;", true)
  | 1 => ("SquitterDesk", "latest", "LSquitterDesk$Frame;", true)
  | 2 => ("SquitterDesk", "book", "LSquitterDesk$Book;", true)
  | 3 => ("SquitterDesk", "ownPlace", "J", false)
  | _ => ("SquitterDesk", "clock", "I", false)
def tyX5 : Nat → FieldType := fun k => match k with
  | 0 => .object "SquitterDesk$Frame"
  | 1 => .object "SquitterDesk$Frame"
  | 2 => .object "SquitterDesk$Book"
  | 3 => .long
  | _ => .int
abbrev wsX50 : List Cond := u_ws RX5 TX5 5
theorem nmX5 : ∀ a, a < 5 → ∀ b, b < 5 → a ≠ b → (TX5 a).2.1 ≠ (TX5 b).2.1 := by decide +kernel
theorem tyX5_ok : ∀ k, k < 5 → parseFieldDescriptor (TX5 k).2.2.1 = some (tyX5 k) := by decide +kernel
abbrev cX5_init : ByteArray := prog_1_method_1_code
def yX5_init : MethodName := ⟨RX5, "<init>", "()V"⟩
abbrev cX5_syndrome : ByteArray := prog_1_method_2_code
def yX5_syndrome : MethodName := ⟨RX5, "syndrome", "(IIII)I"⟩
abbrev cX5_repair : ByteArray := prog_1_method_3_code
def yX5_repair : MethodName := ⟨RX5, "repair", "(IIII)I"⟩
abbrev cX5_seal : ByteArray := prog_1_method_4_code
def yX5_seal : MethodName := ⟨RX5, "seal", "(IIII)I"⟩
abbrev cX5_place : ByteArray := prog_1_method_5_code
def yX5_place : MethodName := ⟨RX5, "place", "(II)Z"⟩
abbrev cX5_hear : ByteArray := prog_1_method_6_code
def yX5_hear : MethodName := ⟨RX5, "hear", "(IIIII)I"⟩
abbrev cX5_field : ByteArray := prog_1_method_7_code
def yX5_field : MethodName := ⟨RX5, "field", "(I)I"⟩
abbrev cX5_bits : ByteArray := prog_1_method_8_code
def yX5_bits : MethodName := ⟨RX5, "bits", "(II)I"⟩
abbrev cX5_crafts : ByteArray := prog_1_method_9_code
def yX5_crafts : MethodName := ⟨RX5, "crafts", "()I"⟩
abbrev cX5_find : ByteArray := prog_1_method_10_code
def yX5_find : MethodName := ⟨RX5, "find", "(I)I"⟩
abbrev cX5_craft : ByteArray := prog_1_method_11_code
def yX5_craft : MethodName := ⟨RX5, "craft", "(II)I"⟩
abbrev cX5_sign : ByteArray := prog_1_method_12_code
def yX5_sign : MethodName := ⟨RX5, "sign", "(II)I"⟩
abbrev cX5_zones : ByteArray := prog_1_method_13_code
def yX5_zones : MethodName := ⟨RX5, "zones", "(I)I"⟩
abbrev cX5_encode : ByteArray := prog_1_method_14_code
def yX5_encode : MethodName := ⟨RX5, "encode", "(IIZZ)J"⟩
abbrev cX5_global : ByteArray := prog_1_method_15_code
def yX5_global : MethodName := ⟨RX5, "global", "(JJZ)J"⟩
abbrev cX5_local : ByteArray := prog_1_method_16_code
def yX5_local : MethodName := ⟨RX5, "local", "(JZZII)J"⟩
def RX6 : String := "SquitterDeskModel"
def TX6 : u_T := fun k => match k with
  | 0 => ("SquitterDeskModel", "bounds", "[J", true)
  | 1 => ("SquitterDeskModel", "rows", "[I", true)
  | 2 => ("SquitterDeskModel", "many", "I", false)
  | 3 => ("SquitterDeskModel", "latest", "I", false)
  | 4 => ("SquitterDeskModel", "bit", "[I", true)
  | 5 => ("SquitterDeskModel", "size", "I", false)
  | 6 => ("SquitterDeskModel", "heard", "[I", true)
  | 7 => ("SquitterDeskModel", "heardSize", "I", false)
  | 8 => ("SquitterDeskModel", "heardSyndrome", "I", false)
  | 9 => ("SquitterDeskModel", "heardRight", "I", false)
  | 10 => ("SquitterDeskModel", "hasPlace", "Z", false)
  | 11 => ("SquitterDeskModel", "ownLatitude", "I", false)
  | 12 => ("SquitterDeskModel", "ownLongitude", "I", false)
  | 13 => ("SquitterDeskModel", "latitude", "I", false)
  | _ => ("SquitterDeskModel", "longitude", "I", false)
def tyX6 : Nat → FieldType := fun k => match k with
  | 0 => .array .long
  | 1 => .array .int
  | 2 => .int
  | 3 => .int
  | 4 => .array .int
  | 5 => .int
  | 6 => .array .int
  | 7 => .int
  | 8 => .int
  | 9 => .int
  | 10 => .boolean
  | 11 => .int
  | 12 => .int
  | 13 => .int
  | _ => .int
abbrev wsX60 : List Cond := u_ws RX6 TX6 15
theorem nmX6 : ∀ a, a < 15 → ∀ b, b < 15 → a ≠ b → (TX6 a).2.1 ≠ (TX6 b).2.1 := by decide +kernel
theorem tyX6_ok : ∀ k, k < 15 → parseFieldDescriptor (TX6 k).2.2.1 = some (tyX6 k) := by decide +kernel
abbrev cX6_init : ByteArray := prog_8_method_1_code
def yX6_init : MethodName := ⟨RX6, "<init>", "()V"⟩
abbrev cX6_frame : ByteArray := prog_8_method_2_code
def yX6_frame : MethodName := ⟨RX6, "frame", "(IIII)V"⟩
abbrev cX6_number : ByteArray := prog_8_method_3_code
def yX6_number : MethodName := ⟨RX6, "number", "([III)I"⟩
abbrev cX6_remainder : ByteArray := prog_8_method_4_code
def yX6_remainder : MethodName := ⟨RX6, "remainder", "()I"⟩
abbrev cX6_syndrome : ByteArray := prog_8_method_5_code
def yX6_syndrome : MethodName := ⟨RX6, "syndrome", "(IIII)I"⟩
abbrev cX6_seal : ByteArray := prog_8_method_6_code
def yX6_seal : MethodName := ⟨RX6, "seal", "(IIII)I"⟩
abbrev cX6_isWrong : ByteArray := prog_8_method_7_code
def yX6_isWrong : MethodName := ⟨RX6, "isWrong", "(II)Z"⟩
abbrev cX6_toTurn : ByteArray := prog_8_method_8_code
def yX6_toTurn : MethodName := ⟨RX6, "toTurn", "()I"⟩
abbrev cX6_repair : ByteArray := prog_8_method_9_code
def yX6_repair : MethodName := ⟨RX6, "repair", "(IIII)I"⟩
abbrev cX6_ungray : ByteArray := prog_8_method_10_code
def yX6_ungray : MethodName := ⟨RX6, "ungray", "(II)I"⟩
abbrev cX6_of : ByteArray := prog_8_method_11_code
def yX6_of : MethodName := ⟨RX6, "of", "(II)I"⟩
abbrev cX6_altitude : ByteArray := prog_8_method_12_code
def yX6_altitude : MethodName := ⟨RX6, "altitude", "(I)I"⟩
abbrev cX6_squawk : ByteArray := prog_8_method_13_code
def yX6_squawk : MethodName := ⟨RX6, "squawk", "(I)I"⟩
abbrev cX6_speed : ByteArray := prog_8_method_14_code
def yX6_speed : MethodName := ⟨RX6, "speed", "(I)I"⟩
abbrev cX6_root : ByteArray := prog_8_method_15_code
def yX6_root : MethodName := ⟨RX6, "root", "(I)I"⟩
abbrev cX6_part : ByteArray := prog_8_method_16_code
def yX6_part : MethodName := ⟨RX6, "part", "(II)I"⟩
abbrev cX6_rest : ByteArray := prog_8_method_17_code
def yX6_rest : MethodName := ⟨RX6, "rest", "(JJ)J"⟩
abbrev cX6_down : ByteArray := prog_8_method_18_code
def yX6_down : MethodName := ⟨RX6, "down", "(JJ)J"⟩
abbrev cX6_sizeOf : ByteArray := prog_8_method_19_code
def yX6_sizeOf : MethodName := ⟨RX6, "sizeOf", "(J)J"⟩
abbrev cX6_atLeast1 : ByteArray := prog_8_method_20_code
def yX6_atLeast1 : MethodName := ⟨RX6, "atLeast1", "(I)I"⟩
abbrev cX6_zonesOf : ByteArray := prog_8_method_21_code
def yX6_zonesOf : MethodName := ⟨RX6, "zonesOf", "(JJ)I"⟩
abbrev cX6_isLatitude : ByteArray := prog_8_method_22_code
def yX6_isLatitude : MethodName := ⟨RX6, "isLatitude", "(I)Z"⟩
abbrev cX6_isLongitude : ByteArray := prog_8_method_23_code
def yX6_isLongitude : MethodName := ⟨RX6, "isLongitude", "(I)Z"⟩
abbrev cX6_zones : ByteArray := prog_8_method_24_code
def yX6_zones : MethodName := ⟨RX6, "zones", "(I)I"⟩
abbrev cX6_parts : ByteArray := prog_8_method_25_code
def yX6_parts : MethodName := ⟨RX6, "parts", "(JJ)J"⟩
abbrev cX6_encode : ByteArray := prog_8_method_26_code
def yX6_encode : MethodName := ⟨RX6, "encode", "(IIZZ)J"⟩
abbrev cX6_isTold : ByteArray := prog_8_method_27_code
def yX6_isTold : MethodName := ⟨RX6, "isTold", "(J)Z"⟩
abbrev cX6_both : ByteArray := prog_8_method_28_code
def yX6_both : MethodName := ⟨RX6, "both", "(II)J"⟩
abbrev cX6_globalOf : ByteArray := prog_8_method_29_code
def yX6_globalOf : MethodName := ⟨RX6, "globalOf", "(JJZ)Z"⟩
abbrev cX6_global : ByteArray := prog_8_method_30_code
def yX6_global : MethodName := ⟨RX6, "global", "(JJZ)J"⟩
abbrev cX6_nearest : ByteArray := prog_8_method_31_code
def yX6_nearest : MethodName := ⟨RX6, "nearest", "(JJJJ)J"⟩
abbrev cX6_localOf : ByteArray := prog_8_method_32_code
def yX6_localOf : MethodName := ⟨RX6, "localOf", "(JZZII)Z"⟩
abbrev cX6_local : ByteArray := prog_8_method_33_code
def yX6_local : MethodName := ⟨RX6, "local", "(JZZII)J"⟩
abbrev cX6_place : ByteArray := prog_8_method_34_code
def yX6_place : MethodName := ⟨RX6, "place", "(II)Z"⟩
abbrev cX6_isKnown : ByteArray := prog_8_method_35_code
def yX6_isKnown : MethodName := ⟨RX6, "isKnown", "(I)Z"⟩
abbrev cX6_isSquitter : ByteArray := prog_8_method_36_code
def yX6_isSquitter : MethodName := ⟨RX6, "isSquitter", "(I)Z"⟩
abbrev cX6_at : ByteArray := prog_8_method_37_code
def yX6_at : MethodName := ⟨RX6, "at", "(II)I"⟩
abbrev cX6_ages : ByteArray := prog_8_method_38_code
def yX6_ages : MethodName := ⟨RX6, "ages", "(I)V"⟩
abbrev cX6_find : ByteArray := prog_8_method_39_code
def yX6_find : MethodName := ⟨RX6, "find", "(I)I"⟩
abbrev cX6_hear : ByteArray := prog_8_method_40_code
def yX6_hear : MethodName := ⟨RX6, "hear", "(IIIII)I"⟩
abbrev cX6_tells : ByteArray := prog_8_method_41_code
def yX6_tells : MethodName := ⟨RX6, "tells", "(II)V"⟩
abbrev cX6_moves : ByteArray := prog_8_method_42_code
def yX6_moves : MethodName := ⟨RX6, "moves", "(II)V"⟩
abbrev cX6_isFresh : ByteArray := prog_8_method_43_code
def yX6_isFresh : MethodName := ⟨RX6, "isFresh", "(II)Z"⟩
abbrev cX6_toldNow : ByteArray := prog_8_method_44_code
def yX6_toldNow : MethodName := ⟨RX6, "toldNow", "()J"⟩
abbrev cX6_comes : ByteArray := prog_8_method_45_code
def yX6_comes : MethodName := ⟨RX6, "comes", "(IIZ)V"⟩
abbrev cX6_onGround : ByteArray := prog_8_method_46_code
def yX6_onGround : MethodName := ⟨RX6, "onGround", "(II)V"⟩
abbrev cX6_inAir : ByteArray := prog_8_method_47_code
def yX6_inAir : MethodName := ⟨RX6, "inAir", "(II)V"⟩
abbrev cX6_field : ByteArray := prog_8_method_48_code
def yX6_field : MethodName := ⟨RX6, "field", "(I)I"⟩
abbrev cX6_bits : ByteArray := prog_8_method_49_code
def yX6_bits : MethodName := ⟨RX6, "bits", "(II)I"⟩
abbrev cX6_crafts : ByteArray := prog_8_method_50_code
def yX6_crafts : MethodName := ⟨RX6, "crafts", "()I"⟩
abbrev cX6_isCraft : ByteArray := prog_8_method_51_code
def yX6_isCraft : MethodName := ⟨RX6, "isCraft", "(I)Z"⟩
abbrev cX6_craft : ByteArray := prog_8_method_52_code
def yX6_craft : MethodName := ⟨RX6, "craft", "(II)I"⟩
abbrev cX6_sign : ByteArray := prog_8_method_53_code
def yX6_sign : MethodName := ⟨RX6, "sign", "(II)I"⟩
def RJ9 : String := "java/lang/Math"
def TJ9 : u_T := fun k => match k with
  | _ => ("", "", "", false)
def tyJ9 : Nat → FieldType := fun k => match k with
  | _ => .int
abbrev wsJ90 : List Cond := u_ws RJ9 TJ9 0
abbrev cJ9_floorDiv_f86c9 : ByteArray := prog_9_method_49_code
def yJ9_floorDiv_f86c9 : MethodName := ⟨RJ9, "floorDiv", "(JJ)J"⟩
abbrev cJ9_floorMod_f86c9 : ByteArray := prog_9_method_52_code
def yJ9_floorMod_f86c9 : MethodName := ⟨RJ9, "floorMod", "(JJ)J"⟩
abbrev cJ9_abs_067f4 : ByteArray := prog_9_method_61_code
def yJ9_abs_067f4 : MethodName := ⟨RJ9, "abs", "(J)J"⟩
abbrev cJ9_max_7cf53 : ByteArray := prog_9_method_65_code
def yJ9_max_7cf53 : MethodName := ⟨RJ9, "max", "(II)I"⟩
def RJ10 : String := "java/lang/System"
def TJ10 : u_T := fun k => match k with
  | _ => ("", "", "", false)
def tyJ10 : Nat → FieldType := fun k => match k with
  | _ => .int
abbrev wsJ100 : List Cond := u_ws RJ10 TJ10 0
def RJ7 : String := "java/util/Arrays"
def TJ7 : u_T := fun k => match k with
  | _ => ("", "", "", false)
def tyJ7 : Nat → FieldType := fun k => match k with
  | _ => .int
abbrev wsJ70 : List Cond := u_ws RJ7 TJ7 0
abbrev cJ7_fill_d0a16 : ByteArray := prog_11_method_101_code
def yJ7_fill_d0a16 : MethodName := ⟨RJ7, "fill", "([JJ)V"⟩
abbrev cJ7_fill_53178 : ByteArray := prog_11_method_103_code
def yJ7_fill_53178 : MethodName := ⟨RJ7, "fill", "([II)V"⟩
def RL : String := "SquitterDeskLaw"
abbrev cL_law : ByteArray := code
def yL_law : MethodName := ⟨RL, "law", "([I)Z"⟩

abbrev vwCl : List vw_C := [(RX0, TX0, 2), (RX3, TX3, 4), (RX4, TX4, 3), (RX5, TX5, 5), (RX6, TX6, 15)]
end
section
/-! the words that every method is given: those of the tables that stay good -/
def gw : List Cond := lw_tbl.filter goodWord
theorem gw_at {k : Nat} {w : Cond} (h : lw_tbl[k]? = some w) (g : goodWord w = true) : w ∈ gw := List.mem_filter.mpr ⟨List.mem_of_getElem? h, g⟩
theorem gw_good : ∀ w ∈ gw, goodWord w = true := fun w h => (List.mem_filter.mp h).2
theorem gw_hts {args : Array Value} {s : State} (h : ∀ w ∈ lw_tbl, w.before args s = true) : ∀ w ∈ gw, w.before args s = true := fun w hw => h w (List.mem_filter.mp hw).1
theorem se_X4_bit : Cond.selects RX4 yX4_bit yX4_bit ∈ gw := gw_at (k := 0) (by decide +kernel) rfl
theorem se_X4_isSound : Cond.selects RX4 yX4_isSound yX4_isSound ∈ gw := gw_at (k := 1) (by decide +kernel) rfl
theorem se_X4_format : Cond.selects RX4 yX4_format yX4_format ∈ gw := gw_at (k := 2) (by decide +kernel) rfl
theorem se_X4_turn : Cond.selects RX4 yX4_turn yX4_turn ∈ gw := gw_at (k := 3) (by decide +kernel) rfl
theorem se_X3_learnName : Cond.selects RX3 yX3_learnName yX3_learnName ∈ gw := gw_at (k := 4) (by decide +kernel) rfl
theorem se_X3_learnOnGround : Cond.selects RX3 yX3_learnOnGround yX3_learnOnGround ∈ gw := gw_at (k := 5) (by decide +kernel) rfl
theorem se_X3_hasFreshPlace : Cond.selects RX3 yX3_hasFreshPlace yX3_hasFreshPlace ∈ gw := gw_at (k := 6) (by decide +kernel) rfl
theorem se_X3_lastPlace : Cond.selects RX3 yX3_lastPlace yX3_lastPlace ∈ gw := gw_at (k := 7) (by decide +kernel) rfl
theorem se_X3_keepPlace : Cond.selects RX3 yX3_keepPlace yX3_keepPlace ∈ gw := gw_at (k := 8) (by decide +kernel) rfl
theorem se_X3_learnMotion : Cond.selects RX3 yX3_learnMotion yX3_learnMotion ∈ gw := gw_at (k := 9) (by decide +kernel) rfl
theorem se_X3_learnInAir : Cond.selects RX3 yX3_learnInAir yX3_learnInAir ∈ gw := gw_at (k := 10) (by decide +kernel) rfl
theorem se_X4_part : Cond.selects RX4 yX4_part yX4_part ∈ gw := gw_at (k := 11) (by decide +kernel) rfl
theorem se_X6_frame : Cond.selects RX6 yX6_frame yX6_frame ∈ gw := gw_at (k := 12) (by decide +kernel) rfl
theorem se_X6_remainder : Cond.selects RX6 yX6_remainder yX6_remainder ∈ gw := gw_at (k := 13) (by decide +kernel) rfl
theorem se_X6_number : Cond.selects RX6 yX6_number yX6_number ∈ gw := gw_at (k := 14) (by decide +kernel) rfl
theorem se_X6_isWrong : Cond.selects RX6 yX6_isWrong yX6_isWrong ∈ gw := gw_at (k := 15) (by decide +kernel) rfl
theorem se_X6_toTurn : Cond.selects RX6 yX6_toTurn yX6_toTurn ∈ gw := gw_at (k := 16) (by decide +kernel) rfl
theorem se_X6_zonesOf : Cond.selects RX6 yX6_zonesOf yX6_zonesOf ∈ gw := gw_at (k := 17) (by decide +kernel) rfl
theorem se_X6_isTold : Cond.selects RX6 yX6_isTold yX6_isTold ∈ gw := gw_at (k := 18) (by decide +kernel) rfl
theorem se_X6_globalOf : Cond.selects RX6 yX6_globalOf yX6_globalOf ∈ gw := gw_at (k := 19) (by decide +kernel) rfl
theorem se_X6_localOf : Cond.selects RX6 yX6_localOf yX6_localOf ∈ gw := gw_at (k := 20) (by decide +kernel) rfl
theorem se_X6_at : Cond.selects RX6 yX6_at yX6_at ∈ gw := gw_at (k := 21) (by decide +kernel) rfl
theorem se_X6_ages : Cond.selects RX6 yX6_ages yX6_ages ∈ gw := gw_at (k := 22) (by decide +kernel) rfl
theorem se_X6_altitude : Cond.selects RX6 yX6_altitude yX6_altitude ∈ gw := gw_at (k := 23) (by decide +kernel) rfl
theorem se_X6_of : Cond.selects RX6 yX6_of yX6_of ∈ gw := gw_at (k := 24) (by decide +kernel) rfl
theorem se_X6_ungray : Cond.selects RX6 yX6_ungray yX6_ungray ∈ gw := gw_at (k := 25) (by decide +kernel) rfl
theorem se_X6_squawk : Cond.selects RX6 yX6_squawk yX6_squawk ∈ gw := gw_at (k := 26) (by decide +kernel) rfl
theorem se_X6_tells : Cond.selects RX6 yX6_tells yX6_tells ∈ gw := gw_at (k := 27) (by decide +kernel) rfl
theorem se_X6_part : Cond.selects RX6 yX6_part yX6_part ∈ gw := gw_at (k := 28) (by decide +kernel) rfl
theorem se_X6_speed : Cond.selects RX6 yX6_speed yX6_speed ∈ gw := gw_at (k := 29) (by decide +kernel) rfl
theorem se_X6_onGround : Cond.selects RX6 yX6_onGround yX6_onGround ∈ gw := gw_at (k := 30) (by decide +kernel) rfl
theorem se_X6_isFresh : Cond.selects RX6 yX6_isFresh yX6_isFresh ∈ gw := gw_at (k := 31) (by decide +kernel) rfl
theorem se_X6_toldNow : Cond.selects RX6 yX6_toldNow yX6_toldNow ∈ gw := gw_at (k := 32) (by decide +kernel) rfl
theorem se_X6_comes : Cond.selects RX6 yX6_comes yX6_comes ∈ gw := gw_at (k := 33) (by decide +kernel) rfl
theorem se_X6_inAir : Cond.selects RX6 yX6_inAir yX6_inAir ∈ gw := gw_at (k := 34) (by decide +kernel) rfl
theorem se_X6_moves : Cond.selects RX6 yX6_moves yX6_moves ∈ gw := gw_at (k := 35) (by decide +kernel) rfl
theorem se_X6_isCraft : Cond.selects RX6 yX6_isCraft yX6_isCraft ∈ gw := gw_at (k := 36) (by decide +kernel) rfl
theorem ini_L : Cond.initialized RL ∈ gw := gw_at (k := 37) (by decide +kernel) rfl
theorem ini_X5 : Cond.initialized RX5 ∈ gw := gw_at (k := 38) (by decide +kernel) rfl
theorem ini_X4 : Cond.initialized RX4 ∈ gw := gw_at (k := 39) (by decide +kernel) rfl
theorem ini_X0 : Cond.initialized RX0 ∈ gw := gw_at (k := 40) (by decide +kernel) rfl
theorem ini_X3 : Cond.initialized RX3 ∈ gw := gw_at (k := 41) (by decide +kernel) rfl
theorem ini_X6 : Cond.initialized RX6 ∈ gw := gw_at (k := 42) (by decide +kernel) rfl
theorem ini_X2 : Cond.initialized RX2 ∈ gw := gw_at (k := 43) (by decide +kernel) rfl
theorem ini_J7 : Cond.initialized RJ7 ∈ gw := gw_at (k := 44) (by decide +kernel) rfl
theorem ini_J10 : Cond.initialized RJ10 ∈ gw := gw_at (k := 45) (by decide +kernel) rfl
theorem ini_X1 : Cond.initialized RX1 ∈ gw := gw_at (k := 46) (by decide +kernel) rfl
theorem ini_J9 : Cond.initialized RJ9 ∈ gw := gw_at (k := 47) (by decide +kernel) rfl
theorem cl_L_7 : Cond.classLink RL 7 RX5 ∈ gw := gw_at (k := 48) (by decide +kernel) rfl
theorem it_X5 : Cond.instantiable RX5 5 ∈ gw := gw_at (k := 49) (by decide +kernel) rfl
theorem ml_L_9 : Cond.methodLink RL 9 yX5_init ∈ gw := gw_at (k := 50) (by decide +kernel) rfl
theorem im_X5_init : Cond.instanceMethod yX5_init ∈ gw := gw_at (k := 51) (by decide +kernel) rfl
theorem co_X5_init : Cond.code yX5_init cX5_init 1 none ∈ gw := gw_at (k := 52) (by decide +kernel) rfl
theorem ml_X5_1 : Cond.methodLink RX5 1 objectInit ∈ gw := gw_at (k := 53) (by decide +kernel) rfl
theorem im_objectInit : Cond.instanceMethod objectInit ∈ gw := gw_at (k := 54) (by decide +kernel) rfl
theorem co_objectInit : Cond.code objectInit ⟨#[0xb1]⟩ 1 none ∈ gw := gw_at (k := 55) (by decide +kernel) rfl
theorem cl_X5_7 : Cond.classLink RX5 7 RX4 ∈ gw := gw_at (k := 56) (by decide +kernel) rfl
theorem it_X4 : Cond.instantiable RX4 3 ∈ gw := gw_at (k := 57) (by decide +kernel) rfl
theorem ml_X5_9 : Cond.methodLink RX5 9 yX4_init ∈ gw := gw_at (k := 58) (by decide +kernel) rfl
theorem im_X4_init : Cond.instanceMethod yX4_init ∈ gw := gw_at (k := 59) (by decide +kernel) rfl
theorem co_X4_init : Cond.code yX4_init cX4_init 1 none ∈ gw := gw_at (k := 60) (by decide +kernel) rfl
theorem ml_X4_5 : Cond.methodLink RX4 5 objectInit ∈ gw := gw_at (k := 61) (by decide +kernel) rfl
theorem fl_X4_11 : Cond.fieldLink RX4 11 "SquitterDesk$Frame" "words" "[I" ∈ gw := gw_at (k := 62) (by decide +kernel) rfl
theorem fl_X4_15 : Cond.fieldLink RX4 15 "SquitterDesk$Frame" "length" "I" ∈ gw := gw_at (k := 63) (by decide +kernel) rfl
theorem fl_X4_19 : Cond.fieldLink RX4 19 "SquitterDesk$Frame" "turned" "I" ∈ gw := gw_at (k := 64) (by decide +kernel) rfl
theorem ac_int : Cond.arrayClass .int ∈ gw := gw_at (k := 72) (by decide +kernel) rfl
theorem cl_X5_19 : Cond.classLink RX5 19 RX0 ∈ gw := gw_at (k := 73) (by decide +kernel) rfl
theorem it_X0 : Cond.instantiable RX0 2 ∈ gw := gw_at (k := 74) (by decide +kernel) rfl
theorem ml_X5_21 : Cond.methodLink RX5 21 yX0_init ∈ gw := gw_at (k := 75) (by decide +kernel) rfl
theorem im_X0_init : Cond.instanceMethod yX0_init ∈ gw := gw_at (k := 76) (by decide +kernel) rfl
theorem co_X0_init : Cond.code yX0_init cX0_init 2 none ∈ gw := gw_at (k := 77) (by decide +kernel) rfl
theorem ml_X0_3 : Cond.methodLink RX0 3 objectInit ∈ gw := gw_at (k := 78) (by decide +kernel) rfl
theorem cl_X0_11 : Cond.classLink RX0 11 RX3 ∈ gw := gw_at (k := 79) (by decide +kernel) rfl
theorem it_X3 : Cond.instantiable RX3 4 ∈ gw := gw_at (k := 81) (by decide +kernel) rfl
theorem ml_X0_17 : Cond.methodLink RX0 17 yX3_init ∈ gw := gw_at (k := 82) (by decide +kernel) rfl
theorem im_X3_init : Cond.instanceMethod yX3_init ∈ gw := gw_at (k := 83) (by decide +kernel) rfl
theorem co_X3_init : Cond.code yX3_init cX3_init 1 none ∈ gw := gw_at (k := 84) (by decide +kernel) rfl
theorem ml_X3_3 : Cond.methodLink RX3 3 objectInit ∈ gw := gw_at (k := 85) (by decide +kernel) rfl
theorem fl_X3_9 : Cond.fieldLink RX3 9 "SquitterDesk$Craft" "values" "[I" ∈ gw := gw_at (k := 86) (by decide +kernel) rfl
theorem fl_X3_15 : Cond.fieldLink RX3 15 "SquitterDesk$Craft" "letters" "[I" ∈ gw := gw_at (k := 87) (by decide +kernel) rfl
theorem fl_X3_18 : Cond.fieldLink RX3 18 "SquitterDesk$Craft" "codes" "[J" ∈ gw := gw_at (k := 88) (by decide +kernel) rfl
theorem fl_X3_22 : Cond.fieldLink RX3 22 "SquitterDesk$Craft" "codeTimes" "[I" ∈ gw := gw_at (k := 89) (by decide +kernel) rfl
theorem ac_long : Cond.arrayClass .long ∈ gw := gw_at (k := 99) (by decide +kernel) rfl
theorem fl_X0_13 : Cond.fieldLink RX0 13 "SquitterDesk$Book" "rows" "[LSquitterDesk$Craft;" ∈ gw := gw_at (k := 100) (by decide +kernel) rfl
theorem fl_X0_18 : Cond.fieldLink RX0 18 "SquitterDesk$Book" "size" "I" ∈ gw := gw_at (k := 101) (by decide +kernel) rfl
theorem ct_X5_26 : Cond.constantLong RX5 26 (-9223372036854775808) ∈ gw := gw_at (k := 107) (by decide +kernel) rfl
theorem fl_X5_10 : Cond.fieldLink RX5 10 "SquitterDesk" "draft" "LSquitterDesk$Frame;" ∈ gw := gw_at (k := 108) (by decide +kernel) rfl
theorem fl_X5_16 : Cond.fieldLink RX5 16 "SquitterDesk" "latest" "LSquitterDesk$Frame;" ∈ gw := gw_at (k := 109) (by decide +kernel) rfl
theorem fl_X5_22 : Cond.fieldLink RX5 22 "SquitterDesk" "book" "LSquitterDesk$Book;" ∈ gw := gw_at (k := 110) (by decide +kernel) rfl
theorem fl_X5_28 : Cond.fieldLink RX5 28 "SquitterDesk" "ownPlace" "J" ∈ gw := gw_at (k := 111) (by decide +kernel) rfl
theorem fl_X5_32 : Cond.fieldLink RX5 32 "SquitterDesk" "clock" "I" ∈ gw := gw_at (k := 112) (by decide +kernel) rfl
theorem ml_L_13 : Cond.methodLink RL 13 yX5_syndrome ∈ gw := gw_at (k := 124) (by decide +kernel) rfl
theorem im_X5_syndrome : Cond.instanceMethod yX5_syndrome ∈ gw := gw_at (k := 125) (by decide +kernel) rfl
theorem se_X5_syndrome : Cond.selects RX5 yX5_syndrome yX5_syndrome ∈ gw := gw_at (k := 126) (by decide +kernel) rfl
theorem co_X5_syndrome : Cond.code yX5_syndrome cX5_syndrome 5 (some .int) ∈ gw := gw_at (k := 127) (by decide +kernel) rfl
theorem ml_X5_36 : Cond.methodLink RX5 36 yX4_write ∈ gw := gw_at (k := 128) (by decide +kernel) rfl
theorem im_X4_write : Cond.instanceMethod yX4_write ∈ gw := gw_at (k := 129) (by decide +kernel) rfl
theorem se_X4_write : Cond.selects RX4 yX4_write yX4_write ∈ gw := gw_at (k := 130) (by decide +kernel) rfl
theorem co_X4_write : Cond.code yX4_write cX4_write 5 none ∈ gw := gw_at (k := 131) (by decide +kernel) rfl
theorem ml_X5_40 : Cond.methodLink RX5 40 yX4_remainder ∈ gw := gw_at (k := 132) (by decide +kernel) rfl
theorem im_X4_remainder : Cond.instanceMethod yX4_remainder ∈ gw := gw_at (k := 133) (by decide +kernel) rfl
theorem se_X4_remainder : Cond.selects RX4 yX4_remainder yX4_remainder ∈ gw := gw_at (k := 134) (by decide +kernel) rfl
theorem co_X4_remainder : Cond.code yX4_remainder cX4_remainder 3 (some .int) ∈ gw := gw_at (k := 135) (by decide +kernel) rfl
theorem ml_X4_28 : Cond.methodLink RX4 28 yX4_bit ∈ gw := gw_at (k := 136) (by decide +kernel) rfl
theorem im_X4_bit : Cond.instanceMethod yX4_bit ∈ gw := gw_at (k := 138) (by decide +kernel) rfl
theorem co_X4_bit : Cond.code yX4_bit cX4_bit 3 (some .int) ∈ gw := gw_at (k := 139) (by decide +kernel) rfl
theorem ml_X4_36 : Cond.methodLink RX4 36 yX4_reduced ∈ gw := gw_at (k := 140) (by decide +kernel) rfl
theorem st_X4_reduced : Cond.static yX4_reduced ∈ gw := gw_at (k := 141) (by decide +kernel) rfl
theorem co_X4_reduced : Cond.code yX4_reduced cX4_reduced 1 (some .int) ∈ gw := gw_at (k := 142) (by decide +kernel) rfl
theorem ct_X4_73 : Cond.constant RX4 73 16777216 ∈ gw := gw_at (k := 143) (by decide +kernel) rfl
theorem ct_X4_74 : Cond.constant RX4 74 33551369 ∈ gw := gw_at (k := 144) (by decide +kernel) rfl
theorem ml_L_18 : Cond.methodLink RL 18 yX5_repair ∈ gw := gw_at (k := 145) (by decide +kernel) rfl
theorem im_X5_repair : Cond.instanceMethod yX5_repair ∈ gw := gw_at (k := 146) (by decide +kernel) rfl
theorem se_X5_repair : Cond.selects RX5 yX5_repair yX5_repair ∈ gw := gw_at (k := 147) (by decide +kernel) rfl
theorem co_X5_repair : Cond.code yX5_repair cX5_repair 5 (some .int) ∈ gw := gw_at (k := 148) (by decide +kernel) rfl
theorem ml_X5_44 : Cond.methodLink RX5 44 yX4_wrongBit ∈ gw := gw_at (k := 149) (by decide +kernel) rfl
theorem im_X4_wrongBit : Cond.instanceMethod yX4_wrongBit ∈ gw := gw_at (k := 150) (by decide +kernel) rfl
theorem se_X4_wrongBit : Cond.selects RX4 yX4_wrongBit yX4_wrongBit ∈ gw := gw_at (k := 151) (by decide +kernel) rfl
theorem co_X4_wrongBit : Cond.code yX4_wrongBit cX4_wrongBit 4 (some .int) ∈ gw := gw_at (k := 152) (by decide +kernel) rfl
theorem ml_X4_39 : Cond.methodLink RX4 39 yX4_remainder ∈ gw := gw_at (k := 153) (by decide +kernel) rfl
theorem ml_X4_43 : Cond.methodLink RX4 43 yX4_isSound ∈ gw := gw_at (k := 154) (by decide +kernel) rfl
theorem im_X4_isSound : Cond.instanceMethod yX4_isSound ∈ gw := gw_at (k := 156) (by decide +kernel) rfl
theorem co_X4_isSound : Cond.code yX4_isSound cX4_isSound 2 (some .boolean) ∈ gw := gw_at (k := 157) (by decide +kernel) rfl
theorem ct_X4_72 : Cond.constant RX4 72 393216 ∈ gw := gw_at (k := 158) (by decide +kernel) rfl
theorem ml_X4_55 : Cond.methodLink RX4 55 yX4_isOf ∈ gw := gw_at (k := 159) (by decide +kernel) rfl
theorem im_X4_isOf : Cond.instanceMethod yX4_isOf ∈ gw := gw_at (k := 160) (by decide +kernel) rfl
theorem se_X4_isOf : Cond.selects RX4 yX4_isOf yX4_isOf ∈ gw := gw_at (k := 161) (by decide +kernel) rfl
theorem co_X4_isOf : Cond.code yX4_isOf cX4_isOf 2 (some .boolean) ∈ gw := gw_at (k := 162) (by decide +kernel) rfl
theorem ml_X4_58 : Cond.methodLink RX4 58 yX4_format ∈ gw := gw_at (k := 163) (by decide +kernel) rfl
theorem im_X4_format : Cond.instanceMethod yX4_format ∈ gw := gw_at (k := 165) (by decide +kernel) rfl
theorem co_X4_format : Cond.code yX4_format cX4_format 1 (some .int) ∈ gw := gw_at (k := 166) (by decide +kernel) rfl
theorem ml_X4_32 : Cond.methodLink RX4 32 yX4_number ∈ gw := gw_at (k := 167) (by decide +kernel) rfl
theorem im_X4_number : Cond.instanceMethod yX4_number ∈ gw := gw_at (k := 168) (by decide +kernel) rfl
theorem se_X4_number : Cond.selects RX4 yX4_number yX4_number ∈ gw := gw_at (k := 169) (by decide +kernel) rfl
theorem co_X4_number : Cond.code yX4_number cX4_number 5 (some .int) ∈ gw := gw_at (k := 170) (by decide +kernel) rfl
theorem ml_L_22 : Cond.methodLink RL 22 yX5_seal ∈ gw := gw_at (k := 171) (by decide +kernel) rfl
theorem im_X5_seal : Cond.instanceMethod yX5_seal ∈ gw := gw_at (k := 172) (by decide +kernel) rfl
theorem se_X5_seal : Cond.selects RX5 yX5_seal yX5_seal ∈ gw := gw_at (k := 173) (by decide +kernel) rfl
theorem co_X5_seal : Cond.code yX5_seal cX5_seal 5 (some .int) ∈ gw := gw_at (k := 174) (by decide +kernel) rfl
theorem ml_X5_47 : Cond.methodLink RX5 47 yX4_parity ∈ gw := gw_at (k := 175) (by decide +kernel) rfl
theorem im_X4_parity : Cond.instanceMethod yX4_parity ∈ gw := gw_at (k := 176) (by decide +kernel) rfl
theorem se_X4_parity : Cond.selects RX4 yX4_parity yX4_parity ∈ gw := gw_at (k := 177) (by decide +kernel) rfl
theorem co_X4_parity : Cond.code yX4_parity cX4_parity 1 (some .int) ∈ gw := gw_at (k := 178) (by decide +kernel) rfl
theorem ml_L_26 : Cond.methodLink RL 26 yX5_place ∈ gw := gw_at (k := 179) (by decide +kernel) rfl
theorem im_X5_place : Cond.instanceMethod yX5_place ∈ gw := gw_at (k := 180) (by decide +kernel) rfl
theorem se_X5_place : Cond.selects RX5 yX5_place yX5_place ∈ gw := gw_at (k := 181) (by decide +kernel) rfl
theorem co_X5_place : Cond.code yX5_place cX5_place 3 (some .boolean) ∈ gw := gw_at (k := 182) (by decide +kernel) rfl
theorem ml_X5_50 : Cond.methodLink RX5 50 yX2_isPlace ∈ gw := gw_at (k := 183) (by decide +kernel) rfl
theorem st_X2_isPlace : Cond.static yX2_isPlace ∈ gw := gw_at (k := 184) (by decide +kernel) rfl
theorem co_X2_isPlace : Cond.code yX2_isPlace cX2_isPlace 2 (some .boolean) ∈ gw := gw_at (k := 185) (by decide +kernel) rfl
theorem ct_X2_11 : Cond.constantLong RX2 11 (-90000000) ∈ gw := gw_at (k := 186) (by decide +kernel) rfl
theorem ct_X2_13 : Cond.constantLong RX2 13 90000000 ∈ gw := gw_at (k := 187) (by decide +kernel) rfl
theorem ct_X2_15 : Cond.constantLong RX2 15 (-180000000) ∈ gw := gw_at (k := 188) (by decide +kernel) rfl
theorem ct_X2_17 : Cond.constantLong RX2 17 180000000 ∈ gw := gw_at (k := 189) (by decide +kernel) rfl
theorem ml_X5_56 : Cond.methodLink RX5 56 yX2_pack ∈ gw := gw_at (k := 190) (by decide +kernel) rfl
theorem st_X2_pack : Cond.static yX2_pack ∈ gw := gw_at (k := 191) (by decide +kernel) rfl
theorem co_X2_pack : Cond.code yX2_pack cX2_pack 4 (some .long) ∈ gw := gw_at (k := 192) (by decide +kernel) rfl
theorem ct_X2_21 : Cond.constantLong RX2 21 4294967295 ∈ gw := gw_at (k := 193) (by decide +kernel) rfl
theorem ml_L_31 : Cond.methodLink RL 31 yX5_hear ∈ gw := gw_at (k := 194) (by decide +kernel) rfl
theorem im_X5_hear : Cond.instanceMethod yX5_hear ∈ gw := gw_at (k := 195) (by decide +kernel) rfl
theorem se_X5_hear : Cond.selects RX5 yX5_hear yX5_hear ∈ gw := gw_at (k := 196) (by decide +kernel) rfl
theorem co_X5_hear : Cond.code yX5_hear cX5_hear 8 (some .int) ∈ gw := gw_at (k := 197) (by decide +kernel) rfl
theorem ct_X5_60 : Cond.constant RX5 60 1000000000 ∈ gw := gw_at (k := 198) (by decide +kernel) rfl
theorem ml_X5_61 : Cond.methodLink RX5 61 yX0_forgetSilent ∈ gw := gw_at (k := 199) (by decide +kernel) rfl
theorem im_X0_forgetSilent : Cond.instanceMethod yX0_forgetSilent ∈ gw := gw_at (k := 200) (by decide +kernel) rfl
theorem se_X0_forgetSilent : Cond.selects RX0 yX0_forgetSilent yX0_forgetSilent ∈ gw := gw_at (k := 201) (by decide +kernel) rfl
theorem co_X0_forgetSilent : Cond.code yX0_forgetSilent cX0_forgetSilent 5 none ∈ gw := gw_at (k := 202) (by decide +kernel) rfl
theorem ml_X0_22 : Cond.methodLink RX0 22 yX3_value ∈ gw := gw_at (k := 203) (by decide +kernel) rfl
theorem im_X3_value : Cond.instanceMethod yX3_value ∈ gw := gw_at (k := 204) (by decide +kernel) rfl
theorem se_X3_value : Cond.selects RX3 yX3_value yX3_value ∈ gw := gw_at (k := 205) (by decide +kernel) rfl
theorem co_X3_value : Cond.code yX3_value cX3_value 2 (some .int) ∈ gw := gw_at (k := 206) (by decide +kernel) rfl
theorem ct_X5_65 : Cond.constant RX5 65 3606577 ∈ gw := gw_at (k := 207) (by decide +kernel) rfl
theorem ml_X5_66 : Cond.methodLink RX5 66 yX4_isOf ∈ gw := gw_at (k := 208) (by decide +kernel) rfl
theorem ml_X5_70 : Cond.methodLink RX5 70 yX4_putRight ∈ gw := gw_at (k := 209) (by decide +kernel) rfl
theorem im_X4_putRight : Cond.instanceMethod yX4_putRight ∈ gw := gw_at (k := 210) (by decide +kernel) rfl
theorem se_X4_putRight : Cond.selects RX4 yX4_putRight yX4_putRight ∈ gw := gw_at (k := 211) (by decide +kernel) rfl
theorem co_X4_putRight : Cond.code yX4_putRight cX4_putRight 2 (some .boolean) ∈ gw := gw_at (k := 212) (by decide +kernel) rfl
theorem ml_X4_47 : Cond.methodLink RX4 47 yX4_wrongBit ∈ gw := gw_at (k := 213) (by decide +kernel) rfl
theorem ml_X4_50 : Cond.methodLink RX4 50 yX4_turn ∈ gw := gw_at (k := 214) (by decide +kernel) rfl
theorem im_X4_turn : Cond.instanceMethod yX4_turn ∈ gw := gw_at (k := 216) (by decide +kernel) rfl
theorem co_X4_turn : Cond.code yX4_turn cX4_turn 3 none ∈ gw := gw_at (k := 217) (by decide +kernel) rfl
theorem ml_X5_74 : Cond.methodLink RX5 74 yX4_address ∈ gw := gw_at (k := 218) (by decide +kernel) rfl
theorem im_X4_address : Cond.instanceMethod yX4_address ∈ gw := gw_at (k := 219) (by decide +kernel) rfl
theorem se_X4_address : Cond.selects RX4 yX4_address yX4_address ∈ gw := gw_at (k := 220) (by decide +kernel) rfl
theorem co_X4_address : Cond.code yX4_address cX4_address 1 (some .int) ∈ gw := gw_at (k := 221) (by decide +kernel) rfl
theorem ct_X4_54 : Cond.constant RX4 54 395264 ∈ gw := gw_at (k := 222) (by decide +kernel) rfl
theorem ml_X5_77 : Cond.methodLink RX5 77 yX0_indexOf ∈ gw := gw_at (k := 223) (by decide +kernel) rfl
theorem im_X0_indexOf : Cond.instanceMethod yX0_indexOf ∈ gw := gw_at (k := 224) (by decide +kernel) rfl
theorem se_X0_indexOf : Cond.selects RX0 yX0_indexOf yX0_indexOf ∈ gw := gw_at (k := 225) (by decide +kernel) rfl
theorem co_X0_indexOf : Cond.code yX0_indexOf cX0_indexOf 3 (some .int) ∈ gw := gw_at (k := 226) (by decide +kernel) rfl
theorem ml_X5_81 : Cond.methodLink RX5 81 yX0_at ∈ gw := gw_at (k := 227) (by decide +kernel) rfl
theorem im_X0_at : Cond.instanceMethod yX0_at ∈ gw := gw_at (k := 228) (by decide +kernel) rfl
theorem se_X0_at : Cond.selects RX0 yX0_at yX0_at ∈ gw := gw_at (k := 229) (by decide +kernel) rfl
theorem co_X0_at : Cond.code yX0_at cX0_at 2 (some (.object "SquitterDesk$Craft")) ∈ gw := gw_at (k := 230) (by decide +kernel) rfl
theorem ct_X5_85 : Cond.constant RX5 85 395264 ∈ gw := gw_at (k := 231) (by decide +kernel) rfl
theorem ml_X5_86 : Cond.methodLink RX5 86 yX0_open ∈ gw := gw_at (k := 232) (by decide +kernel) rfl
theorem im_X0_open : Cond.instanceMethod yX0_open ∈ gw := gw_at (k := 233) (by decide +kernel) rfl
theorem se_X0_open : Cond.selects RX0 yX0_open yX0_open ∈ gw := gw_at (k := 234) (by decide +kernel) rfl
theorem co_X0_open : Cond.code yX0_open cX0_open 3 (some (.object "SquitterDesk$Craft")) ∈ gw := gw_at (k := 235) (by decide +kernel) rfl
theorem ml_X0_26 : Cond.methodLink RX0 26 yX3_begin ∈ gw := gw_at (k := 236) (by decide +kernel) rfl
theorem im_X3_begin : Cond.instanceMethod yX3_begin ∈ gw := gw_at (k := 237) (by decide +kernel) rfl
theorem se_X3_begin : Cond.selects RX3 yX3_begin yX3_begin ∈ gw := gw_at (k := 238) (by decide +kernel) rfl
theorem co_X3_begin : Cond.code yX3_begin cX3_begin 2 none ∈ gw := gw_at (k := 239) (by decide +kernel) rfl
theorem ct_X3_25 : Cond.constant RX3 25 (-2147483648) ∈ gw := gw_at (k := 240) (by decide +kernel) rfl
theorem ml_X3_26 : Cond.methodLink RX3 26 yJ7_fill_53178 ∈ gw := gw_at (k := 241) (by decide +kernel) rfl
theorem st_J7_fill_53178 : Cond.static yJ7_fill_53178 ∈ gw := gw_at (k := 242) (by decide +kernel) rfl
theorem co_J7_fill_53178 : Cond.code yJ7_fill_53178 cJ7_fill_53178 4 none ∈ gw := gw_at (k := 243) (by decide +kernel) rfl
theorem ct_X3_32 : Cond.constantLong RX3 32 (-1) ∈ gw := gw_at (k := 244) (by decide +kernel) rfl
theorem ml_X3_34 : Cond.methodLink RX3 34 yJ7_fill_d0a16 ∈ gw := gw_at (k := 245) (by decide +kernel) rfl
theorem st_J7_fill_d0a16 : Cond.static yJ7_fill_d0a16 ∈ gw := gw_at (k := 246) (by decide +kernel) rfl
theorem co_J7_fill_d0a16 : Cond.code yJ7_fill_d0a16 cJ7_fill_d0a16 5 none ∈ gw := gw_at (k := 247) (by decide +kernel) rfl
theorem ml_X5_89 : Cond.methodLink RX5 89 yX4_copy ∈ gw := gw_at (k := 248) (by decide +kernel) rfl
theorem im_X4_copy : Cond.instanceMethod yX4_copy ∈ gw := gw_at (k := 249) (by decide +kernel) rfl
theorem se_X4_copy : Cond.selects RX4 yX4_copy yX4_copy ∈ gw := gw_at (k := 250) (by decide +kernel) rfl
theorem co_X4_copy : Cond.code yX4_copy cX4_copy 2 none ∈ gw := gw_at (k := 251) (by decide +kernel) rfl
theorem ml_X4_22 : Cond.methodLink RX4 22 arraycopyName ∈ gw := gw_at (k := 252) (by decide +kernel) rfl
theorem st_arraycopyName : Cond.static arraycopyName ∈ gw := gw_at (k := 253) (by decide +kernel) rfl
theorem na_arraycopyName : Cond.native arraycopyName ∈ gw := gw_at (k := 254) (by decide +kernel) rfl
theorem ml_X5_93 : Cond.methodLink RX5 93 yX3_countFrame ∈ gw := gw_at (k := 255) (by decide +kernel) rfl
theorem im_X3_countFrame : Cond.instanceMethod yX3_countFrame ∈ gw := gw_at (k := 256) (by decide +kernel) rfl
theorem se_X3_countFrame : Cond.selects RX3 yX3_countFrame yX3_countFrame ∈ gw := gw_at (k := 257) (by decide +kernel) rfl
theorem co_X3_countFrame : Cond.code yX3_countFrame cX3_countFrame 3 none ∈ gw := gw_at (k := 258) (by decide +kernel) rfl
theorem ml_X3_37 : Cond.methodLink RX3 37 yX4_turnedBit ∈ gw := gw_at (k := 259) (by decide +kernel) rfl
theorem im_X4_turnedBit : Cond.instanceMethod yX4_turnedBit ∈ gw := gw_at (k := 260) (by decide +kernel) rfl
theorem se_X4_turnedBit : Cond.selects RX4 yX4_turnedBit yX4_turnedBit ∈ gw := gw_at (k := 261) (by decide +kernel) rfl
theorem co_X4_turnedBit : Cond.code yX4_turnedBit cX4_turnedBit 1 (some .int) ∈ gw := gw_at (k := 262) (by decide +kernel) rfl
theorem ml_X5_99 : Cond.methodLink RX5 99 yX3_learnReply ∈ gw := gw_at (k := 263) (by decide +kernel) rfl
theorem im_X3_learnReply : Cond.instanceMethod yX3_learnReply ∈ gw := gw_at (k := 264) (by decide +kernel) rfl
theorem se_X3_learnReply : Cond.selects RX3 yX3_learnReply yX3_learnReply ∈ gw := gw_at (k := 265) (by decide +kernel) rfl
theorem co_X3_learnReply : Cond.code yX3_learnReply cX3_learnReply 2 none ∈ gw := gw_at (k := 266) (by decide +kernel) rfl
theorem ct_X3_43 : Cond.constant RX3 43 1114129 ∈ gw := gw_at (k := 267) (by decide +kernel) rfl
theorem ml_X3_44 : Cond.methodLink RX3 44 yX4_isOf ∈ gw := gw_at (k := 268) (by decide +kernel) rfl
theorem ml_X3_48 : Cond.methodLink RX3 48 yX4_number ∈ gw := gw_at (k := 269) (by decide +kernel) rfl
theorem ml_X3_52 : Cond.methodLink RX3 52 yX1_altitude ∈ gw := gw_at (k := 270) (by decide +kernel) rfl
theorem st_X1_altitude : Cond.static yX1_altitude ∈ gw := gw_at (k := 271) (by decide +kernel) rfl
theorem co_X1_altitude : Cond.code yX1_altitude cX1_altitude 1 (some .int) ∈ gw := gw_at (k := 272) (by decide +kernel) rfl
theorem ct_X1_11 : Cond.constant RX1 11 (-2147483648) ∈ gw := gw_at (k := 273) (by decide +kernel) rfl
theorem ml_X1_12 : Cond.methodLink RX1 12 yX1_altitudeOfGray ∈ gw := gw_at (k := 274) (by decide +kernel) rfl
theorem st_X1_altitudeOfGray : Cond.static yX1_altitudeOfGray ∈ gw := gw_at (k := 275) (by decide +kernel) rfl
theorem co_X1_altitudeOfGray : Cond.code yX1_altitudeOfGray cX1_altitudeOfGray 4 (some .int) ∈ gw := gw_at (k := 276) (by decide +kernel) rfl
theorem ml_X1_16 : Cond.methodLink RX1 16 yX1_three ∈ gw := gw_at (k := 277) (by decide +kernel) rfl
theorem st_X1_three : Cond.static yX1_three ∈ gw := gw_at (k := 278) (by decide +kernel) rfl
theorem co_X1_three : Cond.code yX1_three cX1_three 4 (some .int) ∈ gw := gw_at (k := 279) (by decide +kernel) rfl
theorem ml_X1_20 : Cond.methodLink RX1 20 yX1_ofGray ∈ gw := gw_at (k := 280) (by decide +kernel) rfl
theorem st_X1_ofGray : Cond.static yX1_ofGray ∈ gw := gw_at (k := 281) (by decide +kernel) rfl
theorem co_X1_ofGray : Cond.code yX1_ofGray cX1_ofGray 2 (some .int) ∈ gw := gw_at (k := 282) (by decide +kernel) rfl
theorem ct_X3_58 : Cond.constant RX3 58 2097184 ∈ gw := gw_at (k := 283) (by decide +kernel) rfl
theorem ml_X3_59 : Cond.methodLink RX3 59 yX1_squawk ∈ gw := gw_at (k := 284) (by decide +kernel) rfl
theorem st_X1_squawk : Cond.static yX1_squawk ∈ gw := gw_at (k := 285) (by decide +kernel) rfl
theorem co_X1_squawk : Cond.code yX1_squawk cX1_squawk 5 (some .int) ∈ gw := gw_at (k := 286) (by decide +kernel) rfl
theorem ml_X5_102 : Cond.methodLink RX5 102 yX3_learnMessage ∈ gw := gw_at (k := 287) (by decide +kernel) rfl
theorem im_X3_learnMessage : Cond.instanceMethod yX3_learnMessage ∈ gw := gw_at (k := 288) (by decide +kernel) rfl
theorem se_X3_learnMessage : Cond.selects RX3 yX3_learnMessage yX3_learnMessage ∈ gw := gw_at (k := 289) (by decide +kernel) rfl
theorem co_X3_learnMessage : Cond.code yX3_learnMessage cX3_learnMessage 7 none ∈ gw := gw_at (k := 290) (by decide +kernel) rfl
theorem ct_X3_62 : Cond.constant RX3 62 393216 ∈ gw := gw_at (k := 291) (by decide +kernel) rfl
theorem ml_X3_63 : Cond.methodLink RX3 63 yX4_message ∈ gw := gw_at (k := 292) (by decide +kernel) rfl
theorem im_X4_message : Cond.instanceMethod yX4_message ∈ gw := gw_at (k := 293) (by decide +kernel) rfl
theorem se_X4_message : Cond.selects RX4 yX4_message yX4_message ∈ gw := gw_at (k := 294) (by decide +kernel) rfl
theorem co_X4_message : Cond.code yX4_message cX4_message 3 (some .int) ∈ gw := gw_at (k := 295) (by decide +kernel) rfl
theorem ml_X3_66 : Cond.methodLink RX3 66 yX3_learnName ∈ gw := gw_at (k := 296) (by decide +kernel) rfl
theorem im_X3_learnName : Cond.instanceMethod yX3_learnName ∈ gw := gw_at (k := 298) (by decide +kernel) rfl
theorem co_X3_learnName : Cond.code yX3_learnName cX3_learnName 4 none ∈ gw := gw_at (k := 299) (by decide +kernel) rfl
theorem ml_X3_81 : Cond.methodLink RX3 81 yX1_letter ∈ gw := gw_at (k := 300) (by decide +kernel) rfl
theorem st_X1_letter : Cond.static yX1_letter ∈ gw := gw_at (k := 301) (by decide +kernel) rfl
theorem co_X1_letter : Cond.code yX1_letter cX1_letter 2 (some .int) ∈ gw := gw_at (k := 302) (by decide +kernel) rfl
theorem ml_X3_70 : Cond.methodLink RX3 70 yX3_learnOnGround ∈ gw := gw_at (k := 303) (by decide +kernel) rfl
theorem im_X3_learnOnGround : Cond.instanceMethod yX3_learnOnGround ∈ gw := gw_at (k := 305) (by decide +kernel) rfl
theorem co_X3_learnOnGround : Cond.code yX3_learnOnGround cX3_learnOnGround 7 none ∈ gw := gw_at (k := 306) (by decide +kernel) rfl
theorem ml_X3_84 : Cond.methodLink RX3 84 yX1_groundSpeed ∈ gw := gw_at (k := 307) (by decide +kernel) rfl
theorem st_X1_groundSpeed : Cond.static yX1_groundSpeed ∈ gw := gw_at (k := 308) (by decide +kernel) rfl
theorem co_X1_groundSpeed : Cond.code yX1_groundSpeed cX1_groundSpeed 1 (some .int) ∈ gw := gw_at (k := 309) (by decide +kernel) rfl
theorem ct_X3_87 : Cond.constant RX3 87 360000 ∈ gw := gw_at (k := 310) (by decide +kernel) rfl
theorem ml_X3_88 : Cond.methodLink RX3 88 yX3_hasFreshPlace ∈ gw := gw_at (k := 311) (by decide +kernel) rfl
theorem im_X3_hasFreshPlace : Cond.instanceMethod yX3_hasFreshPlace ∈ gw := gw_at (k := 313) (by decide +kernel) rfl
theorem co_X3_hasFreshPlace : Cond.code yX3_hasFreshPlace cX3_hasFreshPlace 2 (some .boolean) ∈ gw := gw_at (k := 314) (by decide +kernel) rfl
theorem ml_X3_91 : Cond.methodLink RX3 91 yX3_lastPlace ∈ gw := gw_at (k := 315) (by decide +kernel) rfl
theorem im_X3_lastPlace : Cond.instanceMethod yX3_lastPlace ∈ gw := gw_at (k := 317) (by decide +kernel) rfl
theorem co_X3_lastPlace : Cond.code yX3_lastPlace cX3_lastPlace 1 (some .long) ∈ gw := gw_at (k := 318) (by decide +kernel) rfl
theorem ml_X3_129 : Cond.methodLink RX3 129 yX2_pack ∈ gw := gw_at (k := 319) (by decide +kernel) rfl
theorem ct_X3_95 : Cond.constantLong RX3 95 (-9223372036854775808) ∈ gw := gw_at (k := 320) (by decide +kernel) rfl
theorem ml_X3_97 : Cond.methodLink RX3 97 yX3_codeIn ∈ gw := gw_at (k := 321) (by decide +kernel) rfl
theorem st_X3_codeIn : Cond.static yX3_codeIn ∈ gw := gw_at (k := 322) (by decide +kernel) rfl
theorem co_X3_codeIn : Cond.code yX3_codeIn cX3_codeIn 1 (some .long) ∈ gw := gw_at (k := 323) (by decide +kernel) rfl
theorem ct_X3_140 : Cond.constantLong RX3 140 131072 ∈ gw := gw_at (k := 324) (by decide +kernel) rfl
theorem ml_X3_101 : Cond.methodLink RX3 101 yX3_isOdd ∈ gw := gw_at (k := 325) (by decide +kernel) rfl
theorem st_X3_isOdd : Cond.static yX3_isOdd ∈ gw := gw_at (k := 326) (by decide +kernel) rfl
theorem co_X3_isOdd : Cond.code yX3_isOdd cX3_isOdd 1 (some .boolean) ∈ gw := gw_at (k := 327) (by decide +kernel) rfl
theorem ml_X3_105 : Cond.methodLink RX3 105 yX2_placeNear ∈ gw := gw_at (k := 328) (by decide +kernel) rfl
theorem st_X2_placeNear : Cond.static yX2_placeNear ∈ gw := gw_at (k := 329) (by decide +kernel) rfl
theorem co_X2_placeNear : Cond.code yX2_placeNear cX2_placeNear 16 (some .long) ∈ gw := gw_at (k := 330) (by decide +kernel) rfl
theorem ml_X2_35 : Cond.methodLink RX2 35 yX2_turnOf ∈ gw := gw_at (k := 331) (by decide +kernel) rfl
theorem st_X2_turnOf : Cond.static yX2_turnOf ∈ gw := gw_at (k := 332) (by decide +kernel) rfl
theorem co_X2_turnOf : Cond.code yX2_turnOf cX2_turnOf 1 (some .long) ∈ gw := gw_at (k := 333) (by decide +kernel) rfl
theorem ct_X2_75 : Cond.constantLong RX2 75 360000000 ∈ gw := gw_at (k := 334) (by decide +kernel) rfl
theorem ml_X2_39 : Cond.methodLink RX2 39 yX2_bandsOf ∈ gw := gw_at (k := 335) (by decide +kernel) rfl
theorem st_X2_bandsOf : Cond.static yX2_bandsOf ∈ gw := gw_at (k := 336) (by decide +kernel) rfl
theorem co_X2_bandsOf : Cond.code yX2_bandsOf cX2_bandsOf 1 (some .long) ∈ gw := gw_at (k := 337) (by decide +kernel) rfl
theorem ct_X2_60 : Cond.constantLong RX2 60 59 ∈ gw := gw_at (k := 338) (by decide +kernel) rfl
theorem ct_X2_65 : Cond.constantLong RX2 65 60 ∈ gw := gw_at (k := 339) (by decide +kernel) rfl
theorem ml_X2_93 : Cond.methodLink RX2 93 yX2_latitudeOf ∈ gw := gw_at (k := 340) (by decide +kernel) rfl
theorem st_X2_latitudeOf : Cond.static yX2_latitudeOf ∈ gw := gw_at (k := 341) (by decide +kernel) rfl
theorem co_X2_latitudeOf : Cond.code yX2_latitudeOf cX2_latitudeOf 2 (some .int) ∈ gw := gw_at (k := 342) (by decide +kernel) rfl
theorem ml_X2_62 : Cond.methodLink RX2 62 yX2_yOf ∈ gw := gw_at (k := 343) (by decide +kernel) rfl
theorem st_X2_yOf : Cond.static yX2_yOf ∈ gw := gw_at (k := 344) (by decide +kernel) rfl
theorem co_X2_yOf : Cond.code yX2_yOf cX2_yOf 2 (some .long) ∈ gw := gw_at (k := 345) (by decide +kernel) rfl
theorem ct_X2_54 : Cond.constantLong RX2 54 131072 ∈ gw := gw_at (k := 346) (by decide +kernel) rfl
theorem ml_X2_97 : Cond.methodLink RX2 97 yX2_stepNear ∈ gw := gw_at (k := 347) (by decide +kernel) rfl
theorem st_X2_stepNear : Cond.static yX2_stepNear ∈ gw := gw_at (k := 348) (by decide +kernel) rfl
theorem co_X2_stepNear : Cond.code yX2_stepNear cX2_stepNear 10 (some .long) ∈ gw := gw_at (k := 349) (by decide +kernel) rfl
theorem ct_X2_67 : Cond.constantLong RX2 67 65536 ∈ gw := gw_at (k := 350) (by decide +kernel) rfl
theorem ml_X2_104 : Cond.methodLink RX2 104 yX2_quotient ∈ gw := gw_at (k := 351) (by decide +kernel) rfl
theorem st_X2_quotient : Cond.static yX2_quotient ∈ gw := gw_at (k := 352) (by decide +kernel) rfl
theorem co_X2_quotient : Cond.code yX2_quotient cX2_quotient 4 (some .long) ∈ gw := gw_at (k := 353) (by decide +kernel) rfl
theorem ml_X2_69 : Cond.methodLink RX2 69 yJ9_floorDiv_f86c9 ∈ gw := gw_at (k := 354) (by decide +kernel) rfl
theorem st_J9_floorDiv_f86c9 : Cond.static yJ9_floorDiv_f86c9 ∈ gw := gw_at (k := 355) (by decide +kernel) rfl
theorem co_J9_floorDiv_f86c9 : Cond.code yJ9_floorDiv_f86c9 cJ9_floorDiv_f86c9 6 (some .long) ∈ gw := gw_at (k := 356) (by decide +kernel) rfl
theorem ml_X2_77 : Cond.methodLink RX2 77 yX2_isBeyondPole ∈ gw := gw_at (k := 357) (by decide +kernel) rfl
theorem st_X2_isBeyondPole : Cond.static yX2_isBeyondPole ∈ gw := gw_at (k := 358) (by decide +kernel) rfl
theorem co_X2_isBeyondPole : Cond.code yX2_isBeyondPole cX2_isBeyondPole 6 (some .boolean) ∈ gw := gw_at (k := 359) (by decide +kernel) rfl
theorem ml_X2_23 : Cond.methodLink RX2 23 yJ9_abs_067f4 ∈ gw := gw_at (k := 360) (by decide +kernel) rfl
theorem st_J9_abs_067f4 : Cond.static yJ9_abs_067f4 ∈ gw := gw_at (k := 361) (by decide +kernel) rfl
theorem co_J9_abs_067f4 : Cond.code yJ9_abs_067f4 cJ9_abs_067f4 2 (some .long) ∈ gw := gw_at (k := 362) (by decide +kernel) rfl
theorem ct_X2_81 : Cond.constantLong RX2 81 (-9223372036854775808) ∈ gw := gw_at (k := 363) (by decide +kernel) rfl
theorem ml_X2_46 : Cond.methodLink RX2 46 yX2_zoneCountAt ∈ gw := gw_at (k := 364) (by decide +kernel) rfl
theorem st_X2_zoneCountAt : Cond.static yX2_zoneCountAt ∈ gw := gw_at (k := 365) (by decide +kernel) rfl
theorem co_X2_zoneCountAt : Cond.code yX2_zoneCountAt cX2_zoneCountAt 6 (some .int) ∈ gw := gw_at (k := 366) (by decide +kernel) rfl
theorem ct_X2_120 : Cond.constantLong RX2 120 100 ∈ gw := gw_at (k := 367) (by decide +kernel) rfl
theorem ml_X2_122 : Cond.methodLink RX2 122 yX2_zoneCount ∈ gw := gw_at (k := 368) (by decide +kernel) rfl
theorem st_X2_zoneCount : Cond.static yX2_zoneCount ∈ gw := gw_at (k := 369) (by decide +kernel) rfl
theorem co_X2_zoneCount : Cond.code yX2_zoneCount cX2_zoneCount 7 (some .int) ∈ gw := gw_at (k := 370) (by decide +kernel) rfl
theorem fl_X2_29 : Cond.fieldLink RX2 29 "SquitterDesk$Compact" "BOUNDS" "[J" ∈ gw := gw_at (k := 371) (by decide +kernel) rfl
theorem ct_X2_33 : Cond.constantLong RX2 33 8700000000 ∈ gw := gw_at (k := 373) (by decide +kernel) rfl
theorem ml_X2_50 : Cond.methodLink RX2 50 yX2_zonesOf ∈ gw := gw_at (k := 374) (by decide +kernel) rfl
theorem st_X2_zonesOf : Cond.static yX2_zonesOf ∈ gw := gw_at (k := 375) (by decide +kernel) rfl
theorem co_X2_zonesOf : Cond.code yX2_zonesOf cX2_zonesOf 2 (some .long) ∈ gw := gw_at (k := 376) (by decide +kernel) rfl
theorem ml_X2_110 : Cond.methodLink RX2 110 yJ9_max_7cf53 ∈ gw := gw_at (k := 377) (by decide +kernel) rfl
theorem st_J9_max_7cf53 : Cond.static yJ9_max_7cf53 ∈ gw := gw_at (k := 378) (by decide +kernel) rfl
theorem co_J9_max_7cf53 : Cond.code yJ9_max_7cf53 cJ9_max_7cf53 2 (some .int) ∈ gw := gw_at (k := 379) (by decide +kernel) rfl
theorem ml_X2_101 : Cond.methodLink RX2 101 yX2_longitudeOf ∈ gw := gw_at (k := 380) (by decide +kernel) rfl
theorem st_X2_longitudeOf : Cond.static yX2_longitudeOf ∈ gw := gw_at (k := 381) (by decide +kernel) rfl
theorem co_X2_longitudeOf : Cond.code yX2_longitudeOf cX2_longitudeOf 2 (some .int) ∈ gw := gw_at (k := 382) (by decide +kernel) rfl
theorem ml_X2_83 : Cond.methodLink RX2 83 yX2_xOf ∈ gw := gw_at (k := 383) (by decide +kernel) rfl
theorem st_X2_xOf : Cond.static yX2_xOf ∈ gw := gw_at (k := 384) (by decide +kernel) rfl
theorem co_X2_xOf : Cond.code yX2_xOf cX2_xOf 2 (some .long) ∈ gw := gw_at (k := 385) (by decide +kernel) rfl
theorem ml_X2_89 : Cond.methodLink RX2 89 yX2_placeAt ∈ gw := gw_at (k := 386) (by decide +kernel) rfl
theorem st_X2_placeAt : Cond.static yX2_placeAt ∈ gw := gw_at (k := 387) (by decide +kernel) rfl
theorem co_X2_placeAt : Cond.code yX2_placeAt cX2_placeAt 14 (some .long) ∈ gw := gw_at (k := 388) (by decide +kernel) rfl
theorem ml_X2_107 : Cond.methodLink RX2 107 yX2_pack ∈ gw := gw_at (k := 389) (by decide +kernel) rfl
theorem ml_X3_111 : Cond.methodLink RX3 111 yX3_keepPlace ∈ gw := gw_at (k := 390) (by decide +kernel) rfl
theorem im_X3_keepPlace : Cond.instanceMethod yX3_keepPlace ∈ gw := gw_at (k := 392) (by decide +kernel) rfl
theorem co_X3_keepPlace : Cond.code yX3_keepPlace cX3_keepPlace 4 none ∈ gw := gw_at (k := 393) (by decide +kernel) rfl
theorem ml_X3_133 : Cond.methodLink RX3 133 yX2_latitudeOf ∈ gw := gw_at (k := 394) (by decide +kernel) rfl
theorem ml_X3_137 : Cond.methodLink RX3 137 yX2_longitudeOf ∈ gw := gw_at (k := 395) (by decide +kernel) rfl
theorem ml_X3_74 : Cond.methodLink RX3 74 yX3_learnMotion ∈ gw := gw_at (k := 396) (by decide +kernel) rfl
theorem im_X3_learnMotion : Cond.instanceMethod yX3_learnMotion ∈ gw := gw_at (k := 398) (by decide +kernel) rfl
theorem co_X3_learnMotion : Cond.code yX3_learnMotion cX3_learnMotion 6 none ∈ gw := gw_at (k := 399) (by decide +kernel) rfl
theorem ml_X3_122 : Cond.methodLink RX3 122 yX1_lessOne ∈ gw := gw_at (k := 400) (by decide +kernel) rfl
theorem st_X1_lessOne : Cond.static yX1_lessOne ∈ gw := gw_at (k := 401) (by decide +kernel) rfl
theorem co_X1_lessOne : Cond.code yX1_lessOne cX1_lessOne 3 (some .int) ∈ gw := gw_at (k := 402) (by decide +kernel) rfl
theorem ml_X3_126 : Cond.methodLink RX3 126 yX1_speedOf ∈ gw := gw_at (k := 403) (by decide +kernel) rfl
theorem st_X1_speedOf : Cond.static yX1_speedOf ∈ gw := gw_at (k := 404) (by decide +kernel) rfl
theorem co_X1_speedOf : Cond.code yX1_speedOf cX1_speedOf 2 (some .int) ∈ gw := gw_at (k := 405) (by decide +kernel) rfl
theorem ct_X1_23 : Cond.constantLong RX1 23 64 ∈ gw := gw_at (k := 406) (by decide +kernel) rfl
theorem ml_X1_25 : Cond.methodLink RX1 25 yX1_root ∈ gw := gw_at (k := 407) (by decide +kernel) rfl
theorem st_X1_root : Cond.static yX1_root ∈ gw := gw_at (k := 408) (by decide +kernel) rfl
theorem co_X1_root : Cond.code yX1_root cX1_root 7 (some .int) ∈ gw := gw_at (k := 409) (by decide +kernel) rfl
theorem ml_X3_77 : Cond.methodLink RX3 77 yX3_learnInAir ∈ gw := gw_at (k := 410) (by decide +kernel) rfl
theorem im_X3_learnInAir : Cond.instanceMethod yX3_learnInAir ∈ gw := gw_at (k := 412) (by decide +kernel) rfl
theorem co_X3_learnInAir : Cond.code yX3_learnInAir cX3_learnInAir 9 none ∈ gw := gw_at (k := 413) (by decide +kernel) rfl
theorem ml_X3_115 : Cond.methodLink RX3 115 yX1_withM ∈ gw := gw_at (k := 414) (by decide +kernel) rfl
theorem st_X1_withM : Cond.static yX1_withM ∈ gw := gw_at (k := 415) (by decide +kernel) rfl
theorem co_X1_withM : Cond.code yX1_withM cX1_withM 1 (some .int) ∈ gw := gw_at (k := 416) (by decide +kernel) rfl
theorem ml_X3_118 : Cond.methodLink RX3 118 yX2_placeOfPair ∈ gw := gw_at (k := 417) (by decide +kernel) rfl
theorem st_X2_placeOfPair : Cond.static yX2_placeOfPair ∈ gw := gw_at (k := 418) (by decide +kernel) rfl
theorem co_X2_placeOfPair : Cond.code yX2_placeOfPair cX2_placeOfPair 18 (some .long) ∈ gw := gw_at (k := 419) (by decide +kernel) rfl
theorem ml_X2_72 : Cond.methodLink RX2 72 yX2_stepInBand ∈ gw := gw_at (k := 420) (by decide +kernel) rfl
theorem st_X2_stepInBand : Cond.static yX2_stepInBand ∈ gw := gw_at (k := 421) (by decide +kernel) rfl
theorem co_X2_stepInBand : Cond.code yX2_stepInBand cX2_stepInBand 8 (some .long) ∈ gw := gw_at (k := 422) (by decide +kernel) rfl
theorem ml_X2_86 : Cond.methodLink RX2 86 yX2_remainder ∈ gw := gw_at (k := 423) (by decide +kernel) rfl
theorem st_X2_remainder : Cond.static yX2_remainder ∈ gw := gw_at (k := 424) (by decide +kernel) rfl
theorem co_X2_remainder : Cond.code yX2_remainder cX2_remainder 4 (some .long) ∈ gw := gw_at (k := 425) (by decide +kernel) rfl
theorem ml_X2_56 : Cond.methodLink RX2 56 yJ9_floorMod_f86c9 ∈ gw := gw_at (k := 426) (by decide +kernel) rfl
theorem st_J9_floorMod_f86c9 : Cond.static yJ9_floorMod_f86c9 ∈ gw := gw_at (k := 427) (by decide +kernel) rfl
theorem co_J9_floorMod_f86c9 : Cond.code yJ9_floorMod_f86c9 cJ9_floorMod_f86c9 6 (some .long) ∈ gw := gw_at (k := 428) (by decide +kernel) rfl
theorem ct_X2_116 : Cond.constantLong RX2 116 4 ∈ gw := gw_at (k := 429) (by decide +kernel) rfl
theorem ct_X2_118 : Cond.constantLong RX2 118 3 ∈ gw := gw_at (k := 430) (by decide +kernel) rfl
theorem ml_X5_106 : Cond.methodLink RX5 106 yX4_turnedBit ∈ gw := gw_at (k := 431) (by decide +kernel) rfl
theorem ml_L_36 : Cond.methodLink RL 36 yX5_field ∈ gw := gw_at (k := 432) (by decide +kernel) rfl
theorem im_X5_field : Cond.instanceMethod yX5_field ∈ gw := gw_at (k := 433) (by decide +kernel) rfl
theorem se_X5_field : Cond.selects RX5 yX5_field yX5_field ∈ gw := gw_at (k := 434) (by decide +kernel) rfl
theorem co_X5_field : Cond.code yX5_field cX5_field 2 (some .int) ∈ gw := gw_at (k := 435) (by decide +kernel) rfl
theorem ml_X5_109 : Cond.methodLink RX5 109 yX4_told ∈ gw := gw_at (k := 436) (by decide +kernel) rfl
theorem im_X4_told : Cond.instanceMethod yX4_told ∈ gw := gw_at (k := 437) (by decide +kernel) rfl
theorem se_X4_told : Cond.selects RX4 yX4_told yX4_told ∈ gw := gw_at (k := 438) (by decide +kernel) rfl
theorem co_X4_told : Cond.code yX4_told cX4_told 2 (some .int) ∈ gw := gw_at (k := 439) (by decide +kernel) rfl
theorem ml_X4_61 : Cond.methodLink RX4 61 yX4_part ∈ gw := gw_at (k := 440) (by decide +kernel) rfl
theorem im_X4_part : Cond.instanceMethod yX4_part ∈ gw := gw_at (k := 442) (by decide +kernel) rfl
theorem co_X4_part : Cond.code yX4_part cX4_part 4 (some .int) ∈ gw := gw_at (k := 443) (by decide +kernel) rfl
theorem ct_X4_65 : Cond.constant RX4 65 3145776 ∈ gw := gw_at (k := 444) (by decide +kernel) rfl
theorem ct_X4_66 : Cond.constant RX4 66 65537 ∈ gw := gw_at (k := 445) (by decide +kernel) rfl
theorem ct_X4_67 : Cond.constant RX4 67 1114129 ∈ gw := gw_at (k := 446) (by decide +kernel) rfl
theorem ct_X4_68 : Cond.constant RX4 68 2097184 ∈ gw := gw_at (k := 447) (by decide +kernel) rfl
theorem ml_X4_69 : Cond.methodLink RX4 69 yX4_address ∈ gw := gw_at (k := 448) (by decide +kernel) rfl
theorem ml_L_41 : Cond.methodLink RL 41 yX5_bits ∈ gw := gw_at (k := 449) (by decide +kernel) rfl
theorem im_X5_bits : Cond.instanceMethod yX5_bits ∈ gw := gw_at (k := 450) (by decide +kernel) rfl
theorem se_X5_bits : Cond.selects RX5 yX5_bits yX5_bits ∈ gw := gw_at (k := 451) (by decide +kernel) rfl
theorem co_X5_bits : Cond.code yX5_bits cX5_bits 3 (some .int) ∈ gw := gw_at (k := 452) (by decide +kernel) rfl
theorem ml_X5_112 : Cond.methodLink RX5 112 yX4_number ∈ gw := gw_at (k := 453) (by decide +kernel) rfl
theorem ml_L_46 : Cond.methodLink RL 46 yX5_crafts ∈ gw := gw_at (k := 454) (by decide +kernel) rfl
theorem im_X5_crafts : Cond.instanceMethod yX5_crafts ∈ gw := gw_at (k := 455) (by decide +kernel) rfl
theorem se_X5_crafts : Cond.selects RX5 yX5_crafts yX5_crafts ∈ gw := gw_at (k := 456) (by decide +kernel) rfl
theorem co_X5_crafts : Cond.code yX5_crafts cX5_crafts 1 (some .int) ∈ gw := gw_at (k := 457) (by decide +kernel) rfl
theorem ml_X5_116 : Cond.methodLink RX5 116 yX0_size ∈ gw := gw_at (k := 458) (by decide +kernel) rfl
theorem im_X0_size : Cond.instanceMethod yX0_size ∈ gw := gw_at (k := 459) (by decide +kernel) rfl
theorem se_X0_size : Cond.selects RX0 yX0_size yX0_size ∈ gw := gw_at (k := 460) (by decide +kernel) rfl
theorem co_X0_size : Cond.code yX0_size cX0_size 1 (some .int) ∈ gw := gw_at (k := 461) (by decide +kernel) rfl
theorem ml_L_51 : Cond.methodLink RL 51 yX5_find ∈ gw := gw_at (k := 462) (by decide +kernel) rfl
theorem im_X5_find : Cond.instanceMethod yX5_find ∈ gw := gw_at (k := 463) (by decide +kernel) rfl
theorem se_X5_find : Cond.selects RX5 yX5_find yX5_find ∈ gw := gw_at (k := 464) (by decide +kernel) rfl
theorem co_X5_find : Cond.code yX5_find cX5_find 2 (some .int) ∈ gw := gw_at (k := 465) (by decide +kernel) rfl
theorem ml_L_55 : Cond.methodLink RL 55 yX5_craft ∈ gw := gw_at (k := 466) (by decide +kernel) rfl
theorem im_X5_craft : Cond.instanceMethod yX5_craft ∈ gw := gw_at (k := 467) (by decide +kernel) rfl
theorem se_X5_craft : Cond.selects RX5 yX5_craft yX5_craft ∈ gw := gw_at (k := 468) (by decide +kernel) rfl
theorem co_X5_craft : Cond.code yX5_craft cX5_craft 4 (some .int) ∈ gw := gw_at (k := 469) (by decide +kernel) rfl
theorem ml_X5_119 : Cond.methodLink RX5 119 yX3_value ∈ gw := gw_at (k := 470) (by decide +kernel) rfl
theorem ml_L_59 : Cond.methodLink RL 59 yX5_sign ∈ gw := gw_at (k := 471) (by decide +kernel) rfl
theorem im_X5_sign : Cond.instanceMethod yX5_sign ∈ gw := gw_at (k := 472) (by decide +kernel) rfl
theorem se_X5_sign : Cond.selects RX5 yX5_sign yX5_sign ∈ gw := gw_at (k := 473) (by decide +kernel) rfl
theorem co_X5_sign : Cond.code yX5_sign cX5_sign 4 (some .int) ∈ gw := gw_at (k := 474) (by decide +kernel) rfl
theorem ml_X5_122 : Cond.methodLink RX5 122 yX3_letter ∈ gw := gw_at (k := 475) (by decide +kernel) rfl
theorem im_X3_letter : Cond.instanceMethod yX3_letter ∈ gw := gw_at (k := 476) (by decide +kernel) rfl
theorem se_X3_letter : Cond.selects RX3 yX3_letter yX3_letter ∈ gw := gw_at (k := 477) (by decide +kernel) rfl
theorem co_X3_letter : Cond.code yX3_letter cX3_letter 2 (some .int) ∈ gw := gw_at (k := 478) (by decide +kernel) rfl
theorem ml_L_63 : Cond.methodLink RL 63 yX5_zones ∈ gw := gw_at (k := 479) (by decide +kernel) rfl
theorem im_X5_zones : Cond.instanceMethod yX5_zones ∈ gw := gw_at (k := 480) (by decide +kernel) rfl
theorem se_X5_zones : Cond.selects RX5 yX5_zones yX5_zones ∈ gw := gw_at (k := 481) (by decide +kernel) rfl
theorem co_X5_zones : Cond.code yX5_zones cX5_zones 2 (some .int) ∈ gw := gw_at (k := 482) (by decide +kernel) rfl
theorem ct_X5_125 : Cond.constantLong RX5 125 100 ∈ gw := gw_at (k := 483) (by decide +kernel) rfl
theorem ml_X5_127 : Cond.methodLink RX5 127 yX2_zoneCount ∈ gw := gw_at (k := 484) (by decide +kernel) rfl
theorem ml_L_67 : Cond.methodLink RL 67 yX5_encode ∈ gw := gw_at (k := 485) (by decide +kernel) rfl
theorem im_X5_encode : Cond.instanceMethod yX5_encode ∈ gw := gw_at (k := 486) (by decide +kernel) rfl
theorem se_X5_encode : Cond.selects RX5 yX5_encode yX5_encode ∈ gw := gw_at (k := 487) (by decide +kernel) rfl
theorem co_X5_encode : Cond.code yX5_encode cX5_encode 5 (some .long) ∈ gw := gw_at (k := 488) (by decide +kernel) rfl
theorem ct_X5_131 : Cond.constantLong RX5 131 (-1) ∈ gw := gw_at (k := 489) (by decide +kernel) rfl
theorem ml_X5_133 : Cond.methodLink RX5 133 yX2_code ∈ gw := gw_at (k := 490) (by decide +kernel) rfl
theorem st_X2_code : Cond.static yX2_code ∈ gw := gw_at (k := 491) (by decide +kernel) rfl
theorem co_X2_code : Cond.code yX2_code cX2_code 14 (some .long) ∈ gw := gw_at (k := 492) (by decide +kernel) rfl
theorem ml_X2_42 : Cond.methodLink RX2 42 yX2_nearestStep ∈ gw := gw_at (k := 493) (by decide +kernel) rfl
theorem st_X2_nearestStep : Cond.static yX2_nearestStep ∈ gw := gw_at (k := 494) (by decide +kernel) rfl
theorem co_X2_nearestStep : Cond.code yX2_nearestStep cX2_nearestStep 6 (some .long) ∈ gw := gw_at (k := 495) (by decide +kernel) rfl
theorem ct_X2_114 : Cond.constantLong RX2 114 2 ∈ gw := gw_at (k := 496) (by decide +kernel) rfl
theorem ml_L_74 : Cond.methodLink RL 74 yX5_global ∈ gw := gw_at (k := 497) (by decide +kernel) rfl
theorem im_X5_global : Cond.instanceMethod yX5_global ∈ gw := gw_at (k := 498) (by decide +kernel) rfl
theorem se_X5_global : Cond.selects RX5 yX5_global yX5_global ∈ gw := gw_at (k := 499) (by decide +kernel) rfl
theorem co_X5_global : Cond.code yX5_global cX5_global 6 (some .long) ∈ gw := gw_at (k := 500) (by decide +kernel) rfl
theorem ml_X5_137 : Cond.methodLink RX5 137 yX2_isCode ∈ gw := gw_at (k := 501) (by decide +kernel) rfl
theorem st_X2_isCode : Cond.static yX2_isCode ∈ gw := gw_at (k := 502) (by decide +kernel) rfl
theorem co_X2_isCode : Cond.code yX2_isCode cX2_isCode 2 (some .boolean) ∈ gw := gw_at (k := 503) (by decide +kernel) rfl
theorem ct_X2_19 : Cond.constantLong RX2 19 17179869184 ∈ gw := gw_at (k := 504) (by decide +kernel) rfl
theorem ml_X5_141 : Cond.methodLink RX5 141 yX2_placeOfPair ∈ gw := gw_at (k := 505) (by decide +kernel) rfl
theorem ml_L_79 : Cond.methodLink RL 79 yX5_local ∈ gw := gw_at (k := 506) (by decide +kernel) rfl
theorem im_X5_local : Cond.instanceMethod yX5_local ∈ gw := gw_at (k := 507) (by decide +kernel) rfl
theorem se_X5_local : Cond.selects RX5 yX5_local yX5_local ∈ gw := gw_at (k := 508) (by decide +kernel) rfl
theorem co_X5_local : Cond.code yX5_local cX5_local 7 (some .long) ∈ gw := gw_at (k := 509) (by decide +kernel) rfl
theorem ml_X5_145 : Cond.methodLink RX5 145 yX2_placeNear ∈ gw := gw_at (k := 510) (by decide +kernel) rfl
theorem cl_L_10 : Cond.classLink RL 10 RX6 ∈ gw := gw_at (k := 511) (by decide +kernel) rfl
theorem it_X6 : Cond.instantiable RX6 15 ∈ gw := gw_at (k := 512) (by decide +kernel) rfl
theorem ml_L_12 : Cond.methodLink RL 12 yX6_init ∈ gw := gw_at (k := 513) (by decide +kernel) rfl
theorem im_X6_init : Cond.instanceMethod yX6_init ∈ gw := gw_at (k := 514) (by decide +kernel) rfl
theorem co_X6_init : Cond.code yX6_init cX6_init 1 none ∈ gw := gw_at (k := 515) (by decide +kernel) rfl
theorem ml_X6_1 : Cond.methodLink RX6 1 objectInit ∈ gw := gw_at (k := 516) (by decide +kernel) rfl
theorem ct_X6_7 : Cond.constantLong RX6 7 1047047130 ∈ gw := gw_at (k := 517) (by decide +kernel) rfl
theorem ct_X6_9 : Cond.constantLong RX6 9 1482817437 ∈ gw := gw_at (k := 518) (by decide +kernel) rfl
theorem ct_X6_11 : Cond.constantLong RX6 11 1818626357 ∈ gw := gw_at (k := 519) (by decide +kernel) rfl
theorem ct_X6_13 : Cond.constantLong RX6 13 2102939493 ∈ gw := gw_at (k := 520) (by decide +kernel) rfl
theorem ct_X6_15 : Cond.constantLong RX6 15 2354504487 ∈ gw := gw_at (k := 521) (by decide +kernel) rfl
theorem ct_X6_17 : Cond.constantLong RX6 17 2582924707 ∈ gw := gw_at (k := 522) (by decide +kernel) rfl
theorem ct_X6_19 : Cond.constantLong RX6 19 2793898710 ∈ gw := gw_at (k := 523) (by decide +kernel) rfl
theorem ct_X6_21 : Cond.constantLong RX6 21 2991135686 ∈ gw := gw_at (k := 524) (by decide +kernel) rfl
theorem ct_X6_23 : Cond.constantLong RX6 23 3177209708 ∈ gw := gw_at (k := 525) (by decide +kernel) rfl
theorem ct_X6_25 : Cond.constantLong RX6 25 3353993436 ∈ gw := gw_at (k := 526) (by decide +kernel) rfl
theorem ct_X6_27 : Cond.constantLong RX6 27 3522899598 ∈ gw := gw_at (k := 527) (by decide +kernel) rfl
theorem ct_X6_29 : Cond.constantLong RX6 29 3685025108 ∈ gw := gw_at (k := 528) (by decide +kernel) rfl
theorem ct_X6_31 : Cond.constantLong RX6 31 3841241892 ∈ gw := gw_at (k := 529) (by decide +kernel) rfl
theorem ct_X6_33 : Cond.constantLong RX6 33 3992256684 ∈ gw := gw_at (k := 530) (by decide +kernel) rfl
theorem ct_X6_35 : Cond.constantLong RX6 35 4138651832 ∈ gw := gw_at (k := 531) (by decide +kernel) rfl
theorem ct_X6_37 : Cond.constantLong RX6 37 4280914012 ∈ gw := gw_at (k := 532) (by decide +kernel) rfl
theorem ct_X6_39 : Cond.constantLong RX6 39 4419454951 ∈ gw := gw_at (k := 533) (by decide +kernel) rfl
theorem ct_X6_41 : Cond.constantLong RX6 41 4554626723 ∈ gw := gw_at (k := 534) (by decide +kernel) rfl
theorem ct_X6_43 : Cond.constantLong RX6 43 4686733252 ∈ gw := gw_at (k := 535) (by decide +kernel) rfl
theorem ct_X6_45 : Cond.constantLong RX6 45 4816039128 ∈ gw := gw_at (k := 536) (by decide +kernel) rfl
theorem ct_X6_47 : Cond.constantLong RX6 47 4942776439 ∈ gw := gw_at (k := 537) (by decide +kernel) rfl
theorem ct_X6_49 : Cond.constantLong RX6 49 5067150166 ∈ gw := gw_at (k := 538) (by decide +kernel) rfl
theorem ct_X6_51 : Cond.constantLong RX6 51 5189342469 ∈ gw := gw_at (k := 539) (by decide +kernel) rfl
theorem ct_X6_53 : Cond.constantLong RX6 53 5309516153 ∈ gw := gw_at (k := 540) (by decide +kernel) rfl
theorem ct_X6_55 : Cond.constantLong RX6 55 5427817472 ∈ gw := gw_at (k := 541) (by decide +kernel) rfl
theorem ct_X6_57 : Cond.constantLong RX6 57 5544378444 ∈ gw := gw_at (k := 542) (by decide +kernel) rfl
theorem ct_X6_59 : Cond.constantLong RX6 59 5659318756 ∈ gw := gw_at (k := 543) (by decide +kernel) rfl
theorem ct_X6_61 : Cond.constantLong RX6 61 5772747354 ∈ gw := gw_at (k := 544) (by decide +kernel) rfl
theorem ct_X6_63 : Cond.constantLong RX6 63 5884763776 ∈ gw := gw_at (k := 545) (by decide +kernel) rfl
theorem ct_X6_65 : Cond.constantLong RX6 65 5995459277 ∈ gw := gw_at (k := 546) (by decide +kernel) rfl
theorem ct_X6_67 : Cond.constantLong RX6 67 6104917774 ∈ gw := gw_at (k := 547) (by decide +kernel) rfl
theorem ct_X6_69 : Cond.constantLong RX6 69 6213216659 ∈ gw := gw_at (k := 548) (by decide +kernel) rfl
theorem ct_X6_71 : Cond.constantLong RX6 71 6320427479 ∈ gw := gw_at (k := 549) (by decide +kernel) rfl
theorem ct_X6_73 : Cond.constantLong RX6 73 6426616523 ∈ gw := gw_at (k := 550) (by decide +kernel) rfl
theorem ct_X6_75 : Cond.constantLong RX6 75 6531845310 ∈ gw := gw_at (k := 551) (by decide +kernel) rfl
theorem ct_X6_77 : Cond.constantLong RX6 77 6636171008 ∈ gw := gw_at (k := 552) (by decide +kernel) rfl
theorem ct_X6_79 : Cond.constantLong RX6 79 6739646774 ∈ gw := gw_at (k := 553) (by decide +kernel) rfl
theorem ct_X6_81 : Cond.constantLong RX6 81 6842322022 ∈ gw := gw_at (k := 554) (by decide +kernel) rfl
theorem ct_X6_83 : Cond.constantLong RX6 83 6944242631 ∈ gw := gw_at (k := 555) (by decide +kernel) rfl
theorem ct_X6_85 : Cond.constantLong RX6 85 7045451075 ∈ gw := gw_at (k := 556) (by decide +kernel) rfl
theorem ct_X6_87 : Cond.constantLong RX6 87 7145986473 ∈ gw := gw_at (k := 557) (by decide +kernel) rfl
theorem ct_X6_89 : Cond.constantLong RX6 89 7245884545 ∈ gw := gw_at (k := 558) (by decide +kernel) rfl
theorem ct_X6_91 : Cond.constantLong RX6 91 7345177442 ∈ gw := gw_at (k := 559) (by decide +kernel) rfl
theorem ct_X6_93 : Cond.constantLong RX6 93 7443893416 ∈ gw := gw_at (k := 560) (by decide +kernel) rfl
theorem ct_X6_95 : Cond.constantLong RX6 95 7542056257 ∈ gw := gw_at (k := 561) (by decide +kernel) rfl
theorem ct_X6_97 : Cond.constantLong RX6 97 7639684391 ∈ gw := gw_at (k := 562) (by decide +kernel) rfl
theorem ct_X6_99 : Cond.constantLong RX6 99 7736789461 ∈ gw := gw_at (k := 563) (by decide +kernel) rfl
theorem ct_X6_101 : Cond.constantLong RX6 101 7833374083 ∈ gw := gw_at (k := 564) (by decide +kernel) rfl
theorem ct_X6_103 : Cond.constantLong RX6 103 7929428225 ∈ gw := gw_at (k := 565) (by decide +kernel) rfl
theorem ct_X6_105 : Cond.constantLong RX6 105 8024923213 ∈ gw := gw_at (k := 566) (by decide +kernel) rfl
theorem ct_X6_107 : Cond.constantLong RX6 107 8119801349 ∈ gw := gw_at (k := 567) (by decide +kernel) rfl
theorem ct_X6_109 : Cond.constantLong RX6 109 8213956981 ∈ gw := gw_at (k := 568) (by decide +kernel) rfl
theorem ct_X6_111 : Cond.constantLong RX6 111 8307199445 ∈ gw := gw_at (k := 569) (by decide +kernel) rfl
theorem ct_X6_113 : Cond.constantLong RX6 113 8399173563 ∈ gw := gw_at (k := 570) (by decide +kernel) rfl
theorem ct_X6_115 : Cond.constantLong RX6 115 8489166191 ∈ gw := gw_at (k := 571) (by decide +kernel) rfl
theorem ct_X6_117 : Cond.constantLong RX6 117 8575541621 ∈ gw := gw_at (k := 572) (by decide +kernel) rfl
theorem ct_X6_119 : Cond.constantLong RX6 119 8653536998 ∈ gw := gw_at (k := 573) (by decide +kernel) rfl
theorem ct_X6_121 : Cond.constantLong RX6 121 8700000000 ∈ gw := gw_at (k := 574) (by decide +kernel) rfl
theorem fl_X6_123 : Cond.fieldLink RX6 123 "SquitterDeskModel" "bounds" "[J" ∈ gw := gw_at (k := 575) (by decide +kernel) rfl
theorem fl_X6_129 : Cond.fieldLink RX6 129 "SquitterDeskModel" "rows" "[I" ∈ gw := gw_at (k := 576) (by decide +kernel) rfl
theorem fl_X6_281 : Cond.fieldLink RX6 281 "SquitterDeskModel" "many" "I" ∈ gw := gw_at (k := 577) (by decide +kernel) rfl
theorem fl_X6_287 : Cond.fieldLink RX6 287 "SquitterDeskModel" "latest" "I" ∈ gw := gw_at (k := 578) (by decide +kernel) rfl
theorem fl_X6_133 : Cond.fieldLink RX6 133 "SquitterDeskModel" "bit" "[I" ∈ gw := gw_at (k := 579) (by decide +kernel) rfl
theorem fl_X6_143 : Cond.fieldLink RX6 143 "SquitterDeskModel" "size" "I" ∈ gw := gw_at (k := 580) (by decide +kernel) rfl
theorem fl_X6_136 : Cond.fieldLink RX6 136 "SquitterDeskModel" "heard" "[I" ∈ gw := gw_at (k := 581) (by decide +kernel) rfl
theorem fl_X6_304 : Cond.fieldLink RX6 304 "SquitterDeskModel" "heardSize" "I" ∈ gw := gw_at (k := 582) (by decide +kernel) rfl
theorem fl_X6_307 : Cond.fieldLink RX6 307 "SquitterDeskModel" "heardSyndrome" "I" ∈ gw := gw_at (k := 583) (by decide +kernel) rfl
theorem fl_X6_139 : Cond.fieldLink RX6 139 "SquitterDeskModel" "heardRight" "I" ∈ gw := gw_at (k := 584) (by decide +kernel) rfl
theorem fl_X6_271 : Cond.fieldLink RX6 271 "SquitterDeskModel" "hasPlace" "Z" ∈ gw := gw_at (k := 585) (by decide +kernel) rfl
theorem fl_X6_275 : Cond.fieldLink RX6 275 "SquitterDeskModel" "ownLatitude" "I" ∈ gw := gw_at (k := 586) (by decide +kernel) rfl
theorem fl_X6_278 : Cond.fieldLink RX6 278 "SquitterDeskModel" "ownLongitude" "I" ∈ gw := gw_at (k := 587) (by decide +kernel) rfl
theorem fl_X6_243 : Cond.fieldLink RX6 243 "SquitterDeskModel" "latitude" "I" ∈ gw := gw_at (k := 588) (by decide +kernel) rfl
theorem fl_X6_246 : Cond.fieldLink RX6 246 "SquitterDeskModel" "longitude" "I" ∈ gw := gw_at (k := 589) (by decide +kernel) rfl
theorem ml_L_17 : Cond.methodLink RL 17 yX6_syndrome ∈ gw := gw_at (k := 621) (by decide +kernel) rfl
theorem im_X6_syndrome : Cond.instanceMethod yX6_syndrome ∈ gw := gw_at (k := 622) (by decide +kernel) rfl
theorem se_X6_syndrome : Cond.selects RX6 yX6_syndrome yX6_syndrome ∈ gw := gw_at (k := 623) (by decide +kernel) rfl
theorem co_X6_syndrome : Cond.code yX6_syndrome cX6_syndrome 5 (some .int) ∈ gw := gw_at (k := 624) (by decide +kernel) rfl
theorem ml_X6_148 : Cond.methodLink RX6 148 yX6_frame ∈ gw := gw_at (k := 625) (by decide +kernel) rfl
theorem im_X6_frame : Cond.instanceMethod yX6_frame ∈ gw := gw_at (k := 627) (by decide +kernel) rfl
theorem co_X6_frame : Cond.code yX6_frame cX6_frame 7 none ∈ gw := gw_at (k := 628) (by decide +kernel) rfl
theorem ml_X6_152 : Cond.methodLink RX6 152 yX6_remainder ∈ gw := gw_at (k := 629) (by decide +kernel) rfl
theorem im_X6_remainder : Cond.instanceMethod yX6_remainder ∈ gw := gw_at (k := 631) (by decide +kernel) rfl
theorem co_X6_remainder : Cond.code yX6_remainder cX6_remainder 3 (some .int) ∈ gw := gw_at (k := 632) (by decide +kernel) rfl
theorem ct_X6_146 : Cond.constant RX6 146 16777216 ∈ gw := gw_at (k := 633) (by decide +kernel) rfl
theorem ct_X6_147 : Cond.constant RX6 147 33551369 ∈ gw := gw_at (k := 634) (by decide +kernel) rfl
theorem ml_L_25 : Cond.methodLink RL 25 yX6_seal ∈ gw := gw_at (k := 635) (by decide +kernel) rfl
theorem im_X6_seal : Cond.instanceMethod yX6_seal ∈ gw := gw_at (k := 636) (by decide +kernel) rfl
theorem se_X6_seal : Cond.selects RX6 yX6_seal yX6_seal ∈ gw := gw_at (k := 637) (by decide +kernel) rfl
theorem co_X6_seal : Cond.code yX6_seal cX6_seal 6 (some .int) ∈ gw := gw_at (k := 638) (by decide +kernel) rfl
theorem ml_L_21 : Cond.methodLink RL 21 yX6_repair ∈ gw := gw_at (k := 639) (by decide +kernel) rfl
theorem im_X6_repair : Cond.instanceMethod yX6_repair ∈ gw := gw_at (k := 640) (by decide +kernel) rfl
theorem se_X6_repair : Cond.selects RX6 yX6_repair yX6_repair ∈ gw := gw_at (k := 641) (by decide +kernel) rfl
theorem co_X6_repair : Cond.code yX6_repair cX6_repair 5 (some .int) ∈ gw := gw_at (k := 642) (by decide +kernel) rfl
theorem ml_X6_156 : Cond.methodLink RX6 156 yX6_number ∈ gw := gw_at (k := 643) (by decide +kernel) rfl
theorem im_X6_number : Cond.instanceMethod yX6_number ∈ gw := gw_at (k := 645) (by decide +kernel) rfl
theorem co_X6_number : Cond.code yX6_number cX6_number 6 (some .int) ∈ gw := gw_at (k := 646) (by decide +kernel) rfl
theorem ml_X6_160 : Cond.methodLink RX6 160 yX6_isWrong ∈ gw := gw_at (k := 647) (by decide +kernel) rfl
theorem im_X6_isWrong : Cond.instanceMethod yX6_isWrong ∈ gw := gw_at (k := 649) (by decide +kernel) rfl
theorem co_X6_isWrong : Cond.code yX6_isWrong cX6_isWrong 3 (some .boolean) ∈ gw := gw_at (k := 650) (by decide +kernel) rfl
theorem ml_X6_164 : Cond.methodLink RX6 164 yX6_toTurn ∈ gw := gw_at (k := 651) (by decide +kernel) rfl
theorem im_X6_toTurn : Cond.instanceMethod yX6_toTurn ∈ gw := gw_at (k := 653) (by decide +kernel) rfl
theorem co_X6_toTurn : Cond.code yX6_toTurn cX6_toTurn 3 (some .int) ∈ gw := gw_at (k := 654) (by decide +kernel) rfl
theorem ml_L_66 : Cond.methodLink RL 66 yX6_zones ∈ gw := gw_at (k := 655) (by decide +kernel) rfl
theorem im_X6_zones : Cond.instanceMethod yX6_zones ∈ gw := gw_at (k := 656) (by decide +kernel) rfl
theorem se_X6_zones : Cond.selects RX6 yX6_zones yX6_zones ∈ gw := gw_at (k := 657) (by decide +kernel) rfl
theorem co_X6_zones : Cond.code yX6_zones cX6_zones 2 (some .int) ∈ gw := gw_at (k := 658) (by decide +kernel) rfl
theorem ml_X6_188 : Cond.methodLink RX6 188 yX6_isLatitude ∈ gw := gw_at (k := 659) (by decide +kernel) rfl
theorem st_X6_isLatitude : Cond.static yX6_isLatitude ∈ gw := gw_at (k := 660) (by decide +kernel) rfl
theorem co_X6_isLatitude : Cond.code yX6_isLatitude cX6_isLatitude 1 (some .boolean) ∈ gw := gw_at (k := 661) (by decide +kernel) rfl
theorem ct_X6_184 : Cond.constant RX6 184 (-90000000) ∈ gw := gw_at (k := 662) (by decide +kernel) rfl
theorem ct_X6_185 : Cond.constant RX6 185 90000000 ∈ gw := gw_at (k := 663) (by decide +kernel) rfl
theorem ct_X6_192 : Cond.constantLong RX6 192 100 ∈ gw := gw_at (k := 664) (by decide +kernel) rfl
theorem ml_X6_194 : Cond.methodLink RX6 194 yX6_zonesOf ∈ gw := gw_at (k := 665) (by decide +kernel) rfl
theorem im_X6_zonesOf : Cond.instanceMethod yX6_zonesOf ∈ gw := gw_at (k := 667) (by decide +kernel) rfl
theorem co_X6_zonesOf : Cond.code yX6_zonesOf cX6_zonesOf 10 (some .int) ∈ gw := gw_at (k := 668) (by decide +kernel) rfl
theorem ml_X6_180 : Cond.methodLink RX6 180 yX6_sizeOf ∈ gw := gw_at (k := 669) (by decide +kernel) rfl
theorem st_X6_sizeOf : Cond.static yX6_sizeOf ∈ gw := gw_at (k := 670) (by decide +kernel) rfl
theorem co_X6_sizeOf : Cond.code yX6_sizeOf cX6_sizeOf 2 (some .long) ∈ gw := gw_at (k := 671) (by decide +kernel) rfl
theorem ml_L_71 : Cond.methodLink RL 71 yX6_encode ∈ gw := gw_at (k := 672) (by decide +kernel) rfl
theorem im_X6_encode : Cond.instanceMethod yX6_encode ∈ gw := gw_at (k := 673) (by decide +kernel) rfl
theorem se_X6_encode : Cond.selects RX6 yX6_encode yX6_encode ∈ gw := gw_at (k := 674) (by decide +kernel) rfl
theorem co_X6_encode : Cond.code yX6_encode cX6_encode 17 (some .long) ∈ gw := gw_at (k := 675) (by decide +kernel) rfl
theorem ml_X6_205 : Cond.methodLink RX6 205 yX6_isLongitude ∈ gw := gw_at (k := 676) (by decide +kernel) rfl
theorem st_X6_isLongitude : Cond.static yX6_isLongitude ∈ gw := gw_at (k := 677) (by decide +kernel) rfl
theorem co_X6_isLongitude : Cond.code yX6_isLongitude cX6_isLongitude 1 (some .boolean) ∈ gw := gw_at (k := 678) (by decide +kernel) rfl
theorem ct_X6_186 : Cond.constant RX6 186 (-180000000) ∈ gw := gw_at (k := 679) (by decide +kernel) rfl
theorem ct_X6_187 : Cond.constant RX6 187 180000000 ∈ gw := gw_at (k := 680) (by decide +kernel) rfl
theorem ct_X6_208 : Cond.constantLong RX6 208 (-1) ∈ gw := gw_at (k := 681) (by decide +kernel) rfl
theorem ct_X6_210 : Cond.constantLong RX6 210 90000000 ∈ gw := gw_at (k := 682) (by decide +kernel) rfl
theorem ct_X6_212 : Cond.constantLong RX6 212 360000000 ∈ gw := gw_at (k := 683) (by decide +kernel) rfl
theorem ml_X6_202 : Cond.methodLink RX6 202 yX6_down ∈ gw := gw_at (k := 684) (by decide +kernel) rfl
theorem st_X6_down : Cond.static yX6_down ∈ gw := gw_at (k := 685) (by decide +kernel) rfl
theorem co_X6_down : Cond.code yX6_down cX6_down 4 (some .long) ∈ gw := gw_at (k := 686) (by decide +kernel) rfl
theorem ml_X6_176 : Cond.methodLink RX6 176 yX6_rest ∈ gw := gw_at (k := 687) (by decide +kernel) rfl
theorem st_X6_rest : Cond.static yX6_rest ∈ gw := gw_at (k := 688) (by decide +kernel) rfl
theorem co_X6_rest : Cond.code yX6_rest cX6_rest 6 (some .long) ∈ gw := gw_at (k := 689) (by decide +kernel) rfl
theorem ml_X6_214 : Cond.methodLink RX6 214 yX6_parts ∈ gw := gw_at (k := 690) (by decide +kernel) rfl
theorem st_X6_parts : Cond.static yX6_parts ∈ gw := gw_at (k := 691) (by decide +kernel) rfl
theorem co_X6_parts : Cond.code yX6_parts cX6_parts 4 (some .long) ∈ gw := gw_at (k := 692) (by decide +kernel) rfl
theorem ct_X6_198 : Cond.constantLong RX6 198 2 ∈ gw := gw_at (k := 693) (by decide +kernel) rfl
theorem ct_X6_200 : Cond.constantLong RX6 200 131072 ∈ gw := gw_at (k := 694) (by decide +kernel) rfl
theorem ml_X6_217 : Cond.methodLink RX6 217 yX6_atLeast1 ∈ gw := gw_at (k := 695) (by decide +kernel) rfl
theorem st_X6_atLeast1 : Cond.static yX6_atLeast1 ∈ gw := gw_at (k := 696) (by decide +kernel) rfl
theorem co_X6_atLeast1 : Cond.code yX6_atLeast1 cX6_atLeast1 1 (some .int) ∈ gw := gw_at (k := 697) (by decide +kernel) rfl
theorem ml_L_78 : Cond.methodLink RL 78 yX6_global ∈ gw := gw_at (k := 698) (by decide +kernel) rfl
theorem im_X6_global : Cond.instanceMethod yX6_global ∈ gw := gw_at (k := 699) (by decide +kernel) rfl
theorem se_X6_global : Cond.selects RX6 yX6_global yX6_global ∈ gw := gw_at (k := 700) (by decide +kernel) rfl
theorem co_X6_global : Cond.code yX6_global cX6_global 6 (some .long) ∈ gw := gw_at (k := 701) (by decide +kernel) rfl
theorem ml_X6_249 : Cond.methodLink RX6 249 yX6_isTold ∈ gw := gw_at (k := 702) (by decide +kernel) rfl
theorem im_X6_isTold : Cond.instanceMethod yX6_isTold ∈ gw := gw_at (k := 704) (by decide +kernel) rfl
theorem co_X6_isTold : Cond.code yX6_isTold cX6_isTold 3 (some .boolean) ∈ gw := gw_at (k := 705) (by decide +kernel) rfl
theorem ct_X6_221 : Cond.constantLong RX6 221 17179869184 ∈ gw := gw_at (k := 706) (by decide +kernel) rfl
theorem ml_X6_253 : Cond.methodLink RX6 253 yX6_globalOf ∈ gw := gw_at (k := 707) (by decide +kernel) rfl
theorem im_X6_globalOf : Cond.instanceMethod yX6_globalOf ∈ gw := gw_at (k := 709) (by decide +kernel) rfl
theorem co_X6_globalOf : Cond.code yX6_globalOf cX6_globalOf 26 (some .boolean) ∈ gw := gw_at (k := 710) (by decide +kernel) rfl
theorem ct_X6_225 : Cond.constantLong RX6 225 59 ∈ gw := gw_at (k := 711) (by decide +kernel) rfl
theorem ct_X6_227 : Cond.constantLong RX6 227 60 ∈ gw := gw_at (k := 712) (by decide +kernel) rfl
theorem ct_X6_229 : Cond.constantLong RX6 229 262144 ∈ gw := gw_at (k := 713) (by decide +kernel) rfl
theorem ct_X6_231 : Cond.constantLong RX6 231 4 ∈ gw := gw_at (k := 714) (by decide +kernel) rfl
theorem ct_X6_233 : Cond.constantLong RX6 233 23592960 ∈ gw := gw_at (k := 715) (by decide +kernel) rfl
theorem ct_X6_235 : Cond.constantLong RX6 235 7864320 ∈ gw := gw_at (k := 716) (by decide +kernel) rfl
theorem ct_X6_237 : Cond.constantLong RX6 237 23199744 ∈ gw := gw_at (k := 717) (by decide +kernel) rfl
theorem ct_X6_239 : Cond.constantLong RX6 239 7733248 ∈ gw := gw_at (k := 718) (by decide +kernel) rfl
theorem ct_X6_241 : Cond.constantLong RX6 241 36000000000 ∈ gw := gw_at (k := 719) (by decide +kernel) rfl
theorem ct_X6_257 : Cond.constantLong RX6 257 (-9223372036854775808) ∈ gw := gw_at (k := 720) (by decide +kernel) rfl
theorem ml_X6_259 : Cond.methodLink RX6 259 yX6_both ∈ gw := gw_at (k := 721) (by decide +kernel) rfl
theorem st_X6_both : Cond.static yX6_both ∈ gw := gw_at (k := 722) (by decide +kernel) rfl
theorem co_X6_both : Cond.code yX6_both cX6_both 2 (some .long) ∈ gw := gw_at (k := 723) (by decide +kernel) rfl
theorem ct_X6_223 : Cond.constantLong RX6 223 4294967295 ∈ gw := gw_at (k := 724) (by decide +kernel) rfl
theorem ml_L_83 : Cond.methodLink RL 83 yX6_local ∈ gw := gw_at (k := 725) (by decide +kernel) rfl
theorem im_X6_local : Cond.instanceMethod yX6_local ∈ gw := gw_at (k := 726) (by decide +kernel) rfl
theorem se_X6_local : Cond.selects RX6 yX6_local yX6_local ∈ gw := gw_at (k := 727) (by decide +kernel) rfl
theorem co_X6_local : Cond.code yX6_local cX6_local 7 (some .long) ∈ gw := gw_at (k := 728) (by decide +kernel) rfl
theorem ml_X6_267 : Cond.methodLink RX6 267 yX6_localOf ∈ gw := gw_at (k := 729) (by decide +kernel) rfl
theorem im_X6_localOf : Cond.instanceMethod yX6_localOf ∈ gw := gw_at (k := 731) (by decide +kernel) rfl
theorem co_X6_localOf : Cond.code yX6_localOf cX6_localOf 22 (some .boolean) ∈ gw := gw_at (k := 732) (by decide +kernel) rfl
theorem ml_X6_263 : Cond.methodLink RX6 263 yX6_nearest ∈ gw := gw_at (k := 733) (by decide +kernel) rfl
theorem st_X6_nearest : Cond.static yX6_nearest ∈ gw := gw_at (k := 734) (by decide +kernel) rfl
theorem co_X6_nearest : Cond.code yX6_nearest cX6_nearest 14 (some .long) ∈ gw := gw_at (k := 735) (by decide +kernel) rfl
theorem ml_L_30 : Cond.methodLink RL 30 yX6_place ∈ gw := gw_at (k := 736) (by decide +kernel) rfl
theorem im_X6_place : Cond.instanceMethod yX6_place ∈ gw := gw_at (k := 737) (by decide +kernel) rfl
theorem se_X6_place : Cond.selects RX6 yX6_place yX6_place ∈ gw := gw_at (k := 738) (by decide +kernel) rfl
theorem co_X6_place : Cond.code yX6_place cX6_place 3 (some .boolean) ∈ gw := gw_at (k := 739) (by decide +kernel) rfl
theorem ml_L_54 : Cond.methodLink RL 54 yX6_find ∈ gw := gw_at (k := 740) (by decide +kernel) rfl
theorem im_X6_find : Cond.instanceMethod yX6_find ∈ gw := gw_at (k := 741) (by decide +kernel) rfl
theorem se_X6_find : Cond.selects RX6 yX6_find yX6_find ∈ gw := gw_at (k := 742) (by decide +kernel) rfl
theorem co_X6_find : Cond.code yX6_find cX6_find 4 (some .int) ∈ gw := gw_at (k := 743) (by decide +kernel) rfl
theorem ml_X6_284 : Cond.methodLink RX6 284 yX6_at ∈ gw := gw_at (k := 744) (by decide +kernel) rfl
theorem im_X6_at : Cond.instanceMethod yX6_at ∈ gw := gw_at (k := 746) (by decide +kernel) rfl
theorem co_X6_at : Cond.code yX6_at cX6_at 3 (some .int) ∈ gw := gw_at (k := 747) (by decide +kernel) rfl
theorem ml_L_35 : Cond.methodLink RL 35 yX6_hear ∈ gw := gw_at (k := 748) (by decide +kernel) rfl
theorem im_X6_hear : Cond.instanceMethod yX6_hear ∈ gw := gw_at (k := 749) (by decide +kernel) rfl
theorem se_X6_hear : Cond.selects RX6 yX6_hear yX6_hear ∈ gw := gw_at (k := 750) (by decide +kernel) rfl
theorem co_X6_hear : Cond.code yX6_hear cX6_hear 12 (some .int) ∈ gw := gw_at (k := 751) (by decide +kernel) rfl
theorem ct_X6_290 : Cond.constant RX6 290 1000000000 ∈ gw := gw_at (k := 752) (by decide +kernel) rfl
theorem ml_X6_291 : Cond.methodLink RX6 291 yX6_ages ∈ gw := gw_at (k := 753) (by decide +kernel) rfl
theorem im_X6_ages : Cond.instanceMethod yX6_ages ∈ gw := gw_at (k := 755) (by decide +kernel) rfl
theorem co_X6_ages : Cond.code yX6_ages cX6_ages 5 none ∈ gw := gw_at (k := 756) (by decide +kernel) rfl
theorem ml_X6_295 : Cond.methodLink RX6 295 yX6_isKnown ∈ gw := gw_at (k := 757) (by decide +kernel) rfl
theorem st_X6_isKnown : Cond.static yX6_isKnown ∈ gw := gw_at (k := 758) (by decide +kernel) rfl
theorem co_X6_isKnown : Cond.code yX6_isKnown cX6_isKnown 1 (some .boolean) ∈ gw := gw_at (k := 759) (by decide +kernel) rfl
theorem ml_X6_298 : Cond.methodLink RX6 298 yX6_isSquitter ∈ gw := gw_at (k := 760) (by decide +kernel) rfl
theorem st_X6_isSquitter : Cond.static yX6_isSquitter ∈ gw := gw_at (k := 761) (by decide +kernel) rfl
theorem co_X6_isSquitter : Cond.code yX6_isSquitter cX6_isSquitter 1 (some .boolean) ∈ gw := gw_at (k := 762) (by decide +kernel) rfl
theorem ml_X6_301 : Cond.methodLink RX6 301 yX6_find ∈ gw := gw_at (k := 763) (by decide +kernel) rfl
theorem ct_X6_171 : Cond.constant RX6 171 (-2147483648) ∈ gw := gw_at (k := 764) (by decide +kernel) rfl
theorem ml_X6_310 : Cond.methodLink RX6 310 yX6_altitude ∈ gw := gw_at (k := 765) (by decide +kernel) rfl
theorem im_X6_altitude : Cond.instanceMethod yX6_altitude ∈ gw := gw_at (k := 767) (by decide +kernel) rfl
theorem co_X6_altitude : Cond.code yX6_altitude cX6_altitude 5 (some .int) ∈ gw := gw_at (k := 768) (by decide +kernel) rfl
theorem ml_X6_167 : Cond.methodLink RX6 167 yX6_of ∈ gw := gw_at (k := 769) (by decide +kernel) rfl
theorem im_X6_of : Cond.instanceMethod yX6_of ∈ gw := gw_at (k := 771) (by decide +kernel) rfl
theorem co_X6_of : Cond.code yX6_of cX6_of 3 (some .int) ∈ gw := gw_at (k := 772) (by decide +kernel) rfl
theorem ml_X6_172 : Cond.methodLink RX6 172 yX6_ungray ∈ gw := gw_at (k := 773) (by decide +kernel) rfl
theorem im_X6_ungray : Cond.instanceMethod yX6_ungray ∈ gw := gw_at (k := 775) (by decide +kernel) rfl
theorem co_X6_ungray : Cond.code yX6_ungray cX6_ungray 6 (some .int) ∈ gw := gw_at (k := 776) (by decide +kernel) rfl
theorem ml_X6_313 : Cond.methodLink RX6 313 yX6_squawk ∈ gw := gw_at (k := 777) (by decide +kernel) rfl
theorem im_X6_squawk : Cond.instanceMethod yX6_squawk ∈ gw := gw_at (k := 779) (by decide +kernel) rfl
theorem co_X6_squawk : Cond.code yX6_squawk cX6_squawk 6 (some .int) ∈ gw := gw_at (k := 780) (by decide +kernel) rfl
theorem ml_X6_316 : Cond.methodLink RX6 316 yX6_tells ∈ gw := gw_at (k := 781) (by decide +kernel) rfl
theorem im_X6_tells : Cond.instanceMethod yX6_tells ∈ gw := gw_at (k := 783) (by decide +kernel) rfl
theorem co_X6_tells : Cond.code yX6_tells cX6_tells 7 none ∈ gw := gw_at (k := 784) (by decide +kernel) rfl
theorem ml_X6_320 : Cond.methodLink RX6 320 yX6_part ∈ gw := gw_at (k := 785) (by decide +kernel) rfl
theorem im_X6_part : Cond.instanceMethod yX6_part ∈ gw := gw_at (k := 787) (by decide +kernel) rfl
theorem co_X6_part : Cond.code yX6_part cX6_part 3 (some .int) ∈ gw := gw_at (k := 788) (by decide +kernel) rfl
theorem ml_X6_323 : Cond.methodLink RX6 323 yX6_speed ∈ gw := gw_at (k := 789) (by decide +kernel) rfl
theorem im_X6_speed : Cond.instanceMethod yX6_speed ∈ gw := gw_at (k := 791) (by decide +kernel) rfl
theorem co_X6_speed : Cond.code yX6_speed cX6_speed 2 (some .int) ∈ gw := gw_at (k := 792) (by decide +kernel) rfl
theorem ct_X6_326 : Cond.constant RX6 326 360000 ∈ gw := gw_at (k := 793) (by decide +kernel) rfl
theorem ml_X6_327 : Cond.methodLink RX6 327 yX6_onGround ∈ gw := gw_at (k := 794) (by decide +kernel) rfl
theorem im_X6_onGround : Cond.instanceMethod yX6_onGround ∈ gw := gw_at (k := 796) (by decide +kernel) rfl
theorem co_X6_onGround : Cond.code yX6_onGround cX6_onGround 4 none ∈ gw := gw_at (k := 797) (by decide +kernel) rfl
theorem ml_X6_339 : Cond.methodLink RX6 339 yX6_isFresh ∈ gw := gw_at (k := 798) (by decide +kernel) rfl
theorem im_X6_isFresh : Cond.instanceMethod yX6_isFresh ∈ gw := gw_at (k := 800) (by decide +kernel) rfl
theorem co_X6_isFresh : Cond.code yX6_isFresh cX6_isFresh 3 (some .boolean) ∈ gw := gw_at (k := 801) (by decide +kernel) rfl
theorem ml_X6_342 : Cond.methodLink RX6 342 yX6_toldNow ∈ gw := gw_at (k := 802) (by decide +kernel) rfl
theorem im_X6_toldNow : Cond.instanceMethod yX6_toldNow ∈ gw := gw_at (k := 804) (by decide +kernel) rfl
theorem co_X6_toldNow : Cond.code yX6_toldNow cX6_toldNow 1 (some .long) ∈ gw := gw_at (k := 805) (by decide +kernel) rfl
theorem ml_X6_346 : Cond.methodLink RX6 346 yX6_comes ∈ gw := gw_at (k := 806) (by decide +kernel) rfl
theorem im_X6_comes : Cond.instanceMethod yX6_comes ∈ gw := gw_at (k := 808) (by decide +kernel) rfl
theorem co_X6_comes : Cond.code yX6_comes cX6_comes 4 none ∈ gw := gw_at (k := 809) (by decide +kernel) rfl
theorem ml_X6_330 : Cond.methodLink RX6 330 yX6_inAir ∈ gw := gw_at (k := 810) (by decide +kernel) rfl
theorem im_X6_inAir : Cond.instanceMethod yX6_inAir ∈ gw := gw_at (k := 812) (by decide +kernel) rfl
theorem co_X6_inAir : Cond.code yX6_inAir cX6_inAir 8 none ∈ gw := gw_at (k := 813) (by decide +kernel) rfl
theorem ml_X6_333 : Cond.methodLink RX6 333 yX6_moves ∈ gw := gw_at (k := 814) (by decide +kernel) rfl
theorem im_X6_moves : Cond.instanceMethod yX6_moves ∈ gw := gw_at (k := 816) (by decide +kernel) rfl
theorem co_X6_moves : Cond.code yX6_moves cX6_moves 8 none ∈ gw := gw_at (k := 817) (by decide +kernel) rfl
theorem ml_X6_336 : Cond.methodLink RX6 336 yX6_root ∈ gw := gw_at (k := 818) (by decide +kernel) rfl
theorem st_X6_root : Cond.static yX6_root ∈ gw := gw_at (k := 819) (by decide +kernel) rfl
theorem co_X6_root : Cond.code yX6_root cX6_root 3 (some .int) ∈ gw := gw_at (k := 820) (by decide +kernel) rfl
theorem ct_X6_175 : Cond.constant RX6 175 32768 ∈ gw := gw_at (k := 821) (by decide +kernel) rfl
theorem ml_L_40 : Cond.methodLink RL 40 yX6_field ∈ gw := gw_at (k := 822) (by decide +kernel) rfl
theorem im_X6_field : Cond.instanceMethod yX6_field ∈ gw := gw_at (k := 823) (by decide +kernel) rfl
theorem se_X6_field : Cond.selects RX6 yX6_field yX6_field ∈ gw := gw_at (k := 824) (by decide +kernel) rfl
theorem co_X6_field : Cond.code yX6_field cX6_field 7 (some .int) ∈ gw := gw_at (k := 825) (by decide +kernel) rfl
theorem ml_L_45 : Cond.methodLink RL 45 yX6_bits ∈ gw := gw_at (k := 826) (by decide +kernel) rfl
theorem im_X6_bits : Cond.instanceMethod yX6_bits ∈ gw := gw_at (k := 827) (by decide +kernel) rfl
theorem se_X6_bits : Cond.selects RX6 yX6_bits yX6_bits ∈ gw := gw_at (k := 828) (by decide +kernel) rfl
theorem co_X6_bits : Cond.code yX6_bits cX6_bits 3 (some .int) ∈ gw := gw_at (k := 829) (by decide +kernel) rfl
theorem ml_L_50 : Cond.methodLink RL 50 yX6_crafts ∈ gw := gw_at (k := 830) (by decide +kernel) rfl
theorem im_X6_crafts : Cond.instanceMethod yX6_crafts ∈ gw := gw_at (k := 831) (by decide +kernel) rfl
theorem se_X6_crafts : Cond.selects RX6 yX6_crafts yX6_crafts ∈ gw := gw_at (k := 832) (by decide +kernel) rfl
theorem co_X6_crafts : Cond.code yX6_crafts cX6_crafts 1 (some .int) ∈ gw := gw_at (k := 833) (by decide +kernel) rfl
theorem ml_L_58 : Cond.methodLink RL 58 yX6_craft ∈ gw := gw_at (k := 834) (by decide +kernel) rfl
theorem im_X6_craft : Cond.instanceMethod yX6_craft ∈ gw := gw_at (k := 835) (by decide +kernel) rfl
theorem se_X6_craft : Cond.selects RX6 yX6_craft yX6_craft ∈ gw := gw_at (k := 836) (by decide +kernel) rfl
theorem co_X6_craft : Cond.code yX6_craft cX6_craft 3 (some .int) ∈ gw := gw_at (k := 837) (by decide +kernel) rfl
theorem ml_X6_350 : Cond.methodLink RX6 350 yX6_isCraft ∈ gw := gw_at (k := 838) (by decide +kernel) rfl
theorem im_X6_isCraft : Cond.instanceMethod yX6_isCraft ∈ gw := gw_at (k := 840) (by decide +kernel) rfl
theorem co_X6_isCraft : Cond.code yX6_isCraft cX6_isCraft 2 (some .boolean) ∈ gw := gw_at (k := 841) (by decide +kernel) rfl
theorem ml_L_62 : Cond.methodLink RL 62 yX6_sign ∈ gw := gw_at (k := 842) (by decide +kernel) rfl
theorem im_X6_sign : Cond.instanceMethod yX6_sign ∈ gw := gw_at (k := 843) (by decide +kernel) rfl
theorem se_X6_sign : Cond.selects RX6 yX6_sign yX6_sign ∈ gw := gw_at (k := 844) (by decide +kernel) rfl
theorem co_X6_sign : Cond.code yX6_sign cX6_sign 3 (some .int) ∈ gw := gw_at (k := 845) (by decide +kernel) rfl
theorem ct_L_72 : Cond.constantLong RL 72 4294967295 ∈ gw := gw_at (k := 846) (by decide +kernel) rfl
theorem inX0 : ∀ w ∈ wsX00, w ∈ gw := fun w h => List.mem_filter.mpr ⟨(show ∀ w ∈ wsX00, w ∈ lw_tbl by decide +kernel) w h, List.all_eq_true.mp (show wsX00.all goodWord = true by decide +kernel) w h⟩
theorem inX3 : ∀ w ∈ wsX30, w ∈ gw := fun w h => List.mem_filter.mpr ⟨(show ∀ w ∈ wsX30, w ∈ lw_tbl by decide +kernel) w h, List.all_eq_true.mp (show wsX30.all goodWord = true by decide +kernel) w h⟩
theorem inX4 : ∀ w ∈ wsX40, w ∈ gw := fun w h => List.mem_filter.mpr ⟨(show ∀ w ∈ wsX40, w ∈ lw_tbl by decide +kernel) w h, List.all_eq_true.mp (show wsX40.all goodWord = true by decide +kernel) w h⟩
theorem inX5 : ∀ w ∈ wsX50, w ∈ gw := fun w h => List.mem_filter.mpr ⟨(show ∀ w ∈ wsX50, w ∈ lw_tbl by decide +kernel) w h, List.all_eq_true.mp (show wsX50.all goodWord = true by decide +kernel) w h⟩
theorem inX6 : ∀ w ∈ wsX60, w ∈ gw := fun w h => List.mem_filter.mpr ⟨(show ∀ w ∈ wsX60, w ∈ lw_tbl by decide +kernel) w h, List.all_eq_true.mp (show wsX60.all goodWord = true by decide +kernel) w h⟩
theorem dn_X0_init : yX0_init.cls ≠ "java/lang/invoke/MethodHandle" ∧ yX0_init.cls ≠ "java/lang/invoke/VarHandle" ∧ (parseMethodDescriptor yX0_init.desc).map (fun d => d.parameters.length) = some 0 := by decide +kernel
theorem dn_X0_size : yX0_size.cls ≠ "java/lang/invoke/MethodHandle" ∧ yX0_size.cls ≠ "java/lang/invoke/VarHandle" ∧ (parseMethodDescriptor yX0_size.desc).map (fun d => d.parameters.length) = some 0 := by decide +kernel
theorem dn_X0_at : yX0_at.cls ≠ "java/lang/invoke/MethodHandle" ∧ yX0_at.cls ≠ "java/lang/invoke/VarHandle" ∧ (parseMethodDescriptor yX0_at.desc).map (fun d => d.parameters.length) = some 1 := by decide +kernel
theorem dn_X0_indexOf : yX0_indexOf.cls ≠ "java/lang/invoke/MethodHandle" ∧ yX0_indexOf.cls ≠ "java/lang/invoke/VarHandle" ∧ (parseMethodDescriptor yX0_indexOf.desc).map (fun d => d.parameters.length) = some 1 := by decide +kernel
theorem dn_X0_open : yX0_open.cls ≠ "java/lang/invoke/MethodHandle" ∧ yX0_open.cls ≠ "java/lang/invoke/VarHandle" ∧ (parseMethodDescriptor yX0_open.desc).map (fun d => d.parameters.length) = some 1 := by decide +kernel
theorem dn_X0_forgetSilent : yX0_forgetSilent.cls ≠ "java/lang/invoke/MethodHandle" ∧ yX0_forgetSilent.cls ≠ "java/lang/invoke/VarHandle" ∧ (parseMethodDescriptor yX0_forgetSilent.desc).map (fun d => d.parameters.length) = some 1 := by decide +kernel
theorem dn_X1_altitude : yX1_altitude.cls ≠ "java/lang/invoke/MethodHandle" ∧ yX1_altitude.cls ≠ "java/lang/invoke/VarHandle" ∧ (parseMethodDescriptor yX1_altitude.desc).map (fun d => d.parameters.length) = some 1 := by decide +kernel
theorem dn_X1_withM : yX1_withM.cls ≠ "java/lang/invoke/MethodHandle" ∧ yX1_withM.cls ≠ "java/lang/invoke/VarHandle" ∧ (parseMethodDescriptor yX1_withM.desc).map (fun d => d.parameters.length) = some 1 := by decide +kernel
theorem dn_X1_altitudeOfGray : yX1_altitudeOfGray.cls ≠ "java/lang/invoke/MethodHandle" ∧ yX1_altitudeOfGray.cls ≠ "java/lang/invoke/VarHandle" ∧ (parseMethodDescriptor yX1_altitudeOfGray.desc).map (fun d => d.parameters.length) = some 1 := by decide +kernel
theorem dn_X1_ofGray : yX1_ofGray.cls ≠ "java/lang/invoke/MethodHandle" ∧ yX1_ofGray.cls ≠ "java/lang/invoke/VarHandle" ∧ (parseMethodDescriptor yX1_ofGray.desc).map (fun d => d.parameters.length) = some 1 := by decide +kernel
theorem dn_X1_squawk : yX1_squawk.cls ≠ "java/lang/invoke/MethodHandle" ∧ yX1_squawk.cls ≠ "java/lang/invoke/VarHandle" ∧ (parseMethodDescriptor yX1_squawk.desc).map (fun d => d.parameters.length) = some 1 := by decide +kernel
theorem dn_X1_three : yX1_three.cls ≠ "java/lang/invoke/MethodHandle" ∧ yX1_three.cls ≠ "java/lang/invoke/VarHandle" ∧ (parseMethodDescriptor yX1_three.desc).map (fun d => d.parameters.length) = some 4 := by decide +kernel
theorem dn_X1_letter : yX1_letter.cls ≠ "java/lang/invoke/MethodHandle" ∧ yX1_letter.cls ≠ "java/lang/invoke/VarHandle" ∧ (parseMethodDescriptor yX1_letter.desc).map (fun d => d.parameters.length) = some 1 := by decide +kernel
theorem dn_X1_groundSpeed : yX1_groundSpeed.cls ≠ "java/lang/invoke/MethodHandle" ∧ yX1_groundSpeed.cls ≠ "java/lang/invoke/VarHandle" ∧ (parseMethodDescriptor yX1_groundSpeed.desc).map (fun d => d.parameters.length) = some 1 := by decide +kernel
theorem dn_X1_lessOne : yX1_lessOne.cls ≠ "java/lang/invoke/MethodHandle" ∧ yX1_lessOne.cls ≠ "java/lang/invoke/VarHandle" ∧ (parseMethodDescriptor yX1_lessOne.desc).map (fun d => d.parameters.length) = some 3 := by decide +kernel
theorem dn_X1_speedOf : yX1_speedOf.cls ≠ "java/lang/invoke/MethodHandle" ∧ yX1_speedOf.cls ≠ "java/lang/invoke/VarHandle" ∧ (parseMethodDescriptor yX1_speedOf.desc).map (fun d => d.parameters.length) = some 2 := by decide +kernel
theorem dn_X1_root : yX1_root.cls ≠ "java/lang/invoke/MethodHandle" ∧ yX1_root.cls ≠ "java/lang/invoke/VarHandle" ∧ (parseMethodDescriptor yX1_root.desc).map (fun d => d.parameters.length) = some 1 := by decide +kernel
theorem dn_X2_isPlace : yX2_isPlace.cls ≠ "java/lang/invoke/MethodHandle" ∧ yX2_isPlace.cls ≠ "java/lang/invoke/VarHandle" ∧ (parseMethodDescriptor yX2_isPlace.desc).map (fun d => d.parameters.length) = some 2 := by decide +kernel
theorem dn_X2_isCode : yX2_isCode.cls ≠ "java/lang/invoke/MethodHandle" ∧ yX2_isCode.cls ≠ "java/lang/invoke/VarHandle" ∧ (parseMethodDescriptor yX2_isCode.desc).map (fun d => d.parameters.length) = some 1 := by decide +kernel
theorem dn_X2_pack : yX2_pack.cls ≠ "java/lang/invoke/MethodHandle" ∧ yX2_pack.cls ≠ "java/lang/invoke/VarHandle" ∧ (parseMethodDescriptor yX2_pack.desc).map (fun d => d.parameters.length) = some 2 := by decide +kernel
theorem dn_X2_latitudeOf : yX2_latitudeOf.cls ≠ "java/lang/invoke/MethodHandle" ∧ yX2_latitudeOf.cls ≠ "java/lang/invoke/VarHandle" ∧ (parseMethodDescriptor yX2_latitudeOf.desc).map (fun d => d.parameters.length) = some 1 := by decide +kernel
theorem dn_X2_longitudeOf : yX2_longitudeOf.cls ≠ "java/lang/invoke/MethodHandle" ∧ yX2_longitudeOf.cls ≠ "java/lang/invoke/VarHandle" ∧ (parseMethodDescriptor yX2_longitudeOf.desc).map (fun d => d.parameters.length) = some 1 := by decide +kernel
theorem dn_X2_zoneCount : yX2_zoneCount.cls ≠ "java/lang/invoke/MethodHandle" ∧ yX2_zoneCount.cls ≠ "java/lang/invoke/VarHandle" ∧ (parseMethodDescriptor yX2_zoneCount.desc).map (fun d => d.parameters.length) = some 2 := by decide +kernel
theorem dn_X2_code : yX2_code.cls ≠ "java/lang/invoke/MethodHandle" ∧ yX2_code.cls ≠ "java/lang/invoke/VarHandle" ∧ (parseMethodDescriptor yX2_code.desc).map (fun d => d.parameters.length) = some 4 := by decide +kernel
theorem dn_X2_placeOfPair : yX2_placeOfPair.cls ≠ "java/lang/invoke/MethodHandle" ∧ yX2_placeOfPair.cls ≠ "java/lang/invoke/VarHandle" ∧ (parseMethodDescriptor yX2_placeOfPair.desc).map (fun d => d.parameters.length) = some 3 := by decide +kernel
theorem dn_X2_placeNear : yX2_placeNear.cls ≠ "java/lang/invoke/MethodHandle" ∧ yX2_placeNear.cls ≠ "java/lang/invoke/VarHandle" ∧ (parseMethodDescriptor yX2_placeNear.desc).map (fun d => d.parameters.length) = some 4 := by decide +kernel
theorem dn_X2_placeAt : yX2_placeAt.cls ≠ "java/lang/invoke/MethodHandle" ∧ yX2_placeAt.cls ≠ "java/lang/invoke/VarHandle" ∧ (parseMethodDescriptor yX2_placeAt.desc).map (fun d => d.parameters.length) = some 5 := by decide +kernel
theorem dn_X2_turnOf : yX2_turnOf.cls ≠ "java/lang/invoke/MethodHandle" ∧ yX2_turnOf.cls ≠ "java/lang/invoke/VarHandle" ∧ (parseMethodDescriptor yX2_turnOf.desc).map (fun d => d.parameters.length) = some 1 := by decide +kernel
theorem dn_X2_bandsOf : yX2_bandsOf.cls ≠ "java/lang/invoke/MethodHandle" ∧ yX2_bandsOf.cls ≠ "java/lang/invoke/VarHandle" ∧ (parseMethodDescriptor yX2_bandsOf.desc).map (fun d => d.parameters.length) = some 1 := by decide +kernel
theorem dn_X2_zonesOf : yX2_zonesOf.cls ≠ "java/lang/invoke/MethodHandle" ∧ yX2_zonesOf.cls ≠ "java/lang/invoke/VarHandle" ∧ (parseMethodDescriptor yX2_zonesOf.desc).map (fun d => d.parameters.length) = some 2 := by decide +kernel
theorem dn_X2_yOf : yX2_yOf.cls ≠ "java/lang/invoke/MethodHandle" ∧ yX2_yOf.cls ≠ "java/lang/invoke/VarHandle" ∧ (parseMethodDescriptor yX2_yOf.desc).map (fun d => d.parameters.length) = some 1 := by decide +kernel
theorem dn_X2_xOf : yX2_xOf.cls ≠ "java/lang/invoke/MethodHandle" ∧ yX2_xOf.cls ≠ "java/lang/invoke/VarHandle" ∧ (parseMethodDescriptor yX2_xOf.desc).map (fun d => d.parameters.length) = some 1 := by decide +kernel
theorem dn_X2_nearestStep : yX2_nearestStep.cls ≠ "java/lang/invoke/MethodHandle" ∧ yX2_nearestStep.cls ≠ "java/lang/invoke/VarHandle" ∧ (parseMethodDescriptor yX2_nearestStep.desc).map (fun d => d.parameters.length) = some 3 := by decide +kernel
theorem dn_X2_stepNear : yX2_stepNear.cls ≠ "java/lang/invoke/MethodHandle" ∧ yX2_stepNear.cls ≠ "java/lang/invoke/VarHandle" ∧ (parseMethodDescriptor yX2_stepNear.desc).map (fun d => d.parameters.length) = some 4 := by decide +kernel
theorem dn_X2_stepInBand : yX2_stepInBand.cls ≠ "java/lang/invoke/MethodHandle" ∧ yX2_stepInBand.cls ≠ "java/lang/invoke/VarHandle" ∧ (parseMethodDescriptor yX2_stepInBand.desc).map (fun d => d.parameters.length) = some 3 := by decide +kernel
theorem dn_X2_isBeyondPole : yX2_isBeyondPole.cls ≠ "java/lang/invoke/MethodHandle" ∧ yX2_isBeyondPole.cls ≠ "java/lang/invoke/VarHandle" ∧ (parseMethodDescriptor yX2_isBeyondPole.desc).map (fun d => d.parameters.length) = some 3 := by decide +kernel
theorem dn_X2_zoneCountAt : yX2_zoneCountAt.cls ≠ "java/lang/invoke/MethodHandle" ∧ yX2_zoneCountAt.cls ≠ "java/lang/invoke/VarHandle" ∧ (parseMethodDescriptor yX2_zoneCountAt.desc).map (fun d => d.parameters.length) = some 3 := by decide +kernel
theorem dn_X2_quotient : yX2_quotient.cls ≠ "java/lang/invoke/MethodHandle" ∧ yX2_quotient.cls ≠ "java/lang/invoke/VarHandle" ∧ (parseMethodDescriptor yX2_quotient.desc).map (fun d => d.parameters.length) = some 2 := by decide +kernel
theorem dn_X2_remainder : yX2_remainder.cls ≠ "java/lang/invoke/MethodHandle" ∧ yX2_remainder.cls ≠ "java/lang/invoke/VarHandle" ∧ (parseMethodDescriptor yX2_remainder.desc).map (fun d => d.parameters.length) = some 2 := by decide +kernel
theorem dn_X3_init : yX3_init.cls ≠ "java/lang/invoke/MethodHandle" ∧ yX3_init.cls ≠ "java/lang/invoke/VarHandle" ∧ (parseMethodDescriptor yX3_init.desc).map (fun d => d.parameters.length) = some 0 := by decide +kernel
theorem dn_X3_begin : yX3_begin.cls ≠ "java/lang/invoke/MethodHandle" ∧ yX3_begin.cls ≠ "java/lang/invoke/VarHandle" ∧ (parseMethodDescriptor yX3_begin.desc).map (fun d => d.parameters.length) = some 1 := by decide +kernel
theorem dn_X3_value : yX3_value.cls ≠ "java/lang/invoke/MethodHandle" ∧ yX3_value.cls ≠ "java/lang/invoke/VarHandle" ∧ (parseMethodDescriptor yX3_value.desc).map (fun d => d.parameters.length) = some 1 := by decide +kernel
theorem dn_X3_letter : yX3_letter.cls ≠ "java/lang/invoke/MethodHandle" ∧ yX3_letter.cls ≠ "java/lang/invoke/VarHandle" ∧ (parseMethodDescriptor yX3_letter.desc).map (fun d => d.parameters.length) = some 1 := by decide +kernel
theorem dn_X3_countFrame : yX3_countFrame.cls ≠ "java/lang/invoke/MethodHandle" ∧ yX3_countFrame.cls ≠ "java/lang/invoke/VarHandle" ∧ (parseMethodDescriptor yX3_countFrame.desc).map (fun d => d.parameters.length) = some 2 := by decide +kernel
theorem dn_X3_learnReply : yX3_learnReply.cls ≠ "java/lang/invoke/MethodHandle" ∧ yX3_learnReply.cls ≠ "java/lang/invoke/VarHandle" ∧ (parseMethodDescriptor yX3_learnReply.desc).map (fun d => d.parameters.length) = some 1 := by decide +kernel
theorem dn_X3_learnMessage : yX3_learnMessage.cls ≠ "java/lang/invoke/MethodHandle" ∧ yX3_learnMessage.cls ≠ "java/lang/invoke/VarHandle" ∧ (parseMethodDescriptor yX3_learnMessage.desc).map (fun d => d.parameters.length) = some 3 := by decide +kernel
theorem dn_X3_learnName : yX3_learnName.cls ≠ "java/lang/invoke/MethodHandle" ∧ yX3_learnName.cls ≠ "java/lang/invoke/VarHandle" ∧ (parseMethodDescriptor yX3_learnName.desc).map (fun d => d.parameters.length) = some 2 := by decide +kernel
theorem dn_X3_learnOnGround : yX3_learnOnGround.cls ≠ "java/lang/invoke/MethodHandle" ∧ yX3_learnOnGround.cls ≠ "java/lang/invoke/VarHandle" ∧ (parseMethodDescriptor yX3_learnOnGround.desc).map (fun d => d.parameters.length) = some 3 := by decide +kernel
theorem dn_X3_learnInAir : yX3_learnInAir.cls ≠ "java/lang/invoke/MethodHandle" ∧ yX3_learnInAir.cls ≠ "java/lang/invoke/VarHandle" ∧ (parseMethodDescriptor yX3_learnInAir.desc).map (fun d => d.parameters.length) = some 3 := by decide +kernel
theorem dn_X3_learnMotion : yX3_learnMotion.cls ≠ "java/lang/invoke/MethodHandle" ∧ yX3_learnMotion.cls ≠ "java/lang/invoke/VarHandle" ∧ (parseMethodDescriptor yX3_learnMotion.desc).map (fun d => d.parameters.length) = some 2 := by decide +kernel
theorem dn_X3_hasFreshPlace : yX3_hasFreshPlace.cls ≠ "java/lang/invoke/MethodHandle" ∧ yX3_hasFreshPlace.cls ≠ "java/lang/invoke/VarHandle" ∧ (parseMethodDescriptor yX3_hasFreshPlace.desc).map (fun d => d.parameters.length) = some 1 := by decide +kernel
theorem dn_X3_lastPlace : yX3_lastPlace.cls ≠ "java/lang/invoke/MethodHandle" ∧ yX3_lastPlace.cls ≠ "java/lang/invoke/VarHandle" ∧ (parseMethodDescriptor yX3_lastPlace.desc).map (fun d => d.parameters.length) = some 0 := by decide +kernel
theorem dn_X3_keepPlace : yX3_keepPlace.cls ≠ "java/lang/invoke/MethodHandle" ∧ yX3_keepPlace.cls ≠ "java/lang/invoke/VarHandle" ∧ (parseMethodDescriptor yX3_keepPlace.desc).map (fun d => d.parameters.length) = some 2 := by decide +kernel
theorem dn_X3_isOdd : yX3_isOdd.cls ≠ "java/lang/invoke/MethodHandle" ∧ yX3_isOdd.cls ≠ "java/lang/invoke/VarHandle" ∧ (parseMethodDescriptor yX3_isOdd.desc).map (fun d => d.parameters.length) = some 1 := by decide +kernel
theorem dn_X3_codeIn : yX3_codeIn.cls ≠ "java/lang/invoke/MethodHandle" ∧ yX3_codeIn.cls ≠ "java/lang/invoke/VarHandle" ∧ (parseMethodDescriptor yX3_codeIn.desc).map (fun d => d.parameters.length) = some 1 := by decide +kernel
theorem dn_X4_init : yX4_init.cls ≠ "java/lang/invoke/MethodHandle" ∧ yX4_init.cls ≠ "java/lang/invoke/VarHandle" ∧ (parseMethodDescriptor yX4_init.desc).map (fun d => d.parameters.length) = some 0 := by decide +kernel
theorem dn_X4_write : yX4_write.cls ≠ "java/lang/invoke/MethodHandle" ∧ yX4_write.cls ≠ "java/lang/invoke/VarHandle" ∧ (parseMethodDescriptor yX4_write.desc).map (fun d => d.parameters.length) = some 4 := by decide +kernel
theorem dn_X4_copy : yX4_copy.cls ≠ "java/lang/invoke/MethodHandle" ∧ yX4_copy.cls ≠ "java/lang/invoke/VarHandle" ∧ (parseMethodDescriptor yX4_copy.desc).map (fun d => d.parameters.length) = some 1 := by decide +kernel
theorem dn_X4_turnedBit : yX4_turnedBit.cls ≠ "java/lang/invoke/MethodHandle" ∧ yX4_turnedBit.cls ≠ "java/lang/invoke/VarHandle" ∧ (parseMethodDescriptor yX4_turnedBit.desc).map (fun d => d.parameters.length) = some 0 := by decide +kernel
theorem dn_X4_number : yX4_number.cls ≠ "java/lang/invoke/MethodHandle" ∧ yX4_number.cls ≠ "java/lang/invoke/VarHandle" ∧ (parseMethodDescriptor yX4_number.desc).map (fun d => d.parameters.length) = some 2 := by decide +kernel
theorem dn_X4_message : yX4_message.cls ≠ "java/lang/invoke/MethodHandle" ∧ yX4_message.cls ≠ "java/lang/invoke/VarHandle" ∧ (parseMethodDescriptor yX4_message.desc).map (fun d => d.parameters.length) = some 2 := by decide +kernel
theorem dn_X4_parity : yX4_parity.cls ≠ "java/lang/invoke/MethodHandle" ∧ yX4_parity.cls ≠ "java/lang/invoke/VarHandle" ∧ (parseMethodDescriptor yX4_parity.desc).map (fun d => d.parameters.length) = some 0 := by decide +kernel
theorem dn_X4_remainder : yX4_remainder.cls ≠ "java/lang/invoke/MethodHandle" ∧ yX4_remainder.cls ≠ "java/lang/invoke/VarHandle" ∧ (parseMethodDescriptor yX4_remainder.desc).map (fun d => d.parameters.length) = some 0 := by decide +kernel
theorem dn_X4_wrongBit : yX4_wrongBit.cls ≠ "java/lang/invoke/MethodHandle" ∧ yX4_wrongBit.cls ≠ "java/lang/invoke/VarHandle" ∧ (parseMethodDescriptor yX4_wrongBit.desc).map (fun d => d.parameters.length) = some 0 := by decide +kernel
theorem dn_X4_putRight : yX4_putRight.cls ≠ "java/lang/invoke/MethodHandle" ∧ yX4_putRight.cls ≠ "java/lang/invoke/VarHandle" ∧ (parseMethodDescriptor yX4_putRight.desc).map (fun d => d.parameters.length) = some 0 := by decide +kernel
theorem dn_X4_address : yX4_address.cls ≠ "java/lang/invoke/MethodHandle" ∧ yX4_address.cls ≠ "java/lang/invoke/VarHandle" ∧ (parseMethodDescriptor yX4_address.desc).map (fun d => d.parameters.length) = some 0 := by decide +kernel
theorem dn_X4_isOf : yX4_isOf.cls ≠ "java/lang/invoke/MethodHandle" ∧ yX4_isOf.cls ≠ "java/lang/invoke/VarHandle" ∧ (parseMethodDescriptor yX4_isOf.desc).map (fun d => d.parameters.length) = some 1 := by decide +kernel
theorem dn_X4_told : yX4_told.cls ≠ "java/lang/invoke/MethodHandle" ∧ yX4_told.cls ≠ "java/lang/invoke/VarHandle" ∧ (parseMethodDescriptor yX4_told.desc).map (fun d => d.parameters.length) = some 1 := by decide +kernel
theorem dn_X4_part : yX4_part.cls ≠ "java/lang/invoke/MethodHandle" ∧ yX4_part.cls ≠ "java/lang/invoke/VarHandle" ∧ (parseMethodDescriptor yX4_part.desc).map (fun d => d.parameters.length) = some 3 := by decide +kernel
theorem dn_X4_format : yX4_format.cls ≠ "java/lang/invoke/MethodHandle" ∧ yX4_format.cls ≠ "java/lang/invoke/VarHandle" ∧ (parseMethodDescriptor yX4_format.desc).map (fun d => d.parameters.length) = some 0 := by decide +kernel
theorem dn_X4_isSound : yX4_isSound.cls ≠ "java/lang/invoke/MethodHandle" ∧ yX4_isSound.cls ≠ "java/lang/invoke/VarHandle" ∧ (parseMethodDescriptor yX4_isSound.desc).map (fun d => d.parameters.length) = some 1 := by decide +kernel
theorem dn_X4_bit : yX4_bit.cls ≠ "java/lang/invoke/MethodHandle" ∧ yX4_bit.cls ≠ "java/lang/invoke/VarHandle" ∧ (parseMethodDescriptor yX4_bit.desc).map (fun d => d.parameters.length) = some 1 := by decide +kernel
theorem dn_X4_turn : yX4_turn.cls ≠ "java/lang/invoke/MethodHandle" ∧ yX4_turn.cls ≠ "java/lang/invoke/VarHandle" ∧ (parseMethodDescriptor yX4_turn.desc).map (fun d => d.parameters.length) = some 1 := by decide +kernel
theorem dn_X4_reduced : yX4_reduced.cls ≠ "java/lang/invoke/MethodHandle" ∧ yX4_reduced.cls ≠ "java/lang/invoke/VarHandle" ∧ (parseMethodDescriptor yX4_reduced.desc).map (fun d => d.parameters.length) = some 1 := by decide +kernel
theorem dn_X5_init : yX5_init.cls ≠ "java/lang/invoke/MethodHandle" ∧ yX5_init.cls ≠ "java/lang/invoke/VarHandle" ∧ (parseMethodDescriptor yX5_init.desc).map (fun d => d.parameters.length) = some 0 := by decide +kernel
theorem dn_X5_syndrome : yX5_syndrome.cls ≠ "java/lang/invoke/MethodHandle" ∧ yX5_syndrome.cls ≠ "java/lang/invoke/VarHandle" ∧ (parseMethodDescriptor yX5_syndrome.desc).map (fun d => d.parameters.length) = some 4 := by decide +kernel
theorem dn_X5_repair : yX5_repair.cls ≠ "java/lang/invoke/MethodHandle" ∧ yX5_repair.cls ≠ "java/lang/invoke/VarHandle" ∧ (parseMethodDescriptor yX5_repair.desc).map (fun d => d.parameters.length) = some 4 := by decide +kernel
theorem dn_X5_seal : yX5_seal.cls ≠ "java/lang/invoke/MethodHandle" ∧ yX5_seal.cls ≠ "java/lang/invoke/VarHandle" ∧ (parseMethodDescriptor yX5_seal.desc).map (fun d => d.parameters.length) = some 4 := by decide +kernel
theorem dn_X5_place : yX5_place.cls ≠ "java/lang/invoke/MethodHandle" ∧ yX5_place.cls ≠ "java/lang/invoke/VarHandle" ∧ (parseMethodDescriptor yX5_place.desc).map (fun d => d.parameters.length) = some 2 := by decide +kernel
theorem dn_X5_hear : yX5_hear.cls ≠ "java/lang/invoke/MethodHandle" ∧ yX5_hear.cls ≠ "java/lang/invoke/VarHandle" ∧ (parseMethodDescriptor yX5_hear.desc).map (fun d => d.parameters.length) = some 5 := by decide +kernel
theorem dn_X5_field : yX5_field.cls ≠ "java/lang/invoke/MethodHandle" ∧ yX5_field.cls ≠ "java/lang/invoke/VarHandle" ∧ (parseMethodDescriptor yX5_field.desc).map (fun d => d.parameters.length) = some 1 := by decide +kernel
theorem dn_X5_bits : yX5_bits.cls ≠ "java/lang/invoke/MethodHandle" ∧ yX5_bits.cls ≠ "java/lang/invoke/VarHandle" ∧ (parseMethodDescriptor yX5_bits.desc).map (fun d => d.parameters.length) = some 2 := by decide +kernel
theorem dn_X5_crafts : yX5_crafts.cls ≠ "java/lang/invoke/MethodHandle" ∧ yX5_crafts.cls ≠ "java/lang/invoke/VarHandle" ∧ (parseMethodDescriptor yX5_crafts.desc).map (fun d => d.parameters.length) = some 0 := by decide +kernel
theorem dn_X5_find : yX5_find.cls ≠ "java/lang/invoke/MethodHandle" ∧ yX5_find.cls ≠ "java/lang/invoke/VarHandle" ∧ (parseMethodDescriptor yX5_find.desc).map (fun d => d.parameters.length) = some 1 := by decide +kernel
theorem dn_X5_craft : yX5_craft.cls ≠ "java/lang/invoke/MethodHandle" ∧ yX5_craft.cls ≠ "java/lang/invoke/VarHandle" ∧ (parseMethodDescriptor yX5_craft.desc).map (fun d => d.parameters.length) = some 2 := by decide +kernel
theorem dn_X5_sign : yX5_sign.cls ≠ "java/lang/invoke/MethodHandle" ∧ yX5_sign.cls ≠ "java/lang/invoke/VarHandle" ∧ (parseMethodDescriptor yX5_sign.desc).map (fun d => d.parameters.length) = some 2 := by decide +kernel
theorem dn_X5_zones : yX5_zones.cls ≠ "java/lang/invoke/MethodHandle" ∧ yX5_zones.cls ≠ "java/lang/invoke/VarHandle" ∧ (parseMethodDescriptor yX5_zones.desc).map (fun d => d.parameters.length) = some 1 := by decide +kernel
theorem dn_X5_encode : yX5_encode.cls ≠ "java/lang/invoke/MethodHandle" ∧ yX5_encode.cls ≠ "java/lang/invoke/VarHandle" ∧ (parseMethodDescriptor yX5_encode.desc).map (fun d => d.parameters.length) = some 4 := by decide +kernel
theorem dn_X5_global : yX5_global.cls ≠ "java/lang/invoke/MethodHandle" ∧ yX5_global.cls ≠ "java/lang/invoke/VarHandle" ∧ (parseMethodDescriptor yX5_global.desc).map (fun d => d.parameters.length) = some 3 := by decide +kernel
theorem dn_X5_local : yX5_local.cls ≠ "java/lang/invoke/MethodHandle" ∧ yX5_local.cls ≠ "java/lang/invoke/VarHandle" ∧ (parseMethodDescriptor yX5_local.desc).map (fun d => d.parameters.length) = some 5 := by decide +kernel
theorem dn_X6_init : yX6_init.cls ≠ "java/lang/invoke/MethodHandle" ∧ yX6_init.cls ≠ "java/lang/invoke/VarHandle" ∧ (parseMethodDescriptor yX6_init.desc).map (fun d => d.parameters.length) = some 0 := by decide +kernel
theorem dn_X6_frame : yX6_frame.cls ≠ "java/lang/invoke/MethodHandle" ∧ yX6_frame.cls ≠ "java/lang/invoke/VarHandle" ∧ (parseMethodDescriptor yX6_frame.desc).map (fun d => d.parameters.length) = some 4 := by decide +kernel
theorem dn_X6_number : yX6_number.cls ≠ "java/lang/invoke/MethodHandle" ∧ yX6_number.cls ≠ "java/lang/invoke/VarHandle" ∧ (parseMethodDescriptor yX6_number.desc).map (fun d => d.parameters.length) = some 3 := by decide +kernel
theorem dn_X6_remainder : yX6_remainder.cls ≠ "java/lang/invoke/MethodHandle" ∧ yX6_remainder.cls ≠ "java/lang/invoke/VarHandle" ∧ (parseMethodDescriptor yX6_remainder.desc).map (fun d => d.parameters.length) = some 0 := by decide +kernel
theorem dn_X6_syndrome : yX6_syndrome.cls ≠ "java/lang/invoke/MethodHandle" ∧ yX6_syndrome.cls ≠ "java/lang/invoke/VarHandle" ∧ (parseMethodDescriptor yX6_syndrome.desc).map (fun d => d.parameters.length) = some 4 := by decide +kernel
theorem dn_X6_seal : yX6_seal.cls ≠ "java/lang/invoke/MethodHandle" ∧ yX6_seal.cls ≠ "java/lang/invoke/VarHandle" ∧ (parseMethodDescriptor yX6_seal.desc).map (fun d => d.parameters.length) = some 4 := by decide +kernel
theorem dn_X6_isWrong : yX6_isWrong.cls ≠ "java/lang/invoke/MethodHandle" ∧ yX6_isWrong.cls ≠ "java/lang/invoke/VarHandle" ∧ (parseMethodDescriptor yX6_isWrong.desc).map (fun d => d.parameters.length) = some 2 := by decide +kernel
theorem dn_X6_toTurn : yX6_toTurn.cls ≠ "java/lang/invoke/MethodHandle" ∧ yX6_toTurn.cls ≠ "java/lang/invoke/VarHandle" ∧ (parseMethodDescriptor yX6_toTurn.desc).map (fun d => d.parameters.length) = some 0 := by decide +kernel
theorem dn_X6_repair : yX6_repair.cls ≠ "java/lang/invoke/MethodHandle" ∧ yX6_repair.cls ≠ "java/lang/invoke/VarHandle" ∧ (parseMethodDescriptor yX6_repair.desc).map (fun d => d.parameters.length) = some 4 := by decide +kernel
theorem dn_X6_ungray : yX6_ungray.cls ≠ "java/lang/invoke/MethodHandle" ∧ yX6_ungray.cls ≠ "java/lang/invoke/VarHandle" ∧ (parseMethodDescriptor yX6_ungray.desc).map (fun d => d.parameters.length) = some 2 := by decide +kernel
theorem dn_X6_of : yX6_of.cls ≠ "java/lang/invoke/MethodHandle" ∧ yX6_of.cls ≠ "java/lang/invoke/VarHandle" ∧ (parseMethodDescriptor yX6_of.desc).map (fun d => d.parameters.length) = some 2 := by decide +kernel
theorem dn_X6_altitude : yX6_altitude.cls ≠ "java/lang/invoke/MethodHandle" ∧ yX6_altitude.cls ≠ "java/lang/invoke/VarHandle" ∧ (parseMethodDescriptor yX6_altitude.desc).map (fun d => d.parameters.length) = some 1 := by decide +kernel
theorem dn_X6_squawk : yX6_squawk.cls ≠ "java/lang/invoke/MethodHandle" ∧ yX6_squawk.cls ≠ "java/lang/invoke/VarHandle" ∧ (parseMethodDescriptor yX6_squawk.desc).map (fun d => d.parameters.length) = some 1 := by decide +kernel
theorem dn_X6_speed : yX6_speed.cls ≠ "java/lang/invoke/MethodHandle" ∧ yX6_speed.cls ≠ "java/lang/invoke/VarHandle" ∧ (parseMethodDescriptor yX6_speed.desc).map (fun d => d.parameters.length) = some 1 := by decide +kernel
theorem dn_X6_root : yX6_root.cls ≠ "java/lang/invoke/MethodHandle" ∧ yX6_root.cls ≠ "java/lang/invoke/VarHandle" ∧ (parseMethodDescriptor yX6_root.desc).map (fun d => d.parameters.length) = some 1 := by decide +kernel
theorem dn_X6_part : yX6_part.cls ≠ "java/lang/invoke/MethodHandle" ∧ yX6_part.cls ≠ "java/lang/invoke/VarHandle" ∧ (parseMethodDescriptor yX6_part.desc).map (fun d => d.parameters.length) = some 2 := by decide +kernel
theorem dn_X6_rest : yX6_rest.cls ≠ "java/lang/invoke/MethodHandle" ∧ yX6_rest.cls ≠ "java/lang/invoke/VarHandle" ∧ (parseMethodDescriptor yX6_rest.desc).map (fun d => d.parameters.length) = some 2 := by decide +kernel
theorem dn_X6_down : yX6_down.cls ≠ "java/lang/invoke/MethodHandle" ∧ yX6_down.cls ≠ "java/lang/invoke/VarHandle" ∧ (parseMethodDescriptor yX6_down.desc).map (fun d => d.parameters.length) = some 2 := by decide +kernel
theorem dn_X6_sizeOf : yX6_sizeOf.cls ≠ "java/lang/invoke/MethodHandle" ∧ yX6_sizeOf.cls ≠ "java/lang/invoke/VarHandle" ∧ (parseMethodDescriptor yX6_sizeOf.desc).map (fun d => d.parameters.length) = some 1 := by decide +kernel
theorem dn_X6_atLeast1 : yX6_atLeast1.cls ≠ "java/lang/invoke/MethodHandle" ∧ yX6_atLeast1.cls ≠ "java/lang/invoke/VarHandle" ∧ (parseMethodDescriptor yX6_atLeast1.desc).map (fun d => d.parameters.length) = some 1 := by decide +kernel
theorem dn_X6_zonesOf : yX6_zonesOf.cls ≠ "java/lang/invoke/MethodHandle" ∧ yX6_zonesOf.cls ≠ "java/lang/invoke/VarHandle" ∧ (parseMethodDescriptor yX6_zonesOf.desc).map (fun d => d.parameters.length) = some 2 := by decide +kernel
theorem dn_X6_isLatitude : yX6_isLatitude.cls ≠ "java/lang/invoke/MethodHandle" ∧ yX6_isLatitude.cls ≠ "java/lang/invoke/VarHandle" ∧ (parseMethodDescriptor yX6_isLatitude.desc).map (fun d => d.parameters.length) = some 1 := by decide +kernel
theorem dn_X6_isLongitude : yX6_isLongitude.cls ≠ "java/lang/invoke/MethodHandle" ∧ yX6_isLongitude.cls ≠ "java/lang/invoke/VarHandle" ∧ (parseMethodDescriptor yX6_isLongitude.desc).map (fun d => d.parameters.length) = some 1 := by decide +kernel
theorem dn_X6_zones : yX6_zones.cls ≠ "java/lang/invoke/MethodHandle" ∧ yX6_zones.cls ≠ "java/lang/invoke/VarHandle" ∧ (parseMethodDescriptor yX6_zones.desc).map (fun d => d.parameters.length) = some 1 := by decide +kernel
theorem dn_X6_parts : yX6_parts.cls ≠ "java/lang/invoke/MethodHandle" ∧ yX6_parts.cls ≠ "java/lang/invoke/VarHandle" ∧ (parseMethodDescriptor yX6_parts.desc).map (fun d => d.parameters.length) = some 2 := by decide +kernel
theorem dn_X6_encode : yX6_encode.cls ≠ "java/lang/invoke/MethodHandle" ∧ yX6_encode.cls ≠ "java/lang/invoke/VarHandle" ∧ (parseMethodDescriptor yX6_encode.desc).map (fun d => d.parameters.length) = some 4 := by decide +kernel
theorem dn_X6_isTold : yX6_isTold.cls ≠ "java/lang/invoke/MethodHandle" ∧ yX6_isTold.cls ≠ "java/lang/invoke/VarHandle" ∧ (parseMethodDescriptor yX6_isTold.desc).map (fun d => d.parameters.length) = some 1 := by decide +kernel
theorem dn_X6_both : yX6_both.cls ≠ "java/lang/invoke/MethodHandle" ∧ yX6_both.cls ≠ "java/lang/invoke/VarHandle" ∧ (parseMethodDescriptor yX6_both.desc).map (fun d => d.parameters.length) = some 2 := by decide +kernel
theorem dn_X6_globalOf : yX6_globalOf.cls ≠ "java/lang/invoke/MethodHandle" ∧ yX6_globalOf.cls ≠ "java/lang/invoke/VarHandle" ∧ (parseMethodDescriptor yX6_globalOf.desc).map (fun d => d.parameters.length) = some 3 := by decide +kernel
theorem dn_X6_global : yX6_global.cls ≠ "java/lang/invoke/MethodHandle" ∧ yX6_global.cls ≠ "java/lang/invoke/VarHandle" ∧ (parseMethodDescriptor yX6_global.desc).map (fun d => d.parameters.length) = some 3 := by decide +kernel
theorem dn_X6_nearest : yX6_nearest.cls ≠ "java/lang/invoke/MethodHandle" ∧ yX6_nearest.cls ≠ "java/lang/invoke/VarHandle" ∧ (parseMethodDescriptor yX6_nearest.desc).map (fun d => d.parameters.length) = some 4 := by decide +kernel
theorem dn_X6_localOf : yX6_localOf.cls ≠ "java/lang/invoke/MethodHandle" ∧ yX6_localOf.cls ≠ "java/lang/invoke/VarHandle" ∧ (parseMethodDescriptor yX6_localOf.desc).map (fun d => d.parameters.length) = some 5 := by decide +kernel
theorem dn_X6_local : yX6_local.cls ≠ "java/lang/invoke/MethodHandle" ∧ yX6_local.cls ≠ "java/lang/invoke/VarHandle" ∧ (parseMethodDescriptor yX6_local.desc).map (fun d => d.parameters.length) = some 5 := by decide +kernel
theorem dn_X6_place : yX6_place.cls ≠ "java/lang/invoke/MethodHandle" ∧ yX6_place.cls ≠ "java/lang/invoke/VarHandle" ∧ (parseMethodDescriptor yX6_place.desc).map (fun d => d.parameters.length) = some 2 := by decide +kernel
theorem dn_X6_isKnown : yX6_isKnown.cls ≠ "java/lang/invoke/MethodHandle" ∧ yX6_isKnown.cls ≠ "java/lang/invoke/VarHandle" ∧ (parseMethodDescriptor yX6_isKnown.desc).map (fun d => d.parameters.length) = some 1 := by decide +kernel
theorem dn_X6_isSquitter : yX6_isSquitter.cls ≠ "java/lang/invoke/MethodHandle" ∧ yX6_isSquitter.cls ≠ "java/lang/invoke/VarHandle" ∧ (parseMethodDescriptor yX6_isSquitter.desc).map (fun d => d.parameters.length) = some 1 := by decide +kernel
theorem dn_X6_at : yX6_at.cls ≠ "java/lang/invoke/MethodHandle" ∧ yX6_at.cls ≠ "java/lang/invoke/VarHandle" ∧ (parseMethodDescriptor yX6_at.desc).map (fun d => d.parameters.length) = some 2 := by decide +kernel
theorem dn_X6_ages : yX6_ages.cls ≠ "java/lang/invoke/MethodHandle" ∧ yX6_ages.cls ≠ "java/lang/invoke/VarHandle" ∧ (parseMethodDescriptor yX6_ages.desc).map (fun d => d.parameters.length) = some 1 := by decide +kernel
theorem dn_X6_find : yX6_find.cls ≠ "java/lang/invoke/MethodHandle" ∧ yX6_find.cls ≠ "java/lang/invoke/VarHandle" ∧ (parseMethodDescriptor yX6_find.desc).map (fun d => d.parameters.length) = some 1 := by decide +kernel
theorem dn_X6_hear : yX6_hear.cls ≠ "java/lang/invoke/MethodHandle" ∧ yX6_hear.cls ≠ "java/lang/invoke/VarHandle" ∧ (parseMethodDescriptor yX6_hear.desc).map (fun d => d.parameters.length) = some 5 := by decide +kernel
theorem dn_X6_tells : yX6_tells.cls ≠ "java/lang/invoke/MethodHandle" ∧ yX6_tells.cls ≠ "java/lang/invoke/VarHandle" ∧ (parseMethodDescriptor yX6_tells.desc).map (fun d => d.parameters.length) = some 2 := by decide +kernel
theorem dn_X6_moves : yX6_moves.cls ≠ "java/lang/invoke/MethodHandle" ∧ yX6_moves.cls ≠ "java/lang/invoke/VarHandle" ∧ (parseMethodDescriptor yX6_moves.desc).map (fun d => d.parameters.length) = some 2 := by decide +kernel
theorem dn_X6_isFresh : yX6_isFresh.cls ≠ "java/lang/invoke/MethodHandle" ∧ yX6_isFresh.cls ≠ "java/lang/invoke/VarHandle" ∧ (parseMethodDescriptor yX6_isFresh.desc).map (fun d => d.parameters.length) = some 2 := by decide +kernel
theorem dn_X6_toldNow : yX6_toldNow.cls ≠ "java/lang/invoke/MethodHandle" ∧ yX6_toldNow.cls ≠ "java/lang/invoke/VarHandle" ∧ (parseMethodDescriptor yX6_toldNow.desc).map (fun d => d.parameters.length) = some 0 := by decide +kernel
theorem dn_X6_comes : yX6_comes.cls ≠ "java/lang/invoke/MethodHandle" ∧ yX6_comes.cls ≠ "java/lang/invoke/VarHandle" ∧ (parseMethodDescriptor yX6_comes.desc).map (fun d => d.parameters.length) = some 3 := by decide +kernel
theorem dn_X6_onGround : yX6_onGround.cls ≠ "java/lang/invoke/MethodHandle" ∧ yX6_onGround.cls ≠ "java/lang/invoke/VarHandle" ∧ (parseMethodDescriptor yX6_onGround.desc).map (fun d => d.parameters.length) = some 2 := by decide +kernel
theorem dn_X6_inAir : yX6_inAir.cls ≠ "java/lang/invoke/MethodHandle" ∧ yX6_inAir.cls ≠ "java/lang/invoke/VarHandle" ∧ (parseMethodDescriptor yX6_inAir.desc).map (fun d => d.parameters.length) = some 2 := by decide +kernel
theorem dn_X6_field : yX6_field.cls ≠ "java/lang/invoke/MethodHandle" ∧ yX6_field.cls ≠ "java/lang/invoke/VarHandle" ∧ (parseMethodDescriptor yX6_field.desc).map (fun d => d.parameters.length) = some 1 := by decide +kernel
theorem dn_X6_bits : yX6_bits.cls ≠ "java/lang/invoke/MethodHandle" ∧ yX6_bits.cls ≠ "java/lang/invoke/VarHandle" ∧ (parseMethodDescriptor yX6_bits.desc).map (fun d => d.parameters.length) = some 2 := by decide +kernel
theorem dn_X6_crafts : yX6_crafts.cls ≠ "java/lang/invoke/MethodHandle" ∧ yX6_crafts.cls ≠ "java/lang/invoke/VarHandle" ∧ (parseMethodDescriptor yX6_crafts.desc).map (fun d => d.parameters.length) = some 0 := by decide +kernel
theorem dn_X6_isCraft : yX6_isCraft.cls ≠ "java/lang/invoke/MethodHandle" ∧ yX6_isCraft.cls ≠ "java/lang/invoke/VarHandle" ∧ (parseMethodDescriptor yX6_isCraft.desc).map (fun d => d.parameters.length) = some 1 := by decide +kernel
theorem dn_X6_craft : yX6_craft.cls ≠ "java/lang/invoke/MethodHandle" ∧ yX6_craft.cls ≠ "java/lang/invoke/VarHandle" ∧ (parseMethodDescriptor yX6_craft.desc).map (fun d => d.parameters.length) = some 2 := by decide +kernel
theorem dn_X6_sign : yX6_sign.cls ≠ "java/lang/invoke/MethodHandle" ∧ yX6_sign.cls ≠ "java/lang/invoke/VarHandle" ∧ (parseMethodDescriptor yX6_sign.desc).map (fun d => d.parameters.length) = some 2 := by decide +kernel
theorem dn_J9_floorDiv_f86c9 : yJ9_floorDiv_f86c9.cls ≠ "java/lang/invoke/MethodHandle" ∧ yJ9_floorDiv_f86c9.cls ≠ "java/lang/invoke/VarHandle" ∧ (parseMethodDescriptor yJ9_floorDiv_f86c9.desc).map (fun d => d.parameters.length) = some 2 := by decide +kernel
theorem dn_J9_floorMod_f86c9 : yJ9_floorMod_f86c9.cls ≠ "java/lang/invoke/MethodHandle" ∧ yJ9_floorMod_f86c9.cls ≠ "java/lang/invoke/VarHandle" ∧ (parseMethodDescriptor yJ9_floorMod_f86c9.desc).map (fun d => d.parameters.length) = some 2 := by decide +kernel
theorem dn_J9_abs_067f4 : yJ9_abs_067f4.cls ≠ "java/lang/invoke/MethodHandle" ∧ yJ9_abs_067f4.cls ≠ "java/lang/invoke/VarHandle" ∧ (parseMethodDescriptor yJ9_abs_067f4.desc).map (fun d => d.parameters.length) = some 1 := by decide +kernel
theorem dn_J9_max_7cf53 : yJ9_max_7cf53.cls ≠ "java/lang/invoke/MethodHandle" ∧ yJ9_max_7cf53.cls ≠ "java/lang/invoke/VarHandle" ∧ (parseMethodDescriptor yJ9_max_7cf53.desc).map (fun d => d.parameters.length) = some 2 := by decide +kernel
theorem dn_J7_fill_d0a16 : yJ7_fill_d0a16.cls ≠ "java/lang/invoke/MethodHandle" ∧ yJ7_fill_d0a16.cls ≠ "java/lang/invoke/VarHandle" ∧ (parseMethodDescriptor yJ7_fill_d0a16.desc).map (fun d => d.parameters.length) = some 2 := by decide +kernel
theorem dn_J7_fill_53178 : yJ7_fill_53178.cls ≠ "java/lang/invoke/MethodHandle" ∧ yJ7_fill_53178.cls ≠ "java/lang/invoke/VarHandle" ∧ (parseMethodDescriptor yJ7_fill_53178.desc).map (fun d => d.parameters.length) = some 2 := by decide +kernel
end
section
/-! decoded instructions -/
theorem dX0_init_0 : decode cX0_init 0 = .ok (.aload_n 0, 1) := by decide +kernel
theorem dX0_init_1 : decode cX0_init 1 = .ok (.invokespecial 3, 3) := by decide +kernel
theorem dX0_init_4 : decode cX0_init 4 = .ok (.aload_n 0, 1) := by decide +kernel
theorem dX0_init_5 : decode cX0_init 5 = .ok (.bipush 20, 2) := by decide +kernel
theorem dX0_init_7 : decode cX0_init 7 = .ok (.anewarray 11, 3) := by decide +kernel
theorem dX0_init_10 : decode cX0_init 10 = .ok (.putfield 13, 3) := by decide +kernel
theorem dX0_init_13 : decode cX0_init 13 = .ok (.iconst 0, 1) := by decide +kernel
theorem dX0_init_14 : decode cX0_init 14 = .ok (.istore_n 1, 1) := by decide +kernel
theorem dX0_init_15 : decode cX0_init 15 = .ok (.iload_n 1, 1) := by decide +kernel
theorem dX0_init_16 : decode cX0_init 16 = .ok (.aload_n 0, 1) := by decide +kernel
theorem dX0_init_17 : decode cX0_init 17 = .ok (.getfield 13, 3) := by decide +kernel
theorem dX0_init_20 : decode cX0_init 20 = .ok (.arraylength, 1) := by decide +kernel
theorem dX0_init_21 : decode cX0_init 21 = .ok (.if_icmp .ge 22, 3) := by decide +kernel
theorem dX0_init_24 : decode cX0_init 24 = .ok (.aload_n 0, 1) := by decide +kernel
theorem dX0_init_25 : decode cX0_init 25 = .ok (.getfield 13, 3) := by decide +kernel
theorem dX0_init_28 : decode cX0_init 28 = .ok (.iload_n 1, 1) := by decide +kernel
theorem dX0_init_29 : decode cX0_init 29 = .ok (.new 11, 3) := by decide +kernel
theorem dX0_init_32 : decode cX0_init 32 = .ok (.dup, 1) := by decide +kernel
theorem dX0_init_33 : decode cX0_init 33 = .ok (.invokespecial 17, 3) := by decide +kernel
theorem dX0_init_36 : decode cX0_init 36 = .ok (.aastore, 1) := by decide +kernel
theorem dX0_init_37 : decode cX0_init 37 = .ok (.iinc 1 1, 3) := by decide +kernel
theorem dX0_init_40 : decode cX0_init 40 = .ok (.goto (-25), 3) := by decide +kernel
theorem dX0_init_43 : decode cX0_init 43 = .ok (.aload_n 0, 1) := by decide +kernel
theorem dX0_init_44 : decode cX0_init 44 = .ok (.iconst 0, 1) := by decide +kernel
theorem dX0_init_45 : decode cX0_init 45 = .ok (.putfield 18, 3) := by decide +kernel
theorem dX0_init_48 : decode cX0_init 48 = .ok (.return_, 1) := by decide +kernel
theorem dX0_size_0 : decode cX0_size 0 = .ok (.aload_n 0, 1) := by decide +kernel
theorem dX0_size_1 : decode cX0_size 1 = .ok (.getfield 18, 3) := by decide +kernel
theorem dX0_size_4 : decode cX0_size 4 = .ok (.ireturn, 1) := by decide +kernel
theorem dX0_at_0 : decode cX0_at 0 = .ok (.iload_n 1, 1) := by decide +kernel
theorem dX0_at_1 : decode cX0_at 1 = .ok (.ifCond .lt 20, 3) := by decide +kernel
theorem dX0_at_4 : decode cX0_at 4 = .ok (.iload_n 1, 1) := by decide +kernel
theorem dX0_at_5 : decode cX0_at 5 = .ok (.aload_n 0, 1) := by decide +kernel
theorem dX0_at_6 : decode cX0_at 6 = .ok (.getfield 18, 3) := by decide +kernel
theorem dX0_at_9 : decode cX0_at 9 = .ok (.if_icmp .ge 12, 3) := by decide +kernel
theorem dX0_at_12 : decode cX0_at 12 = .ok (.iload_n 1, 1) := by decide +kernel
theorem dX0_at_13 : decode cX0_at 13 = .ok (.aload_n 0, 1) := by decide +kernel
theorem dX0_at_14 : decode cX0_at 14 = .ok (.getfield 13, 3) := by decide +kernel
theorem dX0_at_17 : decode cX0_at 17 = .ok (.arraylength, 1) := by decide +kernel
theorem dX0_at_18 : decode cX0_at 18 = .ok (.if_icmp .lt 7, 3) := by decide +kernel
theorem dX0_at_21 : decode cX0_at 21 = .ok (.aconst_null, 1) := by decide +kernel
theorem dX0_at_22 : decode cX0_at 22 = .ok (.goto 9, 3) := by decide +kernel
theorem dX0_at_25 : decode cX0_at 25 = .ok (.aload_n 0, 1) := by decide +kernel
theorem dX0_at_26 : decode cX0_at 26 = .ok (.getfield 13, 3) := by decide +kernel
theorem dX0_at_29 : decode cX0_at 29 = .ok (.iload_n 1, 1) := by decide +kernel
theorem dX0_at_30 : decode cX0_at 30 = .ok (.aaload, 1) := by decide +kernel
theorem dX0_at_31 : decode cX0_at 31 = .ok (.areturn, 1) := by decide +kernel
theorem dX0_indexOf_0 : decode cX0_indexOf 0 = .ok (.iconst 0, 1) := by decide +kernel
theorem dX0_indexOf_1 : decode cX0_indexOf 1 = .ok (.istore_n 2, 1) := by decide +kernel
theorem dX0_indexOf_2 : decode cX0_indexOf 2 = .ok (.iload_n 2, 1) := by decide +kernel
theorem dX0_indexOf_3 : decode cX0_indexOf 3 = .ok (.aload_n 0, 1) := by decide +kernel
theorem dX0_indexOf_4 : decode cX0_indexOf 4 = .ok (.getfield 18, 3) := by decide +kernel
theorem dX0_indexOf_7 : decode cX0_indexOf 7 = .ok (.if_icmp .ge 25, 3) := by decide +kernel
theorem dX0_indexOf_10 : decode cX0_indexOf 10 = .ok (.aload_n 0, 1) := by decide +kernel
theorem dX0_indexOf_11 : decode cX0_indexOf 11 = .ok (.getfield 13, 3) := by decide +kernel
theorem dX0_indexOf_14 : decode cX0_indexOf 14 = .ok (.iload_n 2, 1) := by decide +kernel
theorem dX0_indexOf_15 : decode cX0_indexOf 15 = .ok (.aaload, 1) := by decide +kernel
theorem dX0_indexOf_16 : decode cX0_indexOf 16 = .ok (.iconst 0, 1) := by decide +kernel
theorem dX0_indexOf_17 : decode cX0_indexOf 17 = .ok (.invokevirtual 22, 3) := by decide +kernel
theorem dX0_indexOf_20 : decode cX0_indexOf 20 = .ok (.iload_n 1, 1) := by decide +kernel
theorem dX0_indexOf_21 : decode cX0_indexOf 21 = .ok (.if_icmp .ne 5, 3) := by decide +kernel
theorem dX0_indexOf_24 : decode cX0_indexOf 24 = .ok (.iload_n 2, 1) := by decide +kernel
theorem dX0_indexOf_25 : decode cX0_indexOf 25 = .ok (.ireturn, 1) := by decide +kernel
theorem dX0_indexOf_26 : decode cX0_indexOf 26 = .ok (.iinc 2 1, 3) := by decide +kernel
theorem dX0_indexOf_29 : decode cX0_indexOf 29 = .ok (.goto (-27), 3) := by decide +kernel
theorem dX0_indexOf_32 : decode cX0_indexOf 32 = .ok (.iconst (-1), 1) := by decide +kernel
theorem dX0_indexOf_33 : decode cX0_indexOf 33 = .ok (.ireturn, 1) := by decide +kernel
theorem dX0_open_0 : decode cX0_open 0 = .ok (.aload_n 0, 1) := by decide +kernel
theorem dX0_open_1 : decode cX0_open 1 = .ok (.getfield 18, 3) := by decide +kernel
theorem dX0_open_4 : decode cX0_open 4 = .ok (.aload_n 0, 1) := by decide +kernel
theorem dX0_open_5 : decode cX0_open 5 = .ok (.getfield 13, 3) := by decide +kernel
theorem dX0_open_8 : decode cX0_open 8 = .ok (.arraylength, 1) := by decide +kernel
theorem dX0_open_9 : decode cX0_open 9 = .ok (.if_icmp .lt 5, 3) := by decide +kernel
theorem dX0_open_12 : decode cX0_open 12 = .ok (.aconst_null, 1) := by decide +kernel
theorem dX0_open_13 : decode cX0_open 13 = .ok (.areturn, 1) := by decide +kernel
theorem dX0_open_14 : decode cX0_open 14 = .ok (.aload_n 0, 1) := by decide +kernel
theorem dX0_open_15 : decode cX0_open 15 = .ok (.getfield 13, 3) := by decide +kernel
theorem dX0_open_18 : decode cX0_open 18 = .ok (.aload_n 0, 1) := by decide +kernel
theorem dX0_open_19 : decode cX0_open 19 = .ok (.getfield 18, 3) := by decide +kernel
theorem dX0_open_22 : decode cX0_open 22 = .ok (.aaload, 1) := by decide +kernel
theorem dX0_open_23 : decode cX0_open 23 = .ok (.astore_n 2, 1) := by decide +kernel
theorem dX0_open_24 : decode cX0_open 24 = .ok (.aload_n 2, 1) := by decide +kernel
theorem dX0_open_25 : decode cX0_open 25 = .ok (.iload_n 1, 1) := by decide +kernel
theorem dX0_open_26 : decode cX0_open 26 = .ok (.invokevirtual 26, 3) := by decide +kernel
theorem dX0_open_29 : decode cX0_open 29 = .ok (.aload_n 0, 1) := by decide +kernel
theorem dX0_open_30 : decode cX0_open 30 = .ok (.dup, 1) := by decide +kernel
theorem dX0_open_31 : decode cX0_open 31 = .ok (.getfield 18, 3) := by decide +kernel
theorem dX0_open_34 : decode cX0_open 34 = .ok (.iconst 1, 1) := by decide +kernel
theorem dX0_open_35 : decode cX0_open 35 = .ok (.iadd, 1) := by decide +kernel
theorem dX0_open_36 : decode cX0_open 36 = .ok (.putfield 18, 3) := by decide +kernel
theorem dX0_open_39 : decode cX0_open 39 = .ok (.aload_n 2, 1) := by decide +kernel
theorem dX0_open_40 : decode cX0_open 40 = .ok (.areturn, 1) := by decide +kernel
theorem dX0_forgetSilent_0 : decode cX0_forgetSilent 0 = .ok (.iconst 0, 1) := by decide +kernel
theorem dX0_forgetSilent_1 : decode cX0_forgetSilent 1 = .ok (.istore_n 2, 1) := by decide +kernel
theorem dX0_forgetSilent_2 : decode cX0_forgetSilent 2 = .ok (.iconst 0, 1) := by decide +kernel
theorem dX0_forgetSilent_3 : decode cX0_forgetSilent 3 = .ok (.istore_n 3, 1) := by decide +kernel
theorem dX0_forgetSilent_4 : decode cX0_forgetSilent 4 = .ok (.iload_n 3, 1) := by decide +kernel
theorem dX0_forgetSilent_5 : decode cX0_forgetSilent 5 = .ok (.aload_n 0, 1) := by decide +kernel
theorem dX0_forgetSilent_6 : decode cX0_forgetSilent 6 = .ok (.getfield 18, 3) := by decide +kernel
theorem dX0_forgetSilent_9 : decode cX0_forgetSilent 9 = .ok (.if_icmp .ge 54, 3) := by decide +kernel
theorem dX0_forgetSilent_12 : decode cX0_forgetSilent 12 = .ok (.aload_n 0, 1) := by decide +kernel
theorem dX0_forgetSilent_13 : decode cX0_forgetSilent 13 = .ok (.getfield 13, 3) := by decide +kernel
theorem dX0_forgetSilent_16 : decode cX0_forgetSilent 16 = .ok (.iload_n 3, 1) := by decide +kernel
theorem dX0_forgetSilent_17 : decode cX0_forgetSilent 17 = .ok (.aaload, 1) := by decide +kernel
theorem dX0_forgetSilent_18 : decode cX0_forgetSilent 18 = .ok (.astore 4, 2) := by decide +kernel
theorem dX0_forgetSilent_20 : decode cX0_forgetSilent 20 = .ok (.iload_n 1, 1) := by decide +kernel
theorem dX0_forgetSilent_21 : decode cX0_forgetSilent 21 = .ok (.aload 4, 2) := by decide +kernel
theorem dX0_forgetSilent_23 : decode cX0_forgetSilent 23 = .ok (.iconst 1, 1) := by decide +kernel
theorem dX0_forgetSilent_24 : decode cX0_forgetSilent 24 = .ok (.invokevirtual 22, 3) := by decide +kernel
theorem dX0_forgetSilent_27 : decode cX0_forgetSilent 27 = .ok (.isub, 1) := by decide +kernel
theorem dX0_forgetSilent_28 : decode cX0_forgetSilent 28 = .ok (.sipush 600, 3) := by decide +kernel
theorem dX0_forgetSilent_31 : decode cX0_forgetSilent 31 = .ok (.if_icmp .gt 26, 3) := by decide +kernel
theorem dX0_forgetSilent_34 : decode cX0_forgetSilent 34 = .ok (.aload_n 0, 1) := by decide +kernel
theorem dX0_forgetSilent_35 : decode cX0_forgetSilent 35 = .ok (.getfield 13, 3) := by decide +kernel
theorem dX0_forgetSilent_38 : decode cX0_forgetSilent 38 = .ok (.iload_n 3, 1) := by decide +kernel
theorem dX0_forgetSilent_39 : decode cX0_forgetSilent 39 = .ok (.aload_n 0, 1) := by decide +kernel
theorem dX0_forgetSilent_40 : decode cX0_forgetSilent 40 = .ok (.getfield 13, 3) := by decide +kernel
theorem dX0_forgetSilent_43 : decode cX0_forgetSilent 43 = .ok (.iload_n 2, 1) := by decide +kernel
theorem dX0_forgetSilent_44 : decode cX0_forgetSilent 44 = .ok (.aaload, 1) := by decide +kernel
theorem dX0_forgetSilent_45 : decode cX0_forgetSilent 45 = .ok (.aastore, 1) := by decide +kernel
theorem dX0_forgetSilent_46 : decode cX0_forgetSilent 46 = .ok (.aload_n 0, 1) := by decide +kernel
theorem dX0_forgetSilent_47 : decode cX0_forgetSilent 47 = .ok (.getfield 13, 3) := by decide +kernel
theorem dX0_forgetSilent_50 : decode cX0_forgetSilent 50 = .ok (.iload_n 2, 1) := by decide +kernel
theorem dX0_forgetSilent_51 : decode cX0_forgetSilent 51 = .ok (.aload 4, 2) := by decide +kernel
theorem dX0_forgetSilent_53 : decode cX0_forgetSilent 53 = .ok (.aastore, 1) := by decide +kernel
theorem dX0_forgetSilent_54 : decode cX0_forgetSilent 54 = .ok (.iinc 2 1, 3) := by decide +kernel
theorem dX0_forgetSilent_57 : decode cX0_forgetSilent 57 = .ok (.iinc 3 1, 3) := by decide +kernel
theorem dX0_forgetSilent_60 : decode cX0_forgetSilent 60 = .ok (.goto (-56), 3) := by decide +kernel
theorem dX0_forgetSilent_63 : decode cX0_forgetSilent 63 = .ok (.aload_n 0, 1) := by decide +kernel
theorem dX0_forgetSilent_64 : decode cX0_forgetSilent 64 = .ok (.iload_n 2, 1) := by decide +kernel
theorem dX0_forgetSilent_65 : decode cX0_forgetSilent 65 = .ok (.putfield 18, 3) := by decide +kernel
theorem dX0_forgetSilent_68 : decode cX0_forgetSilent 68 = .ok (.return_, 1) := by decide +kernel
theorem dX1_altitude_0 : decode cX1_altitude 0 = .ok (.iload_n 0, 1) := by decide +kernel
theorem dX1_altitude_1 : decode cX1_altitude 1 = .ok (.ifCond .eq 10, 3) := by decide +kernel
theorem dX1_altitude_4 : decode cX1_altitude 4 = .ok (.iload_n 0, 1) := by decide +kernel
theorem dX1_altitude_5 : decode cX1_altitude 5 = .ok (.bipush 64, 2) := by decide +kernel
theorem dX1_altitude_7 : decode cX1_altitude 7 = .ok (.iand, 1) := by decide +kernel
theorem dX1_altitude_8 : decode cX1_altitude 8 = .ok (.ifCond .eq 6, 3) := by decide +kernel
theorem dX1_altitude_11 : decode cX1_altitude 11 = .ok (.ldc 11, 2) := by decide +kernel
theorem dX1_altitude_13 : decode cX1_altitude 13 = .ok (.ireturn, 1) := by decide +kernel
theorem dX1_altitude_14 : decode cX1_altitude 14 = .ok (.iload_n 0, 1) := by decide +kernel
theorem dX1_altitude_15 : decode cX1_altitude 15 = .ok (.bipush 16, 2) := by decide +kernel
theorem dX1_altitude_17 : decode cX1_altitude 17 = .ok (.iand, 1) := by decide +kernel
theorem dX1_altitude_18 : decode cX1_altitude 18 = .ok (.ifCond .eq 30, 3) := by decide +kernel
theorem dX1_altitude_21 : decode cX1_altitude 21 = .ok (.bipush 25, 2) := by decide +kernel
theorem dX1_altitude_23 : decode cX1_altitude 23 = .ok (.iload_n 0, 1) := by decide +kernel
theorem dX1_altitude_24 : decode cX1_altitude 24 = .ok (.iconst 2, 1) := by decide +kernel
theorem dX1_altitude_25 : decode cX1_altitude 25 = .ok (.ishr, 1) := by decide +kernel
theorem dX1_altitude_26 : decode cX1_altitude 26 = .ok (.sipush 2016, 3) := by decide +kernel
theorem dX1_altitude_29 : decode cX1_altitude 29 = .ok (.iand, 1) := by decide +kernel
theorem dX1_altitude_30 : decode cX1_altitude 30 = .ok (.iload_n 0, 1) := by decide +kernel
theorem dX1_altitude_31 : decode cX1_altitude 31 = .ok (.iconst 1, 1) := by decide +kernel
theorem dX1_altitude_32 : decode cX1_altitude 32 = .ok (.ishr, 1) := by decide +kernel
theorem dX1_altitude_33 : decode cX1_altitude 33 = .ok (.bipush 16, 2) := by decide +kernel
theorem dX1_altitude_35 : decode cX1_altitude 35 = .ok (.iand, 1) := by decide +kernel
theorem dX1_altitude_36 : decode cX1_altitude 36 = .ok (.ior, 1) := by decide +kernel
theorem dX1_altitude_37 : decode cX1_altitude 37 = .ok (.iload_n 0, 1) := by decide +kernel
theorem dX1_altitude_38 : decode cX1_altitude 38 = .ok (.bipush 15, 2) := by decide +kernel
theorem dX1_altitude_40 : decode cX1_altitude 40 = .ok (.iand, 1) := by decide +kernel
theorem dX1_altitude_41 : decode cX1_altitude 41 = .ok (.ior, 1) := by decide +kernel
theorem dX1_altitude_42 : decode cX1_altitude 42 = .ok (.imul, 1) := by decide +kernel
theorem dX1_altitude_43 : decode cX1_altitude 43 = .ok (.sipush 1000, 3) := by decide +kernel
theorem dX1_altitude_46 : decode cX1_altitude 46 = .ok (.isub, 1) := by decide +kernel
theorem dX1_altitude_47 : decode cX1_altitude 47 = .ok (.ireturn, 1) := by decide +kernel
theorem dX1_altitude_48 : decode cX1_altitude 48 = .ok (.iload_n 0, 1) := by decide +kernel
theorem dX1_altitude_49 : decode cX1_altitude 49 = .ok (.invokestatic 12, 3) := by decide +kernel
theorem dX1_altitude_52 : decode cX1_altitude 52 = .ok (.ireturn, 1) := by decide +kernel
theorem dX1_withM_0 : decode cX1_withM 0 = .ok (.iload_n 0, 1) := by decide +kernel
theorem dX1_withM_1 : decode cX1_withM 1 = .ok (.sipush 4032, 3) := by decide +kernel
theorem dX1_withM_4 : decode cX1_withM 4 = .ok (.iand, 1) := by decide +kernel
theorem dX1_withM_5 : decode cX1_withM 5 = .ok (.iconst 1, 1) := by decide +kernel
theorem dX1_withM_6 : decode cX1_withM 6 = .ok (.ishl, 1) := by decide +kernel
theorem dX1_withM_7 : decode cX1_withM 7 = .ok (.iload_n 0, 1) := by decide +kernel
theorem dX1_withM_8 : decode cX1_withM 8 = .ok (.bipush 63, 2) := by decide +kernel
theorem dX1_withM_10 : decode cX1_withM 10 = .ok (.iand, 1) := by decide +kernel
theorem dX1_withM_11 : decode cX1_withM 11 = .ok (.ior, 1) := by decide +kernel
theorem dX1_withM_12 : decode cX1_withM 12 = .ok (.ireturn, 1) := by decide +kernel
theorem dX1_altitudeOfGray_0 : decode cX1_altitudeOfGray 0 = .ok (.iload_n 0, 1) := by decide +kernel
theorem dX1_altitudeOfGray_1 : decode cX1_altitudeOfGray 1 = .ok (.iconst 2, 1) := by decide +kernel
theorem dX1_altitudeOfGray_2 : decode cX1_altitudeOfGray 2 = .ok (.ishr, 1) := by decide +kernel
theorem dX1_altitudeOfGray_3 : decode cX1_altitudeOfGray 3 = .ok (.iconst 1, 1) := by decide +kernel
theorem dX1_altitudeOfGray_4 : decode cX1_altitudeOfGray 4 = .ok (.iand, 1) := by decide +kernel
theorem dX1_altitudeOfGray_5 : decode cX1_altitudeOfGray 5 = .ok (.iconst 1, 1) := by decide +kernel
theorem dX1_altitudeOfGray_6 : decode cX1_altitudeOfGray 6 = .ok (.ishl, 1) := by decide +kernel
theorem dX1_altitudeOfGray_7 : decode cX1_altitudeOfGray 7 = .ok (.iload_n 0, 1) := by decide +kernel
theorem dX1_altitudeOfGray_8 : decode cX1_altitudeOfGray 8 = .ok (.iconst 1, 1) := by decide +kernel
theorem dX1_altitudeOfGray_9 : decode cX1_altitudeOfGray 9 = .ok (.iand, 1) := by decide +kernel
theorem dX1_altitudeOfGray_10 : decode cX1_altitudeOfGray 10 = .ok (.ior, 1) := by decide +kernel
theorem dX1_altitudeOfGray_11 : decode cX1_altitudeOfGray 11 = .ok (.istore_n 1, 1) := by decide +kernel
theorem dX1_altitudeOfGray_12 : decode cX1_altitudeOfGray 12 = .ok (.iload_n 1, 1) := by decide +kernel
theorem dX1_altitudeOfGray_13 : decode cX1_altitudeOfGray 13 = .ok (.bipush 6, 2) := by decide +kernel
theorem dX1_altitudeOfGray_15 : decode cX1_altitudeOfGray 15 = .ok (.ishl, 1) := by decide +kernel
theorem dX1_altitudeOfGray_16 : decode cX1_altitudeOfGray 16 = .ok (.iload_n 0, 1) := by decide +kernel
theorem dX1_altitudeOfGray_17 : decode cX1_altitudeOfGray 17 = .ok (.bipush 11, 2) := by decide +kernel
theorem dX1_altitudeOfGray_19 : decode cX1_altitudeOfGray 19 = .ok (.bipush 9, 2) := by decide +kernel
theorem dX1_altitudeOfGray_21 : decode cX1_altitudeOfGray 21 = .ok (.bipush 7, 2) := by decide +kernel
theorem dX1_altitudeOfGray_23 : decode cX1_altitudeOfGray 23 = .ok (.invokestatic 16, 3) := by decide +kernel
theorem dX1_altitudeOfGray_26 : decode cX1_altitudeOfGray 26 = .ok (.iconst 3, 1) := by decide +kernel
theorem dX1_altitudeOfGray_27 : decode cX1_altitudeOfGray 27 = .ok (.ishl, 1) := by decide +kernel
theorem dX1_altitudeOfGray_28 : decode cX1_altitudeOfGray 28 = .ok (.ior, 1) := by decide +kernel
theorem dX1_altitudeOfGray_29 : decode cX1_altitudeOfGray 29 = .ok (.iload_n 0, 1) := by decide +kernel
theorem dX1_altitudeOfGray_30 : decode cX1_altitudeOfGray 30 = .ok (.iconst 5, 1) := by decide +kernel
theorem dX1_altitudeOfGray_31 : decode cX1_altitudeOfGray 31 = .ok (.iconst 3, 1) := by decide +kernel
theorem dX1_altitudeOfGray_32 : decode cX1_altitudeOfGray 32 = .ok (.iconst 1, 1) := by decide +kernel
theorem dX1_altitudeOfGray_33 : decode cX1_altitudeOfGray 33 = .ok (.invokestatic 16, 3) := by decide +kernel
theorem dX1_altitudeOfGray_36 : decode cX1_altitudeOfGray 36 = .ok (.ior, 1) := by decide +kernel
theorem dX1_altitudeOfGray_37 : decode cX1_altitudeOfGray 37 = .ok (.invokestatic 20, 3) := by decide +kernel
theorem dX1_altitudeOfGray_40 : decode cX1_altitudeOfGray 40 = .ok (.istore_n 2, 1) := by decide +kernel
theorem dX1_altitudeOfGray_41 : decode cX1_altitudeOfGray 41 = .ok (.iload_n 0, 1) := by decide +kernel
theorem dX1_altitudeOfGray_42 : decode cX1_altitudeOfGray 42 = .ok (.bipush 12, 2) := by decide +kernel
theorem dX1_altitudeOfGray_44 : decode cX1_altitudeOfGray 44 = .ok (.bipush 10, 2) := by decide +kernel
theorem dX1_altitudeOfGray_46 : decode cX1_altitudeOfGray 46 = .ok (.bipush 8, 2) := by decide +kernel
theorem dX1_altitudeOfGray_48 : decode cX1_altitudeOfGray 48 = .ok (.invokestatic 16, 3) := by decide +kernel
theorem dX1_altitudeOfGray_51 : decode cX1_altitudeOfGray 51 = .ok (.invokestatic 20, 3) := by decide +kernel
theorem dX1_altitudeOfGray_54 : decode cX1_altitudeOfGray 54 = .ok (.istore_n 3, 1) := by decide +kernel
theorem dX1_altitudeOfGray_55 : decode cX1_altitudeOfGray 55 = .ok (.iload_n 3, 1) := by decide +kernel
theorem dX1_altitudeOfGray_56 : decode cX1_altitudeOfGray 56 = .ok (.ifCond .eq 14, 3) := by decide +kernel
theorem dX1_altitudeOfGray_59 : decode cX1_altitudeOfGray 59 = .ok (.iload_n 3, 1) := by decide +kernel
theorem dX1_altitudeOfGray_60 : decode cX1_altitudeOfGray 60 = .ok (.iconst 5, 1) := by decide +kernel
theorem dX1_altitudeOfGray_61 : decode cX1_altitudeOfGray 61 = .ok (.if_icmp .eq 9, 3) := by decide +kernel
theorem dX1_altitudeOfGray_64 : decode cX1_altitudeOfGray 64 = .ok (.iload_n 3, 1) := by decide +kernel
theorem dX1_altitudeOfGray_65 : decode cX1_altitudeOfGray 65 = .ok (.bipush 6, 2) := by decide +kernel
theorem dX1_altitudeOfGray_67 : decode cX1_altitudeOfGray 67 = .ok (.if_icmp .ne 6, 3) := by decide +kernel
theorem dX1_altitudeOfGray_70 : decode cX1_altitudeOfGray 70 = .ok (.ldc 11, 2) := by decide +kernel
theorem dX1_altitudeOfGray_72 : decode cX1_altitudeOfGray 72 = .ok (.ireturn, 1) := by decide +kernel
theorem dX1_altitudeOfGray_73 : decode cX1_altitudeOfGray 73 = .ok (.iload_n 3, 1) := by decide +kernel
theorem dX1_altitudeOfGray_74 : decode cX1_altitudeOfGray 74 = .ok (.bipush 7, 2) := by decide +kernel
theorem dX1_altitudeOfGray_76 : decode cX1_altitudeOfGray 76 = .ok (.if_icmp .ne 5, 3) := by decide +kernel
theorem dX1_altitudeOfGray_79 : decode cX1_altitudeOfGray 79 = .ok (.iconst 5, 1) := by decide +kernel
theorem dX1_altitudeOfGray_80 : decode cX1_altitudeOfGray 80 = .ok (.istore_n 3, 1) := by decide +kernel
theorem dX1_altitudeOfGray_81 : decode cX1_altitudeOfGray 81 = .ok (.iload_n 2, 1) := by decide +kernel
theorem dX1_altitudeOfGray_82 : decode cX1_altitudeOfGray 82 = .ok (.iconst 1, 1) := by decide +kernel
theorem dX1_altitudeOfGray_83 : decode cX1_altitudeOfGray 83 = .ok (.iand, 1) := by decide +kernel
theorem dX1_altitudeOfGray_84 : decode cX1_altitudeOfGray 84 = .ok (.iconst 1, 1) := by decide +kernel
theorem dX1_altitudeOfGray_85 : decode cX1_altitudeOfGray 85 = .ok (.if_icmp .ne 8, 3) := by decide +kernel
theorem dX1_altitudeOfGray_88 : decode cX1_altitudeOfGray 88 = .ok (.bipush 6, 2) := by decide +kernel
theorem dX1_altitudeOfGray_90 : decode cX1_altitudeOfGray 90 = .ok (.iload_n 3, 1) := by decide +kernel
theorem dX1_altitudeOfGray_91 : decode cX1_altitudeOfGray 91 = .ok (.isub, 1) := by decide +kernel
theorem dX1_altitudeOfGray_92 : decode cX1_altitudeOfGray 92 = .ok (.istore_n 3, 1) := by decide +kernel
theorem dX1_altitudeOfGray_93 : decode cX1_altitudeOfGray 93 = .ok (.sipush 500, 3) := by decide +kernel
theorem dX1_altitudeOfGray_96 : decode cX1_altitudeOfGray 96 = .ok (.iload_n 2, 1) := by decide +kernel
theorem dX1_altitudeOfGray_97 : decode cX1_altitudeOfGray 97 = .ok (.imul, 1) := by decide +kernel
theorem dX1_altitudeOfGray_98 : decode cX1_altitudeOfGray 98 = .ok (.bipush 100, 2) := by decide +kernel
theorem dX1_altitudeOfGray_100 : decode cX1_altitudeOfGray 100 = .ok (.iload_n 3, 1) := by decide +kernel
theorem dX1_altitudeOfGray_101 : decode cX1_altitudeOfGray 101 = .ok (.imul, 1) := by decide +kernel
theorem dX1_altitudeOfGray_102 : decode cX1_altitudeOfGray 102 = .ok (.iadd, 1) := by decide +kernel
theorem dX1_altitudeOfGray_103 : decode cX1_altitudeOfGray 103 = .ok (.sipush 1300, 3) := by decide +kernel
theorem dX1_altitudeOfGray_106 : decode cX1_altitudeOfGray 106 = .ok (.isub, 1) := by decide +kernel
theorem dX1_altitudeOfGray_107 : decode cX1_altitudeOfGray 107 = .ok (.ireturn, 1) := by decide +kernel
theorem dX1_ofGray_0 : decode cX1_ofGray 0 = .ok (.iload_n 0, 1) := by decide +kernel
theorem dX1_ofGray_1 : decode cX1_ofGray 1 = .ok (.iload_n 0, 1) := by decide +kernel
theorem dX1_ofGray_2 : decode cX1_ofGray 2 = .ok (.iconst 4, 1) := by decide +kernel
theorem dX1_ofGray_3 : decode cX1_ofGray 3 = .ok (.ishr, 1) := by decide +kernel
theorem dX1_ofGray_4 : decode cX1_ofGray 4 = .ok (.ixor, 1) := by decide +kernel
theorem dX1_ofGray_5 : decode cX1_ofGray 5 = .ok (.istore_n 1, 1) := by decide +kernel
theorem dX1_ofGray_6 : decode cX1_ofGray 6 = .ok (.iload_n 1, 1) := by decide +kernel
theorem dX1_ofGray_7 : decode cX1_ofGray 7 = .ok (.iload_n 1, 1) := by decide +kernel
theorem dX1_ofGray_8 : decode cX1_ofGray 8 = .ok (.iconst 2, 1) := by decide +kernel
theorem dX1_ofGray_9 : decode cX1_ofGray 9 = .ok (.ishr, 1) := by decide +kernel
theorem dX1_ofGray_10 : decode cX1_ofGray 10 = .ok (.ixor, 1) := by decide +kernel
theorem dX1_ofGray_11 : decode cX1_ofGray 11 = .ok (.istore_n 1, 1) := by decide +kernel
theorem dX1_ofGray_12 : decode cX1_ofGray 12 = .ok (.iload_n 1, 1) := by decide +kernel
theorem dX1_ofGray_13 : decode cX1_ofGray 13 = .ok (.iload_n 1, 1) := by decide +kernel
theorem dX1_ofGray_14 : decode cX1_ofGray 14 = .ok (.iconst 1, 1) := by decide +kernel
theorem dX1_ofGray_15 : decode cX1_ofGray 15 = .ok (.ishr, 1) := by decide +kernel
theorem dX1_ofGray_16 : decode cX1_ofGray 16 = .ok (.ixor, 1) := by decide +kernel
theorem dX1_ofGray_17 : decode cX1_ofGray 17 = .ok (.ireturn, 1) := by decide +kernel
theorem dX1_squawk_0 : decode cX1_squawk 0 = .ok (.iload_n 0, 1) := by decide +kernel
theorem dX1_squawk_1 : decode cX1_squawk 1 = .ok (.bipush 7, 2) := by decide +kernel
theorem dX1_squawk_3 : decode cX1_squawk 3 = .ok (.bipush 9, 2) := by decide +kernel
theorem dX1_squawk_5 : decode cX1_squawk 5 = .ok (.bipush 11, 2) := by decide +kernel
theorem dX1_squawk_7 : decode cX1_squawk 7 = .ok (.invokestatic 16, 3) := by decide +kernel
theorem dX1_squawk_10 : decode cX1_squawk 10 = .ok (.istore_n 1, 1) := by decide +kernel
theorem dX1_squawk_11 : decode cX1_squawk 11 = .ok (.iload_n 0, 1) := by decide +kernel
theorem dX1_squawk_12 : decode cX1_squawk 12 = .ok (.iconst 1, 1) := by decide +kernel
theorem dX1_squawk_13 : decode cX1_squawk 13 = .ok (.iconst 3, 1) := by decide +kernel
theorem dX1_squawk_14 : decode cX1_squawk 14 = .ok (.iconst 5, 1) := by decide +kernel
theorem dX1_squawk_15 : decode cX1_squawk 15 = .ok (.invokestatic 16, 3) := by decide +kernel
theorem dX1_squawk_18 : decode cX1_squawk 18 = .ok (.istore_n 2, 1) := by decide +kernel
theorem dX1_squawk_19 : decode cX1_squawk 19 = .ok (.iload_n 0, 1) := by decide +kernel
theorem dX1_squawk_20 : decode cX1_squawk 20 = .ok (.bipush 8, 2) := by decide +kernel
theorem dX1_squawk_22 : decode cX1_squawk 22 = .ok (.bipush 10, 2) := by decide +kernel
theorem dX1_squawk_24 : decode cX1_squawk 24 = .ok (.bipush 12, 2) := by decide +kernel
theorem dX1_squawk_26 : decode cX1_squawk 26 = .ok (.invokestatic 16, 3) := by decide +kernel
theorem dX1_squawk_29 : decode cX1_squawk 29 = .ok (.istore_n 3, 1) := by decide +kernel
theorem dX1_squawk_30 : decode cX1_squawk 30 = .ok (.iload_n 0, 1) := by decide +kernel
theorem dX1_squawk_31 : decode cX1_squawk 31 = .ok (.iconst 0, 1) := by decide +kernel
theorem dX1_squawk_32 : decode cX1_squawk 32 = .ok (.iconst 2, 1) := by decide +kernel
theorem dX1_squawk_33 : decode cX1_squawk 33 = .ok (.iconst 4, 1) := by decide +kernel
theorem dX1_squawk_34 : decode cX1_squawk 34 = .ok (.invokestatic 16, 3) := by decide +kernel
theorem dX1_squawk_37 : decode cX1_squawk 37 = .ok (.istore 4, 2) := by decide +kernel
theorem dX1_squawk_39 : decode cX1_squawk 39 = .ok (.sipush 1000, 3) := by decide +kernel
theorem dX1_squawk_42 : decode cX1_squawk 42 = .ok (.iload_n 1, 1) := by decide +kernel
theorem dX1_squawk_43 : decode cX1_squawk 43 = .ok (.imul, 1) := by decide +kernel
theorem dX1_squawk_44 : decode cX1_squawk 44 = .ok (.bipush 100, 2) := by decide +kernel
theorem dX1_squawk_46 : decode cX1_squawk 46 = .ok (.iload_n 2, 1) := by decide +kernel
theorem dX1_squawk_47 : decode cX1_squawk 47 = .ok (.imul, 1) := by decide +kernel
theorem dX1_squawk_48 : decode cX1_squawk 48 = .ok (.iadd, 1) := by decide +kernel
theorem dX1_squawk_49 : decode cX1_squawk 49 = .ok (.bipush 10, 2) := by decide +kernel
theorem dX1_squawk_51 : decode cX1_squawk 51 = .ok (.iload_n 3, 1) := by decide +kernel
theorem dX1_squawk_52 : decode cX1_squawk 52 = .ok (.imul, 1) := by decide +kernel
theorem dX1_squawk_53 : decode cX1_squawk 53 = .ok (.iadd, 1) := by decide +kernel
theorem dX1_squawk_54 : decode cX1_squawk 54 = .ok (.iload 4, 2) := by decide +kernel
theorem dX1_squawk_56 : decode cX1_squawk 56 = .ok (.iadd, 1) := by decide +kernel
theorem dX1_squawk_57 : decode cX1_squawk 57 = .ok (.ireturn, 1) := by decide +kernel
theorem dX1_three_0 : decode cX1_three 0 = .ok (.iload_n 0, 1) := by decide +kernel
theorem dX1_three_1 : decode cX1_three 1 = .ok (.iload_n 1, 1) := by decide +kernel
theorem dX1_three_2 : decode cX1_three 2 = .ok (.ishr, 1) := by decide +kernel
theorem dX1_three_3 : decode cX1_three 3 = .ok (.iconst 1, 1) := by decide +kernel
theorem dX1_three_4 : decode cX1_three 4 = .ok (.iand, 1) := by decide +kernel
theorem dX1_three_5 : decode cX1_three 5 = .ok (.iconst 2, 1) := by decide +kernel
theorem dX1_three_6 : decode cX1_three 6 = .ok (.ishl, 1) := by decide +kernel
theorem dX1_three_7 : decode cX1_three 7 = .ok (.iload_n 0, 1) := by decide +kernel
theorem dX1_three_8 : decode cX1_three 8 = .ok (.iload_n 2, 1) := by decide +kernel
theorem dX1_three_9 : decode cX1_three 9 = .ok (.ishr, 1) := by decide +kernel
theorem dX1_three_10 : decode cX1_three 10 = .ok (.iconst 1, 1) := by decide +kernel
theorem dX1_three_11 : decode cX1_three 11 = .ok (.iand, 1) := by decide +kernel
theorem dX1_three_12 : decode cX1_three 12 = .ok (.iconst 1, 1) := by decide +kernel
theorem dX1_three_13 : decode cX1_three 13 = .ok (.ishl, 1) := by decide +kernel
theorem dX1_three_14 : decode cX1_three 14 = .ok (.ior, 1) := by decide +kernel
theorem dX1_three_15 : decode cX1_three 15 = .ok (.iload_n 0, 1) := by decide +kernel
theorem dX1_three_16 : decode cX1_three 16 = .ok (.iload_n 3, 1) := by decide +kernel
theorem dX1_three_17 : decode cX1_three 17 = .ok (.ishr, 1) := by decide +kernel
theorem dX1_three_18 : decode cX1_three 18 = .ok (.iconst 1, 1) := by decide +kernel
theorem dX1_three_19 : decode cX1_three 19 = .ok (.iand, 1) := by decide +kernel
theorem dX1_three_20 : decode cX1_three 20 = .ok (.ior, 1) := by decide +kernel
theorem dX1_three_21 : decode cX1_three 21 = .ok (.ireturn, 1) := by decide +kernel
theorem dX1_letter_0 : decode cX1_letter 0 = .ok (.iload_n 0, 1) := by decide +kernel
theorem dX1_letter_1 : decode cX1_letter 1 = .ok (.iconst 1, 1) := by decide +kernel
theorem dX1_letter_2 : decode cX1_letter 2 = .ok (.if_icmp .lt 16, 3) := by decide +kernel
theorem dX1_letter_5 : decode cX1_letter 5 = .ok (.iload_n 0, 1) := by decide +kernel
theorem dX1_letter_6 : decode cX1_letter 6 = .ok (.bipush 26, 2) := by decide +kernel
theorem dX1_letter_8 : decode cX1_letter 8 = .ok (.if_icmp .gt 10, 3) := by decide +kernel
theorem dX1_letter_11 : decode cX1_letter 11 = .ok (.bipush 65, 2) := by decide +kernel
theorem dX1_letter_13 : decode cX1_letter 13 = .ok (.iload_n 0, 1) := by decide +kernel
theorem dX1_letter_14 : decode cX1_letter 14 = .ok (.iadd, 1) := by decide +kernel
theorem dX1_letter_15 : decode cX1_letter 15 = .ok (.iconst 1, 1) := by decide +kernel
theorem dX1_letter_16 : decode cX1_letter 16 = .ok (.isub, 1) := by decide +kernel
theorem dX1_letter_17 : decode cX1_letter 17 = .ok (.ireturn, 1) := by decide +kernel
theorem dX1_letter_18 : decode cX1_letter 18 = .ok (.iload_n 0, 1) := by decide +kernel
theorem dX1_letter_19 : decode cX1_letter 19 = .ok (.bipush 32, 2) := by decide +kernel
theorem dX1_letter_21 : decode cX1_letter 21 = .ok (.if_icmp .eq 15, 3) := by decide +kernel
theorem dX1_letter_24 : decode cX1_letter 24 = .ok (.iload_n 0, 1) := by decide +kernel
theorem dX1_letter_25 : decode cX1_letter 25 = .ok (.bipush 48, 2) := by decide +kernel
theorem dX1_letter_27 : decode cX1_letter 27 = .ok (.if_icmp .lt 13, 3) := by decide +kernel
theorem dX1_letter_30 : decode cX1_letter 30 = .ok (.iload_n 0, 1) := by decide +kernel
theorem dX1_letter_31 : decode cX1_letter 31 = .ok (.bipush 57, 2) := by decide +kernel
theorem dX1_letter_33 : decode cX1_letter 33 = .ok (.if_icmp .gt 7, 3) := by decide +kernel
theorem dX1_letter_36 : decode cX1_letter 36 = .ok (.iconst 1, 1) := by decide +kernel
theorem dX1_letter_37 : decode cX1_letter 37 = .ok (.goto 4, 3) := by decide +kernel
theorem dX1_letter_40 : decode cX1_letter 40 = .ok (.iconst 0, 1) := by decide +kernel
theorem dX1_letter_41 : decode cX1_letter 41 = .ok (.istore_n 1, 1) := by decide +kernel
theorem dX1_letter_42 : decode cX1_letter 42 = .ok (.iload_n 1, 1) := by decide +kernel
theorem dX1_letter_43 : decode cX1_letter 43 = .ok (.ifCond .eq 7, 3) := by decide +kernel
theorem dX1_letter_46 : decode cX1_letter 46 = .ok (.iload_n 0, 1) := by decide +kernel
theorem dX1_letter_47 : decode cX1_letter 47 = .ok (.goto 5, 3) := by decide +kernel
theorem dX1_letter_50 : decode cX1_letter 50 = .ok (.bipush 63, 2) := by decide +kernel
theorem dX1_letter_52 : decode cX1_letter 52 = .ok (.ireturn, 1) := by decide +kernel
theorem dX1_groundSpeed_0 : decode cX1_groundSpeed 0 = .ok (.iload_n 0, 1) := by decide +kernel
theorem dX1_groundSpeed_1 : decode cX1_groundSpeed 1 = .ok (.iconst 1, 1) := by decide +kernel
theorem dX1_groundSpeed_2 : decode cX1_groundSpeed 2 = .ok (.if_icmp .lt 9, 3) := by decide +kernel
theorem dX1_groundSpeed_5 : decode cX1_groundSpeed 5 = .ok (.iload_n 0, 1) := by decide +kernel
theorem dX1_groundSpeed_6 : decode cX1_groundSpeed 6 = .ok (.bipush 124, 2) := by decide +kernel
theorem dX1_groundSpeed_8 : decode cX1_groundSpeed 8 = .ok (.if_icmp .le 6, 3) := by decide +kernel
theorem dX1_groundSpeed_11 : decode cX1_groundSpeed 11 = .ok (.ldc 11, 2) := by decide +kernel
theorem dX1_groundSpeed_13 : decode cX1_groundSpeed 13 = .ok (.ireturn, 1) := by decide +kernel
theorem dX1_groundSpeed_14 : decode cX1_groundSpeed 14 = .ok (.iload_n 0, 1) := by decide +kernel
theorem dX1_groundSpeed_15 : decode cX1_groundSpeed 15 = .ok (.bipush 9, 2) := by decide +kernel
theorem dX1_groundSpeed_17 : decode cX1_groundSpeed 17 = .ok (.if_icmp .ge 7, 3) := by decide +kernel
theorem dX1_groundSpeed_20 : decode cX1_groundSpeed 20 = .ok (.iload_n 0, 1) := by decide +kernel
theorem dX1_groundSpeed_21 : decode cX1_groundSpeed 21 = .ok (.iconst 1, 1) := by decide +kernel
theorem dX1_groundSpeed_22 : decode cX1_groundSpeed 22 = .ok (.isub, 1) := by decide +kernel
theorem dX1_groundSpeed_23 : decode cX1_groundSpeed 23 = .ok (.ireturn, 1) := by decide +kernel
theorem dX1_groundSpeed_24 : decode cX1_groundSpeed 24 = .ok (.iload_n 0, 1) := by decide +kernel
theorem dX1_groundSpeed_25 : decode cX1_groundSpeed 25 = .ok (.bipush 13, 2) := by decide +kernel
theorem dX1_groundSpeed_27 : decode cX1_groundSpeed 27 = .ok (.if_icmp .ge 13, 3) := by decide +kernel
theorem dX1_groundSpeed_30 : decode cX1_groundSpeed 30 = .ok (.bipush 8, 2) := by decide +kernel
theorem dX1_groundSpeed_32 : decode cX1_groundSpeed 32 = .ok (.iconst 2, 1) := by decide +kernel
theorem dX1_groundSpeed_33 : decode cX1_groundSpeed 33 = .ok (.iload_n 0, 1) := by decide +kernel
theorem dX1_groundSpeed_34 : decode cX1_groundSpeed 34 = .ok (.bipush 9, 2) := by decide +kernel
theorem dX1_groundSpeed_36 : decode cX1_groundSpeed 36 = .ok (.isub, 1) := by decide +kernel
theorem dX1_groundSpeed_37 : decode cX1_groundSpeed 37 = .ok (.imul, 1) := by decide +kernel
theorem dX1_groundSpeed_38 : decode cX1_groundSpeed 38 = .ok (.iadd, 1) := by decide +kernel
theorem dX1_groundSpeed_39 : decode cX1_groundSpeed 39 = .ok (.ireturn, 1) := by decide +kernel
theorem dX1_groundSpeed_40 : decode cX1_groundSpeed 40 = .ok (.iload_n 0, 1) := by decide +kernel
theorem dX1_groundSpeed_41 : decode cX1_groundSpeed 41 = .ok (.bipush 39, 2) := by decide +kernel
theorem dX1_groundSpeed_43 : decode cX1_groundSpeed 43 = .ok (.if_icmp .ge 13, 3) := by decide +kernel
theorem dX1_groundSpeed_46 : decode cX1_groundSpeed 46 = .ok (.bipush 16, 2) := by decide +kernel
theorem dX1_groundSpeed_48 : decode cX1_groundSpeed 48 = .ok (.iconst 4, 1) := by decide +kernel
theorem dX1_groundSpeed_49 : decode cX1_groundSpeed 49 = .ok (.iload_n 0, 1) := by decide +kernel
theorem dX1_groundSpeed_50 : decode cX1_groundSpeed 50 = .ok (.bipush 13, 2) := by decide +kernel
theorem dX1_groundSpeed_52 : decode cX1_groundSpeed 52 = .ok (.isub, 1) := by decide +kernel
theorem dX1_groundSpeed_53 : decode cX1_groundSpeed 53 = .ok (.imul, 1) := by decide +kernel
theorem dX1_groundSpeed_54 : decode cX1_groundSpeed 54 = .ok (.iadd, 1) := by decide +kernel
theorem dX1_groundSpeed_55 : decode cX1_groundSpeed 55 = .ok (.ireturn, 1) := by decide +kernel
theorem dX1_groundSpeed_56 : decode cX1_groundSpeed 56 = .ok (.iload_n 0, 1) := by decide +kernel
theorem dX1_groundSpeed_57 : decode cX1_groundSpeed 57 = .ok (.bipush 94, 2) := by decide +kernel
theorem dX1_groundSpeed_59 : decode cX1_groundSpeed 59 = .ok (.if_icmp .ge 14, 3) := by decide +kernel
theorem dX1_groundSpeed_62 : decode cX1_groundSpeed 62 = .ok (.bipush 120, 2) := by decide +kernel
theorem dX1_groundSpeed_64 : decode cX1_groundSpeed 64 = .ok (.bipush 8, 2) := by decide +kernel
theorem dX1_groundSpeed_66 : decode cX1_groundSpeed 66 = .ok (.iload_n 0, 1) := by decide +kernel
theorem dX1_groundSpeed_67 : decode cX1_groundSpeed 67 = .ok (.bipush 39, 2) := by decide +kernel
theorem dX1_groundSpeed_69 : decode cX1_groundSpeed 69 = .ok (.isub, 1) := by decide +kernel
theorem dX1_groundSpeed_70 : decode cX1_groundSpeed 70 = .ok (.imul, 1) := by decide +kernel
theorem dX1_groundSpeed_71 : decode cX1_groundSpeed 71 = .ok (.iadd, 1) := by decide +kernel
theorem dX1_groundSpeed_72 : decode cX1_groundSpeed 72 = .ok (.ireturn, 1) := by decide +kernel
theorem dX1_groundSpeed_73 : decode cX1_groundSpeed 73 = .ok (.iload_n 0, 1) := by decide +kernel
theorem dX1_groundSpeed_74 : decode cX1_groundSpeed 74 = .ok (.bipush 109, 2) := by decide +kernel
theorem dX1_groundSpeed_76 : decode cX1_groundSpeed 76 = .ok (.if_icmp .ge 15, 3) := by decide +kernel
theorem dX1_groundSpeed_79 : decode cX1_groundSpeed 79 = .ok (.sipush 560, 3) := by decide +kernel
theorem dX1_groundSpeed_82 : decode cX1_groundSpeed 82 = .ok (.bipush 16, 2) := by decide +kernel
theorem dX1_groundSpeed_84 : decode cX1_groundSpeed 84 = .ok (.iload_n 0, 1) := by decide +kernel
theorem dX1_groundSpeed_85 : decode cX1_groundSpeed 85 = .ok (.bipush 94, 2) := by decide +kernel
theorem dX1_groundSpeed_87 : decode cX1_groundSpeed 87 = .ok (.isub, 1) := by decide +kernel
theorem dX1_groundSpeed_88 : decode cX1_groundSpeed 88 = .ok (.imul, 1) := by decide +kernel
theorem dX1_groundSpeed_89 : decode cX1_groundSpeed 89 = .ok (.iadd, 1) := by decide +kernel
theorem dX1_groundSpeed_90 : decode cX1_groundSpeed 90 = .ok (.ireturn, 1) := by decide +kernel
theorem dX1_groundSpeed_91 : decode cX1_groundSpeed 91 = .ok (.sipush 800, 3) := by decide +kernel
theorem dX1_groundSpeed_94 : decode cX1_groundSpeed 94 = .ok (.bipush 40, 2) := by decide +kernel
theorem dX1_groundSpeed_96 : decode cX1_groundSpeed 96 = .ok (.iload_n 0, 1) := by decide +kernel
theorem dX1_groundSpeed_97 : decode cX1_groundSpeed 97 = .ok (.bipush 109, 2) := by decide +kernel
theorem dX1_groundSpeed_99 : decode cX1_groundSpeed 99 = .ok (.isub, 1) := by decide +kernel
theorem dX1_groundSpeed_100 : decode cX1_groundSpeed 100 = .ok (.imul, 1) := by decide +kernel
theorem dX1_groundSpeed_101 : decode cX1_groundSpeed 101 = .ok (.iadd, 1) := by decide +kernel
theorem dX1_groundSpeed_102 : decode cX1_groundSpeed 102 = .ok (.ireturn, 1) := by decide +kernel
theorem dX1_lessOne_0 : decode cX1_lessOne 0 = .ok (.iload_n 0, 1) := by decide +kernel
theorem dX1_lessOne_1 : decode cX1_lessOne 1 = .ok (.ifCond .ne 6, 3) := by decide +kernel
theorem dX1_lessOne_4 : decode cX1_lessOne 4 = .ok (.ldc 11, 2) := by decide +kernel
theorem dX1_lessOne_6 : decode cX1_lessOne 6 = .ok (.ireturn, 1) := by decide +kernel
theorem dX1_lessOne_7 : decode cX1_lessOne 7 = .ok (.iload_n 2, 1) := by decide +kernel
theorem dX1_lessOne_8 : decode cX1_lessOne 8 = .ok (.iconst 1, 1) := by decide +kernel
theorem dX1_lessOne_9 : decode cX1_lessOne 9 = .ok (.if_icmp .ne 12, 3) := by decide +kernel
theorem dX1_lessOne_12 : decode cX1_lessOne 12 = .ok (.iload_n 1, 1) := by decide +kernel
theorem dX1_lessOne_13 : decode cX1_lessOne 13 = .ok (.ineg, 1) := by decide +kernel
theorem dX1_lessOne_14 : decode cX1_lessOne 14 = .ok (.iload_n 0, 1) := by decide +kernel
theorem dX1_lessOne_15 : decode cX1_lessOne 15 = .ok (.iconst 1, 1) := by decide +kernel
theorem dX1_lessOne_16 : decode cX1_lessOne 16 = .ok (.isub, 1) := by decide +kernel
theorem dX1_lessOne_17 : decode cX1_lessOne 17 = .ok (.imul, 1) := by decide +kernel
theorem dX1_lessOne_18 : decode cX1_lessOne 18 = .ok (.goto 8, 3) := by decide +kernel
theorem dX1_lessOne_21 : decode cX1_lessOne 21 = .ok (.iload_n 1, 1) := by decide +kernel
theorem dX1_lessOne_22 : decode cX1_lessOne 22 = .ok (.iload_n 0, 1) := by decide +kernel
theorem dX1_lessOne_23 : decode cX1_lessOne 23 = .ok (.iconst 1, 1) := by decide +kernel
theorem dX1_lessOne_24 : decode cX1_lessOne 24 = .ok (.isub, 1) := by decide +kernel
theorem dX1_lessOne_25 : decode cX1_lessOne 25 = .ok (.imul, 1) := by decide +kernel
theorem dX1_lessOne_26 : decode cX1_lessOne 26 = .ok (.ireturn, 1) := by decide +kernel
theorem dX1_speedOf_0 : decode cX1_speedOf 0 = .ok (.iload_n 0, 1) := by decide +kernel
theorem dX1_speedOf_1 : decode cX1_speedOf 1 = .ok (.ldc 11, 2) := by decide +kernel
theorem dX1_speedOf_3 : decode cX1_speedOf 3 = .ok (.if_icmp .eq 9, 3) := by decide +kernel
theorem dX1_speedOf_6 : decode cX1_speedOf 6 = .ok (.iload_n 1, 1) := by decide +kernel
theorem dX1_speedOf_7 : decode cX1_speedOf 7 = .ok (.ldc 11, 2) := by decide +kernel
theorem dX1_speedOf_9 : decode cX1_speedOf 9 = .ok (.if_icmp .ne 6, 3) := by decide +kernel
theorem dX1_speedOf_12 : decode cX1_speedOf 12 = .ok (.ldc 11, 2) := by decide +kernel
theorem dX1_speedOf_14 : decode cX1_speedOf 14 = .ok (.ireturn, 1) := by decide +kernel
theorem dX1_speedOf_15 : decode cX1_speedOf 15 = .ok (.ldc2_w 23, 3) := by decide +kernel
theorem dX1_speedOf_18 : decode cX1_speedOf 18 = .ok (.iload_n 0, 1) := by decide +kernel
theorem dX1_speedOf_19 : decode cX1_speedOf 19 = .ok (.i2l, 1) := by decide +kernel
theorem dX1_speedOf_20 : decode cX1_speedOf 20 = .ok (.iload_n 0, 1) := by decide +kernel
theorem dX1_speedOf_21 : decode cX1_speedOf 21 = .ok (.i2l, 1) := by decide +kernel
theorem dX1_speedOf_22 : decode cX1_speedOf 22 = .ok (.lmul, 1) := by decide +kernel
theorem dX1_speedOf_23 : decode cX1_speedOf 23 = .ok (.iload_n 1, 1) := by decide +kernel
theorem dX1_speedOf_24 : decode cX1_speedOf 24 = .ok (.i2l, 1) := by decide +kernel
theorem dX1_speedOf_25 : decode cX1_speedOf 25 = .ok (.iload_n 1, 1) := by decide +kernel
theorem dX1_speedOf_26 : decode cX1_speedOf 26 = .ok (.i2l, 1) := by decide +kernel
theorem dX1_speedOf_27 : decode cX1_speedOf 27 = .ok (.lmul, 1) := by decide +kernel
theorem dX1_speedOf_28 : decode cX1_speedOf 28 = .ok (.ladd, 1) := by decide +kernel
theorem dX1_speedOf_29 : decode cX1_speedOf 29 = .ok (.lmul, 1) := by decide +kernel
theorem dX1_speedOf_30 : decode cX1_speedOf 30 = .ok (.invokestatic 25, 3) := by decide +kernel
theorem dX1_speedOf_33 : decode cX1_speedOf 33 = .ok (.ireturn, 1) := by decide +kernel
theorem dX1_root_0 : decode cX1_root 0 = .ok (.lconst 0, 1) := by decide +kernel
theorem dX1_root_1 : decode cX1_root 1 = .ok (.lstore_n 2, 1) := by decide +kernel
theorem dX1_root_2 : decode cX1_root 2 = .ok (.bipush 15, 2) := by decide +kernel
theorem dX1_root_4 : decode cX1_root 4 = .ok (.istore 4, 2) := by decide +kernel
theorem dX1_root_6 : decode cX1_root 6 = .ok (.iload 4, 2) := by decide +kernel
theorem dX1_root_8 : decode cX1_root 8 = .ok (.ifCond .lt 30, 3) := by decide +kernel
theorem dX1_root_11 : decode cX1_root 11 = .ok (.lload_n 2, 1) := by decide +kernel
theorem dX1_root_12 : decode cX1_root 12 = .ok (.lconst 1, 1) := by decide +kernel
theorem dX1_root_13 : decode cX1_root 13 = .ok (.iload 4, 2) := by decide +kernel
theorem dX1_root_15 : decode cX1_root 15 = .ok (.lshl, 1) := by decide +kernel
theorem dX1_root_16 : decode cX1_root 16 = .ok (.ladd, 1) := by decide +kernel
theorem dX1_root_17 : decode cX1_root 17 = .ok (.lstore 5, 2) := by decide +kernel
theorem dX1_root_19 : decode cX1_root 19 = .ok (.lload 5, 2) := by decide +kernel
theorem dX1_root_21 : decode cX1_root 21 = .ok (.lload 5, 2) := by decide +kernel
theorem dX1_root_23 : decode cX1_root 23 = .ok (.lmul, 1) := by decide +kernel
theorem dX1_root_24 : decode cX1_root 24 = .ok (.lload_n 0, 1) := by decide +kernel
theorem dX1_root_25 : decode cX1_root 25 = .ok (.lcmp, 1) := by decide +kernel
theorem dX1_root_26 : decode cX1_root 26 = .ok (.ifCond .gt 6, 3) := by decide +kernel
theorem dX1_root_29 : decode cX1_root 29 = .ok (.lload 5, 2) := by decide +kernel
theorem dX1_root_31 : decode cX1_root 31 = .ok (.lstore_n 2, 1) := by decide +kernel
theorem dX1_root_32 : decode cX1_root 32 = .ok (.iinc 4 (-1), 3) := by decide +kernel
theorem dX1_root_35 : decode cX1_root 35 = .ok (.goto (-29), 3) := by decide +kernel
theorem dX1_root_38 : decode cX1_root 38 = .ok (.lload_n 2, 1) := by decide +kernel
theorem dX1_root_39 : decode cX1_root 39 = .ok (.l2i, 1) := by decide +kernel
theorem dX1_root_40 : decode cX1_root 40 = .ok (.ireturn, 1) := by decide +kernel
theorem dX2_isPlace_0 : decode cX2_isPlace 0 = .ok (.iload_n 0, 1) := by decide +kernel
theorem dX2_isPlace_1 : decode cX2_isPlace 1 = .ok (.i2l, 1) := by decide +kernel
theorem dX2_isPlace_2 : decode cX2_isPlace 2 = .ok (.ldc2_w 11, 3) := by decide +kernel
theorem dX2_isPlace_5 : decode cX2_isPlace 5 = .ok (.lcmp, 1) := by decide +kernel
theorem dX2_isPlace_6 : decode cX2_isPlace 6 = .ok (.ifCond .lt 34, 3) := by decide +kernel
theorem dX2_isPlace_9 : decode cX2_isPlace 9 = .ok (.iload_n 0, 1) := by decide +kernel
theorem dX2_isPlace_10 : decode cX2_isPlace 10 = .ok (.i2l, 1) := by decide +kernel
theorem dX2_isPlace_11 : decode cX2_isPlace 11 = .ok (.ldc2_w 13, 3) := by decide +kernel
theorem dX2_isPlace_14 : decode cX2_isPlace 14 = .ok (.lcmp, 1) := by decide +kernel
theorem dX2_isPlace_15 : decode cX2_isPlace 15 = .ok (.ifCond .gt 25, 3) := by decide +kernel
theorem dX2_isPlace_18 : decode cX2_isPlace 18 = .ok (.iload_n 1, 1) := by decide +kernel
theorem dX2_isPlace_19 : decode cX2_isPlace 19 = .ok (.i2l, 1) := by decide +kernel
theorem dX2_isPlace_20 : decode cX2_isPlace 20 = .ok (.ldc2_w 15, 3) := by decide +kernel
theorem dX2_isPlace_23 : decode cX2_isPlace 23 = .ok (.lcmp, 1) := by decide +kernel
theorem dX2_isPlace_24 : decode cX2_isPlace 24 = .ok (.ifCond .lt 16, 3) := by decide +kernel
theorem dX2_isPlace_27 : decode cX2_isPlace 27 = .ok (.iload_n 1, 1) := by decide +kernel
theorem dX2_isPlace_28 : decode cX2_isPlace 28 = .ok (.i2l, 1) := by decide +kernel
theorem dX2_isPlace_29 : decode cX2_isPlace 29 = .ok (.ldc2_w 17, 3) := by decide +kernel
theorem dX2_isPlace_32 : decode cX2_isPlace 32 = .ok (.lcmp, 1) := by decide +kernel
theorem dX2_isPlace_33 : decode cX2_isPlace 33 = .ok (.ifCond .ge 7, 3) := by decide +kernel
theorem dX2_isPlace_36 : decode cX2_isPlace 36 = .ok (.iconst 1, 1) := by decide +kernel
theorem dX2_isPlace_37 : decode cX2_isPlace 37 = .ok (.goto 4, 3) := by decide +kernel
theorem dX2_isPlace_40 : decode cX2_isPlace 40 = .ok (.iconst 0, 1) := by decide +kernel
theorem dX2_isPlace_41 : decode cX2_isPlace 41 = .ok (.ireturn, 1) := by decide +kernel
theorem dX2_isCode_0 : decode cX2_isCode 0 = .ok (.lload_n 0, 1) := by decide +kernel
theorem dX2_isCode_1 : decode cX2_isCode 1 = .ok (.lconst 0, 1) := by decide +kernel
theorem dX2_isCode_2 : decode cX2_isCode 2 = .ok (.lcmp, 1) := by decide +kernel
theorem dX2_isCode_3 : decode cX2_isCode 3 = .ok (.ifCond .lt 15, 3) := by decide +kernel
theorem dX2_isCode_6 : decode cX2_isCode 6 = .ok (.lload_n 0, 1) := by decide +kernel
theorem dX2_isCode_7 : decode cX2_isCode 7 = .ok (.ldc2_w 19, 3) := by decide +kernel
theorem dX2_isCode_10 : decode cX2_isCode 10 = .ok (.lcmp, 1) := by decide +kernel
theorem dX2_isCode_11 : decode cX2_isCode 11 = .ok (.ifCond .ge 7, 3) := by decide +kernel
theorem dX2_isCode_14 : decode cX2_isCode 14 = .ok (.iconst 1, 1) := by decide +kernel
theorem dX2_isCode_15 : decode cX2_isCode 15 = .ok (.goto 4, 3) := by decide +kernel
theorem dX2_isCode_18 : decode cX2_isCode 18 = .ok (.iconst 0, 1) := by decide +kernel
theorem dX2_isCode_19 : decode cX2_isCode 19 = .ok (.ireturn, 1) := by decide +kernel
theorem dX2_pack_0 : decode cX2_pack 0 = .ok (.lload_n 0, 1) := by decide +kernel
theorem dX2_pack_1 : decode cX2_pack 1 = .ok (.bipush 32, 2) := by decide +kernel
theorem dX2_pack_3 : decode cX2_pack 3 = .ok (.lshl, 1) := by decide +kernel
theorem dX2_pack_4 : decode cX2_pack 4 = .ok (.lload_n 2, 1) := by decide +kernel
theorem dX2_pack_5 : decode cX2_pack 5 = .ok (.ldc2_w 21, 3) := by decide +kernel
theorem dX2_pack_8 : decode cX2_pack 8 = .ok (.land, 1) := by decide +kernel
theorem dX2_pack_9 : decode cX2_pack 9 = .ok (.lor, 1) := by decide +kernel
theorem dX2_pack_10 : decode cX2_pack 10 = .ok (.lreturn, 1) := by decide +kernel
theorem dX2_latitudeOf_0 : decode cX2_latitudeOf 0 = .ok (.lload_n 0, 1) := by decide +kernel
theorem dX2_latitudeOf_1 : decode cX2_latitudeOf 1 = .ok (.bipush 32, 2) := by decide +kernel
theorem dX2_latitudeOf_3 : decode cX2_latitudeOf 3 = .ok (.lshr, 1) := by decide +kernel
theorem dX2_latitudeOf_4 : decode cX2_latitudeOf 4 = .ok (.l2i, 1) := by decide +kernel
theorem dX2_latitudeOf_5 : decode cX2_latitudeOf 5 = .ok (.ireturn, 1) := by decide +kernel
theorem dX2_longitudeOf_0 : decode cX2_longitudeOf 0 = .ok (.lload_n 0, 1) := by decide +kernel
theorem dX2_longitudeOf_1 : decode cX2_longitudeOf 1 = .ok (.l2i, 1) := by decide +kernel
theorem dX2_longitudeOf_2 : decode cX2_longitudeOf 2 = .ok (.ireturn, 1) := by decide +kernel
theorem dX2_zoneCount_0 : decode cX2_zoneCount 0 = .ok (.lload_n 0, 1) := by decide +kernel
theorem dX2_zoneCount_1 : decode cX2_zoneCount 1 = .ok (.invokestatic 23, 3) := by decide +kernel
theorem dX2_zoneCount_4 : decode cX2_zoneCount 4 = .ok (.lstore 4, 2) := by decide +kernel
theorem dX2_zoneCount_6 : decode cX2_zoneCount 6 = .ok (.iconst 0, 1) := by decide +kernel
theorem dX2_zoneCount_7 : decode cX2_zoneCount 7 = .ok (.istore 6, 2) := by decide +kernel
theorem dX2_zoneCount_9 : decode cX2_zoneCount 9 = .ok (.iload 6, 2) := by decide +kernel
theorem dX2_zoneCount_11 : decode cX2_zoneCount 11 = .ok (.getstatic 29, 3) := by decide +kernel
theorem dX2_zoneCount_14 : decode cX2_zoneCount 14 = .ok (.arraylength, 1) := by decide +kernel
theorem dX2_zoneCount_15 : decode cX2_zoneCount 15 = .ok (.if_icmp .ge 29, 3) := by decide +kernel
theorem dX2_zoneCount_18 : decode cX2_zoneCount 18 = .ok (.lload 4, 2) := by decide +kernel
theorem dX2_zoneCount_20 : decode cX2_zoneCount 20 = .ok (.getstatic 29, 3) := by decide +kernel
theorem dX2_zoneCount_23 : decode cX2_zoneCount 23 = .ok (.iload 6, 2) := by decide +kernel
theorem dX2_zoneCount_25 : decode cX2_zoneCount 25 = .ok (.laload, 1) := by decide +kernel
theorem dX2_zoneCount_26 : decode cX2_zoneCount 26 = .ok (.lload_n 2, 1) := by decide +kernel
theorem dX2_zoneCount_27 : decode cX2_zoneCount 27 = .ok (.lmul, 1) := by decide +kernel
theorem dX2_zoneCount_28 : decode cX2_zoneCount 28 = .ok (.lcmp, 1) := by decide +kernel
theorem dX2_zoneCount_29 : decode cX2_zoneCount 29 = .ok (.ifCond .ge 9, 3) := by decide +kernel
theorem dX2_zoneCount_32 : decode cX2_zoneCount 32 = .ok (.bipush 59, 2) := by decide +kernel
theorem dX2_zoneCount_34 : decode cX2_zoneCount 34 = .ok (.iload 6, 2) := by decide +kernel
theorem dX2_zoneCount_36 : decode cX2_zoneCount 36 = .ok (.isub, 1) := by decide +kernel
theorem dX2_zoneCount_37 : decode cX2_zoneCount 37 = .ok (.ireturn, 1) := by decide +kernel
theorem dX2_zoneCount_38 : decode cX2_zoneCount 38 = .ok (.iinc 6 1, 3) := by decide +kernel
theorem dX2_zoneCount_41 : decode cX2_zoneCount 41 = .ok (.goto (-32), 3) := by decide +kernel
theorem dX2_zoneCount_44 : decode cX2_zoneCount 44 = .ok (.lload 4, 2) := by decide +kernel
theorem dX2_zoneCount_46 : decode cX2_zoneCount 46 = .ok (.ldc2_w 33, 3) := by decide +kernel
theorem dX2_zoneCount_49 : decode cX2_zoneCount 49 = .ok (.lload_n 2, 1) := by decide +kernel
theorem dX2_zoneCount_50 : decode cX2_zoneCount 50 = .ok (.lmul, 1) := by decide +kernel
theorem dX2_zoneCount_51 : decode cX2_zoneCount 51 = .ok (.lcmp, 1) := by decide +kernel
theorem dX2_zoneCount_52 : decode cX2_zoneCount 52 = .ok (.ifCond .gt 7, 3) := by decide +kernel
theorem dX2_zoneCount_55 : decode cX2_zoneCount 55 = .ok (.iconst 2, 1) := by decide +kernel
theorem dX2_zoneCount_56 : decode cX2_zoneCount 56 = .ok (.goto 4, 3) := by decide +kernel
theorem dX2_zoneCount_59 : decode cX2_zoneCount 59 = .ok (.iconst 1, 1) := by decide +kernel
theorem dX2_zoneCount_60 : decode cX2_zoneCount 60 = .ok (.ireturn, 1) := by decide +kernel
theorem dX2_code_0 : decode cX2_code 0 = .ok (.iload_n 2, 1) := by decide +kernel
theorem dX2_code_1 : decode cX2_code 1 = .ok (.invokestatic 35, 3) := by decide +kernel
theorem dX2_code_4 : decode cX2_code 4 = .ok (.lstore 4, 2) := by decide +kernel
theorem dX2_code_6 : decode cX2_code 6 = .ok (.iload_n 3, 1) := by decide +kernel
theorem dX2_code_7 : decode cX2_code 7 = .ok (.invokestatic 39, 3) := by decide +kernel
theorem dX2_code_10 : decode cX2_code 10 = .ok (.lstore 6, 2) := by decide +kernel
theorem dX2_code_12 : decode cX2_code 12 = .ok (.iload_n 0, 1) := by decide +kernel
theorem dX2_code_13 : decode cX2_code 13 = .ok (.i2l, 1) := by decide +kernel
theorem dX2_code_14 : decode cX2_code 14 = .ok (.lload 6, 2) := by decide +kernel
theorem dX2_code_16 : decode cX2_code 16 = .ok (.lload 4, 2) := by decide +kernel
theorem dX2_code_18 : decode cX2_code 18 = .ok (.invokestatic 42, 3) := by decide +kernel
theorem dX2_code_21 : decode cX2_code 21 = .ok (.lstore 8, 2) := by decide +kernel
theorem dX2_code_23 : decode cX2_code 23 = .ok (.lload 8, 2) := by decide +kernel
theorem dX2_code_25 : decode cX2_code 25 = .ok (.lload 6, 2) := by decide +kernel
theorem dX2_code_27 : decode cX2_code 27 = .ok (.lload 4, 2) := by decide +kernel
theorem dX2_code_29 : decode cX2_code 29 = .ok (.invokestatic 46, 3) := by decide +kernel
theorem dX2_code_32 : decode cX2_code 32 = .ok (.iload_n 3, 1) := by decide +kernel
theorem dX2_code_33 : decode cX2_code 33 = .ok (.invokestatic 50, 3) := by decide +kernel
theorem dX2_code_36 : decode cX2_code 36 = .ok (.lstore 10, 2) := by decide +kernel
theorem dX2_code_38 : decode cX2_code 38 = .ok (.iload_n 1, 1) := by decide +kernel
theorem dX2_code_39 : decode cX2_code 39 = .ok (.i2l, 1) := by decide +kernel
theorem dX2_code_40 : decode cX2_code 40 = .ok (.lload 10, 2) := by decide +kernel
theorem dX2_code_42 : decode cX2_code 42 = .ok (.lload 4, 2) := by decide +kernel
theorem dX2_code_44 : decode cX2_code 44 = .ok (.invokestatic 42, 3) := by decide +kernel
theorem dX2_code_47 : decode cX2_code 47 = .ok (.lstore 12, 2) := by decide +kernel
theorem dX2_code_49 : decode cX2_code 49 = .ok (.ldc2_w 54, 3) := by decide +kernel
theorem dX2_code_52 : decode cX2_code 52 = .ok (.lload 8, 2) := by decide +kernel
theorem dX2_code_54 : decode cX2_code 54 = .ok (.ldc2_w 54, 3) := by decide +kernel
theorem dX2_code_57 : decode cX2_code 57 = .ok (.invokestatic 56, 3) := by decide +kernel
theorem dX2_code_60 : decode cX2_code 60 = .ok (.lmul, 1) := by decide +kernel
theorem dX2_code_61 : decode cX2_code 61 = .ok (.lload 12, 2) := by decide +kernel
theorem dX2_code_63 : decode cX2_code 63 = .ok (.ldc2_w 54, 3) := by decide +kernel
theorem dX2_code_66 : decode cX2_code 66 = .ok (.invokestatic 56, 3) := by decide +kernel
theorem dX2_code_69 : decode cX2_code 69 = .ok (.ladd, 1) := by decide +kernel
theorem dX2_code_70 : decode cX2_code 70 = .ok (.lreturn, 1) := by decide +kernel
theorem dX2_placeOfPair_0 : decode cX2_placeOfPair 0 = .ok (.ldc2_w 60, 3) := by decide +kernel
theorem dX2_placeOfPair_3 : decode cX2_placeOfPair 3 = .ok (.lload_n 0, 1) := by decide +kernel
theorem dX2_placeOfPair_4 : decode cX2_placeOfPair 4 = .ok (.invokestatic 62, 3) := by decide +kernel
theorem dX2_placeOfPair_7 : decode cX2_placeOfPair 7 = .ok (.lmul, 1) := by decide +kernel
theorem dX2_placeOfPair_8 : decode cX2_placeOfPair 8 = .ok (.ldc2_w 65, 3) := by decide +kernel
theorem dX2_placeOfPair_11 : decode cX2_placeOfPair 11 = .ok (.lload_n 2, 1) := by decide +kernel
theorem dX2_placeOfPair_12 : decode cX2_placeOfPair 12 = .ok (.invokestatic 62, 3) := by decide +kernel
theorem dX2_placeOfPair_15 : decode cX2_placeOfPair 15 = .ok (.lmul, 1) := by decide +kernel
theorem dX2_placeOfPair_16 : decode cX2_placeOfPair 16 = .ok (.lsub, 1) := by decide +kernel
theorem dX2_placeOfPair_17 : decode cX2_placeOfPair 17 = .ok (.ldc2_w 67, 3) := by decide +kernel
theorem dX2_placeOfPair_20 : decode cX2_placeOfPair 20 = .ok (.ladd, 1) := by decide +kernel
theorem dX2_placeOfPair_21 : decode cX2_placeOfPair 21 = .ok (.ldc2_w 54, 3) := by decide +kernel
theorem dX2_placeOfPair_24 : decode cX2_placeOfPair 24 = .ok (.invokestatic 69, 3) := by decide +kernel
theorem dX2_placeOfPair_27 : decode cX2_placeOfPair 27 = .ok (.lstore 5, 2) := by decide +kernel
theorem dX2_placeOfPair_29 : decode cX2_placeOfPair 29 = .ok (.lload 5, 2) := by decide +kernel
theorem dX2_placeOfPair_31 : decode cX2_placeOfPair 31 = .ok (.lload_n 0, 1) := by decide +kernel
theorem dX2_placeOfPair_32 : decode cX2_placeOfPair 32 = .ok (.invokestatic 62, 3) := by decide +kernel
theorem dX2_placeOfPair_35 : decode cX2_placeOfPair 35 = .ok (.ldc2_w 65, 3) := by decide +kernel
theorem dX2_placeOfPair_38 : decode cX2_placeOfPair 38 = .ok (.invokestatic 72, 3) := by decide +kernel
theorem dX2_placeOfPair_41 : decode cX2_placeOfPair 41 = .ok (.lstore 7, 2) := by decide +kernel
theorem dX2_placeOfPair_43 : decode cX2_placeOfPair 43 = .ok (.lload 5, 2) := by decide +kernel
theorem dX2_placeOfPair_45 : decode cX2_placeOfPair 45 = .ok (.lload_n 2, 1) := by decide +kernel
theorem dX2_placeOfPair_46 : decode cX2_placeOfPair 46 = .ok (.invokestatic 62, 3) := by decide +kernel
theorem dX2_placeOfPair_49 : decode cX2_placeOfPair 49 = .ok (.ldc2_w 60, 3) := by decide +kernel
theorem dX2_placeOfPair_52 : decode cX2_placeOfPair 52 = .ok (.invokestatic 72, 3) := by decide +kernel
theorem dX2_placeOfPair_55 : decode cX2_placeOfPair 55 = .ok (.lstore 9, 2) := by decide +kernel
theorem dX2_placeOfPair_57 : decode cX2_placeOfPair 57 = .ok (.lload 7, 2) := by decide +kernel
theorem dX2_placeOfPair_59 : decode cX2_placeOfPair 59 = .ok (.ldc2_w 65, 3) := by decide +kernel
theorem dX2_placeOfPair_62 : decode cX2_placeOfPair 62 = .ok (.ldc2_w 75, 3) := by decide +kernel
theorem dX2_placeOfPair_65 : decode cX2_placeOfPair 65 = .ok (.invokestatic 77, 3) := by decide +kernel
theorem dX2_placeOfPair_68 : decode cX2_placeOfPair 68 = .ok (.ifCond .ne 17, 3) := by decide +kernel
theorem dX2_placeOfPair_71 : decode cX2_placeOfPair 71 = .ok (.lload 9, 2) := by decide +kernel
theorem dX2_placeOfPair_73 : decode cX2_placeOfPair 73 = .ok (.ldc2_w 60, 3) := by decide +kernel
theorem dX2_placeOfPair_76 : decode cX2_placeOfPair 76 = .ok (.ldc2_w 75, 3) := by decide +kernel
theorem dX2_placeOfPair_79 : decode cX2_placeOfPair 79 = .ok (.invokestatic 77, 3) := by decide +kernel
theorem dX2_placeOfPair_82 : decode cX2_placeOfPair 82 = .ok (.ifCond .eq 7, 3) := by decide +kernel
theorem dX2_placeOfPair_85 : decode cX2_placeOfPair 85 = .ok (.ldc2_w 81, 3) := by decide +kernel
theorem dX2_placeOfPair_88 : decode cX2_placeOfPair 88 = .ok (.lreturn, 1) := by decide +kernel
theorem dX2_placeOfPair_89 : decode cX2_placeOfPair 89 = .ok (.lload 7, 2) := by decide +kernel
theorem dX2_placeOfPair_91 : decode cX2_placeOfPair 91 = .ok (.ldc2_w 65, 3) := by decide +kernel
theorem dX2_placeOfPair_94 : decode cX2_placeOfPair 94 = .ok (.ldc2_w 75, 3) := by decide +kernel
theorem dX2_placeOfPair_97 : decode cX2_placeOfPair 97 = .ok (.invokestatic 46, 3) := by decide +kernel
theorem dX2_placeOfPair_100 : decode cX2_placeOfPair 100 = .ok (.istore 11, 2) := by decide +kernel
theorem dX2_placeOfPair_102 : decode cX2_placeOfPair 102 = .ok (.iload 11, 2) := by decide +kernel
theorem dX2_placeOfPair_104 : decode cX2_placeOfPair 104 = .ok (.lload 9, 2) := by decide +kernel
theorem dX2_placeOfPair_106 : decode cX2_placeOfPair 106 = .ok (.ldc2_w 60, 3) := by decide +kernel
theorem dX2_placeOfPair_109 : decode cX2_placeOfPair 109 = .ok (.ldc2_w 75, 3) := by decide +kernel
theorem dX2_placeOfPair_112 : decode cX2_placeOfPair 112 = .ok (.invokestatic 46, 3) := by decide +kernel
theorem dX2_placeOfPair_115 : decode cX2_placeOfPair 115 = .ok (.if_icmp .eq 7, 3) := by decide +kernel
theorem dX2_placeOfPair_118 : decode cX2_placeOfPair 118 = .ok (.ldc2_w 81, 3) := by decide +kernel
theorem dX2_placeOfPair_121 : decode cX2_placeOfPair 121 = .ok (.lreturn, 1) := by decide +kernel
theorem dX2_placeOfPair_122 : decode cX2_placeOfPair 122 = .ok (.iload 11, 2) := by decide +kernel
theorem dX2_placeOfPair_124 : decode cX2_placeOfPair 124 = .ok (.iload 4, 2) := by decide +kernel
theorem dX2_placeOfPair_126 : decode cX2_placeOfPair 126 = .ok (.invokestatic 50, 3) := by decide +kernel
theorem dX2_placeOfPair_129 : decode cX2_placeOfPair 129 = .ok (.lstore 12, 2) := by decide +kernel
theorem dX2_placeOfPair_131 : decode cX2_placeOfPair 131 = .ok (.lload_n 0, 1) := by decide +kernel
theorem dX2_placeOfPair_132 : decode cX2_placeOfPair 132 = .ok (.invokestatic 83, 3) := by decide +kernel
theorem dX2_placeOfPair_135 : decode cX2_placeOfPair 135 = .ok (.iload 11, 2) := by decide +kernel
theorem dX2_placeOfPair_137 : decode cX2_placeOfPair 137 = .ok (.iconst 1, 1) := by decide +kernel
theorem dX2_placeOfPair_138 : decode cX2_placeOfPair 138 = .ok (.isub, 1) := by decide +kernel
theorem dX2_placeOfPair_139 : decode cX2_placeOfPair 139 = .ok (.i2l, 1) := by decide +kernel
theorem dX2_placeOfPair_140 : decode cX2_placeOfPair 140 = .ok (.lmul, 1) := by decide +kernel
theorem dX2_placeOfPair_141 : decode cX2_placeOfPair 141 = .ok (.lload_n 2, 1) := by decide +kernel
theorem dX2_placeOfPair_142 : decode cX2_placeOfPair 142 = .ok (.invokestatic 83, 3) := by decide +kernel
theorem dX2_placeOfPair_145 : decode cX2_placeOfPair 145 = .ok (.iload 11, 2) := by decide +kernel
theorem dX2_placeOfPair_147 : decode cX2_placeOfPair 147 = .ok (.i2l, 1) := by decide +kernel
theorem dX2_placeOfPair_148 : decode cX2_placeOfPair 148 = .ok (.lmul, 1) := by decide +kernel
theorem dX2_placeOfPair_149 : decode cX2_placeOfPair 149 = .ok (.lsub, 1) := by decide +kernel
theorem dX2_placeOfPair_150 : decode cX2_placeOfPair 150 = .ok (.ldc2_w 67, 3) := by decide +kernel
theorem dX2_placeOfPair_153 : decode cX2_placeOfPair 153 = .ok (.ladd, 1) := by decide +kernel
theorem dX2_placeOfPair_154 : decode cX2_placeOfPair 154 = .ok (.ldc2_w 54, 3) := by decide +kernel
theorem dX2_placeOfPair_157 : decode cX2_placeOfPair 157 = .ok (.invokestatic 69, 3) := by decide +kernel
theorem dX2_placeOfPair_160 : decode cX2_placeOfPair 160 = .ok (.lstore 14, 2) := by decide +kernel
theorem dX2_placeOfPair_162 : decode cX2_placeOfPair 162 = .ok (.ldc2_w 54, 3) := by decide +kernel
theorem dX2_placeOfPair_165 : decode cX2_placeOfPair 165 = .ok (.lload 14, 2) := by decide +kernel
theorem dX2_placeOfPair_167 : decode cX2_placeOfPair 167 = .ok (.lload 12, 2) := by decide +kernel
theorem dX2_placeOfPair_169 : decode cX2_placeOfPair 169 = .ok (.invokestatic 86, 3) := by decide +kernel
theorem dX2_placeOfPair_172 : decode cX2_placeOfPair 172 = .ok (.lmul, 1) := by decide +kernel
theorem dX2_placeOfPair_173 : decode cX2_placeOfPair 173 = .ok (.iload 4, 2) := by decide +kernel
theorem dX2_placeOfPair_175 : decode cX2_placeOfPair 175 = .ok (.ifCond .eq 7, 3) := by decide +kernel
theorem dX2_placeOfPair_178 : decode cX2_placeOfPair 178 = .ok (.lload_n 2, 1) := by decide +kernel
theorem dX2_placeOfPair_179 : decode cX2_placeOfPair 179 = .ok (.goto 4, 3) := by decide +kernel
theorem dX2_placeOfPair_182 : decode cX2_placeOfPair 182 = .ok (.lload_n 0, 1) := by decide +kernel
theorem dX2_placeOfPair_183 : decode cX2_placeOfPair 183 = .ok (.invokestatic 83, 3) := by decide +kernel
theorem dX2_placeOfPair_186 : decode cX2_placeOfPair 186 = .ok (.ladd, 1) := by decide +kernel
theorem dX2_placeOfPair_187 : decode cX2_placeOfPair 187 = .ok (.lstore 16, 2) := by decide +kernel
theorem dX2_placeOfPair_189 : decode cX2_placeOfPair 189 = .ok (.iload 4, 2) := by decide +kernel
theorem dX2_placeOfPair_191 : decode cX2_placeOfPair 191 = .ok (.ifCond .eq 8, 3) := by decide +kernel
theorem dX2_placeOfPair_194 : decode cX2_placeOfPair 194 = .ok (.lload 9, 2) := by decide +kernel
theorem dX2_placeOfPair_196 : decode cX2_placeOfPair 196 = .ok (.goto 5, 3) := by decide +kernel
theorem dX2_placeOfPair_199 : decode cX2_placeOfPair 199 = .ok (.lload 7, 2) := by decide +kernel
theorem dX2_placeOfPair_201 : decode cX2_placeOfPair 201 = .ok (.lload 16, 2) := by decide +kernel
theorem dX2_placeOfPair_203 : decode cX2_placeOfPair 203 = .ok (.lload 12, 2) := by decide +kernel
theorem dX2_placeOfPair_205 : decode cX2_placeOfPair 205 = .ok (.iconst 0, 1) := by decide +kernel
theorem dX2_placeOfPair_206 : decode cX2_placeOfPair 206 = .ok (.iload 4, 2) := by decide +kernel
theorem dX2_placeOfPair_208 : decode cX2_placeOfPair 208 = .ok (.invokestatic 89, 3) := by decide +kernel
theorem dX2_placeOfPair_211 : decode cX2_placeOfPair 211 = .ok (.lreturn, 1) := by decide +kernel
theorem dX2_placeNear_0 : decode cX2_placeNear 0 = .ok (.iload_n 2, 1) := by decide +kernel
theorem dX2_placeNear_1 : decode cX2_placeNear 1 = .ok (.invokestatic 35, 3) := by decide +kernel
theorem dX2_placeNear_4 : decode cX2_placeNear 4 = .ok (.lstore 6, 2) := by decide +kernel
theorem dX2_placeNear_6 : decode cX2_placeNear 6 = .ok (.iload_n 3, 1) := by decide +kernel
theorem dX2_placeNear_7 : decode cX2_placeNear 7 = .ok (.invokestatic 39, 3) := by decide +kernel
theorem dX2_placeNear_10 : decode cX2_placeNear 10 = .ok (.lstore 8, 2) := by decide +kernel
theorem dX2_placeNear_12 : decode cX2_placeNear 12 = .ok (.lload 4, 2) := by decide +kernel
theorem dX2_placeNear_14 : decode cX2_placeNear 14 = .ok (.invokestatic 93, 3) := by decide +kernel
theorem dX2_placeNear_17 : decode cX2_placeNear 17 = .ok (.i2l, 1) := by decide +kernel
theorem dX2_placeNear_18 : decode cX2_placeNear 18 = .ok (.lload_n 0, 1) := by decide +kernel
theorem dX2_placeNear_19 : decode cX2_placeNear 19 = .ok (.invokestatic 62, 3) := by decide +kernel
theorem dX2_placeNear_22 : decode cX2_placeNear 22 = .ok (.lload 8, 2) := by decide +kernel
theorem dX2_placeNear_24 : decode cX2_placeNear 24 = .ok (.lload 6, 2) := by decide +kernel
theorem dX2_placeNear_26 : decode cX2_placeNear 26 = .ok (.invokestatic 97, 3) := by decide +kernel
theorem dX2_placeNear_29 : decode cX2_placeNear 29 = .ok (.lstore 10, 2) := by decide +kernel
theorem dX2_placeNear_31 : decode cX2_placeNear 31 = .ok (.lload 10, 2) := by decide +kernel
theorem dX2_placeNear_33 : decode cX2_placeNear 33 = .ok (.lload 8, 2) := by decide +kernel
theorem dX2_placeNear_35 : decode cX2_placeNear 35 = .ok (.lload 6, 2) := by decide +kernel
theorem dX2_placeNear_37 : decode cX2_placeNear 37 = .ok (.invokestatic 77, 3) := by decide +kernel
theorem dX2_placeNear_40 : decode cX2_placeNear 40 = .ok (.ifCond .eq 7, 3) := by decide +kernel
theorem dX2_placeNear_43 : decode cX2_placeNear 43 = .ok (.ldc2_w 81, 3) := by decide +kernel
theorem dX2_placeNear_46 : decode cX2_placeNear 46 = .ok (.lreturn, 1) := by decide +kernel
theorem dX2_placeNear_47 : decode cX2_placeNear 47 = .ok (.lload 10, 2) := by decide +kernel
theorem dX2_placeNear_49 : decode cX2_placeNear 49 = .ok (.lload 8, 2) := by decide +kernel
theorem dX2_placeNear_51 : decode cX2_placeNear 51 = .ok (.lload 6, 2) := by decide +kernel
theorem dX2_placeNear_53 : decode cX2_placeNear 53 = .ok (.invokestatic 46, 3) := by decide +kernel
theorem dX2_placeNear_56 : decode cX2_placeNear 56 = .ok (.iload_n 3, 1) := by decide +kernel
theorem dX2_placeNear_57 : decode cX2_placeNear 57 = .ok (.invokestatic 50, 3) := by decide +kernel
theorem dX2_placeNear_60 : decode cX2_placeNear 60 = .ok (.lstore 12, 2) := by decide +kernel
theorem dX2_placeNear_62 : decode cX2_placeNear 62 = .ok (.lload 4, 2) := by decide +kernel
theorem dX2_placeNear_64 : decode cX2_placeNear 64 = .ok (.invokestatic 101, 3) := by decide +kernel
theorem dX2_placeNear_67 : decode cX2_placeNear 67 = .ok (.i2l, 1) := by decide +kernel
theorem dX2_placeNear_68 : decode cX2_placeNear 68 = .ok (.lload_n 0, 1) := by decide +kernel
theorem dX2_placeNear_69 : decode cX2_placeNear 69 = .ok (.invokestatic 83, 3) := by decide +kernel
theorem dX2_placeNear_72 : decode cX2_placeNear 72 = .ok (.lload 12, 2) := by decide +kernel
theorem dX2_placeNear_74 : decode cX2_placeNear 74 = .ok (.lload 6, 2) := by decide +kernel
theorem dX2_placeNear_76 : decode cX2_placeNear 76 = .ok (.invokestatic 97, 3) := by decide +kernel
theorem dX2_placeNear_79 : decode cX2_placeNear 79 = .ok (.lstore 14, 2) := by decide +kernel
theorem dX2_placeNear_81 : decode cX2_placeNear 81 = .ok (.lload 10, 2) := by decide +kernel
theorem dX2_placeNear_83 : decode cX2_placeNear 83 = .ok (.lload 14, 2) := by decide +kernel
theorem dX2_placeNear_85 : decode cX2_placeNear 85 = .ok (.lload 12, 2) := by decide +kernel
theorem dX2_placeNear_87 : decode cX2_placeNear 87 = .ok (.iload_n 2, 1) := by decide +kernel
theorem dX2_placeNear_88 : decode cX2_placeNear 88 = .ok (.iload_n 3, 1) := by decide +kernel
theorem dX2_placeNear_89 : decode cX2_placeNear 89 = .ok (.invokestatic 89, 3) := by decide +kernel
theorem dX2_placeNear_92 : decode cX2_placeNear 92 = .ok (.lreturn, 1) := by decide +kernel
theorem dX2_placeAt_0 : decode cX2_placeAt 0 = .ok (.iload 6, 2) := by decide +kernel
theorem dX2_placeAt_2 : decode cX2_placeAt 2 = .ok (.invokestatic 35, 3) := by decide +kernel
theorem dX2_placeAt_5 : decode cX2_placeAt 5 = .ok (.lstore 8, 2) := by decide +kernel
theorem dX2_placeAt_7 : decode cX2_placeAt 7 = .ok (.lload 8, 2) := by decide +kernel
theorem dX2_placeAt_9 : decode cX2_placeAt 9 = .ok (.lload_n 0, 1) := by decide +kernel
theorem dX2_placeAt_10 : decode cX2_placeAt 10 = .ok (.lmul, 1) := by decide +kernel
theorem dX2_placeAt_11 : decode cX2_placeAt 11 = .ok (.iload 7, 2) := by decide +kernel
theorem dX2_placeAt_13 : decode cX2_placeAt 13 = .ok (.invokestatic 39, 3) := by decide +kernel
theorem dX2_placeAt_16 : decode cX2_placeAt 16 = .ok (.ldc2_w 54, 3) := by decide +kernel
theorem dX2_placeAt_19 : decode cX2_placeAt 19 = .ok (.lmul, 1) := by decide +kernel
theorem dX2_placeAt_20 : decode cX2_placeAt 20 = .ok (.invokestatic 104, 3) := by decide +kernel
theorem dX2_placeAt_23 : decode cX2_placeAt 23 = .ok (.lstore 10, 2) := by decide +kernel
theorem dX2_placeAt_25 : decode cX2_placeAt 25 = .ok (.lload 8, 2) := by decide +kernel
theorem dX2_placeAt_27 : decode cX2_placeAt 27 = .ok (.lload_n 2, 1) := by decide +kernel
theorem dX2_placeAt_28 : decode cX2_placeAt 28 = .ok (.lmul, 1) := by decide +kernel
theorem dX2_placeAt_29 : decode cX2_placeAt 29 = .ok (.lload 4, 2) := by decide +kernel
theorem dX2_placeAt_31 : decode cX2_placeAt 31 = .ok (.ldc2_w 54, 3) := by decide +kernel
theorem dX2_placeAt_34 : decode cX2_placeAt 34 = .ok (.lmul, 1) := by decide +kernel
theorem dX2_placeAt_35 : decode cX2_placeAt 35 = .ok (.invokestatic 104, 3) := by decide +kernel
theorem dX2_placeAt_38 : decode cX2_placeAt 38 = .ok (.lstore 12, 2) := by decide +kernel
theorem dX2_placeAt_40 : decode cX2_placeAt 40 = .ok (.lload 12, 2) := by decide +kernel
theorem dX2_placeAt_42 : decode cX2_placeAt 42 = .ok (.ldc2_w 17, 3) := by decide +kernel
theorem dX2_placeAt_45 : decode cX2_placeAt 45 = .ok (.lcmp, 1) := by decide +kernel
theorem dX2_placeAt_46 : decode cX2_placeAt 46 = .ok (.ifCond .lt 14, 3) := by decide +kernel
theorem dX2_placeAt_49 : decode cX2_placeAt 49 = .ok (.lload 12, 2) := by decide +kernel
theorem dX2_placeAt_51 : decode cX2_placeAt 51 = .ok (.ldc2_w 75, 3) := by decide +kernel
theorem dX2_placeAt_54 : decode cX2_placeAt 54 = .ok (.lsub, 1) := by decide +kernel
theorem dX2_placeAt_55 : decode cX2_placeAt 55 = .ok (.lstore 12, 2) := by decide +kernel
theorem dX2_placeAt_57 : decode cX2_placeAt 57 = .ok (.goto 20, 3) := by decide +kernel
theorem dX2_placeAt_60 : decode cX2_placeAt 60 = .ok (.lload 12, 2) := by decide +kernel
theorem dX2_placeAt_62 : decode cX2_placeAt 62 = .ok (.ldc2_w 15, 3) := by decide +kernel
theorem dX2_placeAt_65 : decode cX2_placeAt 65 = .ok (.lcmp, 1) := by decide +kernel
theorem dX2_placeAt_66 : decode cX2_placeAt 66 = .ok (.ifCond .ge 11, 3) := by decide +kernel
theorem dX2_placeAt_69 : decode cX2_placeAt 69 = .ok (.lload 12, 2) := by decide +kernel
theorem dX2_placeAt_71 : decode cX2_placeAt 71 = .ok (.ldc2_w 75, 3) := by decide +kernel
theorem dX2_placeAt_74 : decode cX2_placeAt 74 = .ok (.ladd, 1) := by decide +kernel
theorem dX2_placeAt_75 : decode cX2_placeAt 75 = .ok (.lstore 12, 2) := by decide +kernel
theorem dX2_placeAt_77 : decode cX2_placeAt 77 = .ok (.lload 10, 2) := by decide +kernel
theorem dX2_placeAt_79 : decode cX2_placeAt 79 = .ok (.lload 12, 2) := by decide +kernel
theorem dX2_placeAt_81 : decode cX2_placeAt 81 = .ok (.invokestatic 107, 3) := by decide +kernel
theorem dX2_placeAt_84 : decode cX2_placeAt 84 = .ok (.lreturn, 1) := by decide +kernel
theorem dX2_turnOf_0 : decode cX2_turnOf 0 = .ok (.iload_n 0, 1) := by decide +kernel
theorem dX2_turnOf_1 : decode cX2_turnOf 1 = .ok (.ifCond .eq 9, 3) := by decide +kernel
theorem dX2_turnOf_4 : decode cX2_turnOf 4 = .ok (.ldc2_w 13, 3) := by decide +kernel
theorem dX2_turnOf_7 : decode cX2_turnOf 7 = .ok (.goto 6, 3) := by decide +kernel
theorem dX2_turnOf_10 : decode cX2_turnOf 10 = .ok (.ldc2_w 75, 3) := by decide +kernel
theorem dX2_turnOf_13 : decode cX2_turnOf 13 = .ok (.lreturn, 1) := by decide +kernel
theorem dX2_bandsOf_0 : decode cX2_bandsOf 0 = .ok (.iload_n 0, 1) := by decide +kernel
theorem dX2_bandsOf_1 : decode cX2_bandsOf 1 = .ok (.ifCond .eq 9, 3) := by decide +kernel
theorem dX2_bandsOf_4 : decode cX2_bandsOf 4 = .ok (.ldc2_w 60, 3) := by decide +kernel
theorem dX2_bandsOf_7 : decode cX2_bandsOf 7 = .ok (.goto 6, 3) := by decide +kernel
theorem dX2_bandsOf_10 : decode cX2_bandsOf 10 = .ok (.ldc2_w 65, 3) := by decide +kernel
theorem dX2_bandsOf_13 : decode cX2_bandsOf 13 = .ok (.lreturn, 1) := by decide +kernel
theorem dX2_zonesOf_0 : decode cX2_zonesOf 0 = .ok (.iconst 1, 1) := by decide +kernel
theorem dX2_zonesOf_1 : decode cX2_zonesOf 1 = .ok (.iload_n 1, 1) := by decide +kernel
theorem dX2_zonesOf_2 : decode cX2_zonesOf 2 = .ok (.ifCond .eq 9, 3) := by decide +kernel
theorem dX2_zonesOf_5 : decode cX2_zonesOf 5 = .ok (.iload_n 0, 1) := by decide +kernel
theorem dX2_zonesOf_6 : decode cX2_zonesOf 6 = .ok (.iconst 1, 1) := by decide +kernel
theorem dX2_zonesOf_7 : decode cX2_zonesOf 7 = .ok (.isub, 1) := by decide +kernel
theorem dX2_zonesOf_8 : decode cX2_zonesOf 8 = .ok (.goto 4, 3) := by decide +kernel
theorem dX2_zonesOf_11 : decode cX2_zonesOf 11 = .ok (.iload_n 0, 1) := by decide +kernel
theorem dX2_zonesOf_12 : decode cX2_zonesOf 12 = .ok (.invokestatic 110, 3) := by decide +kernel
theorem dX2_zonesOf_15 : decode cX2_zonesOf 15 = .ok (.i2l, 1) := by decide +kernel
theorem dX2_zonesOf_16 : decode cX2_zonesOf 16 = .ok (.lreturn, 1) := by decide +kernel
theorem dX2_yOf_0 : decode cX2_yOf 0 = .ok (.lload_n 0, 1) := by decide +kernel
theorem dX2_yOf_1 : decode cX2_yOf 1 = .ok (.ldc2_w 54, 3) := by decide +kernel
theorem dX2_yOf_4 : decode cX2_yOf 4 = .ok (.ldiv, 1) := by decide +kernel
theorem dX2_yOf_5 : decode cX2_yOf 5 = .ok (.lreturn, 1) := by decide +kernel
theorem dX2_xOf_0 : decode cX2_xOf 0 = .ok (.lload_n 0, 1) := by decide +kernel
theorem dX2_xOf_1 : decode cX2_xOf 1 = .ok (.ldc2_w 54, 3) := by decide +kernel
theorem dX2_xOf_4 : decode cX2_xOf 4 = .ok (.lrem, 1) := by decide +kernel
theorem dX2_xOf_5 : decode cX2_xOf 5 = .ok (.lreturn, 1) := by decide +kernel
theorem dX2_nearestStep_0 : decode cX2_nearestStep 0 = .ok (.ldc2_w 114, 3) := by decide +kernel
theorem dX2_nearestStep_3 : decode cX2_nearestStep 3 = .ok (.lload_n 0, 1) := by decide +kernel
theorem dX2_nearestStep_4 : decode cX2_nearestStep 4 = .ok (.lmul, 1) := by decide +kernel
theorem dX2_nearestStep_5 : decode cX2_nearestStep 5 = .ok (.lload_n 2, 1) := by decide +kernel
theorem dX2_nearestStep_6 : decode cX2_nearestStep 6 = .ok (.lmul, 1) := by decide +kernel
theorem dX2_nearestStep_7 : decode cX2_nearestStep 7 = .ok (.ldc2_w 54, 3) := by decide +kernel
theorem dX2_nearestStep_10 : decode cX2_nearestStep 10 = .ok (.lmul, 1) := by decide +kernel
theorem dX2_nearestStep_11 : decode cX2_nearestStep 11 = .ok (.lload 4, 2) := by decide +kernel
theorem dX2_nearestStep_13 : decode cX2_nearestStep 13 = .ok (.ladd, 1) := by decide +kernel
theorem dX2_nearestStep_14 : decode cX2_nearestStep 14 = .ok (.ldc2_w 114, 3) := by decide +kernel
theorem dX2_nearestStep_17 : decode cX2_nearestStep 17 = .ok (.lload 4, 2) := by decide +kernel
theorem dX2_nearestStep_19 : decode cX2_nearestStep 19 = .ok (.lmul, 1) := by decide +kernel
theorem dX2_nearestStep_20 : decode cX2_nearestStep 20 = .ok (.invokestatic 104, 3) := by decide +kernel
theorem dX2_nearestStep_23 : decode cX2_nearestStep 23 = .ok (.lreturn, 1) := by decide +kernel
theorem dX2_stepNear_0 : decode cX2_stepNear 0 = .ok (.lload_n 0, 1) := by decide +kernel
theorem dX2_stepNear_1 : decode cX2_stepNear 1 = .ok (.lload 4, 2) := by decide +kernel
theorem dX2_stepNear_3 : decode cX2_stepNear 3 = .ok (.lmul, 1) := by decide +kernel
theorem dX2_stepNear_4 : decode cX2_stepNear 4 = .ok (.ldc2_w 54, 3) := by decide +kernel
theorem dX2_stepNear_7 : decode cX2_stepNear 7 = .ok (.lmul, 1) := by decide +kernel
theorem dX2_stepNear_8 : decode cX2_stepNear 8 = .ok (.lload 6, 2) := by decide +kernel
theorem dX2_stepNear_10 : decode cX2_stepNear 10 = .ok (.ldc2_w 67, 3) := by decide +kernel
theorem dX2_stepNear_13 : decode cX2_stepNear 13 = .ok (.lload_n 2, 1) := by decide +kernel
theorem dX2_stepNear_14 : decode cX2_stepNear 14 = .ok (.lsub, 1) := by decide +kernel
theorem dX2_stepNear_15 : decode cX2_stepNear 15 = .ok (.lmul, 1) := by decide +kernel
theorem dX2_stepNear_16 : decode cX2_stepNear 16 = .ok (.ladd, 1) := by decide +kernel
theorem dX2_stepNear_17 : decode cX2_stepNear 17 = .ok (.lload 6, 2) := by decide +kernel
theorem dX2_stepNear_19 : decode cX2_stepNear 19 = .ok (.ldc2_w 54, 3) := by decide +kernel
theorem dX2_stepNear_22 : decode cX2_stepNear 22 = .ok (.lmul, 1) := by decide +kernel
theorem dX2_stepNear_23 : decode cX2_stepNear 23 = .ok (.invokestatic 104, 3) := by decide +kernel
theorem dX2_stepNear_26 : decode cX2_stepNear 26 = .ok (.lstore 8, 2) := by decide +kernel
theorem dX2_stepNear_28 : decode cX2_stepNear 28 = .ok (.ldc2_w 54, 3) := by decide +kernel
theorem dX2_stepNear_31 : decode cX2_stepNear 31 = .ok (.lload 8, 2) := by decide +kernel
theorem dX2_stepNear_33 : decode cX2_stepNear 33 = .ok (.lmul, 1) := by decide +kernel
theorem dX2_stepNear_34 : decode cX2_stepNear 34 = .ok (.lload_n 2, 1) := by decide +kernel
theorem dX2_stepNear_35 : decode cX2_stepNear 35 = .ok (.ladd, 1) := by decide +kernel
theorem dX2_stepNear_36 : decode cX2_stepNear 36 = .ok (.lreturn, 1) := by decide +kernel
theorem dX2_stepInBand_0 : decode cX2_stepInBand 0 = .ok (.ldc2_w 54, 3) := by decide +kernel
theorem dX2_stepInBand_3 : decode cX2_stepInBand 3 = .ok (.lload_n 0, 1) := by decide +kernel
theorem dX2_stepInBand_4 : decode cX2_stepInBand 4 = .ok (.lload 4, 2) := by decide +kernel
theorem dX2_stepInBand_6 : decode cX2_stepInBand 6 = .ok (.invokestatic 86, 3) := by decide +kernel
theorem dX2_stepInBand_9 : decode cX2_stepInBand 9 = .ok (.lmul, 1) := by decide +kernel
theorem dX2_stepInBand_10 : decode cX2_stepInBand 10 = .ok (.lload_n 2, 1) := by decide +kernel
theorem dX2_stepInBand_11 : decode cX2_stepInBand 11 = .ok (.ladd, 1) := by decide +kernel
theorem dX2_stepInBand_12 : decode cX2_stepInBand 12 = .ok (.lstore 6, 2) := by decide +kernel
theorem dX2_stepInBand_14 : decode cX2_stepInBand 14 = .ok (.ldc2_w 116, 3) := by decide +kernel
theorem dX2_stepInBand_17 : decode cX2_stepInBand 17 = .ok (.lload 6, 2) := by decide +kernel
theorem dX2_stepInBand_19 : decode cX2_stepInBand 19 = .ok (.lmul, 1) := by decide +kernel
theorem dX2_stepInBand_20 : decode cX2_stepInBand 20 = .ok (.ldc2_w 118, 3) := by decide +kernel
theorem dX2_stepInBand_23 : decode cX2_stepInBand 23 = .ok (.lload 4, 2) := by decide +kernel
theorem dX2_stepInBand_25 : decode cX2_stepInBand 25 = .ok (.lmul, 1) := by decide +kernel
theorem dX2_stepInBand_26 : decode cX2_stepInBand 26 = .ok (.ldc2_w 54, 3) := by decide +kernel
theorem dX2_stepInBand_29 : decode cX2_stepInBand 29 = .ok (.lmul, 1) := by decide +kernel
theorem dX2_stepInBand_30 : decode cX2_stepInBand 30 = .ok (.lcmp, 1) := by decide +kernel
theorem dX2_stepInBand_31 : decode cX2_stepInBand 31 = .ok (.ifCond .lt 15, 3) := by decide +kernel
theorem dX2_stepInBand_34 : decode cX2_stepInBand 34 = .ok (.lload 6, 2) := by decide +kernel
theorem dX2_stepInBand_36 : decode cX2_stepInBand 36 = .ok (.lload 4, 2) := by decide +kernel
theorem dX2_stepInBand_38 : decode cX2_stepInBand 38 = .ok (.ldc2_w 54, 3) := by decide +kernel
theorem dX2_stepInBand_41 : decode cX2_stepInBand 41 = .ok (.lmul, 1) := by decide +kernel
theorem dX2_stepInBand_42 : decode cX2_stepInBand 42 = .ok (.lsub, 1) := by decide +kernel
theorem dX2_stepInBand_43 : decode cX2_stepInBand 43 = .ok (.goto 5, 3) := by decide +kernel
theorem dX2_stepInBand_46 : decode cX2_stepInBand 46 = .ok (.lload 6, 2) := by decide +kernel
theorem dX2_stepInBand_48 : decode cX2_stepInBand 48 = .ok (.lreturn, 1) := by decide +kernel
theorem dX2_isBeyondPole_0 : decode cX2_isBeyondPole 0 = .ok (.lload 4, 2) := by decide +kernel
theorem dX2_isBeyondPole_2 : decode cX2_isBeyondPole 2 = .ok (.lload_n 0, 1) := by decide +kernel
theorem dX2_isBeyondPole_3 : decode cX2_isBeyondPole 3 = .ok (.invokestatic 23, 3) := by decide +kernel
theorem dX2_isBeyondPole_6 : decode cX2_isBeyondPole 6 = .ok (.lmul, 1) := by decide +kernel
theorem dX2_isBeyondPole_7 : decode cX2_isBeyondPole 7 = .ok (.ldc2_w 13, 3) := by decide +kernel
theorem dX2_isBeyondPole_10 : decode cX2_isBeyondPole 10 = .ok (.lload_n 2, 1) := by decide +kernel
theorem dX2_isBeyondPole_11 : decode cX2_isBeyondPole 11 = .ok (.lmul, 1) := by decide +kernel
theorem dX2_isBeyondPole_12 : decode cX2_isBeyondPole 12 = .ok (.ldc2_w 54, 3) := by decide +kernel
theorem dX2_isBeyondPole_15 : decode cX2_isBeyondPole 15 = .ok (.lmul, 1) := by decide +kernel
theorem dX2_isBeyondPole_16 : decode cX2_isBeyondPole 16 = .ok (.lcmp, 1) := by decide +kernel
theorem dX2_isBeyondPole_17 : decode cX2_isBeyondPole 17 = .ok (.ifCond .le 7, 3) := by decide +kernel
theorem dX2_isBeyondPole_20 : decode cX2_isBeyondPole 20 = .ok (.iconst 1, 1) := by decide +kernel
theorem dX2_isBeyondPole_21 : decode cX2_isBeyondPole 21 = .ok (.goto 4, 3) := by decide +kernel
theorem dX2_isBeyondPole_24 : decode cX2_isBeyondPole 24 = .ok (.iconst 0, 1) := by decide +kernel
theorem dX2_isBeyondPole_25 : decode cX2_isBeyondPole 25 = .ok (.ireturn, 1) := by decide +kernel
theorem dX2_zoneCountAt_0 : decode cX2_zoneCountAt 0 = .ok (.ldc2_w 120, 3) := by decide +kernel
theorem dX2_zoneCountAt_3 : decode cX2_zoneCountAt 3 = .ok (.lload 4, 2) := by decide +kernel
theorem dX2_zoneCountAt_5 : decode cX2_zoneCountAt 5 = .ok (.lmul, 1) := by decide +kernel
theorem dX2_zoneCountAt_6 : decode cX2_zoneCountAt 6 = .ok (.lload_n 0, 1) := by decide +kernel
theorem dX2_zoneCountAt_7 : decode cX2_zoneCountAt 7 = .ok (.lmul, 1) := by decide +kernel
theorem dX2_zoneCountAt_8 : decode cX2_zoneCountAt 8 = .ok (.lload_n 2, 1) := by decide +kernel
theorem dX2_zoneCountAt_9 : decode cX2_zoneCountAt 9 = .ok (.ldc2_w 54, 3) := by decide +kernel
theorem dX2_zoneCountAt_12 : decode cX2_zoneCountAt 12 = .ok (.lmul, 1) := by decide +kernel
theorem dX2_zoneCountAt_13 : decode cX2_zoneCountAt 13 = .ok (.invokestatic 122, 3) := by decide +kernel
theorem dX2_zoneCountAt_16 : decode cX2_zoneCountAt 16 = .ok (.ireturn, 1) := by decide +kernel
theorem dX2_quotient_0 : decode cX2_quotient 0 = .ok (.lload_n 2, 1) := by decide +kernel
theorem dX2_quotient_1 : decode cX2_quotient 1 = .ok (.lconst 0, 1) := by decide +kernel
theorem dX2_quotient_2 : decode cX2_quotient 2 = .ok (.lcmp, 1) := by decide +kernel
theorem dX2_quotient_3 : decode cX2_quotient 3 = .ok (.ifCond .gt 7, 3) := by decide +kernel
theorem dX2_quotient_6 : decode cX2_quotient 6 = .ok (.lconst 0, 1) := by decide +kernel
theorem dX2_quotient_7 : decode cX2_quotient 7 = .ok (.goto 8, 3) := by decide +kernel
theorem dX2_quotient_10 : decode cX2_quotient 10 = .ok (.lload_n 0, 1) := by decide +kernel
theorem dX2_quotient_11 : decode cX2_quotient 11 = .ok (.lload_n 2, 1) := by decide +kernel
theorem dX2_quotient_12 : decode cX2_quotient 12 = .ok (.invokestatic 69, 3) := by decide +kernel
theorem dX2_quotient_15 : decode cX2_quotient 15 = .ok (.lreturn, 1) := by decide +kernel
theorem dX2_remainder_0 : decode cX2_remainder 0 = .ok (.lload_n 2, 1) := by decide +kernel
theorem dX2_remainder_1 : decode cX2_remainder 1 = .ok (.lconst 0, 1) := by decide +kernel
theorem dX2_remainder_2 : decode cX2_remainder 2 = .ok (.lcmp, 1) := by decide +kernel
theorem dX2_remainder_3 : decode cX2_remainder 3 = .ok (.ifCond .gt 7, 3) := by decide +kernel
theorem dX2_remainder_6 : decode cX2_remainder 6 = .ok (.lconst 0, 1) := by decide +kernel
theorem dX2_remainder_7 : decode cX2_remainder 7 = .ok (.goto 8, 3) := by decide +kernel
theorem dX2_remainder_10 : decode cX2_remainder 10 = .ok (.lload_n 0, 1) := by decide +kernel
theorem dX2_remainder_11 : decode cX2_remainder 11 = .ok (.lload_n 2, 1) := by decide +kernel
theorem dX2_remainder_12 : decode cX2_remainder 12 = .ok (.invokestatic 56, 3) := by decide +kernel
theorem dX2_remainder_15 : decode cX2_remainder 15 = .ok (.lreturn, 1) := by decide +kernel
theorem dJ9_floorDiv_f86c9_0 : decode cJ9_floorDiv_f86c9 0 = .ok (.lload_n 0, 1) := by decide +kernel
theorem dJ9_floorDiv_f86c9_1 : decode cJ9_floorDiv_f86c9 1 = .ok (.lload_n 2, 1) := by decide +kernel
theorem dJ9_floorDiv_f86c9_2 : decode cJ9_floorDiv_f86c9 2 = .ok (.ldiv, 1) := by decide +kernel
theorem dJ9_floorDiv_f86c9_3 : decode cJ9_floorDiv_f86c9 3 = .ok (.lstore 4, 2) := by decide +kernel
theorem dJ9_floorDiv_f86c9_5 : decode cJ9_floorDiv_f86c9 5 = .ok (.lload_n 0, 1) := by decide +kernel
theorem dJ9_floorDiv_f86c9_6 : decode cJ9_floorDiv_f86c9 6 = .ok (.lload_n 2, 1) := by decide +kernel
theorem dJ9_floorDiv_f86c9_7 : decode cJ9_floorDiv_f86c9 7 = .ok (.lxor, 1) := by decide +kernel
theorem dJ9_floorDiv_f86c9_8 : decode cJ9_floorDiv_f86c9 8 = .ok (.lconst 0, 1) := by decide +kernel
theorem dJ9_floorDiv_f86c9_9 : decode cJ9_floorDiv_f86c9 9 = .ok (.lcmp, 1) := by decide +kernel
theorem dJ9_floorDiv_f86c9_10 : decode cJ9_floorDiv_f86c9 10 = .ok (.ifCond .ge 17, 3) := by decide +kernel
theorem dJ9_floorDiv_f86c9_13 : decode cJ9_floorDiv_f86c9 13 = .ok (.lload 4, 2) := by decide +kernel
theorem dJ9_floorDiv_f86c9_15 : decode cJ9_floorDiv_f86c9 15 = .ok (.lload_n 2, 1) := by decide +kernel
theorem dJ9_floorDiv_f86c9_16 : decode cJ9_floorDiv_f86c9 16 = .ok (.lmul, 1) := by decide +kernel
theorem dJ9_floorDiv_f86c9_17 : decode cJ9_floorDiv_f86c9 17 = .ok (.lload_n 0, 1) := by decide +kernel
theorem dJ9_floorDiv_f86c9_18 : decode cJ9_floorDiv_f86c9 18 = .ok (.lcmp, 1) := by decide +kernel
theorem dJ9_floorDiv_f86c9_19 : decode cJ9_floorDiv_f86c9 19 = .ok (.ifCond .eq 8, 3) := by decide +kernel
theorem dJ9_floorDiv_f86c9_22 : decode cJ9_floorDiv_f86c9 22 = .ok (.lload 4, 2) := by decide +kernel
theorem dJ9_floorDiv_f86c9_24 : decode cJ9_floorDiv_f86c9 24 = .ok (.lconst 1, 1) := by decide +kernel
theorem dJ9_floorDiv_f86c9_25 : decode cJ9_floorDiv_f86c9 25 = .ok (.lsub, 1) := by decide +kernel
theorem dJ9_floorDiv_f86c9_26 : decode cJ9_floorDiv_f86c9 26 = .ok (.lreturn, 1) := by decide +kernel
theorem dJ9_floorDiv_f86c9_27 : decode cJ9_floorDiv_f86c9 27 = .ok (.lload 4, 2) := by decide +kernel
theorem dJ9_floorDiv_f86c9_29 : decode cJ9_floorDiv_f86c9 29 = .ok (.lreturn, 1) := by decide +kernel
theorem dJ9_floorMod_f86c9_0 : decode cJ9_floorMod_f86c9 0 = .ok (.lload_n 0, 1) := by decide +kernel
theorem dJ9_floorMod_f86c9_1 : decode cJ9_floorMod_f86c9 1 = .ok (.lload_n 2, 1) := by decide +kernel
theorem dJ9_floorMod_f86c9_2 : decode cJ9_floorMod_f86c9 2 = .ok (.lrem, 1) := by decide +kernel
theorem dJ9_floorMod_f86c9_3 : decode cJ9_floorMod_f86c9 3 = .ok (.lstore 4, 2) := by decide +kernel
theorem dJ9_floorMod_f86c9_5 : decode cJ9_floorMod_f86c9 5 = .ok (.lload_n 0, 1) := by decide +kernel
theorem dJ9_floorMod_f86c9_6 : decode cJ9_floorMod_f86c9 6 = .ok (.lload_n 2, 1) := by decide +kernel
theorem dJ9_floorMod_f86c9_7 : decode cJ9_floorMod_f86c9 7 = .ok (.lxor, 1) := by decide +kernel
theorem dJ9_floorMod_f86c9_8 : decode cJ9_floorMod_f86c9 8 = .ok (.lconst 0, 1) := by decide +kernel
theorem dJ9_floorMod_f86c9_9 : decode cJ9_floorMod_f86c9 9 = .ok (.lcmp, 1) := by decide +kernel
theorem dJ9_floorMod_f86c9_10 : decode cJ9_floorMod_f86c9 10 = .ok (.ifCond .ge 15, 3) := by decide +kernel
theorem dJ9_floorMod_f86c9_13 : decode cJ9_floorMod_f86c9 13 = .ok (.lload 4, 2) := by decide +kernel
theorem dJ9_floorMod_f86c9_15 : decode cJ9_floorMod_f86c9 15 = .ok (.lconst 0, 1) := by decide +kernel
theorem dJ9_floorMod_f86c9_16 : decode cJ9_floorMod_f86c9 16 = .ok (.lcmp, 1) := by decide +kernel
theorem dJ9_floorMod_f86c9_17 : decode cJ9_floorMod_f86c9 17 = .ok (.ifCond .eq 8, 3) := by decide +kernel
theorem dJ9_floorMod_f86c9_20 : decode cJ9_floorMod_f86c9 20 = .ok (.lload 4, 2) := by decide +kernel
theorem dJ9_floorMod_f86c9_22 : decode cJ9_floorMod_f86c9 22 = .ok (.lload_n 2, 1) := by decide +kernel
theorem dJ9_floorMod_f86c9_23 : decode cJ9_floorMod_f86c9 23 = .ok (.ladd, 1) := by decide +kernel
theorem dJ9_floorMod_f86c9_24 : decode cJ9_floorMod_f86c9 24 = .ok (.lreturn, 1) := by decide +kernel
theorem dJ9_floorMod_f86c9_25 : decode cJ9_floorMod_f86c9 25 = .ok (.lload 4, 2) := by decide +kernel
theorem dJ9_floorMod_f86c9_27 : decode cJ9_floorMod_f86c9 27 = .ok (.lreturn, 1) := by decide +kernel
theorem dJ9_abs_067f4_0 : decode cJ9_abs_067f4 0 = .ok (.lload_n 0, 1) := by decide +kernel
theorem dJ9_abs_067f4_1 : decode cJ9_abs_067f4 1 = .ok (.lconst 0, 1) := by decide +kernel
theorem dJ9_abs_067f4_2 : decode cJ9_abs_067f4 2 = .ok (.lcmp, 1) := by decide +kernel
theorem dJ9_abs_067f4_3 : decode cJ9_abs_067f4 3 = .ok (.ifCond .ge 8, 3) := by decide +kernel
theorem dJ9_abs_067f4_6 : decode cJ9_abs_067f4 6 = .ok (.lload_n 0, 1) := by decide +kernel
theorem dJ9_abs_067f4_7 : decode cJ9_abs_067f4 7 = .ok (.lneg, 1) := by decide +kernel
theorem dJ9_abs_067f4_8 : decode cJ9_abs_067f4 8 = .ok (.goto 4, 3) := by decide +kernel
theorem dJ9_abs_067f4_11 : decode cJ9_abs_067f4 11 = .ok (.lload_n 0, 1) := by decide +kernel
theorem dJ9_abs_067f4_12 : decode cJ9_abs_067f4 12 = .ok (.lreturn, 1) := by decide +kernel
theorem dJ9_max_7cf53_0 : decode cJ9_max_7cf53 0 = .ok (.iload_n 0, 1) := by decide +kernel
theorem dJ9_max_7cf53_1 : decode cJ9_max_7cf53 1 = .ok (.iload_n 1, 1) := by decide +kernel
theorem dJ9_max_7cf53_2 : decode cJ9_max_7cf53 2 = .ok (.if_icmp .lt 7, 3) := by decide +kernel
theorem dJ9_max_7cf53_5 : decode cJ9_max_7cf53 5 = .ok (.iload_n 0, 1) := by decide +kernel
theorem dJ9_max_7cf53_6 : decode cJ9_max_7cf53 6 = .ok (.goto 4, 3) := by decide +kernel
theorem dJ9_max_7cf53_9 : decode cJ9_max_7cf53 9 = .ok (.iload_n 1, 1) := by decide +kernel
theorem dJ9_max_7cf53_10 : decode cJ9_max_7cf53 10 = .ok (.ireturn, 1) := by decide +kernel
theorem dJ7_fill_d0a16_0 : decode cJ7_fill_d0a16 0 = .ok (.iconst 0, 1) := by decide +kernel
theorem dJ7_fill_d0a16_1 : decode cJ7_fill_d0a16 1 = .ok (.istore_n 3, 1) := by decide +kernel
theorem dJ7_fill_d0a16_2 : decode cJ7_fill_d0a16 2 = .ok (.aload_n 0, 1) := by decide +kernel
theorem dJ7_fill_d0a16_3 : decode cJ7_fill_d0a16 3 = .ok (.arraylength, 1) := by decide +kernel
theorem dJ7_fill_d0a16_4 : decode cJ7_fill_d0a16 4 = .ok (.istore 4, 2) := by decide +kernel
theorem dJ7_fill_d0a16_6 : decode cJ7_fill_d0a16 6 = .ok (.iload_n 3, 1) := by decide +kernel
theorem dJ7_fill_d0a16_7 : decode cJ7_fill_d0a16 7 = .ok (.iload 4, 2) := by decide +kernel
theorem dJ7_fill_d0a16_9 : decode cJ7_fill_d0a16 9 = .ok (.if_icmp .ge 13, 3) := by decide +kernel
theorem dJ7_fill_d0a16_12 : decode cJ7_fill_d0a16 12 = .ok (.aload_n 0, 1) := by decide +kernel
theorem dJ7_fill_d0a16_13 : decode cJ7_fill_d0a16 13 = .ok (.iload_n 3, 1) := by decide +kernel
theorem dJ7_fill_d0a16_14 : decode cJ7_fill_d0a16 14 = .ok (.lload_n 1, 1) := by decide +kernel
theorem dJ7_fill_d0a16_15 : decode cJ7_fill_d0a16 15 = .ok (.lastore, 1) := by decide +kernel
theorem dJ7_fill_d0a16_16 : decode cJ7_fill_d0a16 16 = .ok (.iinc 3 1, 3) := by decide +kernel
theorem dJ7_fill_d0a16_19 : decode cJ7_fill_d0a16 19 = .ok (.goto (-13), 3) := by decide +kernel
theorem dJ7_fill_d0a16_22 : decode cJ7_fill_d0a16 22 = .ok (.return_, 1) := by decide +kernel
theorem dJ7_fill_53178_0 : decode cJ7_fill_53178 0 = .ok (.iconst 0, 1) := by decide +kernel
theorem dJ7_fill_53178_1 : decode cJ7_fill_53178 1 = .ok (.istore_n 2, 1) := by decide +kernel
theorem dJ7_fill_53178_2 : decode cJ7_fill_53178 2 = .ok (.aload_n 0, 1) := by decide +kernel
theorem dJ7_fill_53178_3 : decode cJ7_fill_53178 3 = .ok (.arraylength, 1) := by decide +kernel
theorem dJ7_fill_53178_4 : decode cJ7_fill_53178 4 = .ok (.istore_n 3, 1) := by decide +kernel
theorem dJ7_fill_53178_5 : decode cJ7_fill_53178 5 = .ok (.iload_n 2, 1) := by decide +kernel
theorem dJ7_fill_53178_6 : decode cJ7_fill_53178 6 = .ok (.iload_n 3, 1) := by decide +kernel
theorem dJ7_fill_53178_7 : decode cJ7_fill_53178 7 = .ok (.if_icmp .ge 13, 3) := by decide +kernel
theorem dJ7_fill_53178_10 : decode cJ7_fill_53178 10 = .ok (.aload_n 0, 1) := by decide +kernel
theorem dJ7_fill_53178_11 : decode cJ7_fill_53178 11 = .ok (.iload_n 2, 1) := by decide +kernel
theorem dJ7_fill_53178_12 : decode cJ7_fill_53178 12 = .ok (.iload_n 1, 1) := by decide +kernel
theorem dJ7_fill_53178_13 : decode cJ7_fill_53178 13 = .ok (.iastore, 1) := by decide +kernel
theorem dJ7_fill_53178_14 : decode cJ7_fill_53178 14 = .ok (.iinc 2 1, 3) := by decide +kernel
theorem dJ7_fill_53178_17 : decode cJ7_fill_53178 17 = .ok (.goto (-12), 3) := by decide +kernel
theorem dJ7_fill_53178_20 : decode cJ7_fill_53178 20 = .ok (.return_, 1) := by decide +kernel
end
section
/-! decoded instructions -/
theorem dX3_init_0 : decode cX3_init 0 = .ok (.aload_n 0, 1) := by decide +kernel
theorem dX3_init_1 : decode cX3_init 1 = .ok (.invokespecial 3, 3) := by decide +kernel
theorem dX3_init_4 : decode cX3_init 4 = .ok (.aload_n 0, 1) := by decide +kernel
theorem dX3_init_5 : decode cX3_init 5 = .ok (.bipush 18, 2) := by decide +kernel
theorem dX3_init_7 : decode cX3_init 7 = .ok (.newarray .int, 2) := by decide +kernel
theorem dX3_init_9 : decode cX3_init 9 = .ok (.putfield 9, 3) := by decide +kernel
theorem dX3_init_12 : decode cX3_init 12 = .ok (.aload_n 0, 1) := by decide +kernel
theorem dX3_init_13 : decode cX3_init 13 = .ok (.bipush 8, 2) := by decide +kernel
theorem dX3_init_15 : decode cX3_init 15 = .ok (.newarray .int, 2) := by decide +kernel
theorem dX3_init_17 : decode cX3_init 17 = .ok (.putfield 15, 3) := by decide +kernel
theorem dX3_init_20 : decode cX3_init 20 = .ok (.aload_n 0, 1) := by decide +kernel
theorem dX3_init_21 : decode cX3_init 21 = .ok (.iconst 2, 1) := by decide +kernel
theorem dX3_init_22 : decode cX3_init 22 = .ok (.newarray .long, 2) := by decide +kernel
theorem dX3_init_24 : decode cX3_init 24 = .ok (.putfield 18, 3) := by decide +kernel
theorem dX3_init_27 : decode cX3_init 27 = .ok (.aload_n 0, 1) := by decide +kernel
theorem dX3_init_28 : decode cX3_init 28 = .ok (.iconst 2, 1) := by decide +kernel
theorem dX3_init_29 : decode cX3_init 29 = .ok (.newarray .int, 2) := by decide +kernel
theorem dX3_init_31 : decode cX3_init 31 = .ok (.putfield 22, 3) := by decide +kernel
theorem dX3_init_34 : decode cX3_init 34 = .ok (.return_, 1) := by decide +kernel
theorem dX3_begin_0 : decode cX3_begin 0 = .ok (.aload_n 0, 1) := by decide +kernel
theorem dX3_begin_1 : decode cX3_begin 1 = .ok (.getfield 9, 3) := by decide +kernel
theorem dX3_begin_4 : decode cX3_begin 4 = .ok (.ldc 25, 2) := by decide +kernel
theorem dX3_begin_6 : decode cX3_begin 6 = .ok (.invokestatic 26, 3) := by decide +kernel
theorem dX3_begin_9 : decode cX3_begin 9 = .ok (.aload_n 0, 1) := by decide +kernel
theorem dX3_begin_10 : decode cX3_begin 10 = .ok (.getfield 15, 3) := by decide +kernel
theorem dX3_begin_13 : decode cX3_begin 13 = .ok (.iconst (-1), 1) := by decide +kernel
theorem dX3_begin_14 : decode cX3_begin 14 = .ok (.invokestatic 26, 3) := by decide +kernel
theorem dX3_begin_17 : decode cX3_begin 17 = .ok (.aload_n 0, 1) := by decide +kernel
theorem dX3_begin_18 : decode cX3_begin 18 = .ok (.getfield 18, 3) := by decide +kernel
theorem dX3_begin_21 : decode cX3_begin 21 = .ok (.ldc2_w 32, 3) := by decide +kernel
theorem dX3_begin_24 : decode cX3_begin 24 = .ok (.invokestatic 34, 3) := by decide +kernel
theorem dX3_begin_27 : decode cX3_begin 27 = .ok (.aload_n 0, 1) := by decide +kernel
theorem dX3_begin_28 : decode cX3_begin 28 = .ok (.getfield 9, 3) := by decide +kernel
theorem dX3_begin_31 : decode cX3_begin 31 = .ok (.iconst 0, 1) := by decide +kernel
theorem dX3_begin_32 : decode cX3_begin 32 = .ok (.iload_n 1, 1) := by decide +kernel
theorem dX3_begin_33 : decode cX3_begin 33 = .ok (.iastore, 1) := by decide +kernel
theorem dX3_begin_34 : decode cX3_begin 34 = .ok (.aload_n 0, 1) := by decide +kernel
theorem dX3_begin_35 : decode cX3_begin 35 = .ok (.getfield 9, 3) := by decide +kernel
theorem dX3_begin_38 : decode cX3_begin 38 = .ok (.iconst 2, 1) := by decide +kernel
theorem dX3_begin_39 : decode cX3_begin 39 = .ok (.iconst 0, 1) := by decide +kernel
theorem dX3_begin_40 : decode cX3_begin 40 = .ok (.iastore, 1) := by decide +kernel
theorem dX3_begin_41 : decode cX3_begin 41 = .ok (.aload_n 0, 1) := by decide +kernel
theorem dX3_begin_42 : decode cX3_begin 42 = .ok (.getfield 9, 3) := by decide +kernel
theorem dX3_begin_45 : decode cX3_begin 45 = .ok (.iconst 3, 1) := by decide +kernel
theorem dX3_begin_46 : decode cX3_begin 46 = .ok (.iconst 0, 1) := by decide +kernel
theorem dX3_begin_47 : decode cX3_begin 47 = .ok (.iastore, 1) := by decide +kernel
theorem dX3_begin_48 : decode cX3_begin 48 = .ok (.return_, 1) := by decide +kernel
theorem dX3_value_0 : decode cX3_value 0 = .ok (.iload_n 1, 1) := by decide +kernel
theorem dX3_value_1 : decode cX3_value 1 = .ok (.ifCond .lt 12, 3) := by decide +kernel
theorem dX3_value_4 : decode cX3_value 4 = .ok (.iload_n 1, 1) := by decide +kernel
theorem dX3_value_5 : decode cX3_value 5 = .ok (.aload_n 0, 1) := by decide +kernel
theorem dX3_value_6 : decode cX3_value 6 = .ok (.getfield 9, 3) := by decide +kernel
theorem dX3_value_9 : decode cX3_value 9 = .ok (.arraylength, 1) := by decide +kernel
theorem dX3_value_10 : decode cX3_value 10 = .ok (.if_icmp .lt 7, 3) := by decide +kernel
theorem dX3_value_13 : decode cX3_value 13 = .ok (.iconst (-1), 1) := by decide +kernel
theorem dX3_value_14 : decode cX3_value 14 = .ok (.goto 9, 3) := by decide +kernel
theorem dX3_value_17 : decode cX3_value 17 = .ok (.aload_n 0, 1) := by decide +kernel
theorem dX3_value_18 : decode cX3_value 18 = .ok (.getfield 9, 3) := by decide +kernel
theorem dX3_value_21 : decode cX3_value 21 = .ok (.iload_n 1, 1) := by decide +kernel
theorem dX3_value_22 : decode cX3_value 22 = .ok (.iaload, 1) := by decide +kernel
theorem dX3_value_23 : decode cX3_value 23 = .ok (.ireturn, 1) := by decide +kernel
theorem dX3_letter_0 : decode cX3_letter 0 = .ok (.iload_n 1, 1) := by decide +kernel
theorem dX3_letter_1 : decode cX3_letter 1 = .ok (.ifCond .lt 12, 3) := by decide +kernel
theorem dX3_letter_4 : decode cX3_letter 4 = .ok (.iload_n 1, 1) := by decide +kernel
theorem dX3_letter_5 : decode cX3_letter 5 = .ok (.aload_n 0, 1) := by decide +kernel
theorem dX3_letter_6 : decode cX3_letter 6 = .ok (.getfield 15, 3) := by decide +kernel
theorem dX3_letter_9 : decode cX3_letter 9 = .ok (.arraylength, 1) := by decide +kernel
theorem dX3_letter_10 : decode cX3_letter 10 = .ok (.if_icmp .lt 7, 3) := by decide +kernel
theorem dX3_letter_13 : decode cX3_letter 13 = .ok (.iconst (-1), 1) := by decide +kernel
theorem dX3_letter_14 : decode cX3_letter 14 = .ok (.goto 9, 3) := by decide +kernel
theorem dX3_letter_17 : decode cX3_letter 17 = .ok (.aload_n 0, 1) := by decide +kernel
theorem dX3_letter_18 : decode cX3_letter 18 = .ok (.getfield 15, 3) := by decide +kernel
theorem dX3_letter_21 : decode cX3_letter 21 = .ok (.iload_n 1, 1) := by decide +kernel
theorem dX3_letter_22 : decode cX3_letter 22 = .ok (.iaload, 1) := by decide +kernel
theorem dX3_letter_23 : decode cX3_letter 23 = .ok (.ireturn, 1) := by decide +kernel
theorem dX3_countFrame_0 : decode cX3_countFrame 0 = .ok (.aload_n 0, 1) := by decide +kernel
theorem dX3_countFrame_1 : decode cX3_countFrame 1 = .ok (.getfield 9, 3) := by decide +kernel
theorem dX3_countFrame_4 : decode cX3_countFrame 4 = .ok (.iconst 1, 1) := by decide +kernel
theorem dX3_countFrame_5 : decode cX3_countFrame 5 = .ok (.iload_n 2, 1) := by decide +kernel
theorem dX3_countFrame_6 : decode cX3_countFrame 6 = .ok (.iastore, 1) := by decide +kernel
theorem dX3_countFrame_7 : decode cX3_countFrame 7 = .ok (.aload_n 0, 1) := by decide +kernel
theorem dX3_countFrame_8 : decode cX3_countFrame 8 = .ok (.getfield 9, 3) := by decide +kernel
theorem dX3_countFrame_11 : decode cX3_countFrame 11 = .ok (.iconst 2, 1) := by decide +kernel
theorem dX3_countFrame_12 : decode cX3_countFrame 12 = .ok (.dup2, 1) := by decide +kernel
theorem dX3_countFrame_13 : decode cX3_countFrame 13 = .ok (.iaload, 1) := by decide +kernel
theorem dX3_countFrame_14 : decode cX3_countFrame 14 = .ok (.iconst 1, 1) := by decide +kernel
theorem dX3_countFrame_15 : decode cX3_countFrame 15 = .ok (.iadd, 1) := by decide +kernel
theorem dX3_countFrame_16 : decode cX3_countFrame 16 = .ok (.iastore, 1) := by decide +kernel
theorem dX3_countFrame_17 : decode cX3_countFrame 17 = .ok (.aload_n 1, 1) := by decide +kernel
theorem dX3_countFrame_18 : decode cX3_countFrame 18 = .ok (.invokevirtual 37, 3) := by decide +kernel
theorem dX3_countFrame_21 : decode cX3_countFrame 21 = .ok (.iconst (-1), 1) := by decide +kernel
theorem dX3_countFrame_22 : decode cX3_countFrame 22 = .ok (.if_icmp .eq 13, 3) := by decide +kernel
theorem dX3_countFrame_25 : decode cX3_countFrame 25 = .ok (.aload_n 0, 1) := by decide +kernel
theorem dX3_countFrame_26 : decode cX3_countFrame 26 = .ok (.getfield 9, 3) := by decide +kernel
theorem dX3_countFrame_29 : decode cX3_countFrame 29 = .ok (.iconst 3, 1) := by decide +kernel
theorem dX3_countFrame_30 : decode cX3_countFrame 30 = .ok (.dup2, 1) := by decide +kernel
theorem dX3_countFrame_31 : decode cX3_countFrame 31 = .ok (.iaload, 1) := by decide +kernel
theorem dX3_countFrame_32 : decode cX3_countFrame 32 = .ok (.iconst 1, 1) := by decide +kernel
theorem dX3_countFrame_33 : decode cX3_countFrame 33 = .ok (.iadd, 1) := by decide +kernel
theorem dX3_countFrame_34 : decode cX3_countFrame 34 = .ok (.iastore, 1) := by decide +kernel
theorem dX3_countFrame_35 : decode cX3_countFrame 35 = .ok (.return_, 1) := by decide +kernel
theorem dX3_learnReply_0 : decode cX3_learnReply 0 = .ok (.aload_n 1, 1) := by decide +kernel
theorem dX3_learnReply_1 : decode cX3_learnReply 1 = .ok (.ldc 43, 2) := by decide +kernel
theorem dX3_learnReply_3 : decode cX3_learnReply 3 = .ok (.invokevirtual 44, 3) := by decide +kernel
theorem dX3_learnReply_6 : decode cX3_learnReply 6 = .ok (.ifCond .eq 20, 3) := by decide +kernel
theorem dX3_learnReply_9 : decode cX3_learnReply 9 = .ok (.aload_n 0, 1) := by decide +kernel
theorem dX3_learnReply_10 : decode cX3_learnReply 10 = .ok (.getfield 9, 3) := by decide +kernel
theorem dX3_learnReply_13 : decode cX3_learnReply 13 = .ok (.iconst 4, 1) := by decide +kernel
theorem dX3_learnReply_14 : decode cX3_learnReply 14 = .ok (.aload_n 1, 1) := by decide +kernel
theorem dX3_learnReply_15 : decode cX3_learnReply 15 = .ok (.bipush 20, 2) := by decide +kernel
theorem dX3_learnReply_17 : decode cX3_learnReply 17 = .ok (.bipush 13, 2) := by decide +kernel
theorem dX3_learnReply_19 : decode cX3_learnReply 19 = .ok (.invokevirtual 48, 3) := by decide +kernel
theorem dX3_learnReply_22 : decode cX3_learnReply 22 = .ok (.invokestatic 52, 3) := by decide +kernel
theorem dX3_learnReply_25 : decode cX3_learnReply 25 = .ok (.iastore, 1) := by decide +kernel
theorem dX3_learnReply_26 : decode cX3_learnReply 26 = .ok (.aload_n 1, 1) := by decide +kernel
theorem dX3_learnReply_27 : decode cX3_learnReply 27 = .ok (.ldc 58, 2) := by decide +kernel
theorem dX3_learnReply_29 : decode cX3_learnReply 29 = .ok (.invokevirtual 44, 3) := by decide +kernel
theorem dX3_learnReply_32 : decode cX3_learnReply 32 = .ok (.ifCond .eq 20, 3) := by decide +kernel
theorem dX3_learnReply_35 : decode cX3_learnReply 35 = .ok (.aload_n 0, 1) := by decide +kernel
theorem dX3_learnReply_36 : decode cX3_learnReply 36 = .ok (.getfield 9, 3) := by decide +kernel
theorem dX3_learnReply_39 : decode cX3_learnReply 39 = .ok (.iconst 5, 1) := by decide +kernel
theorem dX3_learnReply_40 : decode cX3_learnReply 40 = .ok (.aload_n 1, 1) := by decide +kernel
theorem dX3_learnReply_41 : decode cX3_learnReply 41 = .ok (.bipush 20, 2) := by decide +kernel
theorem dX3_learnReply_43 : decode cX3_learnReply 43 = .ok (.bipush 13, 2) := by decide +kernel
theorem dX3_learnReply_45 : decode cX3_learnReply 45 = .ok (.invokevirtual 48, 3) := by decide +kernel
theorem dX3_learnReply_48 : decode cX3_learnReply 48 = .ok (.invokestatic 59, 3) := by decide +kernel
theorem dX3_learnReply_51 : decode cX3_learnReply 51 = .ok (.iastore, 1) := by decide +kernel
theorem dX3_learnReply_52 : decode cX3_learnReply 52 = .ok (.return_, 1) := by decide +kernel
theorem dX3_learnMessage_0 : decode cX3_learnMessage 0 = .ok (.aload_n 1, 1) := by decide +kernel
theorem dX3_learnMessage_1 : decode cX3_learnMessage 1 = .ok (.ldc 62, 2) := by decide +kernel
theorem dX3_learnMessage_3 : decode cX3_learnMessage 3 = .ok (.invokevirtual 44, 3) := by decide +kernel
theorem dX3_learnMessage_6 : decode cX3_learnMessage 6 = .ok (.ifCond .ne 4, 3) := by decide +kernel
theorem dX3_learnMessage_9 : decode cX3_learnMessage 9 = .ok (.return_, 1) := by decide +kernel
theorem dX3_learnMessage_10 : decode cX3_learnMessage 10 = .ok (.aload_n 1, 1) := by decide +kernel
theorem dX3_learnMessage_11 : decode cX3_learnMessage 11 = .ok (.iconst 1, 1) := by decide +kernel
theorem dX3_learnMessage_12 : decode cX3_learnMessage 12 = .ok (.iconst 5, 1) := by decide +kernel
theorem dX3_learnMessage_13 : decode cX3_learnMessage 13 = .ok (.invokevirtual 63, 3) := by decide +kernel
theorem dX3_learnMessage_16 : decode cX3_learnMessage 16 = .ok (.istore 5, 2) := by decide +kernel
theorem dX3_learnMessage_18 : decode cX3_learnMessage 18 = .ok (.aload_n 1, 1) := by decide +kernel
theorem dX3_learnMessage_19 : decode cX3_learnMessage 19 = .ok (.bipush 6, 2) := by decide +kernel
theorem dX3_learnMessage_21 : decode cX3_learnMessage 21 = .ok (.bipush 8, 2) := by decide +kernel
theorem dX3_learnMessage_23 : decode cX3_learnMessage 23 = .ok (.invokevirtual 63, 3) := by decide +kernel
theorem dX3_learnMessage_26 : decode cX3_learnMessage 26 = .ok (.istore 6, 2) := by decide +kernel
theorem dX3_learnMessage_28 : decode cX3_learnMessage 28 = .ok (.iload 5, 2) := by decide +kernel
theorem dX3_learnMessage_30 : decode cX3_learnMessage 30 = .ok (.iconst 1, 1) := by decide +kernel
theorem dX3_learnMessage_31 : decode cX3_learnMessage 31 = .ok (.if_icmp .lt 27, 3) := by decide +kernel
theorem dX3_learnMessage_34 : decode cX3_learnMessage 34 = .ok (.iload 5, 2) := by decide +kernel
theorem dX3_learnMessage_36 : decode cX3_learnMessage 36 = .ok (.iconst 4, 1) := by decide +kernel
theorem dX3_learnMessage_37 : decode cX3_learnMessage 37 = .ok (.if_icmp .gt 21, 3) := by decide +kernel
theorem dX3_learnMessage_40 : decode cX3_learnMessage 40 = .ok (.aload_n 0, 1) := by decide +kernel
theorem dX3_learnMessage_41 : decode cX3_learnMessage 41 = .ok (.aload_n 1, 1) := by decide +kernel
theorem dX3_learnMessage_42 : decode cX3_learnMessage 42 = .ok (.bipush 10, 2) := by decide +kernel
theorem dX3_learnMessage_44 : decode cX3_learnMessage 44 = .ok (.iconst 5, 1) := by decide +kernel
theorem dX3_learnMessage_45 : decode cX3_learnMessage 45 = .ok (.iload 5, 2) := by decide +kernel
theorem dX3_learnMessage_47 : decode cX3_learnMessage 47 = .ok (.isub, 1) := by decide +kernel
theorem dX3_learnMessage_48 : decode cX3_learnMessage 48 = .ok (.imul, 1) := by decide +kernel
theorem dX3_learnMessage_49 : decode cX3_learnMessage 49 = .ok (.iload 6, 2) := by decide +kernel
theorem dX3_learnMessage_51 : decode cX3_learnMessage 51 = .ok (.iadd, 1) := by decide +kernel
theorem dX3_learnMessage_52 : decode cX3_learnMessage 52 = .ok (.invokevirtual 66, 3) := by decide +kernel
theorem dX3_learnMessage_55 : decode cX3_learnMessage 55 = .ok (.goto 138, 3) := by decide +kernel
theorem dX3_learnMessage_58 : decode cX3_learnMessage 58 = .ok (.iload 5, 2) := by decide +kernel
theorem dX3_learnMessage_60 : decode cX3_learnMessage 60 = .ok (.iconst 5, 1) := by decide +kernel
theorem dX3_learnMessage_61 : decode cX3_learnMessage 61 = .ok (.if_icmp .lt 20, 3) := by decide +kernel
theorem dX3_learnMessage_64 : decode cX3_learnMessage 64 = .ok (.iload 5, 2) := by decide +kernel
theorem dX3_learnMessage_66 : decode cX3_learnMessage 66 = .ok (.bipush 8, 2) := by decide +kernel
theorem dX3_learnMessage_68 : decode cX3_learnMessage 68 = .ok (.if_icmp .gt 13, 3) := by decide +kernel
theorem dX3_learnMessage_71 : decode cX3_learnMessage 71 = .ok (.aload_n 0, 1) := by decide +kernel
theorem dX3_learnMessage_72 : decode cX3_learnMessage 72 = .ok (.aload_n 1, 1) := by decide +kernel
theorem dX3_learnMessage_73 : decode cX3_learnMessage 73 = .ok (.iload_n 2, 1) := by decide +kernel
theorem dX3_learnMessage_74 : decode cX3_learnMessage 74 = .ok (.lload_n 3, 1) := by decide +kernel
theorem dX3_learnMessage_75 : decode cX3_learnMessage 75 = .ok (.invokevirtual 70, 3) := by decide +kernel
theorem dX3_learnMessage_78 : decode cX3_learnMessage 78 = .ok (.goto 115, 3) := by decide +kernel
theorem dX3_learnMessage_81 : decode cX3_learnMessage 81 = .ok (.iload 5, 2) := by decide +kernel
theorem dX3_learnMessage_83 : decode cX3_learnMessage 83 = .ok (.bipush 19, 2) := by decide +kernel
theorem dX3_learnMessage_85 : decode cX3_learnMessage 85 = .ok (.if_icmp .ne 13, 3) := by decide +kernel
theorem dX3_learnMessage_88 : decode cX3_learnMessage 88 = .ok (.aload_n 0, 1) := by decide +kernel
theorem dX3_learnMessage_89 : decode cX3_learnMessage 89 = .ok (.aload_n 1, 1) := by decide +kernel
theorem dX3_learnMessage_90 : decode cX3_learnMessage 90 = .ok (.iload 6, 2) := by decide +kernel
theorem dX3_learnMessage_92 : decode cX3_learnMessage 92 = .ok (.invokevirtual 74, 3) := by decide +kernel
theorem dX3_learnMessage_95 : decode cX3_learnMessage 95 = .ok (.goto 98, 3) := by decide +kernel
theorem dX3_learnMessage_98 : decode cX3_learnMessage 98 = .ok (.iload 5, 2) := by decide +kernel
theorem dX3_learnMessage_100 : decode cX3_learnMessage 100 = .ok (.bipush 9, 2) := by decide +kernel
theorem dX3_learnMessage_102 : decode cX3_learnMessage 102 = .ok (.if_icmp .lt 21, 3) := by decide +kernel
theorem dX3_learnMessage_105 : decode cX3_learnMessage 105 = .ok (.iload 5, 2) := by decide +kernel
theorem dX3_learnMessage_107 : decode cX3_learnMessage 107 = .ok (.bipush 22, 2) := by decide +kernel
theorem dX3_learnMessage_109 : decode cX3_learnMessage 109 = .ok (.if_icmp .gt 14, 3) := by decide +kernel
theorem dX3_learnMessage_112 : decode cX3_learnMessage 112 = .ok (.aload_n 0, 1) := by decide +kernel
theorem dX3_learnMessage_113 : decode cX3_learnMessage 113 = .ok (.aload_n 1, 1) := by decide +kernel
theorem dX3_learnMessage_114 : decode cX3_learnMessage 114 = .ok (.iload 5, 2) := by decide +kernel
theorem dX3_learnMessage_116 : decode cX3_learnMessage 116 = .ok (.iload_n 2, 1) := by decide +kernel
theorem dX3_learnMessage_117 : decode cX3_learnMessage 117 = .ok (.invokevirtual 77, 3) := by decide +kernel
theorem dX3_learnMessage_120 : decode cX3_learnMessage 120 = .ok (.goto 73, 3) := by decide +kernel
theorem dX3_learnMessage_123 : decode cX3_learnMessage 123 = .ok (.iload 5, 2) := by decide +kernel
theorem dX3_learnMessage_125 : decode cX3_learnMessage 125 = .ok (.bipush 28, 2) := by decide +kernel
theorem dX3_learnMessage_127 : decode cX3_learnMessage 127 = .ok (.if_icmp .ne 44, 3) := by decide +kernel
theorem dX3_learnMessage_130 : decode cX3_learnMessage 130 = .ok (.iload 6, 2) := by decide +kernel
theorem dX3_learnMessage_132 : decode cX3_learnMessage 132 = .ok (.iconst 1, 1) := by decide +kernel
theorem dX3_learnMessage_133 : decode cX3_learnMessage 133 = .ok (.if_icmp .ne 38, 3) := by decide +kernel
theorem dX3_learnMessage_136 : decode cX3_learnMessage 136 = .ok (.aload_n 0, 1) := by decide +kernel
theorem dX3_learnMessage_137 : decode cX3_learnMessage 137 = .ok (.getfield 9, 3) := by decide +kernel
theorem dX3_learnMessage_140 : decode cX3_learnMessage 140 = .ok (.bipush 12, 2) := by decide +kernel
theorem dX3_learnMessage_142 : decode cX3_learnMessage 142 = .ok (.aload_n 1, 1) := by decide +kernel
theorem dX3_learnMessage_143 : decode cX3_learnMessage 143 = .ok (.bipush 9, 2) := by decide +kernel
theorem dX3_learnMessage_145 : decode cX3_learnMessage 145 = .ok (.bipush 11, 2) := by decide +kernel
theorem dX3_learnMessage_147 : decode cX3_learnMessage 147 = .ok (.invokevirtual 63, 3) := by decide +kernel
theorem dX3_learnMessage_150 : decode cX3_learnMessage 150 = .ok (.iastore, 1) := by decide +kernel
theorem dX3_learnMessage_151 : decode cX3_learnMessage 151 = .ok (.aload_n 0, 1) := by decide +kernel
theorem dX3_learnMessage_152 : decode cX3_learnMessage 152 = .ok (.getfield 9, 3) := by decide +kernel
theorem dX3_learnMessage_155 : decode cX3_learnMessage 155 = .ok (.iconst 5, 1) := by decide +kernel
theorem dX3_learnMessage_156 : decode cX3_learnMessage 156 = .ok (.aload_n 1, 1) := by decide +kernel
theorem dX3_learnMessage_157 : decode cX3_learnMessage 157 = .ok (.bipush 12, 2) := by decide +kernel
theorem dX3_learnMessage_159 : decode cX3_learnMessage 159 = .ok (.bipush 24, 2) := by decide +kernel
theorem dX3_learnMessage_161 : decode cX3_learnMessage 161 = .ok (.invokevirtual 63, 3) := by decide +kernel
theorem dX3_learnMessage_164 : decode cX3_learnMessage 164 = .ok (.invokestatic 59, 3) := by decide +kernel
theorem dX3_learnMessage_167 : decode cX3_learnMessage 167 = .ok (.iastore, 1) := by decide +kernel
theorem dX3_learnMessage_168 : decode cX3_learnMessage 168 = .ok (.goto 25, 3) := by decide +kernel
theorem dX3_learnMessage_171 : decode cX3_learnMessage 171 = .ok (.iload 5, 2) := by decide +kernel
theorem dX3_learnMessage_173 : decode cX3_learnMessage 173 = .ok (.bipush 31, 2) := by decide +kernel
theorem dX3_learnMessage_175 : decode cX3_learnMessage 175 = .ok (.if_icmp .ne 18, 3) := by decide +kernel
theorem dX3_learnMessage_178 : decode cX3_learnMessage 178 = .ok (.aload_n 0, 1) := by decide +kernel
theorem dX3_learnMessage_179 : decode cX3_learnMessage 179 = .ok (.getfield 9, 3) := by decide +kernel
theorem dX3_learnMessage_182 : decode cX3_learnMessage 182 = .ok (.bipush 13, 2) := by decide +kernel
theorem dX3_learnMessage_184 : decode cX3_learnMessage 184 = .ok (.aload_n 1, 1) := by decide +kernel
theorem dX3_learnMessage_185 : decode cX3_learnMessage 185 = .ok (.bipush 41, 2) := by decide +kernel
theorem dX3_learnMessage_187 : decode cX3_learnMessage 187 = .ok (.bipush 43, 2) := by decide +kernel
theorem dX3_learnMessage_189 : decode cX3_learnMessage 189 = .ok (.invokevirtual 63, 3) := by decide +kernel
theorem dX3_learnMessage_192 : decode cX3_learnMessage 192 = .ok (.iastore, 1) := by decide +kernel
theorem dX3_learnMessage_193 : decode cX3_learnMessage 193 = .ok (.return_, 1) := by decide +kernel
theorem dX3_learnName_0 : decode cX3_learnName 0 = .ok (.aload_n 0, 1) := by decide +kernel
theorem dX3_learnName_1 : decode cX3_learnName 1 = .ok (.getfield 9, 3) := by decide +kernel
theorem dX3_learnName_4 : decode cX3_learnName 4 = .ok (.bipush 6, 2) := by decide +kernel
theorem dX3_learnName_6 : decode cX3_learnName 6 = .ok (.iload_n 2, 1) := by decide +kernel
theorem dX3_learnName_7 : decode cX3_learnName 7 = .ok (.iastore, 1) := by decide +kernel
theorem dX3_learnName_8 : decode cX3_learnName 8 = .ok (.iconst 0, 1) := by decide +kernel
theorem dX3_learnName_9 : decode cX3_learnName 9 = .ok (.istore_n 3, 1) := by decide +kernel
theorem dX3_learnName_10 : decode cX3_learnName 10 = .ok (.iload_n 3, 1) := by decide +kernel
theorem dX3_learnName_11 : decode cX3_learnName 11 = .ok (.aload_n 0, 1) := by decide +kernel
theorem dX3_learnName_12 : decode cX3_learnName 12 = .ok (.getfield 15, 3) := by decide +kernel
theorem dX3_learnName_15 : decode cX3_learnName 15 = .ok (.arraylength, 1) := by decide +kernel
theorem dX3_learnName_16 : decode cX3_learnName 16 = .ok (.if_icmp .ge 36, 3) := by decide +kernel
theorem dX3_learnName_19 : decode cX3_learnName 19 = .ok (.aload_n 0, 1) := by decide +kernel
theorem dX3_learnName_20 : decode cX3_learnName 20 = .ok (.getfield 15, 3) := by decide +kernel
theorem dX3_learnName_23 : decode cX3_learnName 23 = .ok (.iload_n 3, 1) := by decide +kernel
theorem dX3_learnName_24 : decode cX3_learnName 24 = .ok (.aload_n 1, 1) := by decide +kernel
theorem dX3_learnName_25 : decode cX3_learnName 25 = .ok (.bipush 9, 2) := by decide +kernel
theorem dX3_learnName_27 : decode cX3_learnName 27 = .ok (.bipush 6, 2) := by decide +kernel
theorem dX3_learnName_29 : decode cX3_learnName 29 = .ok (.iload_n 3, 1) := by decide +kernel
theorem dX3_learnName_30 : decode cX3_learnName 30 = .ok (.imul, 1) := by decide +kernel
theorem dX3_learnName_31 : decode cX3_learnName 31 = .ok (.iadd, 1) := by decide +kernel
theorem dX3_learnName_32 : decode cX3_learnName 32 = .ok (.bipush 14, 2) := by decide +kernel
theorem dX3_learnName_34 : decode cX3_learnName 34 = .ok (.bipush 6, 2) := by decide +kernel
theorem dX3_learnName_36 : decode cX3_learnName 36 = .ok (.iload_n 3, 1) := by decide +kernel
theorem dX3_learnName_37 : decode cX3_learnName 37 = .ok (.imul, 1) := by decide +kernel
theorem dX3_learnName_38 : decode cX3_learnName 38 = .ok (.iadd, 1) := by decide +kernel
theorem dX3_learnName_39 : decode cX3_learnName 39 = .ok (.invokevirtual 63, 3) := by decide +kernel
theorem dX3_learnName_42 : decode cX3_learnName 42 = .ok (.invokestatic 81, 3) := by decide +kernel
theorem dX3_learnName_45 : decode cX3_learnName 45 = .ok (.iastore, 1) := by decide +kernel
theorem dX3_learnName_46 : decode cX3_learnName 46 = .ok (.iinc 3 1, 3) := by decide +kernel
theorem dX3_learnName_49 : decode cX3_learnName 49 = .ok (.goto (-39), 3) := by decide +kernel
theorem dX3_learnName_52 : decode cX3_learnName 52 = .ok (.return_, 1) := by decide +kernel
theorem dX3_learnOnGround_0 : decode cX3_learnOnGround 0 = .ok (.aload_n 0, 1) := by decide +kernel
theorem dX3_learnOnGround_1 : decode cX3_learnOnGround 1 = .ok (.getfield 9, 3) := by decide +kernel
theorem dX3_learnOnGround_4 : decode cX3_learnOnGround 4 = .ok (.bipush 14, 2) := by decide +kernel
theorem dX3_learnOnGround_6 : decode cX3_learnOnGround 6 = .ok (.iconst 1, 1) := by decide +kernel
theorem dX3_learnOnGround_7 : decode cX3_learnOnGround 7 = .ok (.iastore, 1) := by decide +kernel
theorem dX3_learnOnGround_8 : decode cX3_learnOnGround 8 = .ok (.aload_n 0, 1) := by decide +kernel
theorem dX3_learnOnGround_9 : decode cX3_learnOnGround 9 = .ok (.getfield 9, 3) := by decide +kernel
theorem dX3_learnOnGround_12 : decode cX3_learnOnGround 12 = .ok (.bipush 9, 2) := by decide +kernel
theorem dX3_learnOnGround_14 : decode cX3_learnOnGround 14 = .ok (.aload_n 1, 1) := by decide +kernel
theorem dX3_learnOnGround_15 : decode cX3_learnOnGround 15 = .ok (.bipush 6, 2) := by decide +kernel
theorem dX3_learnOnGround_17 : decode cX3_learnOnGround 17 = .ok (.bipush 12, 2) := by decide +kernel
theorem dX3_learnOnGround_19 : decode cX3_learnOnGround 19 = .ok (.invokevirtual 63, 3) := by decide +kernel
theorem dX3_learnOnGround_22 : decode cX3_learnOnGround 22 = .ok (.invokestatic 84, 3) := by decide +kernel
theorem dX3_learnOnGround_25 : decode cX3_learnOnGround 25 = .ok (.iastore, 1) := by decide +kernel
theorem dX3_learnOnGround_26 : decode cX3_learnOnGround 26 = .ok (.aload_n 0, 1) := by decide +kernel
theorem dX3_learnOnGround_27 : decode cX3_learnOnGround 27 = .ok (.getfield 9, 3) := by decide +kernel
theorem dX3_learnOnGround_30 : decode cX3_learnOnGround 30 = .ok (.bipush 10, 2) := by decide +kernel
theorem dX3_learnOnGround_32 : decode cX3_learnOnGround 32 = .ok (.aload_n 1, 1) := by decide +kernel
theorem dX3_learnOnGround_33 : decode cX3_learnOnGround 33 = .ok (.bipush 13, 2) := by decide +kernel
theorem dX3_learnOnGround_35 : decode cX3_learnOnGround 35 = .ok (.bipush 13, 2) := by decide +kernel
theorem dX3_learnOnGround_37 : decode cX3_learnOnGround 37 = .ok (.invokevirtual 63, 3) := by decide +kernel
theorem dX3_learnOnGround_40 : decode cX3_learnOnGround 40 = .ok (.ifCond .ne 8, 3) := by decide +kernel
theorem dX3_learnOnGround_43 : decode cX3_learnOnGround 43 = .ok (.ldc 25, 2) := by decide +kernel
theorem dX3_learnOnGround_45 : decode cX3_learnOnGround 45 = .ok (.goto 18, 3) := by decide +kernel
theorem dX3_learnOnGround_48 : decode cX3_learnOnGround 48 = .ok (.ldc 87, 2) := by decide +kernel
theorem dX3_learnOnGround_50 : decode cX3_learnOnGround 50 = .ok (.aload_n 1, 1) := by decide +kernel
theorem dX3_learnOnGround_51 : decode cX3_learnOnGround 51 = .ok (.bipush 14, 2) := by decide +kernel
theorem dX3_learnOnGround_53 : decode cX3_learnOnGround 53 = .ok (.bipush 20, 2) := by decide +kernel
theorem dX3_learnOnGround_55 : decode cX3_learnOnGround 55 = .ok (.invokevirtual 63, 3) := by decide +kernel
theorem dX3_learnOnGround_58 : decode cX3_learnOnGround 58 = .ok (.imul, 1) := by decide +kernel
theorem dX3_learnOnGround_59 : decode cX3_learnOnGround 59 = .ok (.sipush 128, 3) := by decide +kernel
theorem dX3_learnOnGround_62 : decode cX3_learnOnGround 62 = .ok (.idiv, 1) := by decide +kernel
theorem dX3_learnOnGround_63 : decode cX3_learnOnGround 63 = .ok (.iastore, 1) := by decide +kernel
theorem dX3_learnOnGround_64 : decode cX3_learnOnGround 64 = .ok (.aload_n 0, 1) := by decide +kernel
theorem dX3_learnOnGround_65 : decode cX3_learnOnGround 65 = .ok (.getfield 18, 3) := by decide +kernel
theorem dX3_learnOnGround_68 : decode cX3_learnOnGround 68 = .ok (.ldc2_w 32, 3) := by decide +kernel
theorem dX3_learnOnGround_71 : decode cX3_learnOnGround 71 = .ok (.invokestatic 34, 3) := by decide +kernel
theorem dX3_learnOnGround_74 : decode cX3_learnOnGround 74 = .ok (.aload_n 0, 1) := by decide +kernel
theorem dX3_learnOnGround_75 : decode cX3_learnOnGround 75 = .ok (.iload_n 2, 1) := by decide +kernel
theorem dX3_learnOnGround_76 : decode cX3_learnOnGround 76 = .ok (.invokevirtual 88, 3) := by decide +kernel
theorem dX3_learnOnGround_79 : decode cX3_learnOnGround 79 = .ok (.ifCond .eq 10, 3) := by decide +kernel
theorem dX3_learnOnGround_82 : decode cX3_learnOnGround 82 = .ok (.aload_n 0, 1) := by decide +kernel
theorem dX3_learnOnGround_83 : decode cX3_learnOnGround 83 = .ok (.invokevirtual 91, 3) := by decide +kernel
theorem dX3_learnOnGround_86 : decode cX3_learnOnGround 86 = .ok (.goto 4, 3) := by decide +kernel
theorem dX3_learnOnGround_89 : decode cX3_learnOnGround 89 = .ok (.lload_n 3, 1) := by decide +kernel
theorem dX3_learnOnGround_90 : decode cX3_learnOnGround 90 = .ok (.lstore 5, 2) := by decide +kernel
theorem dX3_learnOnGround_92 : decode cX3_learnOnGround 92 = .ok (.lload 5, 2) := by decide +kernel
theorem dX3_learnOnGround_94 : decode cX3_learnOnGround 94 = .ok (.ldc2_w 95, 3) := by decide +kernel
theorem dX3_learnOnGround_97 : decode cX3_learnOnGround 97 = .ok (.lcmp, 1) := by decide +kernel
theorem dX3_learnOnGround_98 : decode cX3_learnOnGround 98 = .ok (.ifCond .eq 22, 3) := by decide +kernel
theorem dX3_learnOnGround_101 : decode cX3_learnOnGround 101 = .ok (.aload_n 0, 1) := by decide +kernel
theorem dX3_learnOnGround_102 : decode cX3_learnOnGround 102 = .ok (.aload_n 1, 1) := by decide +kernel
theorem dX3_learnOnGround_103 : decode cX3_learnOnGround 103 = .ok (.invokestatic 97, 3) := by decide +kernel
theorem dX3_learnOnGround_106 : decode cX3_learnOnGround 106 = .ok (.iconst 1, 1) := by decide +kernel
theorem dX3_learnOnGround_107 : decode cX3_learnOnGround 107 = .ok (.aload_n 1, 1) := by decide +kernel
theorem dX3_learnOnGround_108 : decode cX3_learnOnGround 108 = .ok (.invokestatic 101, 3) := by decide +kernel
theorem dX3_learnOnGround_111 : decode cX3_learnOnGround 111 = .ok (.lload 5, 2) := by decide +kernel
theorem dX3_learnOnGround_113 : decode cX3_learnOnGround 113 = .ok (.invokestatic 105, 3) := by decide +kernel
theorem dX3_learnOnGround_116 : decode cX3_learnOnGround 116 = .ok (.iload_n 2, 1) := by decide +kernel
theorem dX3_learnOnGround_117 : decode cX3_learnOnGround 117 = .ok (.invokevirtual 111, 3) := by decide +kernel
theorem dX3_learnOnGround_120 : decode cX3_learnOnGround 120 = .ok (.return_, 1) := by decide +kernel
theorem dX3_learnInAir_0 : decode cX3_learnInAir 0 = .ok (.aload_n 0, 1) := by decide +kernel
theorem dX3_learnInAir_1 : decode cX3_learnInAir 1 = .ok (.getfield 9, 3) := by decide +kernel
theorem dX3_learnInAir_4 : decode cX3_learnInAir 4 = .ok (.bipush 14, 2) := by decide +kernel
theorem dX3_learnInAir_6 : decode cX3_learnInAir 6 = .ok (.iconst 0, 1) := by decide +kernel
theorem dX3_learnInAir_7 : decode cX3_learnInAir 7 = .ok (.iastore, 1) := by decide +kernel
theorem dX3_learnInAir_8 : decode cX3_learnInAir 8 = .ok (.iload_n 2, 1) := by decide +kernel
theorem dX3_learnInAir_9 : decode cX3_learnInAir 9 = .ok (.bipush 18, 2) := by decide +kernel
theorem dX3_learnInAir_11 : decode cX3_learnInAir 11 = .ok (.if_icmp .gt 23, 3) := by decide +kernel
theorem dX3_learnInAir_14 : decode cX3_learnInAir 14 = .ok (.aload_n 0, 1) := by decide +kernel
theorem dX3_learnInAir_15 : decode cX3_learnInAir 15 = .ok (.getfield 9, 3) := by decide +kernel
theorem dX3_learnInAir_18 : decode cX3_learnInAir 18 = .ok (.iconst 4, 1) := by decide +kernel
theorem dX3_learnInAir_19 : decode cX3_learnInAir 19 = .ok (.aload_n 1, 1) := by decide +kernel
theorem dX3_learnInAir_20 : decode cX3_learnInAir 20 = .ok (.bipush 9, 2) := by decide +kernel
theorem dX3_learnInAir_22 : decode cX3_learnInAir 22 = .ok (.bipush 20, 2) := by decide +kernel
theorem dX3_learnInAir_24 : decode cX3_learnInAir 24 = .ok (.invokevirtual 63, 3) := by decide +kernel
theorem dX3_learnInAir_27 : decode cX3_learnInAir 27 = .ok (.invokestatic 115, 3) := by decide +kernel
theorem dX3_learnInAir_30 : decode cX3_learnInAir 30 = .ok (.invokestatic 52, 3) := by decide +kernel
theorem dX3_learnInAir_33 : decode cX3_learnInAir 33 = .ok (.iastore, 1) := by decide +kernel
theorem dX3_learnInAir_34 : decode cX3_learnInAir 34 = .ok (.aload_n 1, 1) := by decide +kernel
theorem dX3_learnInAir_35 : decode cX3_learnInAir 35 = .ok (.invokestatic 101, 3) := by decide +kernel
theorem dX3_learnInAir_38 : decode cX3_learnInAir 38 = .ok (.istore 4, 2) := by decide +kernel
theorem dX3_learnInAir_40 : decode cX3_learnInAir 40 = .ok (.aload_n 1, 1) := by decide +kernel
theorem dX3_learnInAir_41 : decode cX3_learnInAir 41 = .ok (.invokestatic 97, 3) := by decide +kernel
theorem dX3_learnInAir_44 : decode cX3_learnInAir 44 = .ok (.lstore 5, 2) := by decide +kernel
theorem dX3_learnInAir_46 : decode cX3_learnInAir 46 = .ok (.iload 4, 2) := by decide +kernel
theorem dX3_learnInAir_48 : decode cX3_learnInAir 48 = .ok (.ifCond .eq 7, 3) := by decide +kernel
theorem dX3_learnInAir_51 : decode cX3_learnInAir 51 = .ok (.iconst 1, 1) := by decide +kernel
theorem dX3_learnInAir_52 : decode cX3_learnInAir 52 = .ok (.goto 4, 3) := by decide +kernel
theorem dX3_learnInAir_55 : decode cX3_learnInAir 55 = .ok (.iconst 0, 1) := by decide +kernel
theorem dX3_learnInAir_56 : decode cX3_learnInAir 56 = .ok (.istore 7, 2) := by decide +kernel
theorem dX3_learnInAir_58 : decode cX3_learnInAir 58 = .ok (.iconst 1, 1) := by decide +kernel
theorem dX3_learnInAir_59 : decode cX3_learnInAir 59 = .ok (.iload 7, 2) := by decide +kernel
theorem dX3_learnInAir_61 : decode cX3_learnInAir 61 = .ok (.isub, 1) := by decide +kernel
theorem dX3_learnInAir_62 : decode cX3_learnInAir 62 = .ok (.istore 8, 2) := by decide +kernel
theorem dX3_learnInAir_64 : decode cX3_learnInAir 64 = .ok (.aload_n 0, 1) := by decide +kernel
theorem dX3_learnInAir_65 : decode cX3_learnInAir 65 = .ok (.getfield 18, 3) := by decide +kernel
theorem dX3_learnInAir_68 : decode cX3_learnInAir 68 = .ok (.iload 7, 2) := by decide +kernel
theorem dX3_learnInAir_70 : decode cX3_learnInAir 70 = .ok (.lload 5, 2) := by decide +kernel
theorem dX3_learnInAir_72 : decode cX3_learnInAir 72 = .ok (.lastore, 1) := by decide +kernel
theorem dX3_learnInAir_73 : decode cX3_learnInAir 73 = .ok (.aload_n 0, 1) := by decide +kernel
theorem dX3_learnInAir_74 : decode cX3_learnInAir 74 = .ok (.getfield 22, 3) := by decide +kernel
theorem dX3_learnInAir_77 : decode cX3_learnInAir 77 = .ok (.iload 7, 2) := by decide +kernel
theorem dX3_learnInAir_79 : decode cX3_learnInAir 79 = .ok (.iload_n 3, 1) := by decide +kernel
theorem dX3_learnInAir_80 : decode cX3_learnInAir 80 = .ok (.iastore, 1) := by decide +kernel
theorem dX3_learnInAir_81 : decode cX3_learnInAir 81 = .ok (.aload_n 0, 1) := by decide +kernel
theorem dX3_learnInAir_82 : decode cX3_learnInAir 82 = .ok (.iload_n 3, 1) := by decide +kernel
theorem dX3_learnInAir_83 : decode cX3_learnInAir 83 = .ok (.invokevirtual 88, 3) := by decide +kernel
theorem dX3_learnInAir_86 : decode cX3_learnInAir 86 = .ok (.ifCond .eq 23, 3) := by decide +kernel
theorem dX3_learnInAir_89 : decode cX3_learnInAir 89 = .ok (.aload_n 0, 1) := by decide +kernel
theorem dX3_learnInAir_90 : decode cX3_learnInAir 90 = .ok (.lload 5, 2) := by decide +kernel
theorem dX3_learnInAir_92 : decode cX3_learnInAir 92 = .ok (.iconst 0, 1) := by decide +kernel
theorem dX3_learnInAir_93 : decode cX3_learnInAir 93 = .ok (.iload 4, 2) := by decide +kernel
theorem dX3_learnInAir_95 : decode cX3_learnInAir 95 = .ok (.aload_n 0, 1) := by decide +kernel
theorem dX3_learnInAir_96 : decode cX3_learnInAir 96 = .ok (.invokevirtual 91, 3) := by decide +kernel
theorem dX3_learnInAir_99 : decode cX3_learnInAir 99 = .ok (.invokestatic 105, 3) := by decide +kernel
theorem dX3_learnInAir_102 : decode cX3_learnInAir 102 = .ok (.iload_n 3, 1) := by decide +kernel
theorem dX3_learnInAir_103 : decode cX3_learnInAir 103 = .ok (.invokevirtual 111, 3) := by decide +kernel
theorem dX3_learnInAir_106 : decode cX3_learnInAir 106 = .ok (.goto 53, 3) := by decide +kernel
theorem dX3_learnInAir_109 : decode cX3_learnInAir 109 = .ok (.aload_n 0, 1) := by decide +kernel
theorem dX3_learnInAir_110 : decode cX3_learnInAir 110 = .ok (.getfield 18, 3) := by decide +kernel
theorem dX3_learnInAir_113 : decode cX3_learnInAir 113 = .ok (.iload 8, 2) := by decide +kernel
theorem dX3_learnInAir_115 : decode cX3_learnInAir 115 = .ok (.laload, 1) := by decide +kernel
theorem dX3_learnInAir_116 : decode cX3_learnInAir 116 = .ok (.ldc2_w 32, 3) := by decide +kernel
theorem dX3_learnInAir_119 : decode cX3_learnInAir 119 = .ok (.lcmp, 1) := by decide +kernel
theorem dX3_learnInAir_120 : decode cX3_learnInAir 120 = .ok (.ifCond .eq 39, 3) := by decide +kernel
theorem dX3_learnInAir_123 : decode cX3_learnInAir 123 = .ok (.iload_n 3, 1) := by decide +kernel
theorem dX3_learnInAir_124 : decode cX3_learnInAir 124 = .ok (.aload_n 0, 1) := by decide +kernel
theorem dX3_learnInAir_125 : decode cX3_learnInAir 125 = .ok (.getfield 22, 3) := by decide +kernel
theorem dX3_learnInAir_128 : decode cX3_learnInAir 128 = .ok (.iload 8, 2) := by decide +kernel
theorem dX3_learnInAir_130 : decode cX3_learnInAir 130 = .ok (.iaload, 1) := by decide +kernel
theorem dX3_learnInAir_131 : decode cX3_learnInAir 131 = .ok (.isub, 1) := by decide +kernel
theorem dX3_learnInAir_132 : decode cX3_learnInAir 132 = .ok (.bipush 100, 2) := by decide +kernel
theorem dX3_learnInAir_134 : decode cX3_learnInAir 134 = .ok (.if_icmp .gt 25, 3) := by decide +kernel
theorem dX3_learnInAir_137 : decode cX3_learnInAir 137 = .ok (.aload_n 0, 1) := by decide +kernel
theorem dX3_learnInAir_138 : decode cX3_learnInAir 138 = .ok (.aload_n 0, 1) := by decide +kernel
theorem dX3_learnInAir_139 : decode cX3_learnInAir 139 = .ok (.getfield 18, 3) := by decide +kernel
theorem dX3_learnInAir_142 : decode cX3_learnInAir 142 = .ok (.iconst 0, 1) := by decide +kernel
theorem dX3_learnInAir_143 : decode cX3_learnInAir 143 = .ok (.laload, 1) := by decide +kernel
theorem dX3_learnInAir_144 : decode cX3_learnInAir 144 = .ok (.aload_n 0, 1) := by decide +kernel
theorem dX3_learnInAir_145 : decode cX3_learnInAir 145 = .ok (.getfield 18, 3) := by decide +kernel
theorem dX3_learnInAir_148 : decode cX3_learnInAir 148 = .ok (.iconst 1, 1) := by decide +kernel
theorem dX3_learnInAir_149 : decode cX3_learnInAir 149 = .ok (.laload, 1) := by decide +kernel
theorem dX3_learnInAir_150 : decode cX3_learnInAir 150 = .ok (.iload 4, 2) := by decide +kernel
theorem dX3_learnInAir_152 : decode cX3_learnInAir 152 = .ok (.invokestatic 118, 3) := by decide +kernel
theorem dX3_learnInAir_155 : decode cX3_learnInAir 155 = .ok (.iload_n 3, 1) := by decide +kernel
theorem dX3_learnInAir_156 : decode cX3_learnInAir 156 = .ok (.invokevirtual 111, 3) := by decide +kernel
theorem dX3_learnInAir_159 : decode cX3_learnInAir 159 = .ok (.return_, 1) := by decide +kernel
theorem dX3_learnMotion_0 : decode cX3_learnMotion 0 = .ok (.iload_n 2, 1) := by decide +kernel
theorem dX3_learnMotion_1 : decode cX3_learnMotion 1 = .ok (.iconst 1, 1) := by decide +kernel
theorem dX3_learnMotion_2 : decode cX3_learnMotion 2 = .ok (.if_icmp .lt 8, 3) := by decide +kernel
theorem dX3_learnMotion_5 : decode cX3_learnMotion 5 = .ok (.iload_n 2, 1) := by decide +kernel
theorem dX3_learnMotion_6 : decode cX3_learnMotion 6 = .ok (.iconst 4, 1) := by decide +kernel
theorem dX3_learnMotion_7 : decode cX3_learnMotion 7 = .ok (.if_icmp .le 4, 3) := by decide +kernel
theorem dX3_learnMotion_10 : decode cX3_learnMotion 10 = .ok (.return_, 1) := by decide +kernel
theorem dX3_learnMotion_11 : decode cX3_learnMotion 11 = .ok (.iload_n 2, 1) := by decide +kernel
theorem dX3_learnMotion_12 : decode cX3_learnMotion 12 = .ok (.iconst 2, 1) := by decide +kernel
theorem dX3_learnMotion_13 : decode cX3_learnMotion 13 = .ok (.if_icmp .eq 8, 3) := by decide +kernel
theorem dX3_learnMotion_16 : decode cX3_learnMotion 16 = .ok (.iload_n 2, 1) := by decide +kernel
theorem dX3_learnMotion_17 : decode cX3_learnMotion 17 = .ok (.iconst 4, 1) := by decide +kernel
theorem dX3_learnMotion_18 : decode cX3_learnMotion 18 = .ok (.if_icmp .ne 7, 3) := by decide +kernel
theorem dX3_learnMotion_21 : decode cX3_learnMotion 21 = .ok (.iconst 4, 1) := by decide +kernel
theorem dX3_learnMotion_22 : decode cX3_learnMotion 22 = .ok (.goto 4, 3) := by decide +kernel
theorem dX3_learnMotion_25 : decode cX3_learnMotion 25 = .ok (.iconst 1, 1) := by decide +kernel
theorem dX3_learnMotion_26 : decode cX3_learnMotion 26 = .ok (.istore_n 3, 1) := by decide +kernel
theorem dX3_learnMotion_27 : decode cX3_learnMotion 27 = .ok (.iload_n 2, 1) := by decide +kernel
theorem dX3_learnMotion_28 : decode cX3_learnMotion 28 = .ok (.iconst 2, 1) := by decide +kernel
theorem dX3_learnMotion_29 : decode cX3_learnMotion 29 = .ok (.if_icmp .gt 82, 3) := by decide +kernel
theorem dX3_learnMotion_32 : decode cX3_learnMotion 32 = .ok (.aload_n 1, 1) := by decide +kernel
theorem dX3_learnMotion_33 : decode cX3_learnMotion 33 = .ok (.bipush 15, 2) := by decide +kernel
theorem dX3_learnMotion_35 : decode cX3_learnMotion 35 = .ok (.bipush 24, 2) := by decide +kernel
theorem dX3_learnMotion_37 : decode cX3_learnMotion 37 = .ok (.invokevirtual 63, 3) := by decide +kernel
theorem dX3_learnMotion_40 : decode cX3_learnMotion 40 = .ok (.iload_n 3, 1) := by decide +kernel
theorem dX3_learnMotion_41 : decode cX3_learnMotion 41 = .ok (.aload_n 1, 1) := by decide +kernel
theorem dX3_learnMotion_42 : decode cX3_learnMotion 42 = .ok (.bipush 14, 2) := by decide +kernel
theorem dX3_learnMotion_44 : decode cX3_learnMotion 44 = .ok (.bipush 14, 2) := by decide +kernel
theorem dX3_learnMotion_46 : decode cX3_learnMotion 46 = .ok (.invokevirtual 63, 3) := by decide +kernel
theorem dX3_learnMotion_49 : decode cX3_learnMotion 49 = .ok (.invokestatic 122, 3) := by decide +kernel
theorem dX3_learnMotion_52 : decode cX3_learnMotion 52 = .ok (.istore 4, 2) := by decide +kernel
theorem dX3_learnMotion_54 : decode cX3_learnMotion 54 = .ok (.aload_n 1, 1) := by decide +kernel
theorem dX3_learnMotion_55 : decode cX3_learnMotion 55 = .ok (.bipush 26, 2) := by decide +kernel
theorem dX3_learnMotion_57 : decode cX3_learnMotion 57 = .ok (.bipush 35, 2) := by decide +kernel
theorem dX3_learnMotion_59 : decode cX3_learnMotion 59 = .ok (.invokevirtual 63, 3) := by decide +kernel
theorem dX3_learnMotion_62 : decode cX3_learnMotion 62 = .ok (.iload_n 3, 1) := by decide +kernel
theorem dX3_learnMotion_63 : decode cX3_learnMotion 63 = .ok (.aload_n 1, 1) := by decide +kernel
theorem dX3_learnMotion_64 : decode cX3_learnMotion 64 = .ok (.bipush 25, 2) := by decide +kernel
theorem dX3_learnMotion_66 : decode cX3_learnMotion 66 = .ok (.bipush 25, 2) := by decide +kernel
theorem dX3_learnMotion_68 : decode cX3_learnMotion 68 = .ok (.invokevirtual 63, 3) := by decide +kernel
theorem dX3_learnMotion_71 : decode cX3_learnMotion 71 = .ok (.invokestatic 122, 3) := by decide +kernel
theorem dX3_learnMotion_74 : decode cX3_learnMotion 74 = .ok (.istore 5, 2) := by decide +kernel
theorem dX3_learnMotion_76 : decode cX3_learnMotion 76 = .ok (.aload_n 0, 1) := by decide +kernel
theorem dX3_learnMotion_77 : decode cX3_learnMotion 77 = .ok (.getfield 9, 3) := by decide +kernel
theorem dX3_learnMotion_80 : decode cX3_learnMotion 80 = .ok (.bipush 7, 2) := by decide +kernel
theorem dX3_learnMotion_82 : decode cX3_learnMotion 82 = .ok (.iload 4, 2) := by decide +kernel
theorem dX3_learnMotion_84 : decode cX3_learnMotion 84 = .ok (.iastore, 1) := by decide +kernel
theorem dX3_learnMotion_85 : decode cX3_learnMotion 85 = .ok (.aload_n 0, 1) := by decide +kernel
theorem dX3_learnMotion_86 : decode cX3_learnMotion 86 = .ok (.getfield 9, 3) := by decide +kernel
theorem dX3_learnMotion_89 : decode cX3_learnMotion 89 = .ok (.bipush 8, 2) := by decide +kernel
theorem dX3_learnMotion_91 : decode cX3_learnMotion 91 = .ok (.iload 5, 2) := by decide +kernel
theorem dX3_learnMotion_93 : decode cX3_learnMotion 93 = .ok (.iastore, 1) := by decide +kernel
theorem dX3_learnMotion_94 : decode cX3_learnMotion 94 = .ok (.aload_n 0, 1) := by decide +kernel
theorem dX3_learnMotion_95 : decode cX3_learnMotion 95 = .ok (.getfield 9, 3) := by decide +kernel
theorem dX3_learnMotion_98 : decode cX3_learnMotion 98 = .ok (.bipush 9, 2) := by decide +kernel
theorem dX3_learnMotion_100 : decode cX3_learnMotion 100 = .ok (.iload 4, 2) := by decide +kernel
theorem dX3_learnMotion_102 : decode cX3_learnMotion 102 = .ok (.iload 5, 2) := by decide +kernel
theorem dX3_learnMotion_104 : decode cX3_learnMotion 104 = .ok (.invokestatic 126, 3) := by decide +kernel
theorem dX3_learnMotion_107 : decode cX3_learnMotion 107 = .ok (.iastore, 1) := by decide +kernel
theorem dX3_learnMotion_108 : decode cX3_learnMotion 108 = .ok (.goto 64, 3) := by decide +kernel
theorem dX3_learnMotion_111 : decode cX3_learnMotion 111 = .ok (.aload_n 0, 1) := by decide +kernel
theorem dX3_learnMotion_112 : decode cX3_learnMotion 112 = .ok (.getfield 9, 3) := by decide +kernel
theorem dX3_learnMotion_115 : decode cX3_learnMotion 115 = .ok (.bipush 10, 2) := by decide +kernel
theorem dX3_learnMotion_117 : decode cX3_learnMotion 117 = .ok (.aload_n 1, 1) := by decide +kernel
theorem dX3_learnMotion_118 : decode cX3_learnMotion 118 = .ok (.bipush 14, 2) := by decide +kernel
theorem dX3_learnMotion_120 : decode cX3_learnMotion 120 = .ok (.bipush 14, 2) := by decide +kernel
theorem dX3_learnMotion_122 : decode cX3_learnMotion 122 = .ok (.invokevirtual 63, 3) := by decide +kernel
theorem dX3_learnMotion_125 : decode cX3_learnMotion 125 = .ok (.ifCond .ne 8, 3) := by decide +kernel
theorem dX3_learnMotion_128 : decode cX3_learnMotion 128 = .ok (.ldc 25, 2) := by decide +kernel
theorem dX3_learnMotion_130 : decode cX3_learnMotion 130 = .ok (.goto 18, 3) := by decide +kernel
theorem dX3_learnMotion_133 : decode cX3_learnMotion 133 = .ok (.ldc 87, 2) := by decide +kernel
theorem dX3_learnMotion_135 : decode cX3_learnMotion 135 = .ok (.aload_n 1, 1) := by decide +kernel
theorem dX3_learnMotion_136 : decode cX3_learnMotion 136 = .ok (.bipush 15, 2) := by decide +kernel
theorem dX3_learnMotion_138 : decode cX3_learnMotion 138 = .ok (.bipush 24, 2) := by decide +kernel
theorem dX3_learnMotion_140 : decode cX3_learnMotion 140 = .ok (.invokevirtual 63, 3) := by decide +kernel
theorem dX3_learnMotion_143 : decode cX3_learnMotion 143 = .ok (.imul, 1) := by decide +kernel
theorem dX3_learnMotion_144 : decode cX3_learnMotion 144 = .ok (.sipush 1024, 3) := by decide +kernel
theorem dX3_learnMotion_147 : decode cX3_learnMotion 147 = .ok (.idiv, 1) := by decide +kernel
theorem dX3_learnMotion_148 : decode cX3_learnMotion 148 = .ok (.iastore, 1) := by decide +kernel
theorem dX3_learnMotion_149 : decode cX3_learnMotion 149 = .ok (.aload_n 0, 1) := by decide +kernel
theorem dX3_learnMotion_150 : decode cX3_learnMotion 150 = .ok (.getfield 9, 3) := by decide +kernel
theorem dX3_learnMotion_153 : decode cX3_learnMotion 153 = .ok (.bipush 9, 2) := by decide +kernel
theorem dX3_learnMotion_155 : decode cX3_learnMotion 155 = .ok (.aload_n 1, 1) := by decide +kernel
theorem dX3_learnMotion_156 : decode cX3_learnMotion 156 = .ok (.bipush 26, 2) := by decide +kernel
theorem dX3_learnMotion_158 : decode cX3_learnMotion 158 = .ok (.bipush 35, 2) := by decide +kernel
theorem dX3_learnMotion_160 : decode cX3_learnMotion 160 = .ok (.invokevirtual 63, 3) := by decide +kernel
theorem dX3_learnMotion_163 : decode cX3_learnMotion 163 = .ok (.bipush 8, 2) := by decide +kernel
theorem dX3_learnMotion_165 : decode cX3_learnMotion 165 = .ok (.iload_n 3, 1) := by decide +kernel
theorem dX3_learnMotion_166 : decode cX3_learnMotion 166 = .ok (.imul, 1) := by decide +kernel
theorem dX3_learnMotion_167 : decode cX3_learnMotion 167 = .ok (.iconst 0, 1) := by decide +kernel
theorem dX3_learnMotion_168 : decode cX3_learnMotion 168 = .ok (.invokestatic 122, 3) := by decide +kernel
theorem dX3_learnMotion_171 : decode cX3_learnMotion 171 = .ok (.iastore, 1) := by decide +kernel
theorem dX3_learnMotion_172 : decode cX3_learnMotion 172 = .ok (.aload_n 0, 1) := by decide +kernel
theorem dX3_learnMotion_173 : decode cX3_learnMotion 173 = .ok (.getfield 9, 3) := by decide +kernel
theorem dX3_learnMotion_176 : decode cX3_learnMotion 176 = .ok (.bipush 11, 2) := by decide +kernel
theorem dX3_learnMotion_178 : decode cX3_learnMotion 178 = .ok (.aload_n 1, 1) := by decide +kernel
theorem dX3_learnMotion_179 : decode cX3_learnMotion 179 = .ok (.bipush 38, 2) := by decide +kernel
theorem dX3_learnMotion_181 : decode cX3_learnMotion 181 = .ok (.bipush 46, 2) := by decide +kernel
theorem dX3_learnMotion_183 : decode cX3_learnMotion 183 = .ok (.invokevirtual 63, 3) := by decide +kernel
theorem dX3_learnMotion_186 : decode cX3_learnMotion 186 = .ok (.bipush 64, 2) := by decide +kernel
theorem dX3_learnMotion_188 : decode cX3_learnMotion 188 = .ok (.aload_n 1, 1) := by decide +kernel
theorem dX3_learnMotion_189 : decode cX3_learnMotion 189 = .ok (.bipush 37, 2) := by decide +kernel
theorem dX3_learnMotion_191 : decode cX3_learnMotion 191 = .ok (.bipush 37, 2) := by decide +kernel
theorem dX3_learnMotion_193 : decode cX3_learnMotion 193 = .ok (.invokevirtual 63, 3) := by decide +kernel
theorem dX3_learnMotion_196 : decode cX3_learnMotion 196 = .ok (.invokestatic 122, 3) := by decide +kernel
theorem dX3_learnMotion_199 : decode cX3_learnMotion 199 = .ok (.iastore, 1) := by decide +kernel
theorem dX3_learnMotion_200 : decode cX3_learnMotion 200 = .ok (.return_, 1) := by decide +kernel
theorem dX3_hasFreshPlace_0 : decode cX3_hasFreshPlace 0 = .ok (.aload_n 0, 1) := by decide +kernel
theorem dX3_hasFreshPlace_1 : decode cX3_hasFreshPlace 1 = .ok (.getfield 9, 3) := by decide +kernel
theorem dX3_hasFreshPlace_4 : decode cX3_hasFreshPlace 4 = .ok (.bipush 17, 2) := by decide +kernel
theorem dX3_hasFreshPlace_6 : decode cX3_hasFreshPlace 6 = .ok (.iaload, 1) := by decide +kernel
theorem dX3_hasFreshPlace_7 : decode cX3_hasFreshPlace 7 = .ok (.ldc 25, 2) := by decide +kernel
theorem dX3_hasFreshPlace_9 : decode cX3_hasFreshPlace 9 = .ok (.if_icmp .eq 22, 3) := by decide +kernel
theorem dX3_hasFreshPlace_12 : decode cX3_hasFreshPlace 12 = .ok (.iload_n 1, 1) := by decide +kernel
theorem dX3_hasFreshPlace_13 : decode cX3_hasFreshPlace 13 = .ok (.aload_n 0, 1) := by decide +kernel
theorem dX3_hasFreshPlace_14 : decode cX3_hasFreshPlace 14 = .ok (.getfield 9, 3) := by decide +kernel
theorem dX3_hasFreshPlace_17 : decode cX3_hasFreshPlace 17 = .ok (.bipush 17, 2) := by decide +kernel
theorem dX3_hasFreshPlace_19 : decode cX3_hasFreshPlace 19 = .ok (.iaload, 1) := by decide +kernel
theorem dX3_hasFreshPlace_20 : decode cX3_hasFreshPlace 20 = .ok (.isub, 1) := by decide +kernel
theorem dX3_hasFreshPlace_21 : decode cX3_hasFreshPlace 21 = .ok (.sipush 300, 3) := by decide +kernel
theorem dX3_hasFreshPlace_24 : decode cX3_hasFreshPlace 24 = .ok (.if_icmp .gt 7, 3) := by decide +kernel
theorem dX3_hasFreshPlace_27 : decode cX3_hasFreshPlace 27 = .ok (.iconst 1, 1) := by decide +kernel
theorem dX3_hasFreshPlace_28 : decode cX3_hasFreshPlace 28 = .ok (.goto 4, 3) := by decide +kernel
theorem dX3_hasFreshPlace_31 : decode cX3_hasFreshPlace 31 = .ok (.iconst 0, 1) := by decide +kernel
theorem dX3_hasFreshPlace_32 : decode cX3_hasFreshPlace 32 = .ok (.ireturn, 1) := by decide +kernel
theorem dX3_lastPlace_0 : decode cX3_lastPlace 0 = .ok (.aload_n 0, 1) := by decide +kernel
theorem dX3_lastPlace_1 : decode cX3_lastPlace 1 = .ok (.getfield 9, 3) := by decide +kernel
theorem dX3_lastPlace_4 : decode cX3_lastPlace 4 = .ok (.bipush 15, 2) := by decide +kernel
theorem dX3_lastPlace_6 : decode cX3_lastPlace 6 = .ok (.iaload, 1) := by decide +kernel
theorem dX3_lastPlace_7 : decode cX3_lastPlace 7 = .ok (.i2l, 1) := by decide +kernel
theorem dX3_lastPlace_8 : decode cX3_lastPlace 8 = .ok (.aload_n 0, 1) := by decide +kernel
theorem dX3_lastPlace_9 : decode cX3_lastPlace 9 = .ok (.getfield 9, 3) := by decide +kernel
theorem dX3_lastPlace_12 : decode cX3_lastPlace 12 = .ok (.bipush 16, 2) := by decide +kernel
theorem dX3_lastPlace_14 : decode cX3_lastPlace 14 = .ok (.iaload, 1) := by decide +kernel
theorem dX3_lastPlace_15 : decode cX3_lastPlace 15 = .ok (.i2l, 1) := by decide +kernel
theorem dX3_lastPlace_16 : decode cX3_lastPlace 16 = .ok (.invokestatic 129, 3) := by decide +kernel
theorem dX3_lastPlace_19 : decode cX3_lastPlace 19 = .ok (.lreturn, 1) := by decide +kernel
theorem dX3_keepPlace_0 : decode cX3_keepPlace 0 = .ok (.lload_n 1, 1) := by decide +kernel
theorem dX3_keepPlace_1 : decode cX3_keepPlace 1 = .ok (.ldc2_w 95, 3) := by decide +kernel
theorem dX3_keepPlace_4 : decode cX3_keepPlace 4 = .ok (.lcmp, 1) := by decide +kernel
theorem dX3_keepPlace_5 : decode cX3_keepPlace 5 = .ok (.ifCond .ne 4, 3) := by decide +kernel
theorem dX3_keepPlace_8 : decode cX3_keepPlace 8 = .ok (.return_, 1) := by decide +kernel
theorem dX3_keepPlace_9 : decode cX3_keepPlace 9 = .ok (.aload_n 0, 1) := by decide +kernel
theorem dX3_keepPlace_10 : decode cX3_keepPlace 10 = .ok (.getfield 9, 3) := by decide +kernel
theorem dX3_keepPlace_13 : decode cX3_keepPlace 13 = .ok (.bipush 15, 2) := by decide +kernel
theorem dX3_keepPlace_15 : decode cX3_keepPlace 15 = .ok (.lload_n 1, 1) := by decide +kernel
theorem dX3_keepPlace_16 : decode cX3_keepPlace 16 = .ok (.invokestatic 133, 3) := by decide +kernel
theorem dX3_keepPlace_19 : decode cX3_keepPlace 19 = .ok (.iastore, 1) := by decide +kernel
theorem dX3_keepPlace_20 : decode cX3_keepPlace 20 = .ok (.aload_n 0, 1) := by decide +kernel
theorem dX3_keepPlace_21 : decode cX3_keepPlace 21 = .ok (.getfield 9, 3) := by decide +kernel
theorem dX3_keepPlace_24 : decode cX3_keepPlace 24 = .ok (.bipush 16, 2) := by decide +kernel
theorem dX3_keepPlace_26 : decode cX3_keepPlace 26 = .ok (.lload_n 1, 1) := by decide +kernel
theorem dX3_keepPlace_27 : decode cX3_keepPlace 27 = .ok (.invokestatic 137, 3) := by decide +kernel
theorem dX3_keepPlace_30 : decode cX3_keepPlace 30 = .ok (.iastore, 1) := by decide +kernel
theorem dX3_keepPlace_31 : decode cX3_keepPlace 31 = .ok (.aload_n 0, 1) := by decide +kernel
theorem dX3_keepPlace_32 : decode cX3_keepPlace 32 = .ok (.getfield 9, 3) := by decide +kernel
theorem dX3_keepPlace_35 : decode cX3_keepPlace 35 = .ok (.bipush 17, 2) := by decide +kernel
theorem dX3_keepPlace_37 : decode cX3_keepPlace 37 = .ok (.iload_n 3, 1) := by decide +kernel
theorem dX3_keepPlace_38 : decode cX3_keepPlace 38 = .ok (.iastore, 1) := by decide +kernel
theorem dX3_keepPlace_39 : decode cX3_keepPlace 39 = .ok (.return_, 1) := by decide +kernel
theorem dX3_isOdd_0 : decode cX3_isOdd 0 = .ok (.aload_n 0, 1) := by decide +kernel
theorem dX3_isOdd_1 : decode cX3_isOdd 1 = .ok (.bipush 22, 2) := by decide +kernel
theorem dX3_isOdd_3 : decode cX3_isOdd 3 = .ok (.bipush 22, 2) := by decide +kernel
theorem dX3_isOdd_5 : decode cX3_isOdd 5 = .ok (.invokevirtual 63, 3) := by decide +kernel
theorem dX3_isOdd_8 : decode cX3_isOdd 8 = .ok (.iconst 1, 1) := by decide +kernel
theorem dX3_isOdd_9 : decode cX3_isOdd 9 = .ok (.if_icmp .ne 7, 3) := by decide +kernel
theorem dX3_isOdd_12 : decode cX3_isOdd 12 = .ok (.iconst 1, 1) := by decide +kernel
theorem dX3_isOdd_13 : decode cX3_isOdd 13 = .ok (.goto 4, 3) := by decide +kernel
theorem dX3_isOdd_16 : decode cX3_isOdd 16 = .ok (.iconst 0, 1) := by decide +kernel
theorem dX3_isOdd_17 : decode cX3_isOdd 17 = .ok (.ireturn, 1) := by decide +kernel
theorem dX3_codeIn_0 : decode cX3_codeIn 0 = .ok (.ldc2_w 140, 3) := by decide +kernel
theorem dX3_codeIn_3 : decode cX3_codeIn 3 = .ok (.aload_n 0, 1) := by decide +kernel
theorem dX3_codeIn_4 : decode cX3_codeIn 4 = .ok (.bipush 23, 2) := by decide +kernel
theorem dX3_codeIn_6 : decode cX3_codeIn 6 = .ok (.bipush 39, 2) := by decide +kernel
theorem dX3_codeIn_8 : decode cX3_codeIn 8 = .ok (.invokevirtual 63, 3) := by decide +kernel
theorem dX3_codeIn_11 : decode cX3_codeIn 11 = .ok (.i2l, 1) := by decide +kernel
theorem dX3_codeIn_12 : decode cX3_codeIn 12 = .ok (.lmul, 1) := by decide +kernel
theorem dX3_codeIn_13 : decode cX3_codeIn 13 = .ok (.aload_n 0, 1) := by decide +kernel
theorem dX3_codeIn_14 : decode cX3_codeIn 14 = .ok (.bipush 40, 2) := by decide +kernel
theorem dX3_codeIn_16 : decode cX3_codeIn 16 = .ok (.bipush 56, 2) := by decide +kernel
theorem dX3_codeIn_18 : decode cX3_codeIn 18 = .ok (.invokevirtual 63, 3) := by decide +kernel
theorem dX3_codeIn_21 : decode cX3_codeIn 21 = .ok (.i2l, 1) := by decide +kernel
theorem dX3_codeIn_22 : decode cX3_codeIn 22 = .ok (.ladd, 1) := by decide +kernel
theorem dX3_codeIn_23 : decode cX3_codeIn 23 = .ok (.lreturn, 1) := by decide +kernel
theorem dX4_init_0 : decode cX4_init 0 = .ok (.aload_n 0, 1) := by decide +kernel
theorem dX4_init_1 : decode cX4_init 1 = .ok (.invokespecial 5, 3) := by decide +kernel
theorem dX4_init_4 : decode cX4_init 4 = .ok (.aload_n 0, 1) := by decide +kernel
theorem dX4_init_5 : decode cX4_init 5 = .ok (.iconst 4, 1) := by decide +kernel
theorem dX4_init_6 : decode cX4_init 6 = .ok (.newarray .int, 2) := by decide +kernel
theorem dX4_init_8 : decode cX4_init 8 = .ok (.putfield 11, 3) := by decide +kernel
theorem dX4_init_11 : decode cX4_init 11 = .ok (.aload_n 0, 1) := by decide +kernel
theorem dX4_init_12 : decode cX4_init 12 = .ok (.iconst 0, 1) := by decide +kernel
theorem dX4_init_13 : decode cX4_init 13 = .ok (.putfield 15, 3) := by decide +kernel
theorem dX4_init_16 : decode cX4_init 16 = .ok (.aload_n 0, 1) := by decide +kernel
theorem dX4_init_17 : decode cX4_init 17 = .ok (.iconst (-1), 1) := by decide +kernel
theorem dX4_init_18 : decode cX4_init 18 = .ok (.putfield 19, 3) := by decide +kernel
theorem dX4_init_21 : decode cX4_init 21 = .ok (.return_, 1) := by decide +kernel
theorem dX4_write_0 : decode cX4_write 0 = .ok (.aload_n 0, 1) := by decide +kernel
theorem dX4_write_1 : decode cX4_write 1 = .ok (.getfield 11, 3) := by decide +kernel
theorem dX4_write_4 : decode cX4_write 4 = .ok (.iconst 0, 1) := by decide +kernel
theorem dX4_write_5 : decode cX4_write 5 = .ok (.iload_n 1, 1) := by decide +kernel
theorem dX4_write_6 : decode cX4_write 6 = .ok (.iastore, 1) := by decide +kernel
theorem dX4_write_7 : decode cX4_write 7 = .ok (.aload_n 0, 1) := by decide +kernel
theorem dX4_write_8 : decode cX4_write 8 = .ok (.getfield 11, 3) := by decide +kernel
theorem dX4_write_11 : decode cX4_write 11 = .ok (.iconst 1, 1) := by decide +kernel
theorem dX4_write_12 : decode cX4_write 12 = .ok (.iload_n 2, 1) := by decide +kernel
theorem dX4_write_13 : decode cX4_write 13 = .ok (.iastore, 1) := by decide +kernel
theorem dX4_write_14 : decode cX4_write 14 = .ok (.aload_n 0, 1) := by decide +kernel
theorem dX4_write_15 : decode cX4_write 15 = .ok (.getfield 11, 3) := by decide +kernel
theorem dX4_write_18 : decode cX4_write 18 = .ok (.iconst 2, 1) := by decide +kernel
theorem dX4_write_19 : decode cX4_write 19 = .ok (.iload_n 3, 1) := by decide +kernel
theorem dX4_write_20 : decode cX4_write 20 = .ok (.iastore, 1) := by decide +kernel
theorem dX4_write_21 : decode cX4_write 21 = .ok (.aload_n 0, 1) := by decide +kernel
theorem dX4_write_22 : decode cX4_write 22 = .ok (.getfield 11, 3) := by decide +kernel
theorem dX4_write_25 : decode cX4_write 25 = .ok (.iconst 3, 1) := by decide +kernel
theorem dX4_write_26 : decode cX4_write 26 = .ok (.iload 4, 2) := by decide +kernel
theorem dX4_write_28 : decode cX4_write 28 = .ok (.iastore, 1) := by decide +kernel
theorem dX4_write_29 : decode cX4_write 29 = .ok (.aload_n 0, 1) := by decide +kernel
theorem dX4_write_30 : decode cX4_write 30 = .ok (.iload_n 1, 1) := by decide +kernel
theorem dX4_write_31 : decode cX4_write 31 = .ok (.bipush 27, 2) := by decide +kernel
theorem dX4_write_33 : decode cX4_write 33 = .ok (.iushr, 1) := by decide +kernel
theorem dX4_write_34 : decode cX4_write 34 = .ok (.bipush 16, 2) := by decide +kernel
theorem dX4_write_36 : decode cX4_write 36 = .ok (.if_icmp .ge 8, 3) := by decide +kernel
theorem dX4_write_39 : decode cX4_write 39 = .ok (.bipush 56, 2) := by decide +kernel
theorem dX4_write_41 : decode cX4_write 41 = .ok (.goto 5, 3) := by decide +kernel
theorem dX4_write_44 : decode cX4_write 44 = .ok (.bipush 112, 2) := by decide +kernel
theorem dX4_write_46 : decode cX4_write 46 = .ok (.putfield 15, 3) := by decide +kernel
theorem dX4_write_49 : decode cX4_write 49 = .ok (.aload_n 0, 1) := by decide +kernel
theorem dX4_write_50 : decode cX4_write 50 = .ok (.iconst (-1), 1) := by decide +kernel
theorem dX4_write_51 : decode cX4_write 51 = .ok (.putfield 19, 3) := by decide +kernel
theorem dX4_write_54 : decode cX4_write 54 = .ok (.return_, 1) := by decide +kernel
theorem dX4_copy_0 : decode cX4_copy 0 = .ok (.aload_n 1, 1) := by decide +kernel
theorem dX4_copy_1 : decode cX4_copy 1 = .ok (.getfield 11, 3) := by decide +kernel
theorem dX4_copy_4 : decode cX4_copy 4 = .ok (.iconst 0, 1) := by decide +kernel
theorem dX4_copy_5 : decode cX4_copy 5 = .ok (.aload_n 0, 1) := by decide +kernel
theorem dX4_copy_6 : decode cX4_copy 6 = .ok (.getfield 11, 3) := by decide +kernel
theorem dX4_copy_9 : decode cX4_copy 9 = .ok (.iconst 0, 1) := by decide +kernel
theorem dX4_copy_10 : decode cX4_copy 10 = .ok (.aload_n 0, 1) := by decide +kernel
theorem dX4_copy_11 : decode cX4_copy 11 = .ok (.getfield 11, 3) := by decide +kernel
theorem dX4_copy_14 : decode cX4_copy 14 = .ok (.arraylength, 1) := by decide +kernel
theorem dX4_copy_15 : decode cX4_copy 15 = .ok (.invokestatic 22, 3) := by decide +kernel
theorem dX4_copy_18 : decode cX4_copy 18 = .ok (.aload_n 0, 1) := by decide +kernel
theorem dX4_copy_19 : decode cX4_copy 19 = .ok (.aload_n 1, 1) := by decide +kernel
theorem dX4_copy_20 : decode cX4_copy 20 = .ok (.getfield 15, 3) := by decide +kernel
theorem dX4_copy_23 : decode cX4_copy 23 = .ok (.putfield 15, 3) := by decide +kernel
theorem dX4_copy_26 : decode cX4_copy 26 = .ok (.aload_n 0, 1) := by decide +kernel
theorem dX4_copy_27 : decode cX4_copy 27 = .ok (.aload_n 1, 1) := by decide +kernel
theorem dX4_copy_28 : decode cX4_copy 28 = .ok (.getfield 19, 3) := by decide +kernel
theorem dX4_copy_31 : decode cX4_copy 31 = .ok (.putfield 19, 3) := by decide +kernel
theorem dX4_copy_34 : decode cX4_copy 34 = .ok (.return_, 1) := by decide +kernel
theorem dX4_turnedBit_0 : decode cX4_turnedBit 0 = .ok (.aload_n 0, 1) := by decide +kernel
theorem dX4_turnedBit_1 : decode cX4_turnedBit 1 = .ok (.getfield 19, 3) := by decide +kernel
theorem dX4_turnedBit_4 : decode cX4_turnedBit 4 = .ok (.ireturn, 1) := by decide +kernel
theorem dX4_number_0 : decode cX4_number 0 = .ok (.iload_n 2, 1) := by decide +kernel
theorem dX4_number_1 : decode cX4_number 1 = .ok (.iconst 1, 1) := by decide +kernel
theorem dX4_number_2 : decode cX4_number 2 = .ok (.if_icmp .lt 26, 3) := by decide +kernel
theorem dX4_number_5 : decode cX4_number 5 = .ok (.iload_n 2, 1) := by decide +kernel
theorem dX4_number_6 : decode cX4_number 6 = .ok (.bipush 32, 2) := by decide +kernel
theorem dX4_number_8 : decode cX4_number 8 = .ok (.if_icmp .gt 20, 3) := by decide +kernel
theorem dX4_number_11 : decode cX4_number 11 = .ok (.iload_n 1, 1) := by decide +kernel
theorem dX4_number_12 : decode cX4_number 12 = .ok (.iconst 1, 1) := by decide +kernel
theorem dX4_number_13 : decode cX4_number 13 = .ok (.if_icmp .lt 15, 3) := by decide +kernel
theorem dX4_number_16 : decode cX4_number 16 = .ok (.iload_n 1, 1) := by decide +kernel
theorem dX4_number_17 : decode cX4_number 17 = .ok (.aload_n 0, 1) := by decide +kernel
theorem dX4_number_18 : decode cX4_number 18 = .ok (.getfield 15, 3) := by decide +kernel
theorem dX4_number_21 : decode cX4_number 21 = .ok (.iload_n 2, 1) := by decide +kernel
theorem dX4_number_22 : decode cX4_number 22 = .ok (.isub, 1) := by decide +kernel
theorem dX4_number_23 : decode cX4_number 23 = .ok (.iconst 1, 1) := by decide +kernel
theorem dX4_number_24 : decode cX4_number 24 = .ok (.iadd, 1) := by decide +kernel
theorem dX4_number_25 : decode cX4_number 25 = .ok (.if_icmp .le 5, 3) := by decide +kernel
theorem dX4_number_28 : decode cX4_number 28 = .ok (.iconst 0, 1) := by decide +kernel
theorem dX4_number_29 : decode cX4_number 29 = .ok (.ireturn, 1) := by decide +kernel
theorem dX4_number_30 : decode cX4_number 30 = .ok (.iconst 0, 1) := by decide +kernel
theorem dX4_number_31 : decode cX4_number 31 = .ok (.istore_n 3, 1) := by decide +kernel
theorem dX4_number_32 : decode cX4_number 32 = .ok (.iload_n 1, 1) := by decide +kernel
theorem dX4_number_33 : decode cX4_number 33 = .ok (.istore 4, 2) := by decide +kernel
theorem dX4_number_35 : decode cX4_number 35 = .ok (.iload 4, 2) := by decide +kernel
theorem dX4_number_37 : decode cX4_number 37 = .ok (.iload_n 1, 1) := by decide +kernel
theorem dX4_number_38 : decode cX4_number 38 = .ok (.iload_n 2, 1) := by decide +kernel
theorem dX4_number_39 : decode cX4_number 39 = .ok (.iadd, 1) := by decide +kernel
theorem dX4_number_40 : decode cX4_number 40 = .ok (.if_icmp .ge 20, 3) := by decide +kernel
theorem dX4_number_43 : decode cX4_number 43 = .ok (.iload_n 3, 1) := by decide +kernel
theorem dX4_number_44 : decode cX4_number 44 = .ok (.iconst 1, 1) := by decide +kernel
theorem dX4_number_45 : decode cX4_number 45 = .ok (.ishl, 1) := by decide +kernel
theorem dX4_number_46 : decode cX4_number 46 = .ok (.aload_n 0, 1) := by decide +kernel
theorem dX4_number_47 : decode cX4_number 47 = .ok (.iload 4, 2) := by decide +kernel
theorem dX4_number_49 : decode cX4_number 49 = .ok (.invokevirtual 28, 3) := by decide +kernel
theorem dX4_number_52 : decode cX4_number 52 = .ok (.ior, 1) := by decide +kernel
theorem dX4_number_53 : decode cX4_number 53 = .ok (.istore_n 3, 1) := by decide +kernel
theorem dX4_number_54 : decode cX4_number 54 = .ok (.iinc 4 1, 3) := by decide +kernel
theorem dX4_number_57 : decode cX4_number 57 = .ok (.goto (-22), 3) := by decide +kernel
theorem dX4_number_60 : decode cX4_number 60 = .ok (.iload_n 3, 1) := by decide +kernel
theorem dX4_number_61 : decode cX4_number 61 = .ok (.ireturn, 1) := by decide +kernel
theorem dX4_message_0 : decode cX4_message 0 = .ok (.aload_n 0, 1) := by decide +kernel
theorem dX4_message_1 : decode cX4_message 1 = .ok (.bipush 32, 2) := by decide +kernel
theorem dX4_message_3 : decode cX4_message 3 = .ok (.iload_n 1, 1) := by decide +kernel
theorem dX4_message_4 : decode cX4_message 4 = .ok (.iadd, 1) := by decide +kernel
theorem dX4_message_5 : decode cX4_message 5 = .ok (.iload_n 2, 1) := by decide +kernel
theorem dX4_message_6 : decode cX4_message 6 = .ok (.iload_n 1, 1) := by decide +kernel
theorem dX4_message_7 : decode cX4_message 7 = .ok (.isub, 1) := by decide +kernel
theorem dX4_message_8 : decode cX4_message 8 = .ok (.iconst 1, 1) := by decide +kernel
theorem dX4_message_9 : decode cX4_message 9 = .ok (.iadd, 1) := by decide +kernel
theorem dX4_message_10 : decode cX4_message 10 = .ok (.invokevirtual 32, 3) := by decide +kernel
theorem dX4_message_13 : decode cX4_message 13 = .ok (.ireturn, 1) := by decide +kernel
theorem dX4_parity_0 : decode cX4_parity 0 = .ok (.aload_n 0, 1) := by decide +kernel
theorem dX4_parity_1 : decode cX4_parity 1 = .ok (.aload_n 0, 1) := by decide +kernel
theorem dX4_parity_2 : decode cX4_parity 2 = .ok (.getfield 15, 3) := by decide +kernel
theorem dX4_parity_5 : decode cX4_parity 5 = .ok (.bipush 23, 2) := by decide +kernel
theorem dX4_parity_7 : decode cX4_parity 7 = .ok (.isub, 1) := by decide +kernel
theorem dX4_parity_8 : decode cX4_parity 8 = .ok (.bipush 24, 2) := by decide +kernel
theorem dX4_parity_10 : decode cX4_parity 10 = .ok (.invokevirtual 32, 3) := by decide +kernel
theorem dX4_parity_13 : decode cX4_parity 13 = .ok (.ireturn, 1) := by decide +kernel
theorem dX4_remainder_0 : decode cX4_remainder 0 = .ok (.iconst 0, 1) := by decide +kernel
theorem dX4_remainder_1 : decode cX4_remainder 1 = .ok (.istore_n 1, 1) := by decide +kernel
theorem dX4_remainder_2 : decode cX4_remainder 2 = .ok (.iconst 1, 1) := by decide +kernel
theorem dX4_remainder_3 : decode cX4_remainder 3 = .ok (.istore_n 2, 1) := by decide +kernel
theorem dX4_remainder_4 : decode cX4_remainder 4 = .ok (.iload_n 2, 1) := by decide +kernel
theorem dX4_remainder_5 : decode cX4_remainder 5 = .ok (.aload_n 0, 1) := by decide +kernel
theorem dX4_remainder_6 : decode cX4_remainder 6 = .ok (.getfield 15, 3) := by decide +kernel
theorem dX4_remainder_9 : decode cX4_remainder 9 = .ok (.if_icmp .gt 22, 3) := by decide +kernel
theorem dX4_remainder_12 : decode cX4_remainder 12 = .ok (.iload_n 1, 1) := by decide +kernel
theorem dX4_remainder_13 : decode cX4_remainder 13 = .ok (.iconst 1, 1) := by decide +kernel
theorem dX4_remainder_14 : decode cX4_remainder 14 = .ok (.ishl, 1) := by decide +kernel
theorem dX4_remainder_15 : decode cX4_remainder 15 = .ok (.aload_n 0, 1) := by decide +kernel
theorem dX4_remainder_16 : decode cX4_remainder 16 = .ok (.iload_n 2, 1) := by decide +kernel
theorem dX4_remainder_17 : decode cX4_remainder 17 = .ok (.invokevirtual 28, 3) := by decide +kernel
theorem dX4_remainder_20 : decode cX4_remainder 20 = .ok (.ior, 1) := by decide +kernel
theorem dX4_remainder_21 : decode cX4_remainder 21 = .ok (.invokestatic 36, 3) := by decide +kernel
theorem dX4_remainder_24 : decode cX4_remainder 24 = .ok (.istore_n 1, 1) := by decide +kernel
theorem dX4_remainder_25 : decode cX4_remainder 25 = .ok (.iinc 2 1, 3) := by decide +kernel
theorem dX4_remainder_28 : decode cX4_remainder 28 = .ok (.goto (-24), 3) := by decide +kernel
theorem dX4_remainder_31 : decode cX4_remainder 31 = .ok (.iload_n 1, 1) := by decide +kernel
theorem dX4_remainder_32 : decode cX4_remainder 32 = .ok (.ireturn, 1) := by decide +kernel
theorem dX4_wrongBit_0 : decode cX4_wrongBit 0 = .ok (.aload_n 0, 1) := by decide +kernel
theorem dX4_wrongBit_1 : decode cX4_wrongBit 1 = .ok (.invokevirtual 39, 3) := by decide +kernel
theorem dX4_wrongBit_4 : decode cX4_wrongBit 4 = .ok (.istore_n 1, 1) := by decide +kernel
theorem dX4_wrongBit_5 : decode cX4_wrongBit 5 = .ok (.aload_n 0, 1) := by decide +kernel
theorem dX4_wrongBit_6 : decode cX4_wrongBit 6 = .ok (.iload_n 1, 1) := by decide +kernel
theorem dX4_wrongBit_7 : decode cX4_wrongBit 7 = .ok (.invokevirtual 43, 3) := by decide +kernel
theorem dX4_wrongBit_10 : decode cX4_wrongBit 10 = .ok (.ifCond .eq 5, 3) := by decide +kernel
theorem dX4_wrongBit_13 : decode cX4_wrongBit 13 = .ok (.iconst (-1), 1) := by decide +kernel
theorem dX4_wrongBit_14 : decode cX4_wrongBit 14 = .ok (.ireturn, 1) := by decide +kernel
theorem dX4_wrongBit_15 : decode cX4_wrongBit 15 = .ok (.iconst 1, 1) := by decide +kernel
theorem dX4_wrongBit_16 : decode cX4_wrongBit 16 = .ok (.istore_n 2, 1) := by decide +kernel
theorem dX4_wrongBit_17 : decode cX4_wrongBit 17 = .ok (.aload_n 0, 1) := by decide +kernel
theorem dX4_wrongBit_18 : decode cX4_wrongBit 18 = .ok (.getfield 15, 3) := by decide +kernel
theorem dX4_wrongBit_21 : decode cX4_wrongBit 21 = .ok (.istore_n 3, 1) := by decide +kernel
theorem dX4_wrongBit_22 : decode cX4_wrongBit 22 = .ok (.iload_n 3, 1) := by decide +kernel
theorem dX4_wrongBit_23 : decode cX4_wrongBit 23 = .ok (.bipush 6, 2) := by decide +kernel
theorem dX4_wrongBit_25 : decode cX4_wrongBit 25 = .ok (.if_icmp .lt 23, 3) := by decide +kernel
theorem dX4_wrongBit_28 : decode cX4_wrongBit 28 = .ok (.iload_n 2, 1) := by decide +kernel
theorem dX4_wrongBit_29 : decode cX4_wrongBit 29 = .ok (.iload_n 1, 1) := by decide +kernel
theorem dX4_wrongBit_30 : decode cX4_wrongBit 30 = .ok (.if_icmp .ne 5, 3) := by decide +kernel
theorem dX4_wrongBit_33 : decode cX4_wrongBit 33 = .ok (.iload_n 3, 1) := by decide +kernel
theorem dX4_wrongBit_34 : decode cX4_wrongBit 34 = .ok (.ireturn, 1) := by decide +kernel
theorem dX4_wrongBit_35 : decode cX4_wrongBit 35 = .ok (.iload_n 2, 1) := by decide +kernel
theorem dX4_wrongBit_36 : decode cX4_wrongBit 36 = .ok (.iconst 1, 1) := by decide +kernel
theorem dX4_wrongBit_37 : decode cX4_wrongBit 37 = .ok (.ishl, 1) := by decide +kernel
theorem dX4_wrongBit_38 : decode cX4_wrongBit 38 = .ok (.invokestatic 36, 3) := by decide +kernel
theorem dX4_wrongBit_41 : decode cX4_wrongBit 41 = .ok (.istore_n 2, 1) := by decide +kernel
theorem dX4_wrongBit_42 : decode cX4_wrongBit 42 = .ok (.iinc 3 (-1), 3) := by decide +kernel
theorem dX4_wrongBit_45 : decode cX4_wrongBit 45 = .ok (.goto (-23), 3) := by decide +kernel
theorem dX4_wrongBit_48 : decode cX4_wrongBit 48 = .ok (.iconst (-1), 1) := by decide +kernel
theorem dX4_wrongBit_49 : decode cX4_wrongBit 49 = .ok (.ireturn, 1) := by decide +kernel
theorem dX4_putRight_0 : decode cX4_putRight 0 = .ok (.aload_n 0, 1) := by decide +kernel
theorem dX4_putRight_1 : decode cX4_putRight 1 = .ok (.aload_n 0, 1) := by decide +kernel
theorem dX4_putRight_2 : decode cX4_putRight 2 = .ok (.invokevirtual 39, 3) := by decide +kernel
theorem dX4_putRight_5 : decode cX4_putRight 5 = .ok (.invokevirtual 43, 3) := by decide +kernel
theorem dX4_putRight_8 : decode cX4_putRight 8 = .ok (.ifCond .eq 5, 3) := by decide +kernel
theorem dX4_putRight_11 : decode cX4_putRight 11 = .ok (.iconst 1, 1) := by decide +kernel
theorem dX4_putRight_12 : decode cX4_putRight 12 = .ok (.ireturn, 1) := by decide +kernel
theorem dX4_putRight_13 : decode cX4_putRight 13 = .ok (.aload_n 0, 1) := by decide +kernel
theorem dX4_putRight_14 : decode cX4_putRight 14 = .ok (.invokevirtual 47, 3) := by decide +kernel
theorem dX4_putRight_17 : decode cX4_putRight 17 = .ok (.istore_n 1, 1) := by decide +kernel
theorem dX4_putRight_18 : decode cX4_putRight 18 = .ok (.iload_n 1, 1) := by decide +kernel
theorem dX4_putRight_19 : decode cX4_putRight 19 = .ok (.iconst (-1), 1) := by decide +kernel
theorem dX4_putRight_20 : decode cX4_putRight 20 = .ok (.if_icmp .ne 5, 3) := by decide +kernel
theorem dX4_putRight_23 : decode cX4_putRight 23 = .ok (.iconst 0, 1) := by decide +kernel
theorem dX4_putRight_24 : decode cX4_putRight 24 = .ok (.ireturn, 1) := by decide +kernel
theorem dX4_putRight_25 : decode cX4_putRight 25 = .ok (.aload_n 0, 1) := by decide +kernel
theorem dX4_putRight_26 : decode cX4_putRight 26 = .ok (.iload_n 1, 1) := by decide +kernel
theorem dX4_putRight_27 : decode cX4_putRight 27 = .ok (.invokevirtual 50, 3) := by decide +kernel
theorem dX4_putRight_30 : decode cX4_putRight 30 = .ok (.aload_n 0, 1) := by decide +kernel
theorem dX4_putRight_31 : decode cX4_putRight 31 = .ok (.iload_n 1, 1) := by decide +kernel
theorem dX4_putRight_32 : decode cX4_putRight 32 = .ok (.putfield 19, 3) := by decide +kernel
theorem dX4_putRight_35 : decode cX4_putRight 35 = .ok (.iconst 1, 1) := by decide +kernel
theorem dX4_putRight_36 : decode cX4_putRight 36 = .ok (.ireturn, 1) := by decide +kernel
theorem dX4_address_0 : decode cX4_address 0 = .ok (.aload_n 0, 1) := by decide +kernel
theorem dX4_address_1 : decode cX4_address 1 = .ok (.ldc 54, 2) := by decide +kernel
theorem dX4_address_3 : decode cX4_address 3 = .ok (.invokevirtual 55, 3) := by decide +kernel
theorem dX4_address_6 : decode cX4_address 6 = .ok (.ifCond .eq 14, 3) := by decide +kernel
theorem dX4_address_9 : decode cX4_address 9 = .ok (.aload_n 0, 1) := by decide +kernel
theorem dX4_address_10 : decode cX4_address 10 = .ok (.bipush 9, 2) := by decide +kernel
theorem dX4_address_12 : decode cX4_address 12 = .ok (.bipush 24, 2) := by decide +kernel
theorem dX4_address_14 : decode cX4_address 14 = .ok (.invokevirtual 32, 3) := by decide +kernel
theorem dX4_address_17 : decode cX4_address 17 = .ok (.goto 7, 3) := by decide +kernel
theorem dX4_address_20 : decode cX4_address 20 = .ok (.aload_n 0, 1) := by decide +kernel
theorem dX4_address_21 : decode cX4_address 21 = .ok (.invokevirtual 39, 3) := by decide +kernel
theorem dX4_address_24 : decode cX4_address 24 = .ok (.ireturn, 1) := by decide +kernel
theorem dX4_isOf_0 : decode cX4_isOf 0 = .ok (.aload_n 0, 1) := by decide +kernel
theorem dX4_isOf_1 : decode cX4_isOf 1 = .ok (.getfield 15, 3) := by decide +kernel
theorem dX4_isOf_4 : decode cX4_isOf 4 = .ok (.ifCond .eq 18, 3) := by decide +kernel
theorem dX4_isOf_7 : decode cX4_isOf 7 = .ok (.iload_n 1, 1) := by decide +kernel
theorem dX4_isOf_8 : decode cX4_isOf 8 = .ok (.aload_n 0, 1) := by decide +kernel
theorem dX4_isOf_9 : decode cX4_isOf 9 = .ok (.invokevirtual 58, 3) := by decide +kernel
theorem dX4_isOf_12 : decode cX4_isOf 12 = .ok (.iushr, 1) := by decide +kernel
theorem dX4_isOf_13 : decode cX4_isOf 13 = .ok (.iconst 1, 1) := by decide +kernel
theorem dX4_isOf_14 : decode cX4_isOf 14 = .ok (.iand, 1) := by decide +kernel
theorem dX4_isOf_15 : decode cX4_isOf 15 = .ok (.ifCond .eq 7, 3) := by decide +kernel
theorem dX4_isOf_18 : decode cX4_isOf 18 = .ok (.iconst 1, 1) := by decide +kernel
theorem dX4_isOf_19 : decode cX4_isOf 19 = .ok (.goto 4, 3) := by decide +kernel
theorem dX4_isOf_22 : decode cX4_isOf 22 = .ok (.iconst 0, 1) := by decide +kernel
theorem dX4_isOf_23 : decode cX4_isOf 23 = .ok (.ireturn, 1) := by decide +kernel
theorem dX4_told_0 : decode cX4_told 0 = .ok (.iload_n 1, 1) := by decide +kernel
theorem dX4_told_1 : decode cX4_told 1 = .ok (.tableswitch 266 0 15 #[79, 95, 106, 117, 128, 139, 150, 160, 171, 182, 193, 204, 220, 239, 250, 261], 79) := by decide +kernel
theorem dX4_told_80 : decode cX4_told 80 = .ok (.aload_n 0, 1) := by decide +kernel
theorem dX4_told_81 : decode cX4_told 81 = .ok (.getfield 15, 3) := by decide +kernel
theorem dX4_told_84 : decode cX4_told 84 = .ok (.ifCond .ne 7, 3) := by decide +kernel
theorem dX4_told_87 : decode cX4_told 87 = .ok (.iconst (-1), 1) := by decide +kernel
theorem dX4_told_88 : decode cX4_told 88 = .ok (.goto 7, 3) := by decide +kernel
theorem dX4_told_91 : decode cX4_told 91 = .ok (.aload_n 0, 1) := by decide +kernel
theorem dX4_told_92 : decode cX4_told 92 = .ok (.invokevirtual 58, 3) := by decide +kernel
theorem dX4_told_95 : decode cX4_told 95 = .ok (.ireturn, 1) := by decide +kernel
theorem dX4_told_96 : decode cX4_told 96 = .ok (.aload_n 0, 1) := by decide +kernel
theorem dX4_told_97 : decode cX4_told 97 = .ok (.bipush 6, 2) := by decide +kernel
theorem dX4_told_99 : decode cX4_told 99 = .ok (.bipush 8, 2) := by decide +kernel
theorem dX4_told_101 : decode cX4_told 101 = .ok (.ldc 54, 2) := by decide +kernel
theorem dX4_told_103 : decode cX4_told 103 = .ok (.invokevirtual 61, 3) := by decide +kernel
theorem dX4_told_106 : decode cX4_told 106 = .ok (.ireturn, 1) := by decide +kernel
theorem dX4_told_107 : decode cX4_told 107 = .ok (.aload_n 0, 1) := by decide +kernel
theorem dX4_told_108 : decode cX4_told 108 = .ok (.bipush 6, 2) := by decide +kernel
theorem dX4_told_110 : decode cX4_told 110 = .ok (.bipush 8, 2) := by decide +kernel
theorem dX4_told_112 : decode cX4_told 112 = .ok (.ldc 65, 2) := by decide +kernel
theorem dX4_told_114 : decode cX4_told 114 = .ok (.invokevirtual 61, 3) := by decide +kernel
theorem dX4_told_117 : decode cX4_told 117 = .ok (.ireturn, 1) := by decide +kernel
theorem dX4_told_118 : decode cX4_told 118 = .ok (.aload_n 0, 1) := by decide +kernel
theorem dX4_told_119 : decode cX4_told 119 = .ok (.bipush 9, 2) := by decide +kernel
theorem dX4_told_121 : decode cX4_told 121 = .ok (.bipush 13, 2) := by decide +kernel
theorem dX4_told_123 : decode cX4_told 123 = .ok (.ldc 65, 2) := by decide +kernel
theorem dX4_told_125 : decode cX4_told 125 = .ok (.invokevirtual 61, 3) := by decide +kernel
theorem dX4_told_128 : decode cX4_told 128 = .ok (.ireturn, 1) := by decide +kernel
theorem dX4_told_129 : decode cX4_told 129 = .ok (.aload_n 0, 1) := by decide +kernel
theorem dX4_told_130 : decode cX4_told 130 = .ok (.bipush 14, 2) := by decide +kernel
theorem dX4_told_132 : decode cX4_told 132 = .ok (.bipush 19, 2) := by decide +kernel
theorem dX4_told_134 : decode cX4_told 134 = .ok (.ldc 65, 2) := by decide +kernel
theorem dX4_told_136 : decode cX4_told 136 = .ok (.invokevirtual 61, 3) := by decide +kernel
theorem dX4_told_139 : decode cX4_told 139 = .ok (.ireturn, 1) := by decide +kernel
theorem dX4_told_140 : decode cX4_told 140 = .ok (.aload_n 0, 1) := by decide +kernel
theorem dX4_told_141 : decode cX4_told 141 = .ok (.bipush 6, 2) := by decide +kernel
theorem dX4_told_143 : decode cX4_told 143 = .ok (.bipush 6, 2) := by decide +kernel
theorem dX4_told_145 : decode cX4_told 145 = .ok (.ldc 66, 2) := by decide +kernel
theorem dX4_told_147 : decode cX4_told 147 = .ok (.invokevirtual 61, 3) := by decide +kernel
theorem dX4_told_150 : decode cX4_told 150 = .ok (.ireturn, 1) := by decide +kernel
theorem dX4_told_151 : decode cX4_told 151 = .ok (.aload_n 0, 1) := by decide +kernel
theorem dX4_told_152 : decode cX4_told 152 = .ok (.bipush 7, 2) := by decide +kernel
theorem dX4_told_154 : decode cX4_told 154 = .ok (.bipush 7, 2) := by decide +kernel
theorem dX4_told_156 : decode cX4_told 156 = .ok (.iconst 1, 1) := by decide +kernel
theorem dX4_told_157 : decode cX4_told 157 = .ok (.invokevirtual 61, 3) := by decide +kernel
theorem dX4_told_160 : decode cX4_told 160 = .ok (.ireturn, 1) := by decide +kernel
theorem dX4_told_161 : decode cX4_told 161 = .ok (.aload_n 0, 1) := by decide +kernel
theorem dX4_told_162 : decode cX4_told 162 = .ok (.bipush 9, 2) := by decide +kernel
theorem dX4_told_164 : decode cX4_told 164 = .ok (.bipush 11, 2) := by decide +kernel
theorem dX4_told_166 : decode cX4_told 166 = .ok (.ldc 66, 2) := by decide +kernel
theorem dX4_told_168 : decode cX4_told 168 = .ok (.invokevirtual 61, 3) := by decide +kernel
theorem dX4_told_171 : decode cX4_told 171 = .ok (.ireturn, 1) := by decide +kernel
theorem dX4_told_172 : decode cX4_told 172 = .ok (.aload_n 0, 1) := by decide +kernel
theorem dX4_told_173 : decode cX4_told 173 = .ok (.bipush 14, 2) := by decide +kernel
theorem dX4_told_175 : decode cX4_told 175 = .ok (.bipush 17, 2) := by decide +kernel
theorem dX4_told_177 : decode cX4_told 177 = .ok (.ldc 66, 2) := by decide +kernel
theorem dX4_told_179 : decode cX4_told 179 = .ok (.invokevirtual 61, 3) := by decide +kernel
theorem dX4_told_182 : decode cX4_told 182 = .ok (.ireturn, 1) := by decide +kernel
theorem dX4_told_183 : decode cX4_told 183 = .ok (.aload_n 0, 1) := by decide +kernel
theorem dX4_told_184 : decode cX4_told 184 = .ok (.bipush 20, 2) := by decide +kernel
theorem dX4_told_186 : decode cX4_told 186 = .ok (.bipush 32, 2) := by decide +kernel
theorem dX4_told_188 : decode cX4_told 188 = .ok (.ldc 67, 2) := by decide +kernel
theorem dX4_told_190 : decode cX4_told 190 = .ok (.invokevirtual 61, 3) := by decide +kernel
theorem dX4_told_193 : decode cX4_told 193 = .ok (.ireturn, 1) := by decide +kernel
theorem dX4_told_194 : decode cX4_told 194 = .ok (.aload_n 0, 1) := by decide +kernel
theorem dX4_told_195 : decode cX4_told 195 = .ok (.bipush 20, 2) := by decide +kernel
theorem dX4_told_197 : decode cX4_told 197 = .ok (.bipush 32, 2) := by decide +kernel
theorem dX4_told_199 : decode cX4_told 199 = .ok (.ldc 68, 2) := by decide +kernel
theorem dX4_told_201 : decode cX4_told 201 = .ok (.invokevirtual 61, 3) := by decide +kernel
theorem dX4_told_204 : decode cX4_told 204 = .ok (.ireturn, 1) := by decide +kernel
theorem dX4_told_205 : decode cX4_told 205 = .ok (.aload_n 0, 1) := by decide +kernel
theorem dX4_told_206 : decode cX4_told 206 = .ok (.getfield 15, 3) := by decide +kernel
theorem dX4_told_209 : decode cX4_told 209 = .ok (.ifCond .ne 7, 3) := by decide +kernel
theorem dX4_told_212 : decode cX4_told 212 = .ok (.iconst (-1), 1) := by decide +kernel
theorem dX4_told_213 : decode cX4_told 213 = .ok (.goto 7, 3) := by decide +kernel
theorem dX4_told_216 : decode cX4_told 216 = .ok (.aload_n 0, 1) := by decide +kernel
theorem dX4_told_217 : decode cX4_told 217 = .ok (.invokevirtual 69, 3) := by decide +kernel
theorem dX4_told_220 : decode cX4_told 220 = .ok (.ireturn, 1) := by decide +kernel
theorem dX4_told_221 : decode cX4_told 221 = .ok (.aload_n 0, 1) := by decide +kernel
theorem dX4_told_222 : decode cX4_told 222 = .ok (.sipush 2048, 3) := by decide +kernel
theorem dX4_told_225 : decode cX4_told 225 = .ok (.invokevirtual 55, 3) := by decide +kernel
theorem dX4_told_228 : decode cX4_told 228 = .ok (.ifCond .eq 10, 3) := by decide +kernel
theorem dX4_told_231 : decode cX4_told 231 = .ok (.aload_n 0, 1) := by decide +kernel
theorem dX4_told_232 : decode cX4_told 232 = .ok (.invokevirtual 39, 3) := by decide +kernel
theorem dX4_told_235 : decode cX4_told 235 = .ok (.goto 4, 3) := by decide +kernel
theorem dX4_told_238 : decode cX4_told 238 = .ok (.iconst (-1), 1) := by decide +kernel
theorem dX4_told_239 : decode cX4_told 239 = .ok (.ireturn, 1) := by decide +kernel
theorem dX4_told_240 : decode cX4_told 240 = .ok (.aload_n 0, 1) := by decide +kernel
theorem dX4_told_241 : decode cX4_told 241 = .ok (.bipush 33, 2) := by decide +kernel
theorem dX4_told_243 : decode cX4_told 243 = .ok (.bipush 37, 2) := by decide +kernel
theorem dX4_told_245 : decode cX4_told 245 = .ok (.ldc 72, 2) := by decide +kernel
theorem dX4_told_247 : decode cX4_told 247 = .ok (.invokevirtual 61, 3) := by decide +kernel
theorem dX4_told_250 : decode cX4_told 250 = .ok (.ireturn, 1) := by decide +kernel
theorem dX4_told_251 : decode cX4_told 251 = .ok (.aload_n 0, 1) := by decide +kernel
theorem dX4_told_252 : decode cX4_told 252 = .ok (.bipush 38, 2) := by decide +kernel
theorem dX4_told_254 : decode cX4_told 254 = .ok (.bipush 40, 2) := by decide +kernel
theorem dX4_told_256 : decode cX4_told 256 = .ok (.ldc 72, 2) := by decide +kernel
theorem dX4_told_258 : decode cX4_told 258 = .ok (.invokevirtual 61, 3) := by decide +kernel
theorem dX4_told_261 : decode cX4_told 261 = .ok (.ireturn, 1) := by decide +kernel
theorem dX4_told_262 : decode cX4_told 262 = .ok (.aload_n 0, 1) := by decide +kernel
theorem dX4_told_263 : decode cX4_told 263 = .ok (.getfield 19, 3) := by decide +kernel
theorem dX4_told_266 : decode cX4_told 266 = .ok (.ireturn, 1) := by decide +kernel
theorem dX4_told_267 : decode cX4_told 267 = .ok (.iconst (-1), 1) := by decide +kernel
theorem dX4_told_268 : decode cX4_told 268 = .ok (.ireturn, 1) := by decide +kernel
theorem dX4_part_0 : decode cX4_part 0 = .ok (.aload_n 0, 1) := by decide +kernel
theorem dX4_part_1 : decode cX4_part 1 = .ok (.iload_n 3, 1) := by decide +kernel
theorem dX4_part_2 : decode cX4_part 2 = .ok (.invokevirtual 55, 3) := by decide +kernel
theorem dX4_part_5 : decode cX4_part 5 = .ok (.ifCond .eq 16, 3) := by decide +kernel
theorem dX4_part_8 : decode cX4_part 8 = .ok (.aload_n 0, 1) := by decide +kernel
theorem dX4_part_9 : decode cX4_part 9 = .ok (.iload_n 1, 1) := by decide +kernel
theorem dX4_part_10 : decode cX4_part 10 = .ok (.iload_n 2, 1) := by decide +kernel
theorem dX4_part_11 : decode cX4_part 11 = .ok (.iload_n 1, 1) := by decide +kernel
theorem dX4_part_12 : decode cX4_part 12 = .ok (.isub, 1) := by decide +kernel
theorem dX4_part_13 : decode cX4_part 13 = .ok (.iconst 1, 1) := by decide +kernel
theorem dX4_part_14 : decode cX4_part 14 = .ok (.iadd, 1) := by decide +kernel
theorem dX4_part_15 : decode cX4_part 15 = .ok (.invokevirtual 32, 3) := by decide +kernel
theorem dX4_part_18 : decode cX4_part 18 = .ok (.goto 4, 3) := by decide +kernel
theorem dX4_part_21 : decode cX4_part 21 = .ok (.iconst (-1), 1) := by decide +kernel
theorem dX4_part_22 : decode cX4_part 22 = .ok (.ireturn, 1) := by decide +kernel
theorem dX4_format_0 : decode cX4_format 0 = .ok (.aload_n 0, 1) := by decide +kernel
theorem dX4_format_1 : decode cX4_format 1 = .ok (.iconst 1, 1) := by decide +kernel
theorem dX4_format_2 : decode cX4_format 2 = .ok (.iconst 5, 1) := by decide +kernel
theorem dX4_format_3 : decode cX4_format 3 = .ok (.invokevirtual 32, 3) := by decide +kernel
theorem dX4_format_6 : decode cX4_format 6 = .ok (.ireturn, 1) := by decide +kernel
theorem dX4_isSound_0 : decode cX4_isSound 0 = .ok (.aload_n 0, 1) := by decide +kernel
theorem dX4_isSound_1 : decode cX4_isSound 1 = .ok (.ldc 72, 2) := by decide +kernel
theorem dX4_isSound_3 : decode cX4_isSound 3 = .ok (.invokevirtual 55, 3) := by decide +kernel
theorem dX4_isSound_6 : decode cX4_isSound 6 = .ok (.ifCond .eq 13, 3) := by decide +kernel
theorem dX4_isSound_9 : decode cX4_isSound 9 = .ok (.iload_n 1, 1) := by decide +kernel
theorem dX4_isSound_10 : decode cX4_isSound 10 = .ok (.ifCond .ne 7, 3) := by decide +kernel
theorem dX4_isSound_13 : decode cX4_isSound 13 = .ok (.iconst 1, 1) := by decide +kernel
theorem dX4_isSound_14 : decode cX4_isSound 14 = .ok (.goto 4, 3) := by decide +kernel
theorem dX4_isSound_17 : decode cX4_isSound 17 = .ok (.iconst 0, 1) := by decide +kernel
theorem dX4_isSound_18 : decode cX4_isSound 18 = .ok (.ireturn, 1) := by decide +kernel
theorem dX4_isSound_19 : decode cX4_isSound 19 = .ok (.aload_n 0, 1) := by decide +kernel
theorem dX4_isSound_20 : decode cX4_isSound 20 = .ok (.sipush 2048, 3) := by decide +kernel
theorem dX4_isSound_23 : decode cX4_isSound 23 = .ok (.invokevirtual 55, 3) := by decide +kernel
theorem dX4_isSound_26 : decode cX4_isSound 26 = .ok (.ifCond .eq 10, 3) := by decide +kernel
theorem dX4_isSound_29 : decode cX4_isSound 29 = .ok (.iload_n 1, 1) := by decide +kernel
theorem dX4_isSound_30 : decode cX4_isSound 30 = .ok (.sipush 128, 3) := by decide +kernel
theorem dX4_isSound_33 : decode cX4_isSound 33 = .ok (.if_icmp .ge 7, 3) := by decide +kernel
theorem dX4_isSound_36 : decode cX4_isSound 36 = .ok (.iconst 1, 1) := by decide +kernel
theorem dX4_isSound_37 : decode cX4_isSound 37 = .ok (.goto 4, 3) := by decide +kernel
theorem dX4_isSound_40 : decode cX4_isSound 40 = .ok (.iconst 0, 1) := by decide +kernel
theorem dX4_isSound_41 : decode cX4_isSound 41 = .ok (.ireturn, 1) := by decide +kernel
theorem dX4_bit_0 : decode cX4_bit 0 = .ok (.iload_n 1, 1) := by decide +kernel
theorem dX4_bit_1 : decode cX4_bit 1 = .ok (.iconst 1, 1) := by decide +kernel
theorem dX4_bit_2 : decode cX4_bit 2 = .ok (.isub, 1) := by decide +kernel
theorem dX4_bit_3 : decode cX4_bit 3 = .ok (.iconst 5, 1) := by decide +kernel
theorem dX4_bit_4 : decode cX4_bit 4 = .ok (.ishr, 1) := by decide +kernel
theorem dX4_bit_5 : decode cX4_bit 5 = .ok (.istore_n 2, 1) := by decide +kernel
theorem dX4_bit_6 : decode cX4_bit 6 = .ok (.iload_n 2, 1) := by decide +kernel
theorem dX4_bit_7 : decode cX4_bit 7 = .ok (.ifCond .lt 12, 3) := by decide +kernel
theorem dX4_bit_10 : decode cX4_bit 10 = .ok (.iload_n 2, 1) := by decide +kernel
theorem dX4_bit_11 : decode cX4_bit 11 = .ok (.aload_n 0, 1) := by decide +kernel
theorem dX4_bit_12 : decode cX4_bit 12 = .ok (.getfield 11, 3) := by decide +kernel
theorem dX4_bit_15 : decode cX4_bit 15 = .ok (.arraylength, 1) := by decide +kernel
theorem dX4_bit_16 : decode cX4_bit 16 = .ok (.if_icmp .lt 5, 3) := by decide +kernel
theorem dX4_bit_19 : decode cX4_bit 19 = .ok (.iconst 0, 1) := by decide +kernel
theorem dX4_bit_20 : decode cX4_bit 20 = .ok (.ireturn, 1) := by decide +kernel
theorem dX4_bit_21 : decode cX4_bit 21 = .ok (.aload_n 0, 1) := by decide +kernel
theorem dX4_bit_22 : decode cX4_bit 22 = .ok (.getfield 11, 3) := by decide +kernel
theorem dX4_bit_25 : decode cX4_bit 25 = .ok (.iload_n 2, 1) := by decide +kernel
theorem dX4_bit_26 : decode cX4_bit 26 = .ok (.iaload, 1) := by decide +kernel
theorem dX4_bit_27 : decode cX4_bit 27 = .ok (.bipush 31, 2) := by decide +kernel
theorem dX4_bit_29 : decode cX4_bit 29 = .ok (.iload_n 1, 1) := by decide +kernel
theorem dX4_bit_30 : decode cX4_bit 30 = .ok (.iconst 1, 1) := by decide +kernel
theorem dX4_bit_31 : decode cX4_bit 31 = .ok (.isub, 1) := by decide +kernel
theorem dX4_bit_32 : decode cX4_bit 32 = .ok (.bipush 32, 2) := by decide +kernel
theorem dX4_bit_34 : decode cX4_bit 34 = .ok (.irem, 1) := by decide +kernel
theorem dX4_bit_35 : decode cX4_bit 35 = .ok (.isub, 1) := by decide +kernel
theorem dX4_bit_36 : decode cX4_bit 36 = .ok (.iushr, 1) := by decide +kernel
theorem dX4_bit_37 : decode cX4_bit 37 = .ok (.iconst 1, 1) := by decide +kernel
theorem dX4_bit_38 : decode cX4_bit 38 = .ok (.iand, 1) := by decide +kernel
theorem dX4_bit_39 : decode cX4_bit 39 = .ok (.ireturn, 1) := by decide +kernel
theorem dX4_turn_0 : decode cX4_turn 0 = .ok (.iload_n 1, 1) := by decide +kernel
theorem dX4_turn_1 : decode cX4_turn 1 = .ok (.iconst 1, 1) := by decide +kernel
theorem dX4_turn_2 : decode cX4_turn 2 = .ok (.isub, 1) := by decide +kernel
theorem dX4_turn_3 : decode cX4_turn 3 = .ok (.iconst 5, 1) := by decide +kernel
theorem dX4_turn_4 : decode cX4_turn 4 = .ok (.ishr, 1) := by decide +kernel
theorem dX4_turn_5 : decode cX4_turn 5 = .ok (.istore_n 2, 1) := by decide +kernel
theorem dX4_turn_6 : decode cX4_turn 6 = .ok (.iload_n 2, 1) := by decide +kernel
theorem dX4_turn_7 : decode cX4_turn 7 = .ok (.ifCond .lt 32, 3) := by decide +kernel
theorem dX4_turn_10 : decode cX4_turn 10 = .ok (.iload_n 2, 1) := by decide +kernel
theorem dX4_turn_11 : decode cX4_turn 11 = .ok (.aload_n 0, 1) := by decide +kernel
theorem dX4_turn_12 : decode cX4_turn 12 = .ok (.getfield 11, 3) := by decide +kernel
theorem dX4_turn_15 : decode cX4_turn 15 = .ok (.arraylength, 1) := by decide +kernel
theorem dX4_turn_16 : decode cX4_turn 16 = .ok (.if_icmp .ge 23, 3) := by decide +kernel
theorem dX4_turn_19 : decode cX4_turn 19 = .ok (.aload_n 0, 1) := by decide +kernel
theorem dX4_turn_20 : decode cX4_turn 20 = .ok (.getfield 11, 3) := by decide +kernel
theorem dX4_turn_23 : decode cX4_turn 23 = .ok (.iload_n 2, 1) := by decide +kernel
theorem dX4_turn_24 : decode cX4_turn 24 = .ok (.dup2, 1) := by decide +kernel
theorem dX4_turn_25 : decode cX4_turn 25 = .ok (.iaload, 1) := by decide +kernel
theorem dX4_turn_26 : decode cX4_turn 26 = .ok (.iconst 1, 1) := by decide +kernel
theorem dX4_turn_27 : decode cX4_turn 27 = .ok (.bipush 31, 2) := by decide +kernel
theorem dX4_turn_29 : decode cX4_turn 29 = .ok (.iload_n 1, 1) := by decide +kernel
theorem dX4_turn_30 : decode cX4_turn 30 = .ok (.iconst 1, 1) := by decide +kernel
theorem dX4_turn_31 : decode cX4_turn 31 = .ok (.isub, 1) := by decide +kernel
theorem dX4_turn_32 : decode cX4_turn 32 = .ok (.bipush 32, 2) := by decide +kernel
theorem dX4_turn_34 : decode cX4_turn 34 = .ok (.irem, 1) := by decide +kernel
theorem dX4_turn_35 : decode cX4_turn 35 = .ok (.isub, 1) := by decide +kernel
theorem dX4_turn_36 : decode cX4_turn 36 = .ok (.ishl, 1) := by decide +kernel
theorem dX4_turn_37 : decode cX4_turn 37 = .ok (.ixor, 1) := by decide +kernel
theorem dX4_turn_38 : decode cX4_turn 38 = .ok (.iastore, 1) := by decide +kernel
theorem dX4_turn_39 : decode cX4_turn 39 = .ok (.return_, 1) := by decide +kernel
theorem dX4_reduced_0 : decode cX4_reduced 0 = .ok (.iload_n 0, 1) := by decide +kernel
theorem dX4_reduced_1 : decode cX4_reduced 1 = .ok (.ldc 73, 2) := by decide +kernel
theorem dX4_reduced_3 : decode cX4_reduced 3 = .ok (.iand, 1) := by decide +kernel
theorem dX4_reduced_4 : decode cX4_reduced 4 = .ok (.ifCond .ne 7, 3) := by decide +kernel
theorem dX4_reduced_7 : decode cX4_reduced 7 = .ok (.iload_n 0, 1) := by decide +kernel
theorem dX4_reduced_8 : decode cX4_reduced 8 = .ok (.goto 7, 3) := by decide +kernel
theorem dX4_reduced_11 : decode cX4_reduced 11 = .ok (.iload_n 0, 1) := by decide +kernel
theorem dX4_reduced_12 : decode cX4_reduced 12 = .ok (.ldc 74, 2) := by decide +kernel
theorem dX4_reduced_14 : decode cX4_reduced 14 = .ok (.ixor, 1) := by decide +kernel
theorem dX4_reduced_15 : decode cX4_reduced 15 = .ok (.ireturn, 1) := by decide +kernel
theorem dX5_init_0 : decode cX5_init 0 = .ok (.aload_n 0, 1) := by decide +kernel
theorem dX5_init_1 : decode cX5_init 1 = .ok (.invokespecial 1, 3) := by decide +kernel
theorem dX5_init_4 : decode cX5_init 4 = .ok (.aload_n 0, 1) := by decide +kernel
theorem dX5_init_5 : decode cX5_init 5 = .ok (.new 7, 3) := by decide +kernel
theorem dX5_init_8 : decode cX5_init 8 = .ok (.dup, 1) := by decide +kernel
theorem dX5_init_9 : decode cX5_init 9 = .ok (.invokespecial 9, 3) := by decide +kernel
theorem dX5_init_12 : decode cX5_init 12 = .ok (.putfield 10, 3) := by decide +kernel
theorem dX5_init_15 : decode cX5_init 15 = .ok (.aload_n 0, 1) := by decide +kernel
theorem dX5_init_16 : decode cX5_init 16 = .ok (.new 7, 3) := by decide +kernel
theorem dX5_init_19 : decode cX5_init 19 = .ok (.dup, 1) := by decide +kernel
theorem dX5_init_20 : decode cX5_init 20 = .ok (.invokespecial 9, 3) := by decide +kernel
theorem dX5_init_23 : decode cX5_init 23 = .ok (.putfield 16, 3) := by decide +kernel
theorem dX5_init_26 : decode cX5_init 26 = .ok (.aload_n 0, 1) := by decide +kernel
theorem dX5_init_27 : decode cX5_init 27 = .ok (.new 19, 3) := by decide +kernel
theorem dX5_init_30 : decode cX5_init 30 = .ok (.dup, 1) := by decide +kernel
theorem dX5_init_31 : decode cX5_init 31 = .ok (.invokespecial 21, 3) := by decide +kernel
theorem dX5_init_34 : decode cX5_init 34 = .ok (.putfield 22, 3) := by decide +kernel
theorem dX5_init_37 : decode cX5_init 37 = .ok (.aload_n 0, 1) := by decide +kernel
theorem dX5_init_38 : decode cX5_init 38 = .ok (.ldc2_w 26, 3) := by decide +kernel
theorem dX5_init_41 : decode cX5_init 41 = .ok (.putfield 28, 3) := by decide +kernel
theorem dX5_init_44 : decode cX5_init 44 = .ok (.aload_n 0, 1) := by decide +kernel
theorem dX5_init_45 : decode cX5_init 45 = .ok (.iconst 0, 1) := by decide +kernel
theorem dX5_init_46 : decode cX5_init 46 = .ok (.putfield 32, 3) := by decide +kernel
theorem dX5_init_49 : decode cX5_init 49 = .ok (.return_, 1) := by decide +kernel
theorem dX5_syndrome_0 : decode cX5_syndrome 0 = .ok (.aload_n 0, 1) := by decide +kernel
theorem dX5_syndrome_1 : decode cX5_syndrome 1 = .ok (.getfield 10, 3) := by decide +kernel
theorem dX5_syndrome_4 : decode cX5_syndrome 4 = .ok (.iload_n 1, 1) := by decide +kernel
theorem dX5_syndrome_5 : decode cX5_syndrome 5 = .ok (.iload_n 2, 1) := by decide +kernel
theorem dX5_syndrome_6 : decode cX5_syndrome 6 = .ok (.iload_n 3, 1) := by decide +kernel
theorem dX5_syndrome_7 : decode cX5_syndrome 7 = .ok (.iload 4, 2) := by decide +kernel
theorem dX5_syndrome_9 : decode cX5_syndrome 9 = .ok (.invokevirtual 36, 3) := by decide +kernel
theorem dX5_syndrome_12 : decode cX5_syndrome 12 = .ok (.aload_n 0, 1) := by decide +kernel
theorem dX5_syndrome_13 : decode cX5_syndrome 13 = .ok (.getfield 10, 3) := by decide +kernel
theorem dX5_syndrome_16 : decode cX5_syndrome 16 = .ok (.invokevirtual 40, 3) := by decide +kernel
theorem dX5_syndrome_19 : decode cX5_syndrome 19 = .ok (.ireturn, 1) := by decide +kernel
theorem dX5_repair_0 : decode cX5_repair 0 = .ok (.aload_n 0, 1) := by decide +kernel
theorem dX5_repair_1 : decode cX5_repair 1 = .ok (.getfield 10, 3) := by decide +kernel
theorem dX5_repair_4 : decode cX5_repair 4 = .ok (.iload_n 1, 1) := by decide +kernel
theorem dX5_repair_5 : decode cX5_repair 5 = .ok (.iload_n 2, 1) := by decide +kernel
theorem dX5_repair_6 : decode cX5_repair 6 = .ok (.iload_n 3, 1) := by decide +kernel
theorem dX5_repair_7 : decode cX5_repair 7 = .ok (.iload 4, 2) := by decide +kernel
theorem dX5_repair_9 : decode cX5_repair 9 = .ok (.invokevirtual 36, 3) := by decide +kernel
theorem dX5_repair_12 : decode cX5_repair 12 = .ok (.aload_n 0, 1) := by decide +kernel
theorem dX5_repair_13 : decode cX5_repair 13 = .ok (.getfield 10, 3) := by decide +kernel
theorem dX5_repair_16 : decode cX5_repair 16 = .ok (.invokevirtual 44, 3) := by decide +kernel
theorem dX5_repair_19 : decode cX5_repair 19 = .ok (.ireturn, 1) := by decide +kernel
theorem dX5_seal_0 : decode cX5_seal 0 = .ok (.aload_n 0, 1) := by decide +kernel
theorem dX5_seal_1 : decode cX5_seal 1 = .ok (.getfield 10, 3) := by decide +kernel
theorem dX5_seal_4 : decode cX5_seal 4 = .ok (.iload_n 1, 1) := by decide +kernel
theorem dX5_seal_5 : decode cX5_seal 5 = .ok (.iload_n 2, 1) := by decide +kernel
theorem dX5_seal_6 : decode cX5_seal 6 = .ok (.iload_n 3, 1) := by decide +kernel
theorem dX5_seal_7 : decode cX5_seal 7 = .ok (.iload 4, 2) := by decide +kernel
theorem dX5_seal_9 : decode cX5_seal 9 = .ok (.invokevirtual 36, 3) := by decide +kernel
theorem dX5_seal_12 : decode cX5_seal 12 = .ok (.aload_n 0, 1) := by decide +kernel
theorem dX5_seal_13 : decode cX5_seal 13 = .ok (.getfield 10, 3) := by decide +kernel
theorem dX5_seal_16 : decode cX5_seal 16 = .ok (.invokevirtual 40, 3) := by decide +kernel
theorem dX5_seal_19 : decode cX5_seal 19 = .ok (.aload_n 0, 1) := by decide +kernel
theorem dX5_seal_20 : decode cX5_seal 20 = .ok (.getfield 10, 3) := by decide +kernel
theorem dX5_seal_23 : decode cX5_seal 23 = .ok (.invokevirtual 47, 3) := by decide +kernel
theorem dX5_seal_26 : decode cX5_seal 26 = .ok (.ixor, 1) := by decide +kernel
theorem dX5_seal_27 : decode cX5_seal 27 = .ok (.ireturn, 1) := by decide +kernel
theorem dX5_place_0 : decode cX5_place 0 = .ok (.iload_n 1, 1) := by decide +kernel
theorem dX5_place_1 : decode cX5_place 1 = .ok (.iload_n 2, 1) := by decide +kernel
theorem dX5_place_2 : decode cX5_place 2 = .ok (.invokestatic 50, 3) := by decide +kernel
theorem dX5_place_5 : decode cX5_place 5 = .ok (.ifCond .ne 5, 3) := by decide +kernel
theorem dX5_place_8 : decode cX5_place 8 = .ok (.iconst 0, 1) := by decide +kernel
theorem dX5_place_9 : decode cX5_place 9 = .ok (.ireturn, 1) := by decide +kernel
theorem dX5_place_10 : decode cX5_place 10 = .ok (.aload_n 0, 1) := by decide +kernel
theorem dX5_place_11 : decode cX5_place 11 = .ok (.iload_n 1, 1) := by decide +kernel
theorem dX5_place_12 : decode cX5_place 12 = .ok (.i2l, 1) := by decide +kernel
theorem dX5_place_13 : decode cX5_place 13 = .ok (.iload_n 2, 1) := by decide +kernel
theorem dX5_place_14 : decode cX5_place 14 = .ok (.i2l, 1) := by decide +kernel
theorem dX5_place_15 : decode cX5_place 15 = .ok (.invokestatic 56, 3) := by decide +kernel
theorem dX5_place_18 : decode cX5_place 18 = .ok (.putfield 28, 3) := by decide +kernel
theorem dX5_place_21 : decode cX5_place 21 = .ok (.iconst 1, 1) := by decide +kernel
theorem dX5_place_22 : decode cX5_place 22 = .ok (.ireturn, 1) := by decide +kernel
theorem dX5_hear_0 : decode cX5_hear 0 = .ok (.iload 5, 2) := by decide +kernel
theorem dX5_hear_2 : decode cX5_hear 2 = .ok (.aload_n 0, 1) := by decide +kernel
theorem dX5_hear_3 : decode cX5_hear 3 = .ok (.getfield 32, 3) := by decide +kernel
theorem dX5_hear_6 : decode cX5_hear 6 = .ok (.if_icmp .lt 10, 3) := by decide +kernel
theorem dX5_hear_9 : decode cX5_hear 9 = .ok (.iload 5, 2) := by decide +kernel
theorem dX5_hear_11 : decode cX5_hear 11 = .ok (.ldc 60, 2) := by decide +kernel
theorem dX5_hear_13 : decode cX5_hear 13 = .ok (.if_icmp .le 5, 3) := by decide +kernel
theorem dX5_hear_16 : decode cX5_hear 16 = .ok (.iconst (-1), 1) := by decide +kernel
theorem dX5_hear_17 : decode cX5_hear 17 = .ok (.ireturn, 1) := by decide +kernel
theorem dX5_hear_18 : decode cX5_hear 18 = .ok (.aload_n 0, 1) := by decide +kernel
theorem dX5_hear_19 : decode cX5_hear 19 = .ok (.iload 5, 2) := by decide +kernel
theorem dX5_hear_21 : decode cX5_hear 21 = .ok (.putfield 32, 3) := by decide +kernel
theorem dX5_hear_24 : decode cX5_hear 24 = .ok (.aload_n 0, 1) := by decide +kernel
theorem dX5_hear_25 : decode cX5_hear 25 = .ok (.getfield 22, 3) := by decide +kernel
theorem dX5_hear_28 : decode cX5_hear 28 = .ok (.iload 5, 2) := by decide +kernel
theorem dX5_hear_30 : decode cX5_hear 30 = .ok (.invokevirtual 61, 3) := by decide +kernel
theorem dX5_hear_33 : decode cX5_hear 33 = .ok (.aload_n 0, 1) := by decide +kernel
theorem dX5_hear_34 : decode cX5_hear 34 = .ok (.getfield 10, 3) := by decide +kernel
theorem dX5_hear_37 : decode cX5_hear 37 = .ok (.iload_n 1, 1) := by decide +kernel
theorem dX5_hear_38 : decode cX5_hear 38 = .ok (.iload_n 2, 1) := by decide +kernel
theorem dX5_hear_39 : decode cX5_hear 39 = .ok (.iload_n 3, 1) := by decide +kernel
theorem dX5_hear_40 : decode cX5_hear 40 = .ok (.iload 4, 2) := by decide +kernel
theorem dX5_hear_42 : decode cX5_hear 42 = .ok (.invokevirtual 36, 3) := by decide +kernel
theorem dX5_hear_45 : decode cX5_hear 45 = .ok (.aload_n 0, 1) := by decide +kernel
theorem dX5_hear_46 : decode cX5_hear 46 = .ok (.getfield 10, 3) := by decide +kernel
theorem dX5_hear_49 : decode cX5_hear 49 = .ok (.ldc 65, 2) := by decide +kernel
theorem dX5_hear_51 : decode cX5_hear 51 = .ok (.invokevirtual 66, 3) := by decide +kernel
theorem dX5_hear_54 : decode cX5_hear 54 = .ok (.ifCond .ne 6, 3) := by decide +kernel
theorem dX5_hear_57 : decode cX5_hear 57 = .ok (.bipush (-2), 2) := by decide +kernel
theorem dX5_hear_59 : decode cX5_hear 59 = .ok (.ireturn, 1) := by decide +kernel
theorem dX5_hear_60 : decode cX5_hear 60 = .ok (.aload_n 0, 1) := by decide +kernel
theorem dX5_hear_61 : decode cX5_hear 61 = .ok (.getfield 10, 3) := by decide +kernel
theorem dX5_hear_64 : decode cX5_hear 64 = .ok (.invokevirtual 70, 3) := by decide +kernel
theorem dX5_hear_67 : decode cX5_hear 67 = .ok (.ifCond .ne 6, 3) := by decide +kernel
theorem dX5_hear_70 : decode cX5_hear 70 = .ok (.bipush (-3), 2) := by decide +kernel
theorem dX5_hear_72 : decode cX5_hear 72 = .ok (.ireturn, 1) := by decide +kernel
theorem dX5_hear_73 : decode cX5_hear 73 = .ok (.aload_n 0, 1) := by decide +kernel
theorem dX5_hear_74 : decode cX5_hear 74 = .ok (.getfield 10, 3) := by decide +kernel
theorem dX5_hear_77 : decode cX5_hear 77 = .ok (.invokevirtual 74, 3) := by decide +kernel
theorem dX5_hear_80 : decode cX5_hear 80 = .ok (.istore 6, 2) := by decide +kernel
theorem dX5_hear_82 : decode cX5_hear 82 = .ok (.aload_n 0, 1) := by decide +kernel
theorem dX5_hear_83 : decode cX5_hear 83 = .ok (.getfield 22, 3) := by decide +kernel
theorem dX5_hear_86 : decode cX5_hear 86 = .ok (.aload_n 0, 1) := by decide +kernel
theorem dX5_hear_87 : decode cX5_hear 87 = .ok (.getfield 22, 3) := by decide +kernel
theorem dX5_hear_90 : decode cX5_hear 90 = .ok (.iload 6, 2) := by decide +kernel
theorem dX5_hear_92 : decode cX5_hear 92 = .ok (.invokevirtual 77, 3) := by decide +kernel
theorem dX5_hear_95 : decode cX5_hear 95 = .ok (.invokevirtual 81, 3) := by decide +kernel
theorem dX5_hear_98 : decode cX5_hear 98 = .ok (.astore 7, 2) := by decide +kernel
theorem dX5_hear_100 : decode cX5_hear 100 = .ok (.aload 7, 2) := by decide +kernel
theorem dX5_hear_102 : decode cX5_hear 102 = .ok (.ifnonnull 18, 3) := by decide +kernel
theorem dX5_hear_105 : decode cX5_hear 105 = .ok (.aload_n 0, 1) := by decide +kernel
theorem dX5_hear_106 : decode cX5_hear 106 = .ok (.getfield 10, 3) := by decide +kernel
theorem dX5_hear_109 : decode cX5_hear 109 = .ok (.ldc 85, 2) := by decide +kernel
theorem dX5_hear_111 : decode cX5_hear 111 = .ok (.invokevirtual 66, 3) := by decide +kernel
theorem dX5_hear_114 : decode cX5_hear 114 = .ok (.ifCond .ne 6, 3) := by decide +kernel
theorem dX5_hear_117 : decode cX5_hear 117 = .ok (.bipush (-4), 2) := by decide +kernel
theorem dX5_hear_119 : decode cX5_hear 119 = .ok (.ireturn, 1) := by decide +kernel
theorem dX5_hear_120 : decode cX5_hear 120 = .ok (.aload 7, 2) := by decide +kernel
theorem dX5_hear_122 : decode cX5_hear 122 = .ok (.ifnonnull 14, 3) := by decide +kernel
theorem dX5_hear_125 : decode cX5_hear 125 = .ok (.aload_n 0, 1) := by decide +kernel
theorem dX5_hear_126 : decode cX5_hear 126 = .ok (.getfield 22, 3) := by decide +kernel
theorem dX5_hear_129 : decode cX5_hear 129 = .ok (.iload 6, 2) := by decide +kernel
theorem dX5_hear_131 : decode cX5_hear 131 = .ok (.invokevirtual 86, 3) := by decide +kernel
theorem dX5_hear_134 : decode cX5_hear 134 = .ok (.astore 7, 2) := by decide +kernel
theorem dX5_hear_136 : decode cX5_hear 136 = .ok (.aload 7, 2) := by decide +kernel
theorem dX5_hear_138 : decode cX5_hear 138 = .ok (.ifnonnull 6, 3) := by decide +kernel
theorem dX5_hear_141 : decode cX5_hear 141 = .ok (.bipush (-5), 2) := by decide +kernel
theorem dX5_hear_143 : decode cX5_hear 143 = .ok (.ireturn, 1) := by decide +kernel
theorem dX5_hear_144 : decode cX5_hear 144 = .ok (.aload_n 0, 1) := by decide +kernel
theorem dX5_hear_145 : decode cX5_hear 145 = .ok (.getfield 16, 3) := by decide +kernel
theorem dX5_hear_148 : decode cX5_hear 148 = .ok (.aload_n 0, 1) := by decide +kernel
theorem dX5_hear_149 : decode cX5_hear 149 = .ok (.getfield 10, 3) := by decide +kernel
theorem dX5_hear_152 : decode cX5_hear 152 = .ok (.invokevirtual 89, 3) := by decide +kernel
theorem dX5_hear_155 : decode cX5_hear 155 = .ok (.aload 7, 2) := by decide +kernel
theorem dX5_hear_157 : decode cX5_hear 157 = .ok (.aload_n 0, 1) := by decide +kernel
theorem dX5_hear_158 : decode cX5_hear 158 = .ok (.getfield 16, 3) := by decide +kernel
theorem dX5_hear_161 : decode cX5_hear 161 = .ok (.iload 5, 2) := by decide +kernel
theorem dX5_hear_163 : decode cX5_hear 163 = .ok (.invokevirtual 93, 3) := by decide +kernel
theorem dX5_hear_166 : decode cX5_hear 166 = .ok (.aload 7, 2) := by decide +kernel
theorem dX5_hear_168 : decode cX5_hear 168 = .ok (.aload_n 0, 1) := by decide +kernel
theorem dX5_hear_169 : decode cX5_hear 169 = .ok (.getfield 16, 3) := by decide +kernel
theorem dX5_hear_172 : decode cX5_hear 172 = .ok (.invokevirtual 99, 3) := by decide +kernel
theorem dX5_hear_175 : decode cX5_hear 175 = .ok (.aload 7, 2) := by decide +kernel
theorem dX5_hear_177 : decode cX5_hear 177 = .ok (.aload_n 0, 1) := by decide +kernel
theorem dX5_hear_178 : decode cX5_hear 178 = .ok (.getfield 16, 3) := by decide +kernel
theorem dX5_hear_181 : decode cX5_hear 181 = .ok (.iload 5, 2) := by decide +kernel
theorem dX5_hear_183 : decode cX5_hear 183 = .ok (.aload_n 0, 1) := by decide +kernel
theorem dX5_hear_184 : decode cX5_hear 184 = .ok (.getfield 28, 3) := by decide +kernel
theorem dX5_hear_187 : decode cX5_hear 187 = .ok (.invokevirtual 102, 3) := by decide +kernel
theorem dX5_hear_190 : decode cX5_hear 190 = .ok (.aload_n 0, 1) := by decide +kernel
theorem dX5_hear_191 : decode cX5_hear 191 = .ok (.getfield 16, 3) := by decide +kernel
theorem dX5_hear_194 : decode cX5_hear 194 = .ok (.invokevirtual 106, 3) := by decide +kernel
theorem dX5_hear_197 : decode cX5_hear 197 = .ok (.iconst (-1), 1) := by decide +kernel
theorem dX5_hear_198 : decode cX5_hear 198 = .ok (.if_icmp .ne 7, 3) := by decide +kernel
theorem dX5_hear_201 : decode cX5_hear 201 = .ok (.iconst 0, 1) := by decide +kernel
theorem dX5_hear_202 : decode cX5_hear 202 = .ok (.goto 4, 3) := by decide +kernel
theorem dX5_hear_205 : decode cX5_hear 205 = .ok (.iconst 1, 1) := by decide +kernel
theorem dX5_hear_206 : decode cX5_hear 206 = .ok (.ireturn, 1) := by decide +kernel
theorem dX5_field_0 : decode cX5_field 0 = .ok (.aload_n 0, 1) := by decide +kernel
theorem dX5_field_1 : decode cX5_field 1 = .ok (.getfield 16, 3) := by decide +kernel
theorem dX5_field_4 : decode cX5_field 4 = .ok (.iload_n 1, 1) := by decide +kernel
theorem dX5_field_5 : decode cX5_field 5 = .ok (.invokevirtual 109, 3) := by decide +kernel
theorem dX5_field_8 : decode cX5_field 8 = .ok (.ireturn, 1) := by decide +kernel
theorem dX5_bits_0 : decode cX5_bits 0 = .ok (.aload_n 0, 1) := by decide +kernel
theorem dX5_bits_1 : decode cX5_bits 1 = .ok (.getfield 16, 3) := by decide +kernel
theorem dX5_bits_4 : decode cX5_bits 4 = .ok (.iload_n 1, 1) := by decide +kernel
theorem dX5_bits_5 : decode cX5_bits 5 = .ok (.iload_n 2, 1) := by decide +kernel
theorem dX5_bits_6 : decode cX5_bits 6 = .ok (.invokevirtual 112, 3) := by decide +kernel
theorem dX5_bits_9 : decode cX5_bits 9 = .ok (.ireturn, 1) := by decide +kernel
theorem dX5_crafts_0 : decode cX5_crafts 0 = .ok (.aload_n 0, 1) := by decide +kernel
theorem dX5_crafts_1 : decode cX5_crafts 1 = .ok (.getfield 22, 3) := by decide +kernel
theorem dX5_crafts_4 : decode cX5_crafts 4 = .ok (.invokevirtual 116, 3) := by decide +kernel
theorem dX5_crafts_7 : decode cX5_crafts 7 = .ok (.ireturn, 1) := by decide +kernel
theorem dX5_find_0 : decode cX5_find 0 = .ok (.aload_n 0, 1) := by decide +kernel
theorem dX5_find_1 : decode cX5_find 1 = .ok (.getfield 22, 3) := by decide +kernel
theorem dX5_find_4 : decode cX5_find 4 = .ok (.iload_n 1, 1) := by decide +kernel
theorem dX5_find_5 : decode cX5_find 5 = .ok (.invokevirtual 77, 3) := by decide +kernel
theorem dX5_find_8 : decode cX5_find 8 = .ok (.ireturn, 1) := by decide +kernel
theorem dX5_craft_0 : decode cX5_craft 0 = .ok (.aload_n 0, 1) := by decide +kernel
theorem dX5_craft_1 : decode cX5_craft 1 = .ok (.getfield 22, 3) := by decide +kernel
theorem dX5_craft_4 : decode cX5_craft 4 = .ok (.iload_n 1, 1) := by decide +kernel
theorem dX5_craft_5 : decode cX5_craft 5 = .ok (.invokevirtual 81, 3) := by decide +kernel
theorem dX5_craft_8 : decode cX5_craft 8 = .ok (.astore_n 3, 1) := by decide +kernel
theorem dX5_craft_9 : decode cX5_craft 9 = .ok (.aload_n 3, 1) := by decide +kernel
theorem dX5_craft_10 : decode cX5_craft 10 = .ok (.ifnonnull 7, 3) := by decide +kernel
theorem dX5_craft_13 : decode cX5_craft 13 = .ok (.iconst (-1), 1) := by decide +kernel
theorem dX5_craft_14 : decode cX5_craft 14 = .ok (.goto 8, 3) := by decide +kernel
theorem dX5_craft_17 : decode cX5_craft 17 = .ok (.aload_n 3, 1) := by decide +kernel
theorem dX5_craft_18 : decode cX5_craft 18 = .ok (.iload_n 2, 1) := by decide +kernel
theorem dX5_craft_19 : decode cX5_craft 19 = .ok (.invokevirtual 119, 3) := by decide +kernel
theorem dX5_craft_22 : decode cX5_craft 22 = .ok (.ireturn, 1) := by decide +kernel
theorem dX5_sign_0 : decode cX5_sign 0 = .ok (.aload_n 0, 1) := by decide +kernel
theorem dX5_sign_1 : decode cX5_sign 1 = .ok (.getfield 22, 3) := by decide +kernel
theorem dX5_sign_4 : decode cX5_sign 4 = .ok (.iload_n 1, 1) := by decide +kernel
theorem dX5_sign_5 : decode cX5_sign 5 = .ok (.invokevirtual 81, 3) := by decide +kernel
theorem dX5_sign_8 : decode cX5_sign 8 = .ok (.astore_n 3, 1) := by decide +kernel
theorem dX5_sign_9 : decode cX5_sign 9 = .ok (.aload_n 3, 1) := by decide +kernel
theorem dX5_sign_10 : decode cX5_sign 10 = .ok (.ifnonnull 7, 3) := by decide +kernel
theorem dX5_sign_13 : decode cX5_sign 13 = .ok (.iconst (-1), 1) := by decide +kernel
theorem dX5_sign_14 : decode cX5_sign 14 = .ok (.goto 8, 3) := by decide +kernel
theorem dX5_sign_17 : decode cX5_sign 17 = .ok (.aload_n 3, 1) := by decide +kernel
theorem dX5_sign_18 : decode cX5_sign 18 = .ok (.iload_n 2, 1) := by decide +kernel
theorem dX5_sign_19 : decode cX5_sign 19 = .ok (.invokevirtual 122, 3) := by decide +kernel
theorem dX5_sign_22 : decode cX5_sign 22 = .ok (.ireturn, 1) := by decide +kernel
theorem dX5_zones_0 : decode cX5_zones 0 = .ok (.iload_n 1, 1) := by decide +kernel
theorem dX5_zones_1 : decode cX5_zones 1 = .ok (.iconst 0, 1) := by decide +kernel
theorem dX5_zones_2 : decode cX5_zones 2 = .ok (.invokestatic 50, 3) := by decide +kernel
theorem dX5_zones_5 : decode cX5_zones 5 = .ok (.ifCond .ne 5, 3) := by decide +kernel
theorem dX5_zones_8 : decode cX5_zones 8 = .ok (.iconst (-1), 1) := by decide +kernel
theorem dX5_zones_9 : decode cX5_zones 9 = .ok (.ireturn, 1) := by decide +kernel
theorem dX5_zones_10 : decode cX5_zones 10 = .ok (.ldc2_w 125, 3) := by decide +kernel
theorem dX5_zones_13 : decode cX5_zones 13 = .ok (.iload_n 1, 1) := by decide +kernel
theorem dX5_zones_14 : decode cX5_zones 14 = .ok (.i2l, 1) := by decide +kernel
theorem dX5_zones_15 : decode cX5_zones 15 = .ok (.lmul, 1) := by decide +kernel
theorem dX5_zones_16 : decode cX5_zones 16 = .ok (.lconst 1, 1) := by decide +kernel
theorem dX5_zones_17 : decode cX5_zones 17 = .ok (.invokestatic 127, 3) := by decide +kernel
theorem dX5_zones_20 : decode cX5_zones 20 = .ok (.ireturn, 1) := by decide +kernel
theorem dX5_encode_0 : decode cX5_encode 0 = .ok (.iload_n 1, 1) := by decide +kernel
theorem dX5_encode_1 : decode cX5_encode 1 = .ok (.iload_n 2, 1) := by decide +kernel
theorem dX5_encode_2 : decode cX5_encode 2 = .ok (.invokestatic 50, 3) := by decide +kernel
theorem dX5_encode_5 : decode cX5_encode 5 = .ok (.ifCond .ne 7, 3) := by decide +kernel
theorem dX5_encode_8 : decode cX5_encode 8 = .ok (.ldc2_w 131, 3) := by decide +kernel
theorem dX5_encode_11 : decode cX5_encode 11 = .ok (.lreturn, 1) := by decide +kernel
theorem dX5_encode_12 : decode cX5_encode 12 = .ok (.iload_n 1, 1) := by decide +kernel
theorem dX5_encode_13 : decode cX5_encode 13 = .ok (.iload_n 2, 1) := by decide +kernel
theorem dX5_encode_14 : decode cX5_encode 14 = .ok (.iload_n 3, 1) := by decide +kernel
theorem dX5_encode_15 : decode cX5_encode 15 = .ok (.iload 4, 2) := by decide +kernel
theorem dX5_encode_17 : decode cX5_encode 17 = .ok (.invokestatic 133, 3) := by decide +kernel
theorem dX5_encode_20 : decode cX5_encode 20 = .ok (.lreturn, 1) := by decide +kernel
theorem dX5_global_0 : decode cX5_global 0 = .ok (.lload_n 1, 1) := by decide +kernel
theorem dX5_global_1 : decode cX5_global 1 = .ok (.invokestatic 137, 3) := by decide +kernel
theorem dX5_global_4 : decode cX5_global 4 = .ok (.ifCond .eq 10, 3) := by decide +kernel
theorem dX5_global_7 : decode cX5_global 7 = .ok (.lload_n 3, 1) := by decide +kernel
theorem dX5_global_8 : decode cX5_global 8 = .ok (.invokestatic 137, 3) := by decide +kernel
theorem dX5_global_11 : decode cX5_global 11 = .ok (.ifCond .ne 7, 3) := by decide +kernel
theorem dX5_global_14 : decode cX5_global 14 = .ok (.ldc2_w 26, 3) := by decide +kernel
theorem dX5_global_17 : decode cX5_global 17 = .ok (.lreturn, 1) := by decide +kernel
theorem dX5_global_18 : decode cX5_global 18 = .ok (.lload_n 1, 1) := by decide +kernel
theorem dX5_global_19 : decode cX5_global 19 = .ok (.lload_n 3, 1) := by decide +kernel
theorem dX5_global_20 : decode cX5_global 20 = .ok (.iload 5, 2) := by decide +kernel
theorem dX5_global_22 : decode cX5_global 22 = .ok (.invokestatic 141, 3) := by decide +kernel
theorem dX5_global_25 : decode cX5_global 25 = .ok (.lreturn, 1) := by decide +kernel
theorem dX5_local_0 : decode cX5_local 0 = .ok (.lload_n 1, 1) := by decide +kernel
theorem dX5_local_1 : decode cX5_local 1 = .ok (.invokestatic 137, 3) := by decide +kernel
theorem dX5_local_4 : decode cX5_local 4 = .ok (.ifCond .eq 13, 3) := by decide +kernel
theorem dX5_local_7 : decode cX5_local 7 = .ok (.iload 5, 2) := by decide +kernel
theorem dX5_local_9 : decode cX5_local 9 = .ok (.iload 6, 2) := by decide +kernel
theorem dX5_local_11 : decode cX5_local 11 = .ok (.invokestatic 50, 3) := by decide +kernel
theorem dX5_local_14 : decode cX5_local 14 = .ok (.ifCond .ne 7, 3) := by decide +kernel
theorem dX5_local_17 : decode cX5_local 17 = .ok (.ldc2_w 26, 3) := by decide +kernel
theorem dX5_local_20 : decode cX5_local 20 = .ok (.lreturn, 1) := by decide +kernel
theorem dX5_local_21 : decode cX5_local 21 = .ok (.lload_n 1, 1) := by decide +kernel
theorem dX5_local_22 : decode cX5_local 22 = .ok (.iload_n 3, 1) := by decide +kernel
theorem dX5_local_23 : decode cX5_local 23 = .ok (.iload 4, 2) := by decide +kernel
theorem dX5_local_25 : decode cX5_local 25 = .ok (.iload 5, 2) := by decide +kernel
theorem dX5_local_27 : decode cX5_local 27 = .ok (.i2l, 1) := by decide +kernel
theorem dX5_local_28 : decode cX5_local 28 = .ok (.iload 6, 2) := by decide +kernel
theorem dX5_local_30 : decode cX5_local 30 = .ok (.i2l, 1) := by decide +kernel
theorem dX5_local_31 : decode cX5_local 31 = .ok (.invokestatic 56, 3) := by decide +kernel
theorem dX5_local_34 : decode cX5_local 34 = .ok (.invokestatic 145, 3) := by decide +kernel
theorem dX5_local_37 : decode cX5_local 37 = .ok (.lreturn, 1) := by decide +kernel
end
section
/-! decoded instructions -/
theorem dX6_init_0 : decode cX6_init 0 = .ok (.aload_n 0, 1) := by decide +kernel
theorem dX6_init_1 : decode cX6_init 1 = .ok (.invokespecial 1, 3) := by decide +kernel
theorem dX6_init_4 : decode cX6_init 4 = .ok (.aload_n 0, 1) := by decide +kernel
theorem dX6_init_5 : decode cX6_init 5 = .ok (.bipush 58, 2) := by decide +kernel
theorem dX6_init_7 : decode cX6_init 7 = .ok (.newarray .long, 2) := by decide +kernel
theorem dX6_init_9 : decode cX6_init 9 = .ok (.dup, 1) := by decide +kernel
theorem dX6_init_10 : decode cX6_init 10 = .ok (.iconst 0, 1) := by decide +kernel
theorem dX6_init_11 : decode cX6_init 11 = .ok (.ldc2_w 7, 3) := by decide +kernel
theorem dX6_init_14 : decode cX6_init 14 = .ok (.lastore, 1) := by decide +kernel
theorem dX6_init_15 : decode cX6_init 15 = .ok (.dup, 1) := by decide +kernel
theorem dX6_init_16 : decode cX6_init 16 = .ok (.iconst 1, 1) := by decide +kernel
theorem dX6_init_17 : decode cX6_init 17 = .ok (.ldc2_w 9, 3) := by decide +kernel
theorem dX6_init_20 : decode cX6_init 20 = .ok (.lastore, 1) := by decide +kernel
theorem dX6_init_21 : decode cX6_init 21 = .ok (.dup, 1) := by decide +kernel
theorem dX6_init_22 : decode cX6_init 22 = .ok (.iconst 2, 1) := by decide +kernel
theorem dX6_init_23 : decode cX6_init 23 = .ok (.ldc2_w 11, 3) := by decide +kernel
theorem dX6_init_26 : decode cX6_init 26 = .ok (.lastore, 1) := by decide +kernel
theorem dX6_init_27 : decode cX6_init 27 = .ok (.dup, 1) := by decide +kernel
theorem dX6_init_28 : decode cX6_init 28 = .ok (.iconst 3, 1) := by decide +kernel
theorem dX6_init_29 : decode cX6_init 29 = .ok (.ldc2_w 13, 3) := by decide +kernel
theorem dX6_init_32 : decode cX6_init 32 = .ok (.lastore, 1) := by decide +kernel
theorem dX6_init_33 : decode cX6_init 33 = .ok (.dup, 1) := by decide +kernel
theorem dX6_init_34 : decode cX6_init 34 = .ok (.iconst 4, 1) := by decide +kernel
theorem dX6_init_35 : decode cX6_init 35 = .ok (.ldc2_w 15, 3) := by decide +kernel
theorem dX6_init_38 : decode cX6_init 38 = .ok (.lastore, 1) := by decide +kernel
theorem dX6_init_39 : decode cX6_init 39 = .ok (.dup, 1) := by decide +kernel
theorem dX6_init_40 : decode cX6_init 40 = .ok (.iconst 5, 1) := by decide +kernel
theorem dX6_init_41 : decode cX6_init 41 = .ok (.ldc2_w 17, 3) := by decide +kernel
theorem dX6_init_44 : decode cX6_init 44 = .ok (.lastore, 1) := by decide +kernel
theorem dX6_init_45 : decode cX6_init 45 = .ok (.dup, 1) := by decide +kernel
theorem dX6_init_46 : decode cX6_init 46 = .ok (.bipush 6, 2) := by decide +kernel
theorem dX6_init_48 : decode cX6_init 48 = .ok (.ldc2_w 19, 3) := by decide +kernel
theorem dX6_init_51 : decode cX6_init 51 = .ok (.lastore, 1) := by decide +kernel
theorem dX6_init_52 : decode cX6_init 52 = .ok (.dup, 1) := by decide +kernel
theorem dX6_init_53 : decode cX6_init 53 = .ok (.bipush 7, 2) := by decide +kernel
theorem dX6_init_55 : decode cX6_init 55 = .ok (.ldc2_w 21, 3) := by decide +kernel
theorem dX6_init_58 : decode cX6_init 58 = .ok (.lastore, 1) := by decide +kernel
theorem dX6_init_59 : decode cX6_init 59 = .ok (.dup, 1) := by decide +kernel
theorem dX6_init_60 : decode cX6_init 60 = .ok (.bipush 8, 2) := by decide +kernel
theorem dX6_init_62 : decode cX6_init 62 = .ok (.ldc2_w 23, 3) := by decide +kernel
theorem dX6_init_65 : decode cX6_init 65 = .ok (.lastore, 1) := by decide +kernel
theorem dX6_init_66 : decode cX6_init 66 = .ok (.dup, 1) := by decide +kernel
theorem dX6_init_67 : decode cX6_init 67 = .ok (.bipush 9, 2) := by decide +kernel
theorem dX6_init_69 : decode cX6_init 69 = .ok (.ldc2_w 25, 3) := by decide +kernel
theorem dX6_init_72 : decode cX6_init 72 = .ok (.lastore, 1) := by decide +kernel
theorem dX6_init_73 : decode cX6_init 73 = .ok (.dup, 1) := by decide +kernel
theorem dX6_init_74 : decode cX6_init 74 = .ok (.bipush 10, 2) := by decide +kernel
theorem dX6_init_76 : decode cX6_init 76 = .ok (.ldc2_w 27, 3) := by decide +kernel
theorem dX6_init_79 : decode cX6_init 79 = .ok (.lastore, 1) := by decide +kernel
theorem dX6_init_80 : decode cX6_init 80 = .ok (.dup, 1) := by decide +kernel
theorem dX6_init_81 : decode cX6_init 81 = .ok (.bipush 11, 2) := by decide +kernel
theorem dX6_init_83 : decode cX6_init 83 = .ok (.ldc2_w 29, 3) := by decide +kernel
theorem dX6_init_86 : decode cX6_init 86 = .ok (.lastore, 1) := by decide +kernel
theorem dX6_init_87 : decode cX6_init 87 = .ok (.dup, 1) := by decide +kernel
theorem dX6_init_88 : decode cX6_init 88 = .ok (.bipush 12, 2) := by decide +kernel
theorem dX6_init_90 : decode cX6_init 90 = .ok (.ldc2_w 31, 3) := by decide +kernel
theorem dX6_init_93 : decode cX6_init 93 = .ok (.lastore, 1) := by decide +kernel
theorem dX6_init_94 : decode cX6_init 94 = .ok (.dup, 1) := by decide +kernel
theorem dX6_init_95 : decode cX6_init 95 = .ok (.bipush 13, 2) := by decide +kernel
theorem dX6_init_97 : decode cX6_init 97 = .ok (.ldc2_w 33, 3) := by decide +kernel
theorem dX6_init_100 : decode cX6_init 100 = .ok (.lastore, 1) := by decide +kernel
theorem dX6_init_101 : decode cX6_init 101 = .ok (.dup, 1) := by decide +kernel
theorem dX6_init_102 : decode cX6_init 102 = .ok (.bipush 14, 2) := by decide +kernel
theorem dX6_init_104 : decode cX6_init 104 = .ok (.ldc2_w 35, 3) := by decide +kernel
theorem dX6_init_107 : decode cX6_init 107 = .ok (.lastore, 1) := by decide +kernel
theorem dX6_init_108 : decode cX6_init 108 = .ok (.dup, 1) := by decide +kernel
theorem dX6_init_109 : decode cX6_init 109 = .ok (.bipush 15, 2) := by decide +kernel
theorem dX6_init_111 : decode cX6_init 111 = .ok (.ldc2_w 37, 3) := by decide +kernel
theorem dX6_init_114 : decode cX6_init 114 = .ok (.lastore, 1) := by decide +kernel
theorem dX6_init_115 : decode cX6_init 115 = .ok (.dup, 1) := by decide +kernel
theorem dX6_init_116 : decode cX6_init 116 = .ok (.bipush 16, 2) := by decide +kernel
theorem dX6_init_118 : decode cX6_init 118 = .ok (.ldc2_w 39, 3) := by decide +kernel
theorem dX6_init_121 : decode cX6_init 121 = .ok (.lastore, 1) := by decide +kernel
theorem dX6_init_122 : decode cX6_init 122 = .ok (.dup, 1) := by decide +kernel
theorem dX6_init_123 : decode cX6_init 123 = .ok (.bipush 17, 2) := by decide +kernel
theorem dX6_init_125 : decode cX6_init 125 = .ok (.ldc2_w 41, 3) := by decide +kernel
theorem dX6_init_128 : decode cX6_init 128 = .ok (.lastore, 1) := by decide +kernel
theorem dX6_init_129 : decode cX6_init 129 = .ok (.dup, 1) := by decide +kernel
theorem dX6_init_130 : decode cX6_init 130 = .ok (.bipush 18, 2) := by decide +kernel
theorem dX6_init_132 : decode cX6_init 132 = .ok (.ldc2_w 43, 3) := by decide +kernel
theorem dX6_init_135 : decode cX6_init 135 = .ok (.lastore, 1) := by decide +kernel
theorem dX6_init_136 : decode cX6_init 136 = .ok (.dup, 1) := by decide +kernel
theorem dX6_init_137 : decode cX6_init 137 = .ok (.bipush 19, 2) := by decide +kernel
theorem dX6_init_139 : decode cX6_init 139 = .ok (.ldc2_w 45, 3) := by decide +kernel
theorem dX6_init_142 : decode cX6_init 142 = .ok (.lastore, 1) := by decide +kernel
theorem dX6_init_143 : decode cX6_init 143 = .ok (.dup, 1) := by decide +kernel
theorem dX6_init_144 : decode cX6_init 144 = .ok (.bipush 20, 2) := by decide +kernel
theorem dX6_init_146 : decode cX6_init 146 = .ok (.ldc2_w 47, 3) := by decide +kernel
theorem dX6_init_149 : decode cX6_init 149 = .ok (.lastore, 1) := by decide +kernel
theorem dX6_init_150 : decode cX6_init 150 = .ok (.dup, 1) := by decide +kernel
theorem dX6_init_151 : decode cX6_init 151 = .ok (.bipush 21, 2) := by decide +kernel
theorem dX6_init_153 : decode cX6_init 153 = .ok (.ldc2_w 49, 3) := by decide +kernel
theorem dX6_init_156 : decode cX6_init 156 = .ok (.lastore, 1) := by decide +kernel
theorem dX6_init_157 : decode cX6_init 157 = .ok (.dup, 1) := by decide +kernel
theorem dX6_init_158 : decode cX6_init 158 = .ok (.bipush 22, 2) := by decide +kernel
theorem dX6_init_160 : decode cX6_init 160 = .ok (.ldc2_w 51, 3) := by decide +kernel
theorem dX6_init_163 : decode cX6_init 163 = .ok (.lastore, 1) := by decide +kernel
theorem dX6_init_164 : decode cX6_init 164 = .ok (.dup, 1) := by decide +kernel
theorem dX6_init_165 : decode cX6_init 165 = .ok (.bipush 23, 2) := by decide +kernel
theorem dX6_init_167 : decode cX6_init 167 = .ok (.ldc2_w 53, 3) := by decide +kernel
theorem dX6_init_170 : decode cX6_init 170 = .ok (.lastore, 1) := by decide +kernel
theorem dX6_init_171 : decode cX6_init 171 = .ok (.dup, 1) := by decide +kernel
theorem dX6_init_172 : decode cX6_init 172 = .ok (.bipush 24, 2) := by decide +kernel
theorem dX6_init_174 : decode cX6_init 174 = .ok (.ldc2_w 55, 3) := by decide +kernel
theorem dX6_init_177 : decode cX6_init 177 = .ok (.lastore, 1) := by decide +kernel
theorem dX6_init_178 : decode cX6_init 178 = .ok (.dup, 1) := by decide +kernel
theorem dX6_init_179 : decode cX6_init 179 = .ok (.bipush 25, 2) := by decide +kernel
theorem dX6_init_181 : decode cX6_init 181 = .ok (.ldc2_w 57, 3) := by decide +kernel
theorem dX6_init_184 : decode cX6_init 184 = .ok (.lastore, 1) := by decide +kernel
theorem dX6_init_185 : decode cX6_init 185 = .ok (.dup, 1) := by decide +kernel
theorem dX6_init_186 : decode cX6_init 186 = .ok (.bipush 26, 2) := by decide +kernel
theorem dX6_init_188 : decode cX6_init 188 = .ok (.ldc2_w 59, 3) := by decide +kernel
theorem dX6_init_191 : decode cX6_init 191 = .ok (.lastore, 1) := by decide +kernel
theorem dX6_init_192 : decode cX6_init 192 = .ok (.dup, 1) := by decide +kernel
theorem dX6_init_193 : decode cX6_init 193 = .ok (.bipush 27, 2) := by decide +kernel
theorem dX6_init_195 : decode cX6_init 195 = .ok (.ldc2_w 61, 3) := by decide +kernel
theorem dX6_init_198 : decode cX6_init 198 = .ok (.lastore, 1) := by decide +kernel
theorem dX6_init_199 : decode cX6_init 199 = .ok (.dup, 1) := by decide +kernel
theorem dX6_init_200 : decode cX6_init 200 = .ok (.bipush 28, 2) := by decide +kernel
theorem dX6_init_202 : decode cX6_init 202 = .ok (.ldc2_w 63, 3) := by decide +kernel
theorem dX6_init_205 : decode cX6_init 205 = .ok (.lastore, 1) := by decide +kernel
theorem dX6_init_206 : decode cX6_init 206 = .ok (.dup, 1) := by decide +kernel
theorem dX6_init_207 : decode cX6_init 207 = .ok (.bipush 29, 2) := by decide +kernel
theorem dX6_init_209 : decode cX6_init 209 = .ok (.ldc2_w 65, 3) := by decide +kernel
theorem dX6_init_212 : decode cX6_init 212 = .ok (.lastore, 1) := by decide +kernel
theorem dX6_init_213 : decode cX6_init 213 = .ok (.dup, 1) := by decide +kernel
theorem dX6_init_214 : decode cX6_init 214 = .ok (.bipush 30, 2) := by decide +kernel
theorem dX6_init_216 : decode cX6_init 216 = .ok (.ldc2_w 67, 3) := by decide +kernel
theorem dX6_init_219 : decode cX6_init 219 = .ok (.lastore, 1) := by decide +kernel
theorem dX6_init_220 : decode cX6_init 220 = .ok (.dup, 1) := by decide +kernel
theorem dX6_init_221 : decode cX6_init 221 = .ok (.bipush 31, 2) := by decide +kernel
theorem dX6_init_223 : decode cX6_init 223 = .ok (.ldc2_w 69, 3) := by decide +kernel
theorem dX6_init_226 : decode cX6_init 226 = .ok (.lastore, 1) := by decide +kernel
theorem dX6_init_227 : decode cX6_init 227 = .ok (.dup, 1) := by decide +kernel
theorem dX6_init_228 : decode cX6_init 228 = .ok (.bipush 32, 2) := by decide +kernel
theorem dX6_init_230 : decode cX6_init 230 = .ok (.ldc2_w 71, 3) := by decide +kernel
theorem dX6_init_233 : decode cX6_init 233 = .ok (.lastore, 1) := by decide +kernel
theorem dX6_init_234 : decode cX6_init 234 = .ok (.dup, 1) := by decide +kernel
theorem dX6_init_235 : decode cX6_init 235 = .ok (.bipush 33, 2) := by decide +kernel
theorem dX6_init_237 : decode cX6_init 237 = .ok (.ldc2_w 73, 3) := by decide +kernel
theorem dX6_init_240 : decode cX6_init 240 = .ok (.lastore, 1) := by decide +kernel
theorem dX6_init_241 : decode cX6_init 241 = .ok (.dup, 1) := by decide +kernel
theorem dX6_init_242 : decode cX6_init 242 = .ok (.bipush 34, 2) := by decide +kernel
theorem dX6_init_244 : decode cX6_init 244 = .ok (.ldc2_w 75, 3) := by decide +kernel
theorem dX6_init_247 : decode cX6_init 247 = .ok (.lastore, 1) := by decide +kernel
theorem dX6_init_248 : decode cX6_init 248 = .ok (.dup, 1) := by decide +kernel
theorem dX6_init_249 : decode cX6_init 249 = .ok (.bipush 35, 2) := by decide +kernel
theorem dX6_init_251 : decode cX6_init 251 = .ok (.ldc2_w 77, 3) := by decide +kernel
theorem dX6_init_254 : decode cX6_init 254 = .ok (.lastore, 1) := by decide +kernel
theorem dX6_init_255 : decode cX6_init 255 = .ok (.dup, 1) := by decide +kernel
theorem dX6_init_256 : decode cX6_init 256 = .ok (.bipush 36, 2) := by decide +kernel
theorem dX6_init_258 : decode cX6_init 258 = .ok (.ldc2_w 79, 3) := by decide +kernel
theorem dX6_init_261 : decode cX6_init 261 = .ok (.lastore, 1) := by decide +kernel
theorem dX6_init_262 : decode cX6_init 262 = .ok (.dup, 1) := by decide +kernel
theorem dX6_init_263 : decode cX6_init 263 = .ok (.bipush 37, 2) := by decide +kernel
theorem dX6_init_265 : decode cX6_init 265 = .ok (.ldc2_w 81, 3) := by decide +kernel
theorem dX6_init_268 : decode cX6_init 268 = .ok (.lastore, 1) := by decide +kernel
theorem dX6_init_269 : decode cX6_init 269 = .ok (.dup, 1) := by decide +kernel
theorem dX6_init_270 : decode cX6_init 270 = .ok (.bipush 38, 2) := by decide +kernel
theorem dX6_init_272 : decode cX6_init 272 = .ok (.ldc2_w 83, 3) := by decide +kernel
theorem dX6_init_275 : decode cX6_init 275 = .ok (.lastore, 1) := by decide +kernel
theorem dX6_init_276 : decode cX6_init 276 = .ok (.dup, 1) := by decide +kernel
theorem dX6_init_277 : decode cX6_init 277 = .ok (.bipush 39, 2) := by decide +kernel
theorem dX6_init_279 : decode cX6_init 279 = .ok (.ldc2_w 85, 3) := by decide +kernel
theorem dX6_init_282 : decode cX6_init 282 = .ok (.lastore, 1) := by decide +kernel
theorem dX6_init_283 : decode cX6_init 283 = .ok (.dup, 1) := by decide +kernel
theorem dX6_init_284 : decode cX6_init 284 = .ok (.bipush 40, 2) := by decide +kernel
theorem dX6_init_286 : decode cX6_init 286 = .ok (.ldc2_w 87, 3) := by decide +kernel
theorem dX6_init_289 : decode cX6_init 289 = .ok (.lastore, 1) := by decide +kernel
theorem dX6_init_290 : decode cX6_init 290 = .ok (.dup, 1) := by decide +kernel
theorem dX6_init_291 : decode cX6_init 291 = .ok (.bipush 41, 2) := by decide +kernel
theorem dX6_init_293 : decode cX6_init 293 = .ok (.ldc2_w 89, 3) := by decide +kernel
theorem dX6_init_296 : decode cX6_init 296 = .ok (.lastore, 1) := by decide +kernel
theorem dX6_init_297 : decode cX6_init 297 = .ok (.dup, 1) := by decide +kernel
theorem dX6_init_298 : decode cX6_init 298 = .ok (.bipush 42, 2) := by decide +kernel
theorem dX6_init_300 : decode cX6_init 300 = .ok (.ldc2_w 91, 3) := by decide +kernel
theorem dX6_init_303 : decode cX6_init 303 = .ok (.lastore, 1) := by decide +kernel
theorem dX6_init_304 : decode cX6_init 304 = .ok (.dup, 1) := by decide +kernel
theorem dX6_init_305 : decode cX6_init 305 = .ok (.bipush 43, 2) := by decide +kernel
theorem dX6_init_307 : decode cX6_init 307 = .ok (.ldc2_w 93, 3) := by decide +kernel
theorem dX6_init_310 : decode cX6_init 310 = .ok (.lastore, 1) := by decide +kernel
theorem dX6_init_311 : decode cX6_init 311 = .ok (.dup, 1) := by decide +kernel
theorem dX6_init_312 : decode cX6_init 312 = .ok (.bipush 44, 2) := by decide +kernel
theorem dX6_init_314 : decode cX6_init 314 = .ok (.ldc2_w 95, 3) := by decide +kernel
theorem dX6_init_317 : decode cX6_init 317 = .ok (.lastore, 1) := by decide +kernel
theorem dX6_init_318 : decode cX6_init 318 = .ok (.dup, 1) := by decide +kernel
theorem dX6_init_319 : decode cX6_init 319 = .ok (.bipush 45, 2) := by decide +kernel
theorem dX6_init_321 : decode cX6_init 321 = .ok (.ldc2_w 97, 3) := by decide +kernel
theorem dX6_init_324 : decode cX6_init 324 = .ok (.lastore, 1) := by decide +kernel
theorem dX6_init_325 : decode cX6_init 325 = .ok (.dup, 1) := by decide +kernel
theorem dX6_init_326 : decode cX6_init 326 = .ok (.bipush 46, 2) := by decide +kernel
theorem dX6_init_328 : decode cX6_init 328 = .ok (.ldc2_w 99, 3) := by decide +kernel
theorem dX6_init_331 : decode cX6_init 331 = .ok (.lastore, 1) := by decide +kernel
theorem dX6_init_332 : decode cX6_init 332 = .ok (.dup, 1) := by decide +kernel
theorem dX6_init_333 : decode cX6_init 333 = .ok (.bipush 47, 2) := by decide +kernel
theorem dX6_init_335 : decode cX6_init 335 = .ok (.ldc2_w 101, 3) := by decide +kernel
theorem dX6_init_338 : decode cX6_init 338 = .ok (.lastore, 1) := by decide +kernel
theorem dX6_init_339 : decode cX6_init 339 = .ok (.dup, 1) := by decide +kernel
theorem dX6_init_340 : decode cX6_init 340 = .ok (.bipush 48, 2) := by decide +kernel
theorem dX6_init_342 : decode cX6_init 342 = .ok (.ldc2_w 103, 3) := by decide +kernel
theorem dX6_init_345 : decode cX6_init 345 = .ok (.lastore, 1) := by decide +kernel
theorem dX6_init_346 : decode cX6_init 346 = .ok (.dup, 1) := by decide +kernel
theorem dX6_init_347 : decode cX6_init 347 = .ok (.bipush 49, 2) := by decide +kernel
theorem dX6_init_349 : decode cX6_init 349 = .ok (.ldc2_w 105, 3) := by decide +kernel
theorem dX6_init_352 : decode cX6_init 352 = .ok (.lastore, 1) := by decide +kernel
theorem dX6_init_353 : decode cX6_init 353 = .ok (.dup, 1) := by decide +kernel
theorem dX6_init_354 : decode cX6_init 354 = .ok (.bipush 50, 2) := by decide +kernel
theorem dX6_init_356 : decode cX6_init 356 = .ok (.ldc2_w 107, 3) := by decide +kernel
theorem dX6_init_359 : decode cX6_init 359 = .ok (.lastore, 1) := by decide +kernel
theorem dX6_init_360 : decode cX6_init 360 = .ok (.dup, 1) := by decide +kernel
theorem dX6_init_361 : decode cX6_init 361 = .ok (.bipush 51, 2) := by decide +kernel
theorem dX6_init_363 : decode cX6_init 363 = .ok (.ldc2_w 109, 3) := by decide +kernel
theorem dX6_init_366 : decode cX6_init 366 = .ok (.lastore, 1) := by decide +kernel
theorem dX6_init_367 : decode cX6_init 367 = .ok (.dup, 1) := by decide +kernel
theorem dX6_init_368 : decode cX6_init 368 = .ok (.bipush 52, 2) := by decide +kernel
theorem dX6_init_370 : decode cX6_init 370 = .ok (.ldc2_w 111, 3) := by decide +kernel
theorem dX6_init_373 : decode cX6_init 373 = .ok (.lastore, 1) := by decide +kernel
theorem dX6_init_374 : decode cX6_init 374 = .ok (.dup, 1) := by decide +kernel
theorem dX6_init_375 : decode cX6_init 375 = .ok (.bipush 53, 2) := by decide +kernel
theorem dX6_init_377 : decode cX6_init 377 = .ok (.ldc2_w 113, 3) := by decide +kernel
theorem dX6_init_380 : decode cX6_init 380 = .ok (.lastore, 1) := by decide +kernel
theorem dX6_init_381 : decode cX6_init 381 = .ok (.dup, 1) := by decide +kernel
theorem dX6_init_382 : decode cX6_init 382 = .ok (.bipush 54, 2) := by decide +kernel
theorem dX6_init_384 : decode cX6_init 384 = .ok (.ldc2_w 115, 3) := by decide +kernel
theorem dX6_init_387 : decode cX6_init 387 = .ok (.lastore, 1) := by decide +kernel
theorem dX6_init_388 : decode cX6_init 388 = .ok (.dup, 1) := by decide +kernel
theorem dX6_init_389 : decode cX6_init 389 = .ok (.bipush 55, 2) := by decide +kernel
theorem dX6_init_391 : decode cX6_init 391 = .ok (.ldc2_w 117, 3) := by decide +kernel
theorem dX6_init_394 : decode cX6_init 394 = .ok (.lastore, 1) := by decide +kernel
theorem dX6_init_395 : decode cX6_init 395 = .ok (.dup, 1) := by decide +kernel
theorem dX6_init_396 : decode cX6_init 396 = .ok (.bipush 56, 2) := by decide +kernel
theorem dX6_init_398 : decode cX6_init 398 = .ok (.ldc2_w 119, 3) := by decide +kernel
theorem dX6_init_401 : decode cX6_init 401 = .ok (.lastore, 1) := by decide +kernel
theorem dX6_init_402 : decode cX6_init 402 = .ok (.dup, 1) := by decide +kernel
theorem dX6_init_403 : decode cX6_init 403 = .ok (.bipush 57, 2) := by decide +kernel
theorem dX6_init_405 : decode cX6_init 405 = .ok (.ldc2_w 121, 3) := by decide +kernel
theorem dX6_init_408 : decode cX6_init 408 = .ok (.lastore, 1) := by decide +kernel
theorem dX6_init_409 : decode cX6_init 409 = .ok (.putfield 123, 3) := by decide +kernel
theorem dX6_init_412 : decode cX6_init 412 = .ok (.aload_n 0, 1) := by decide +kernel
theorem dX6_init_413 : decode cX6_init 413 = .ok (.sipush 800, 3) := by decide +kernel
theorem dX6_init_416 : decode cX6_init 416 = .ok (.newarray .int, 2) := by decide +kernel
theorem dX6_init_418 : decode cX6_init 418 = .ok (.putfield 129, 3) := by decide +kernel
theorem dX6_init_421 : decode cX6_init 421 = .ok (.aload_n 0, 1) := by decide +kernel
theorem dX6_init_422 : decode cX6_init 422 = .ok (.bipush 112, 2) := by decide +kernel
theorem dX6_init_424 : decode cX6_init 424 = .ok (.newarray .int, 2) := by decide +kernel
theorem dX6_init_426 : decode cX6_init 426 = .ok (.putfield 133, 3) := by decide +kernel
theorem dX6_init_429 : decode cX6_init 429 = .ok (.aload_n 0, 1) := by decide +kernel
theorem dX6_init_430 : decode cX6_init 430 = .ok (.bipush 112, 2) := by decide +kernel
theorem dX6_init_432 : decode cX6_init 432 = .ok (.newarray .int, 2) := by decide +kernel
theorem dX6_init_434 : decode cX6_init 434 = .ok (.putfield 136, 3) := by decide +kernel
theorem dX6_init_437 : decode cX6_init 437 = .ok (.aload_n 0, 1) := by decide +kernel
theorem dX6_init_438 : decode cX6_init 438 = .ok (.iconst (-1), 1) := by decide +kernel
theorem dX6_init_439 : decode cX6_init 439 = .ok (.putfield 139, 3) := by decide +kernel
theorem dX6_init_442 : decode cX6_init 442 = .ok (.return_, 1) := by decide +kernel
theorem dX6_frame_0 : decode cX6_frame 0 = .ok (.iconst 0, 1) := by decide +kernel
theorem dX6_frame_1 : decode cX6_frame 1 = .ok (.istore 5, 2) := by decide +kernel
theorem dX6_frame_3 : decode cX6_frame 3 = .ok (.iload 5, 2) := by decide +kernel
theorem dX6_frame_5 : decode cX6_frame 5 = .ok (.bipush 112, 2) := by decide +kernel
theorem dX6_frame_7 : decode cX6_frame 7 = .ok (.if_icmp .ge 66, 3) := by decide +kernel
theorem dX6_frame_10 : decode cX6_frame 10 = .ok (.iload 5, 2) := by decide +kernel
theorem dX6_frame_12 : decode cX6_frame 12 = .ok (.bipush 32, 2) := by decide +kernel
theorem dX6_frame_14 : decode cX6_frame 14 = .ok (.if_icmp .ge 7, 3) := by decide +kernel
theorem dX6_frame_17 : decode cX6_frame 17 = .ok (.iload_n 1, 1) := by decide +kernel
theorem dX6_frame_18 : decode cX6_frame 18 = .ok (.goto 27, 3) := by decide +kernel
theorem dX6_frame_21 : decode cX6_frame 21 = .ok (.iload 5, 2) := by decide +kernel
theorem dX6_frame_23 : decode cX6_frame 23 = .ok (.bipush 64, 2) := by decide +kernel
theorem dX6_frame_25 : decode cX6_frame 25 = .ok (.if_icmp .ge 7, 3) := by decide +kernel
theorem dX6_frame_28 : decode cX6_frame 28 = .ok (.iload_n 2, 1) := by decide +kernel
theorem dX6_frame_29 : decode cX6_frame 29 = .ok (.goto 16, 3) := by decide +kernel
theorem dX6_frame_32 : decode cX6_frame 32 = .ok (.iload 5, 2) := by decide +kernel
theorem dX6_frame_34 : decode cX6_frame 34 = .ok (.bipush 96, 2) := by decide +kernel
theorem dX6_frame_36 : decode cX6_frame 36 = .ok (.if_icmp .ge 7, 3) := by decide +kernel
theorem dX6_frame_39 : decode cX6_frame 39 = .ok (.iload_n 3, 1) := by decide +kernel
theorem dX6_frame_40 : decode cX6_frame 40 = .ok (.goto 5, 3) := by decide +kernel
theorem dX6_frame_43 : decode cX6_frame 43 = .ok (.iload 4, 2) := by decide +kernel
theorem dX6_frame_45 : decode cX6_frame 45 = .ok (.istore 6, 2) := by decide +kernel
theorem dX6_frame_47 : decode cX6_frame 47 = .ok (.aload_n 0, 1) := by decide +kernel
theorem dX6_frame_48 : decode cX6_frame 48 = .ok (.getfield 133, 3) := by decide +kernel
theorem dX6_frame_51 : decode cX6_frame 51 = .ok (.iload 5, 2) := by decide +kernel
theorem dX6_frame_53 : decode cX6_frame 53 = .ok (.iload 6, 2) := by decide +kernel
theorem dX6_frame_55 : decode cX6_frame 55 = .ok (.bipush 31, 2) := by decide +kernel
theorem dX6_frame_57 : decode cX6_frame 57 = .ok (.iload 5, 2) := by decide +kernel
theorem dX6_frame_59 : decode cX6_frame 59 = .ok (.bipush 32, 2) := by decide +kernel
theorem dX6_frame_61 : decode cX6_frame 61 = .ok (.irem, 1) := by decide +kernel
theorem dX6_frame_62 : decode cX6_frame 62 = .ok (.isub, 1) := by decide +kernel
theorem dX6_frame_63 : decode cX6_frame 63 = .ok (.ishr, 1) := by decide +kernel
theorem dX6_frame_64 : decode cX6_frame 64 = .ok (.iconst 1, 1) := by decide +kernel
theorem dX6_frame_65 : decode cX6_frame 65 = .ok (.iand, 1) := by decide +kernel
theorem dX6_frame_66 : decode cX6_frame 66 = .ok (.iastore, 1) := by decide +kernel
theorem dX6_frame_67 : decode cX6_frame 67 = .ok (.iinc 5 1, 3) := by decide +kernel
theorem dX6_frame_70 : decode cX6_frame 70 = .ok (.goto (-67), 3) := by decide +kernel
theorem dX6_frame_73 : decode cX6_frame 73 = .ok (.aload_n 0, 1) := by decide +kernel
theorem dX6_frame_74 : decode cX6_frame 74 = .ok (.aload_n 0, 1) := by decide +kernel
theorem dX6_frame_75 : decode cX6_frame 75 = .ok (.getfield 133, 3) := by decide +kernel
theorem dX6_frame_78 : decode cX6_frame 78 = .ok (.iconst 0, 1) := by decide +kernel
theorem dX6_frame_79 : decode cX6_frame 79 = .ok (.iaload, 1) := by decide +kernel
theorem dX6_frame_80 : decode cX6_frame 80 = .ok (.ifCond .ne 8, 3) := by decide +kernel
theorem dX6_frame_83 : decode cX6_frame 83 = .ok (.bipush 56, 2) := by decide +kernel
theorem dX6_frame_85 : decode cX6_frame 85 = .ok (.goto 5, 3) := by decide +kernel
theorem dX6_frame_88 : decode cX6_frame 88 = .ok (.bipush 112, 2) := by decide +kernel
theorem dX6_frame_90 : decode cX6_frame 90 = .ok (.putfield 143, 3) := by decide +kernel
theorem dX6_frame_93 : decode cX6_frame 93 = .ok (.return_, 1) := by decide +kernel
theorem dX6_number_0 : decode cX6_number 0 = .ok (.iconst 0, 1) := by decide +kernel
theorem dX6_number_1 : decode cX6_number 1 = .ok (.istore 4, 2) := by decide +kernel
theorem dX6_number_3 : decode cX6_number 3 = .ok (.iload_n 2, 1) := by decide +kernel
theorem dX6_number_4 : decode cX6_number 4 = .ok (.istore 5, 2) := by decide +kernel
theorem dX6_number_6 : decode cX6_number 6 = .ok (.iload 5, 2) := by decide +kernel
theorem dX6_number_8 : decode cX6_number 8 = .ok (.iload_n 3, 1) := by decide +kernel
theorem dX6_number_9 : decode cX6_number 9 = .ok (.if_icmp .gt 22, 3) := by decide +kernel
theorem dX6_number_12 : decode cX6_number 12 = .ok (.iconst 2, 1) := by decide +kernel
theorem dX6_number_13 : decode cX6_number 13 = .ok (.iload 4, 2) := by decide +kernel
theorem dX6_number_15 : decode cX6_number 15 = .ok (.imul, 1) := by decide +kernel
theorem dX6_number_16 : decode cX6_number 16 = .ok (.aload_n 1, 1) := by decide +kernel
theorem dX6_number_17 : decode cX6_number 17 = .ok (.iload 5, 2) := by decide +kernel
theorem dX6_number_19 : decode cX6_number 19 = .ok (.iconst 1, 1) := by decide +kernel
theorem dX6_number_20 : decode cX6_number 20 = .ok (.isub, 1) := by decide +kernel
theorem dX6_number_21 : decode cX6_number 21 = .ok (.iaload, 1) := by decide +kernel
theorem dX6_number_22 : decode cX6_number 22 = .ok (.iadd, 1) := by decide +kernel
theorem dX6_number_23 : decode cX6_number 23 = .ok (.istore 4, 2) := by decide +kernel
theorem dX6_number_25 : decode cX6_number 25 = .ok (.iinc 5 1, 3) := by decide +kernel
theorem dX6_number_28 : decode cX6_number 28 = .ok (.goto (-22), 3) := by decide +kernel
theorem dX6_number_31 : decode cX6_number 31 = .ok (.iload 4, 2) := by decide +kernel
theorem dX6_number_33 : decode cX6_number 33 = .ok (.ireturn, 1) := by decide +kernel
theorem dX6_remainder_0 : decode cX6_remainder 0 = .ok (.iconst 0, 1) := by decide +kernel
theorem dX6_remainder_1 : decode cX6_remainder 1 = .ok (.istore_n 1, 1) := by decide +kernel
theorem dX6_remainder_2 : decode cX6_remainder 2 = .ok (.iconst 0, 1) := by decide +kernel
theorem dX6_remainder_3 : decode cX6_remainder 3 = .ok (.istore_n 2, 1) := by decide +kernel
theorem dX6_remainder_4 : decode cX6_remainder 4 = .ok (.iload_n 2, 1) := by decide +kernel
theorem dX6_remainder_5 : decode cX6_remainder 5 = .ok (.aload_n 0, 1) := by decide +kernel
theorem dX6_remainder_6 : decode cX6_remainder 6 = .ok (.getfield 143, 3) := by decide +kernel
theorem dX6_remainder_9 : decode cX6_remainder 9 = .ok (.if_icmp .ge 31, 3) := by decide +kernel
theorem dX6_remainder_12 : decode cX6_remainder 12 = .ok (.iconst 2, 1) := by decide +kernel
theorem dX6_remainder_13 : decode cX6_remainder 13 = .ok (.iload_n 1, 1) := by decide +kernel
theorem dX6_remainder_14 : decode cX6_remainder 14 = .ok (.imul, 1) := by decide +kernel
theorem dX6_remainder_15 : decode cX6_remainder 15 = .ok (.aload_n 0, 1) := by decide +kernel
theorem dX6_remainder_16 : decode cX6_remainder 16 = .ok (.getfield 133, 3) := by decide +kernel
theorem dX6_remainder_19 : decode cX6_remainder 19 = .ok (.iload_n 2, 1) := by decide +kernel
theorem dX6_remainder_20 : decode cX6_remainder 20 = .ok (.iaload, 1) := by decide +kernel
theorem dX6_remainder_21 : decode cX6_remainder 21 = .ok (.iadd, 1) := by decide +kernel
theorem dX6_remainder_22 : decode cX6_remainder 22 = .ok (.istore_n 1, 1) := by decide +kernel
theorem dX6_remainder_23 : decode cX6_remainder 23 = .ok (.iload_n 1, 1) := by decide +kernel
theorem dX6_remainder_24 : decode cX6_remainder 24 = .ok (.ldc 146, 2) := by decide +kernel
theorem dX6_remainder_26 : decode cX6_remainder 26 = .ok (.if_icmp .lt 8, 3) := by decide +kernel
theorem dX6_remainder_29 : decode cX6_remainder 29 = .ok (.iload_n 1, 1) := by decide +kernel
theorem dX6_remainder_30 : decode cX6_remainder 30 = .ok (.ldc 147, 2) := by decide +kernel
theorem dX6_remainder_32 : decode cX6_remainder 32 = .ok (.ixor, 1) := by decide +kernel
theorem dX6_remainder_33 : decode cX6_remainder 33 = .ok (.istore_n 1, 1) := by decide +kernel
theorem dX6_remainder_34 : decode cX6_remainder 34 = .ok (.iinc 2 1, 3) := by decide +kernel
theorem dX6_remainder_37 : decode cX6_remainder 37 = .ok (.goto (-33), 3) := by decide +kernel
theorem dX6_remainder_40 : decode cX6_remainder 40 = .ok (.iload_n 1, 1) := by decide +kernel
theorem dX6_remainder_41 : decode cX6_remainder 41 = .ok (.ireturn, 1) := by decide +kernel
theorem dX6_syndrome_0 : decode cX6_syndrome 0 = .ok (.aload_n 0, 1) := by decide +kernel
theorem dX6_syndrome_1 : decode cX6_syndrome 1 = .ok (.iload_n 1, 1) := by decide +kernel
theorem dX6_syndrome_2 : decode cX6_syndrome 2 = .ok (.iload_n 2, 1) := by decide +kernel
theorem dX6_syndrome_3 : decode cX6_syndrome 3 = .ok (.iload_n 3, 1) := by decide +kernel
theorem dX6_syndrome_4 : decode cX6_syndrome 4 = .ok (.iload 4, 2) := by decide +kernel
theorem dX6_syndrome_6 : decode cX6_syndrome 6 = .ok (.invokevirtual 148, 3) := by decide +kernel
theorem dX6_syndrome_9 : decode cX6_syndrome 9 = .ok (.aload_n 0, 1) := by decide +kernel
theorem dX6_syndrome_10 : decode cX6_syndrome 10 = .ok (.invokevirtual 152, 3) := by decide +kernel
theorem dX6_syndrome_13 : decode cX6_syndrome 13 = .ok (.ireturn, 1) := by decide +kernel
theorem dX6_seal_0 : decode cX6_seal 0 = .ok (.aload_n 0, 1) := by decide +kernel
theorem dX6_seal_1 : decode cX6_seal 1 = .ok (.iload_n 1, 1) := by decide +kernel
theorem dX6_seal_2 : decode cX6_seal 2 = .ok (.iload_n 2, 1) := by decide +kernel
theorem dX6_seal_3 : decode cX6_seal 3 = .ok (.iload_n 3, 1) := by decide +kernel
theorem dX6_seal_4 : decode cX6_seal 4 = .ok (.iload 4, 2) := by decide +kernel
theorem dX6_seal_6 : decode cX6_seal 6 = .ok (.invokevirtual 148, 3) := by decide +kernel
theorem dX6_seal_9 : decode cX6_seal 9 = .ok (.aload_n 0, 1) := by decide +kernel
theorem dX6_seal_10 : decode cX6_seal 10 = .ok (.getfield 143, 3) := by decide +kernel
theorem dX6_seal_13 : decode cX6_seal 13 = .ok (.bipush 24, 2) := by decide +kernel
theorem dX6_seal_15 : decode cX6_seal 15 = .ok (.isub, 1) := by decide +kernel
theorem dX6_seal_16 : decode cX6_seal 16 = .ok (.istore 5, 2) := by decide +kernel
theorem dX6_seal_18 : decode cX6_seal 18 = .ok (.iload 5, 2) := by decide +kernel
theorem dX6_seal_20 : decode cX6_seal 20 = .ok (.aload_n 0, 1) := by decide +kernel
theorem dX6_seal_21 : decode cX6_seal 21 = .ok (.getfield 143, 3) := by decide +kernel
theorem dX6_seal_24 : decode cX6_seal 24 = .ok (.if_icmp .ge 17, 3) := by decide +kernel
theorem dX6_seal_27 : decode cX6_seal 27 = .ok (.aload_n 0, 1) := by decide +kernel
theorem dX6_seal_28 : decode cX6_seal 28 = .ok (.getfield 133, 3) := by decide +kernel
theorem dX6_seal_31 : decode cX6_seal 31 = .ok (.iload 5, 2) := by decide +kernel
theorem dX6_seal_33 : decode cX6_seal 33 = .ok (.iconst 0, 1) := by decide +kernel
theorem dX6_seal_34 : decode cX6_seal 34 = .ok (.iastore, 1) := by decide +kernel
theorem dX6_seal_35 : decode cX6_seal 35 = .ok (.iinc 5 1, 3) := by decide +kernel
theorem dX6_seal_38 : decode cX6_seal 38 = .ok (.goto (-20), 3) := by decide +kernel
theorem dX6_seal_41 : decode cX6_seal 41 = .ok (.aload_n 0, 1) := by decide +kernel
theorem dX6_seal_42 : decode cX6_seal 42 = .ok (.invokevirtual 152, 3) := by decide +kernel
theorem dX6_seal_45 : decode cX6_seal 45 = .ok (.ireturn, 1) := by decide +kernel
theorem dX6_isWrong_0 : decode cX6_isWrong 0 = .ok (.iload_n 1, 1) := by decide +kernel
theorem dX6_isWrong_1 : decode cX6_isWrong 1 = .ok (.bipush 11, 2) := by decide +kernel
theorem dX6_isWrong_3 : decode cX6_isWrong 3 = .ok (.if_icmp .ne 17, 3) := by decide +kernel
theorem dX6_isWrong_6 : decode cX6_isWrong 6 = .ok (.iload_n 2, 1) := by decide +kernel
theorem dX6_isWrong_7 : decode cX6_isWrong 7 = .ok (.bipush 127, 2) := by decide +kernel
theorem dX6_isWrong_9 : decode cX6_isWrong 9 = .ok (.if_icmp .le 7, 3) := by decide +kernel
theorem dX6_isWrong_12 : decode cX6_isWrong 12 = .ok (.iconst 1, 1) := by decide +kernel
theorem dX6_isWrong_13 : decode cX6_isWrong 13 = .ok (.goto 28, 3) := by decide +kernel
theorem dX6_isWrong_16 : decode cX6_isWrong 16 = .ok (.iconst 0, 1) := by decide +kernel
theorem dX6_isWrong_17 : decode cX6_isWrong 17 = .ok (.goto 24, 3) := by decide +kernel
theorem dX6_isWrong_20 : decode cX6_isWrong 20 = .ok (.iload_n 1, 1) := by decide +kernel
theorem dX6_isWrong_21 : decode cX6_isWrong 21 = .ok (.bipush 17, 2) := by decide +kernel
theorem dX6_isWrong_23 : decode cX6_isWrong 23 = .ok (.if_icmp .eq 9, 3) := by decide +kernel
theorem dX6_isWrong_26 : decode cX6_isWrong 26 = .ok (.iload_n 1, 1) := by decide +kernel
theorem dX6_isWrong_27 : decode cX6_isWrong 27 = .ok (.bipush 18, 2) := by decide +kernel
theorem dX6_isWrong_29 : decode cX6_isWrong 29 = .ok (.if_icmp .ne 11, 3) := by decide +kernel
theorem dX6_isWrong_32 : decode cX6_isWrong 32 = .ok (.iload_n 2, 1) := by decide +kernel
theorem dX6_isWrong_33 : decode cX6_isWrong 33 = .ok (.ifCond .eq 7, 3) := by decide +kernel
theorem dX6_isWrong_36 : decode cX6_isWrong 36 = .ok (.iconst 1, 1) := by decide +kernel
theorem dX6_isWrong_37 : decode cX6_isWrong 37 = .ok (.goto 4, 3) := by decide +kernel
theorem dX6_isWrong_40 : decode cX6_isWrong 40 = .ok (.iconst 0, 1) := by decide +kernel
theorem dX6_isWrong_41 : decode cX6_isWrong 41 = .ok (.ireturn, 1) := by decide +kernel
theorem dX6_toTurn_0 : decode cX6_toTurn 0 = .ok (.iconst (-1), 1) := by decide +kernel
theorem dX6_toTurn_1 : decode cX6_toTurn 1 = .ok (.istore_n 1, 1) := by decide +kernel
theorem dX6_toTurn_2 : decode cX6_toTurn 2 = .ok (.bipush 6, 2) := by decide +kernel
theorem dX6_toTurn_4 : decode cX6_toTurn 4 = .ok (.istore_n 2, 1) := by decide +kernel
theorem dX6_toTurn_5 : decode cX6_toTurn 5 = .ok (.iload_n 2, 1) := by decide +kernel
theorem dX6_toTurn_6 : decode cX6_toTurn 6 = .ok (.aload_n 0, 1) := by decide +kernel
theorem dX6_toTurn_7 : decode cX6_toTurn 7 = .ok (.getfield 143, 3) := by decide +kernel
theorem dX6_toTurn_10 : decode cX6_toTurn 10 = .ok (.if_icmp .gt 58, 3) := by decide +kernel
theorem dX6_toTurn_13 : decode cX6_toTurn 13 = .ok (.iload_n 1, 1) := by decide +kernel
theorem dX6_toTurn_14 : decode cX6_toTurn 14 = .ok (.ifCond .ge 54, 3) := by decide +kernel
theorem dX6_toTurn_17 : decode cX6_toTurn 17 = .ok (.aload_n 0, 1) := by decide +kernel
theorem dX6_toTurn_18 : decode cX6_toTurn 18 = .ok (.getfield 133, 3) := by decide +kernel
theorem dX6_toTurn_21 : decode cX6_toTurn 21 = .ok (.iload_n 2, 1) := by decide +kernel
theorem dX6_toTurn_22 : decode cX6_toTurn 22 = .ok (.iconst 1, 1) := by decide +kernel
theorem dX6_toTurn_23 : decode cX6_toTurn 23 = .ok (.isub, 1) := by decide +kernel
theorem dX6_toTurn_24 : decode cX6_toTurn 24 = .ok (.iconst 1, 1) := by decide +kernel
theorem dX6_toTurn_25 : decode cX6_toTurn 25 = .ok (.aload_n 0, 1) := by decide +kernel
theorem dX6_toTurn_26 : decode cX6_toTurn 26 = .ok (.getfield 133, 3) := by decide +kernel
theorem dX6_toTurn_29 : decode cX6_toTurn 29 = .ok (.iload_n 2, 1) := by decide +kernel
theorem dX6_toTurn_30 : decode cX6_toTurn 30 = .ok (.iconst 1, 1) := by decide +kernel
theorem dX6_toTurn_31 : decode cX6_toTurn 31 = .ok (.isub, 1) := by decide +kernel
theorem dX6_toTurn_32 : decode cX6_toTurn 32 = .ok (.iaload, 1) := by decide +kernel
theorem dX6_toTurn_33 : decode cX6_toTurn 33 = .ok (.isub, 1) := by decide +kernel
theorem dX6_toTurn_34 : decode cX6_toTurn 34 = .ok (.iastore, 1) := by decide +kernel
theorem dX6_toTurn_35 : decode cX6_toTurn 35 = .ok (.aload_n 0, 1) := by decide +kernel
theorem dX6_toTurn_36 : decode cX6_toTurn 36 = .ok (.invokevirtual 152, 3) := by decide +kernel
theorem dX6_toTurn_39 : decode cX6_toTurn 39 = .ok (.ifCond .ne 5, 3) := by decide +kernel
theorem dX6_toTurn_42 : decode cX6_toTurn 42 = .ok (.iload_n 2, 1) := by decide +kernel
theorem dX6_toTurn_43 : decode cX6_toTurn 43 = .ok (.istore_n 1, 1) := by decide +kernel
theorem dX6_toTurn_44 : decode cX6_toTurn 44 = .ok (.aload_n 0, 1) := by decide +kernel
theorem dX6_toTurn_45 : decode cX6_toTurn 45 = .ok (.getfield 133, 3) := by decide +kernel
theorem dX6_toTurn_48 : decode cX6_toTurn 48 = .ok (.iload_n 2, 1) := by decide +kernel
theorem dX6_toTurn_49 : decode cX6_toTurn 49 = .ok (.iconst 1, 1) := by decide +kernel
theorem dX6_toTurn_50 : decode cX6_toTurn 50 = .ok (.isub, 1) := by decide +kernel
theorem dX6_toTurn_51 : decode cX6_toTurn 51 = .ok (.iconst 1, 1) := by decide +kernel
theorem dX6_toTurn_52 : decode cX6_toTurn 52 = .ok (.aload_n 0, 1) := by decide +kernel
theorem dX6_toTurn_53 : decode cX6_toTurn 53 = .ok (.getfield 133, 3) := by decide +kernel
theorem dX6_toTurn_56 : decode cX6_toTurn 56 = .ok (.iload_n 2, 1) := by decide +kernel
theorem dX6_toTurn_57 : decode cX6_toTurn 57 = .ok (.iconst 1, 1) := by decide +kernel
theorem dX6_toTurn_58 : decode cX6_toTurn 58 = .ok (.isub, 1) := by decide +kernel
theorem dX6_toTurn_59 : decode cX6_toTurn 59 = .ok (.iaload, 1) := by decide +kernel
theorem dX6_toTurn_60 : decode cX6_toTurn 60 = .ok (.isub, 1) := by decide +kernel
theorem dX6_toTurn_61 : decode cX6_toTurn 61 = .ok (.iastore, 1) := by decide +kernel
theorem dX6_toTurn_62 : decode cX6_toTurn 62 = .ok (.iinc 2 1, 3) := by decide +kernel
theorem dX6_toTurn_65 : decode cX6_toTurn 65 = .ok (.goto (-60), 3) := by decide +kernel
theorem dX6_toTurn_68 : decode cX6_toTurn 68 = .ok (.iload_n 1, 1) := by decide +kernel
theorem dX6_toTurn_69 : decode cX6_toTurn 69 = .ok (.ireturn, 1) := by decide +kernel
theorem dX6_repair_0 : decode cX6_repair 0 = .ok (.aload_n 0, 1) := by decide +kernel
theorem dX6_repair_1 : decode cX6_repair 1 = .ok (.iload_n 1, 1) := by decide +kernel
theorem dX6_repair_2 : decode cX6_repair 2 = .ok (.iload_n 2, 1) := by decide +kernel
theorem dX6_repair_3 : decode cX6_repair 3 = .ok (.iload_n 3, 1) := by decide +kernel
theorem dX6_repair_4 : decode cX6_repair 4 = .ok (.iload 4, 2) := by decide +kernel
theorem dX6_repair_6 : decode cX6_repair 6 = .ok (.invokevirtual 148, 3) := by decide +kernel
theorem dX6_repair_9 : decode cX6_repair 9 = .ok (.aload_n 0, 1) := by decide +kernel
theorem dX6_repair_10 : decode cX6_repair 10 = .ok (.aload_n 0, 1) := by decide +kernel
theorem dX6_repair_11 : decode cX6_repair 11 = .ok (.aload_n 0, 1) := by decide +kernel
theorem dX6_repair_12 : decode cX6_repair 12 = .ok (.getfield 133, 3) := by decide +kernel
theorem dX6_repair_15 : decode cX6_repair 15 = .ok (.iconst 1, 1) := by decide +kernel
theorem dX6_repair_16 : decode cX6_repair 16 = .ok (.iconst 5, 1) := by decide +kernel
theorem dX6_repair_17 : decode cX6_repair 17 = .ok (.invokevirtual 156, 3) := by decide +kernel
theorem dX6_repair_20 : decode cX6_repair 20 = .ok (.aload_n 0, 1) := by decide +kernel
theorem dX6_repair_21 : decode cX6_repair 21 = .ok (.invokevirtual 152, 3) := by decide +kernel
theorem dX6_repair_24 : decode cX6_repair 24 = .ok (.invokevirtual 160, 3) := by decide +kernel
theorem dX6_repair_27 : decode cX6_repair 27 = .ok (.ifCond .eq 10, 3) := by decide +kernel
theorem dX6_repair_30 : decode cX6_repair 30 = .ok (.aload_n 0, 1) := by decide +kernel
theorem dX6_repair_31 : decode cX6_repair 31 = .ok (.invokevirtual 164, 3) := by decide +kernel
theorem dX6_repair_34 : decode cX6_repair 34 = .ok (.goto 4, 3) := by decide +kernel
theorem dX6_repair_37 : decode cX6_repair 37 = .ok (.iconst (-1), 1) := by decide +kernel
theorem dX6_repair_38 : decode cX6_repair 38 = .ok (.ireturn, 1) := by decide +kernel
theorem dX6_ungray_0 : decode cX6_ungray 0 = .ok (.iconst 0, 1) := by decide +kernel
theorem dX6_ungray_1 : decode cX6_ungray 1 = .ok (.istore_n 3, 1) := by decide +kernel
theorem dX6_ungray_2 : decode cX6_ungray 2 = .ok (.iconst 0, 1) := by decide +kernel
theorem dX6_ungray_3 : decode cX6_ungray 3 = .ok (.istore 4, 2) := by decide +kernel
theorem dX6_ungray_5 : decode cX6_ungray 5 = .ok (.iload_n 2, 1) := by decide +kernel
theorem dX6_ungray_6 : decode cX6_ungray 6 = .ok (.iconst 1, 1) := by decide +kernel
theorem dX6_ungray_7 : decode cX6_ungray 7 = .ok (.isub, 1) := by decide +kernel
theorem dX6_ungray_8 : decode cX6_ungray 8 = .ok (.istore 5, 2) := by decide +kernel
theorem dX6_ungray_10 : decode cX6_ungray 10 = .ok (.iload 5, 2) := by decide +kernel
theorem dX6_ungray_12 : decode cX6_ungray 12 = .ok (.ifCond .lt 27, 3) := by decide +kernel
theorem dX6_ungray_15 : decode cX6_ungray 15 = .ok (.iload 4, 2) := by decide +kernel
theorem dX6_ungray_17 : decode cX6_ungray 17 = .ok (.iload_n 1, 1) := by decide +kernel
theorem dX6_ungray_18 : decode cX6_ungray 18 = .ok (.iload 5, 2) := by decide +kernel
theorem dX6_ungray_20 : decode cX6_ungray 20 = .ok (.ishr, 1) := by decide +kernel
theorem dX6_ungray_21 : decode cX6_ungray 21 = .ok (.iconst 1, 1) := by decide +kernel
theorem dX6_ungray_22 : decode cX6_ungray 22 = .ok (.iand, 1) := by decide +kernel
theorem dX6_ungray_23 : decode cX6_ungray 23 = .ok (.ixor, 1) := by decide +kernel
theorem dX6_ungray_24 : decode cX6_ungray 24 = .ok (.istore 4, 2) := by decide +kernel
theorem dX6_ungray_26 : decode cX6_ungray 26 = .ok (.iconst 2, 1) := by decide +kernel
theorem dX6_ungray_27 : decode cX6_ungray 27 = .ok (.iload_n 3, 1) := by decide +kernel
theorem dX6_ungray_28 : decode cX6_ungray 28 = .ok (.imul, 1) := by decide +kernel
theorem dX6_ungray_29 : decode cX6_ungray 29 = .ok (.iload 4, 2) := by decide +kernel
theorem dX6_ungray_31 : decode cX6_ungray 31 = .ok (.iadd, 1) := by decide +kernel
theorem dX6_ungray_32 : decode cX6_ungray 32 = .ok (.istore_n 3, 1) := by decide +kernel
theorem dX6_ungray_33 : decode cX6_ungray 33 = .ok (.iinc 5 (-1), 3) := by decide +kernel
theorem dX6_ungray_36 : decode cX6_ungray 36 = .ok (.goto (-26), 3) := by decide +kernel
theorem dX6_ungray_39 : decode cX6_ungray 39 = .ok (.iload_n 3, 1) := by decide +kernel
theorem dX6_ungray_40 : decode cX6_ungray 40 = .ok (.ireturn, 1) := by decide +kernel
theorem dX6_of_0 : decode cX6_of 0 = .ok (.iload_n 1, 1) := by decide +kernel
theorem dX6_of_1 : decode cX6_of 1 = .ok (.bipush 12, 2) := by decide +kernel
theorem dX6_of_3 : decode cX6_of 3 = .ok (.iload_n 2, 1) := by decide +kernel
theorem dX6_of_4 : decode cX6_of 4 = .ok (.isub, 1) := by decide +kernel
theorem dX6_of_5 : decode cX6_of 5 = .ok (.ishr, 1) := by decide +kernel
theorem dX6_of_6 : decode cX6_of 6 = .ok (.iconst 1, 1) := by decide +kernel
theorem dX6_of_7 : decode cX6_of 7 = .ok (.iand, 1) := by decide +kernel
theorem dX6_of_8 : decode cX6_of 8 = .ok (.ireturn, 1) := by decide +kernel
theorem dX6_altitude_0 : decode cX6_altitude 0 = .ok (.iload_n 1, 1) := by decide +kernel
theorem dX6_altitude_1 : decode cX6_altitude 1 = .ok (.ifCond .eq 14, 3) := by decide +kernel
theorem dX6_altitude_4 : decode cX6_altitude 4 = .ok (.aload_n 0, 1) := by decide +kernel
theorem dX6_altitude_5 : decode cX6_altitude 5 = .ok (.iload_n 1, 1) := by decide +kernel
theorem dX6_altitude_6 : decode cX6_altitude 6 = .ok (.bipush 6, 2) := by decide +kernel
theorem dX6_altitude_8 : decode cX6_altitude 8 = .ok (.invokevirtual 167, 3) := by decide +kernel
theorem dX6_altitude_11 : decode cX6_altitude 11 = .ok (.iconst 1, 1) := by decide +kernel
theorem dX6_altitude_12 : decode cX6_altitude 12 = .ok (.if_icmp .ne 6, 3) := by decide +kernel
theorem dX6_altitude_15 : decode cX6_altitude 15 = .ok (.ldc 171, 2) := by decide +kernel
theorem dX6_altitude_17 : decode cX6_altitude 17 = .ok (.ireturn, 1) := by decide +kernel
theorem dX6_altitude_18 : decode cX6_altitude 18 = .ok (.aload_n 0, 1) := by decide +kernel
theorem dX6_altitude_19 : decode cX6_altitude 19 = .ok (.iload_n 1, 1) := by decide +kernel
theorem dX6_altitude_20 : decode cX6_altitude 20 = .ok (.bipush 8, 2) := by decide +kernel
theorem dX6_altitude_22 : decode cX6_altitude 22 = .ok (.invokevirtual 167, 3) := by decide +kernel
theorem dX6_altitude_25 : decode cX6_altitude 25 = .ok (.iconst 1, 1) := by decide +kernel
theorem dX6_altitude_26 : decode cX6_altitude 26 = .ok (.if_icmp .ne 55, 3) := by decide +kernel
theorem dX6_altitude_29 : decode cX6_altitude 29 = .ok (.iconst 0, 1) := by decide +kernel
theorem dX6_altitude_30 : decode cX6_altitude 30 = .ok (.istore_n 2, 1) := by decide +kernel
theorem dX6_altitude_31 : decode cX6_altitude 31 = .ok (.iconst 0, 1) := by decide +kernel
theorem dX6_altitude_32 : decode cX6_altitude 32 = .ok (.istore_n 3, 1) := by decide +kernel
theorem dX6_altitude_33 : decode cX6_altitude 33 = .ok (.iload_n 3, 1) := by decide +kernel
theorem dX6_altitude_34 : decode cX6_altitude 34 = .ok (.bipush 13, 2) := by decide +kernel
theorem dX6_altitude_36 : decode cX6_altitude 36 = .ok (.if_icmp .ge 36, 3) := by decide +kernel
theorem dX6_altitude_39 : decode cX6_altitude 39 = .ok (.iload_n 3, 1) := by decide +kernel
theorem dX6_altitude_40 : decode cX6_altitude 40 = .ok (.bipush 6, 2) := by decide +kernel
theorem dX6_altitude_42 : decode cX6_altitude 42 = .ok (.if_icmp .eq 9, 3) := by decide +kernel
theorem dX6_altitude_45 : decode cX6_altitude 45 = .ok (.iload_n 3, 1) := by decide +kernel
theorem dX6_altitude_46 : decode cX6_altitude 46 = .ok (.bipush 8, 2) := by decide +kernel
theorem dX6_altitude_48 : decode cX6_altitude 48 = .ok (.if_icmp .ne 7, 3) := by decide +kernel
theorem dX6_altitude_51 : decode cX6_altitude 51 = .ok (.iload_n 2, 1) := by decide +kernel
theorem dX6_altitude_52 : decode cX6_altitude 52 = .ok (.goto 13, 3) := by decide +kernel
theorem dX6_altitude_55 : decode cX6_altitude 55 = .ok (.iconst 2, 1) := by decide +kernel
theorem dX6_altitude_56 : decode cX6_altitude 56 = .ok (.iload_n 2, 1) := by decide +kernel
theorem dX6_altitude_57 : decode cX6_altitude 57 = .ok (.imul, 1) := by decide +kernel
theorem dX6_altitude_58 : decode cX6_altitude 58 = .ok (.aload_n 0, 1) := by decide +kernel
theorem dX6_altitude_59 : decode cX6_altitude 59 = .ok (.iload_n 1, 1) := by decide +kernel
theorem dX6_altitude_60 : decode cX6_altitude 60 = .ok (.iload_n 3, 1) := by decide +kernel
theorem dX6_altitude_61 : decode cX6_altitude 61 = .ok (.invokevirtual 167, 3) := by decide +kernel
theorem dX6_altitude_64 : decode cX6_altitude 64 = .ok (.iadd, 1) := by decide +kernel
theorem dX6_altitude_65 : decode cX6_altitude 65 = .ok (.istore_n 2, 1) := by decide +kernel
theorem dX6_altitude_66 : decode cX6_altitude 66 = .ok (.iinc 3 1, 3) := by decide +kernel
theorem dX6_altitude_69 : decode cX6_altitude 69 = .ok (.goto (-36), 3) := by decide +kernel
theorem dX6_altitude_72 : decode cX6_altitude 72 = .ok (.bipush 25, 2) := by decide +kernel
theorem dX6_altitude_74 : decode cX6_altitude 74 = .ok (.iload_n 2, 1) := by decide +kernel
theorem dX6_altitude_75 : decode cX6_altitude 75 = .ok (.imul, 1) := by decide +kernel
theorem dX6_altitude_76 : decode cX6_altitude 76 = .ok (.sipush 1000, 3) := by decide +kernel
theorem dX6_altitude_79 : decode cX6_altitude 79 = .ok (.isub, 1) := by decide +kernel
theorem dX6_altitude_80 : decode cX6_altitude 80 = .ok (.ireturn, 1) := by decide +kernel
theorem dX6_altitude_81 : decode cX6_altitude 81 = .ok (.aload_n 0, 1) := by decide +kernel
theorem dX6_altitude_82 : decode cX6_altitude 82 = .ok (.iload_n 1, 1) := by decide +kernel
theorem dX6_altitude_83 : decode cX6_altitude 83 = .ok (.bipush 10, 2) := by decide +kernel
theorem dX6_altitude_85 : decode cX6_altitude 85 = .ok (.invokevirtual 167, 3) := by decide +kernel
theorem dX6_altitude_88 : decode cX6_altitude 88 = .ok (.istore_n 2, 1) := by decide +kernel
theorem dX6_altitude_89 : decode cX6_altitude 89 = .ok (.iconst 2, 1) := by decide +kernel
theorem dX6_altitude_90 : decode cX6_altitude 90 = .ok (.iload_n 2, 1) := by decide +kernel
theorem dX6_altitude_91 : decode cX6_altitude 91 = .ok (.imul, 1) := by decide +kernel
theorem dX6_altitude_92 : decode cX6_altitude 92 = .ok (.aload_n 0, 1) := by decide +kernel
theorem dX6_altitude_93 : decode cX6_altitude 93 = .ok (.iload_n 1, 1) := by decide +kernel
theorem dX6_altitude_94 : decode cX6_altitude 94 = .ok (.bipush 12, 2) := by decide +kernel
theorem dX6_altitude_96 : decode cX6_altitude 96 = .ok (.invokevirtual 167, 3) := by decide +kernel
theorem dX6_altitude_99 : decode cX6_altitude 99 = .ok (.iadd, 1) := by decide +kernel
theorem dX6_altitude_100 : decode cX6_altitude 100 = .ok (.istore_n 2, 1) := by decide +kernel
theorem dX6_altitude_101 : decode cX6_altitude 101 = .ok (.iconst 2, 1) := by decide +kernel
theorem dX6_altitude_102 : decode cX6_altitude 102 = .ok (.iload_n 2, 1) := by decide +kernel
theorem dX6_altitude_103 : decode cX6_altitude 103 = .ok (.imul, 1) := by decide +kernel
theorem dX6_altitude_104 : decode cX6_altitude 104 = .ok (.aload_n 0, 1) := by decide +kernel
theorem dX6_altitude_105 : decode cX6_altitude 105 = .ok (.iload_n 1, 1) := by decide +kernel
theorem dX6_altitude_106 : decode cX6_altitude 106 = .ok (.iconst 1, 1) := by decide +kernel
theorem dX6_altitude_107 : decode cX6_altitude 107 = .ok (.invokevirtual 167, 3) := by decide +kernel
theorem dX6_altitude_110 : decode cX6_altitude 110 = .ok (.iadd, 1) := by decide +kernel
theorem dX6_altitude_111 : decode cX6_altitude 111 = .ok (.istore_n 2, 1) := by decide +kernel
theorem dX6_altitude_112 : decode cX6_altitude 112 = .ok (.iconst 2, 1) := by decide +kernel
theorem dX6_altitude_113 : decode cX6_altitude 113 = .ok (.iload_n 2, 1) := by decide +kernel
theorem dX6_altitude_114 : decode cX6_altitude 114 = .ok (.imul, 1) := by decide +kernel
theorem dX6_altitude_115 : decode cX6_altitude 115 = .ok (.aload_n 0, 1) := by decide +kernel
theorem dX6_altitude_116 : decode cX6_altitude 116 = .ok (.iload_n 1, 1) := by decide +kernel
theorem dX6_altitude_117 : decode cX6_altitude 117 = .ok (.iconst 3, 1) := by decide +kernel
theorem dX6_altitude_118 : decode cX6_altitude 118 = .ok (.invokevirtual 167, 3) := by decide +kernel
theorem dX6_altitude_121 : decode cX6_altitude 121 = .ok (.iadd, 1) := by decide +kernel
theorem dX6_altitude_122 : decode cX6_altitude 122 = .ok (.istore_n 2, 1) := by decide +kernel
theorem dX6_altitude_123 : decode cX6_altitude 123 = .ok (.iconst 2, 1) := by decide +kernel
theorem dX6_altitude_124 : decode cX6_altitude 124 = .ok (.iload_n 2, 1) := by decide +kernel
theorem dX6_altitude_125 : decode cX6_altitude 125 = .ok (.imul, 1) := by decide +kernel
theorem dX6_altitude_126 : decode cX6_altitude 126 = .ok (.aload_n 0, 1) := by decide +kernel
theorem dX6_altitude_127 : decode cX6_altitude 127 = .ok (.iload_n 1, 1) := by decide +kernel
theorem dX6_altitude_128 : decode cX6_altitude 128 = .ok (.iconst 5, 1) := by decide +kernel
theorem dX6_altitude_129 : decode cX6_altitude 129 = .ok (.invokevirtual 167, 3) := by decide +kernel
theorem dX6_altitude_132 : decode cX6_altitude 132 = .ok (.iadd, 1) := by decide +kernel
theorem dX6_altitude_133 : decode cX6_altitude 133 = .ok (.istore_n 2, 1) := by decide +kernel
theorem dX6_altitude_134 : decode cX6_altitude 134 = .ok (.iconst 2, 1) := by decide +kernel
theorem dX6_altitude_135 : decode cX6_altitude 135 = .ok (.iload_n 2, 1) := by decide +kernel
theorem dX6_altitude_136 : decode cX6_altitude 136 = .ok (.imul, 1) := by decide +kernel
theorem dX6_altitude_137 : decode cX6_altitude 137 = .ok (.aload_n 0, 1) := by decide +kernel
theorem dX6_altitude_138 : decode cX6_altitude 138 = .ok (.iload_n 1, 1) := by decide +kernel
theorem dX6_altitude_139 : decode cX6_altitude 139 = .ok (.bipush 7, 2) := by decide +kernel
theorem dX6_altitude_141 : decode cX6_altitude 141 = .ok (.invokevirtual 167, 3) := by decide +kernel
theorem dX6_altitude_144 : decode cX6_altitude 144 = .ok (.iadd, 1) := by decide +kernel
theorem dX6_altitude_145 : decode cX6_altitude 145 = .ok (.istore_n 2, 1) := by decide +kernel
theorem dX6_altitude_146 : decode cX6_altitude 146 = .ok (.iconst 2, 1) := by decide +kernel
theorem dX6_altitude_147 : decode cX6_altitude 147 = .ok (.iload_n 2, 1) := by decide +kernel
theorem dX6_altitude_148 : decode cX6_altitude 148 = .ok (.imul, 1) := by decide +kernel
theorem dX6_altitude_149 : decode cX6_altitude 149 = .ok (.aload_n 0, 1) := by decide +kernel
theorem dX6_altitude_150 : decode cX6_altitude 150 = .ok (.iload_n 1, 1) := by decide +kernel
theorem dX6_altitude_151 : decode cX6_altitude 151 = .ok (.bipush 9, 2) := by decide +kernel
theorem dX6_altitude_153 : decode cX6_altitude 153 = .ok (.invokevirtual 167, 3) := by decide +kernel
theorem dX6_altitude_156 : decode cX6_altitude 156 = .ok (.iadd, 1) := by decide +kernel
theorem dX6_altitude_157 : decode cX6_altitude 157 = .ok (.istore_n 2, 1) := by decide +kernel
theorem dX6_altitude_158 : decode cX6_altitude 158 = .ok (.iconst 2, 1) := by decide +kernel
theorem dX6_altitude_159 : decode cX6_altitude 159 = .ok (.iload_n 2, 1) := by decide +kernel
theorem dX6_altitude_160 : decode cX6_altitude 160 = .ok (.imul, 1) := by decide +kernel
theorem dX6_altitude_161 : decode cX6_altitude 161 = .ok (.aload_n 0, 1) := by decide +kernel
theorem dX6_altitude_162 : decode cX6_altitude 162 = .ok (.iload_n 1, 1) := by decide +kernel
theorem dX6_altitude_163 : decode cX6_altitude 163 = .ok (.bipush 11, 2) := by decide +kernel
theorem dX6_altitude_165 : decode cX6_altitude 165 = .ok (.invokevirtual 167, 3) := by decide +kernel
theorem dX6_altitude_168 : decode cX6_altitude 168 = .ok (.iadd, 1) := by decide +kernel
theorem dX6_altitude_169 : decode cX6_altitude 169 = .ok (.istore_n 2, 1) := by decide +kernel
theorem dX6_altitude_170 : decode cX6_altitude 170 = .ok (.aload_n 0, 1) := by decide +kernel
theorem dX6_altitude_171 : decode cX6_altitude 171 = .ok (.iload_n 2, 1) := by decide +kernel
theorem dX6_altitude_172 : decode cX6_altitude 172 = .ok (.bipush 8, 2) := by decide +kernel
theorem dX6_altitude_174 : decode cX6_altitude 174 = .ok (.invokevirtual 172, 3) := by decide +kernel
theorem dX6_altitude_177 : decode cX6_altitude 177 = .ok (.istore_n 3, 1) := by decide +kernel
theorem dX6_altitude_178 : decode cX6_altitude 178 = .ok (.aload_n 0, 1) := by decide +kernel
theorem dX6_altitude_179 : decode cX6_altitude 179 = .ok (.iconst 4, 1) := by decide +kernel
theorem dX6_altitude_180 : decode cX6_altitude 180 = .ok (.aload_n 0, 1) := by decide +kernel
theorem dX6_altitude_181 : decode cX6_altitude 181 = .ok (.iload_n 1, 1) := by decide +kernel
theorem dX6_altitude_182 : decode cX6_altitude 182 = .ok (.iconst 0, 1) := by decide +kernel
theorem dX6_altitude_183 : decode cX6_altitude 183 = .ok (.invokevirtual 167, 3) := by decide +kernel
theorem dX6_altitude_186 : decode cX6_altitude 186 = .ok (.imul, 1) := by decide +kernel
theorem dX6_altitude_187 : decode cX6_altitude 187 = .ok (.iconst 2, 1) := by decide +kernel
theorem dX6_altitude_188 : decode cX6_altitude 188 = .ok (.aload_n 0, 1) := by decide +kernel
theorem dX6_altitude_189 : decode cX6_altitude 189 = .ok (.iload_n 1, 1) := by decide +kernel
theorem dX6_altitude_190 : decode cX6_altitude 190 = .ok (.iconst 2, 1) := by decide +kernel
theorem dX6_altitude_191 : decode cX6_altitude 191 = .ok (.invokevirtual 167, 3) := by decide +kernel
theorem dX6_altitude_194 : decode cX6_altitude 194 = .ok (.imul, 1) := by decide +kernel
theorem dX6_altitude_195 : decode cX6_altitude 195 = .ok (.iadd, 1) := by decide +kernel
theorem dX6_altitude_196 : decode cX6_altitude 196 = .ok (.aload_n 0, 1) := by decide +kernel
theorem dX6_altitude_197 : decode cX6_altitude 197 = .ok (.iload_n 1, 1) := by decide +kernel
theorem dX6_altitude_198 : decode cX6_altitude 198 = .ok (.iconst 4, 1) := by decide +kernel
theorem dX6_altitude_199 : decode cX6_altitude 199 = .ok (.invokevirtual 167, 3) := by decide +kernel
theorem dX6_altitude_202 : decode cX6_altitude 202 = .ok (.iadd, 1) := by decide +kernel
theorem dX6_altitude_203 : decode cX6_altitude 203 = .ok (.iconst 3, 1) := by decide +kernel
theorem dX6_altitude_204 : decode cX6_altitude 204 = .ok (.invokevirtual 172, 3) := by decide +kernel
theorem dX6_altitude_207 : decode cX6_altitude 207 = .ok (.istore 4, 2) := by decide +kernel
theorem dX6_altitude_209 : decode cX6_altitude 209 = .ok (.iload 4, 2) := by decide +kernel
theorem dX6_altitude_211 : decode cX6_altitude 211 = .ok (.ifCond .eq 16, 3) := by decide +kernel
theorem dX6_altitude_214 : decode cX6_altitude 214 = .ok (.iload 4, 2) := by decide +kernel
theorem dX6_altitude_216 : decode cX6_altitude 216 = .ok (.iconst 5, 1) := by decide +kernel
theorem dX6_altitude_217 : decode cX6_altitude 217 = .ok (.if_icmp .eq 10, 3) := by decide +kernel
theorem dX6_altitude_220 : decode cX6_altitude 220 = .ok (.iload 4, 2) := by decide +kernel
theorem dX6_altitude_222 : decode cX6_altitude 222 = .ok (.bipush 6, 2) := by decide +kernel
theorem dX6_altitude_224 : decode cX6_altitude 224 = .ok (.if_icmp .ne 6, 3) := by decide +kernel
theorem dX6_altitude_227 : decode cX6_altitude 227 = .ok (.ldc 171, 2) := by decide +kernel
theorem dX6_altitude_229 : decode cX6_altitude 229 = .ok (.ireturn, 1) := by decide +kernel
theorem dX6_altitude_230 : decode cX6_altitude 230 = .ok (.iload 4, 2) := by decide +kernel
theorem dX6_altitude_232 : decode cX6_altitude 232 = .ok (.bipush 7, 2) := by decide +kernel
theorem dX6_altitude_234 : decode cX6_altitude 234 = .ok (.if_icmp .ne 6, 3) := by decide +kernel
theorem dX6_altitude_237 : decode cX6_altitude 237 = .ok (.iconst 5, 1) := by decide +kernel
theorem dX6_altitude_238 : decode cX6_altitude 238 = .ok (.istore 4, 2) := by decide +kernel
theorem dX6_altitude_240 : decode cX6_altitude 240 = .ok (.iload_n 3, 1) := by decide +kernel
theorem dX6_altitude_241 : decode cX6_altitude 241 = .ok (.iconst 2, 1) := by decide +kernel
theorem dX6_altitude_242 : decode cX6_altitude 242 = .ok (.irem, 1) := by decide +kernel
theorem dX6_altitude_243 : decode cX6_altitude 243 = .ok (.iconst 1, 1) := by decide +kernel
theorem dX6_altitude_244 : decode cX6_altitude 244 = .ok (.if_icmp .ne 10, 3) := by decide +kernel
theorem dX6_altitude_247 : decode cX6_altitude 247 = .ok (.bipush 6, 2) := by decide +kernel
theorem dX6_altitude_249 : decode cX6_altitude 249 = .ok (.iload 4, 2) := by decide +kernel
theorem dX6_altitude_251 : decode cX6_altitude 251 = .ok (.isub, 1) := by decide +kernel
theorem dX6_altitude_252 : decode cX6_altitude 252 = .ok (.istore 4, 2) := by decide +kernel
theorem dX6_altitude_254 : decode cX6_altitude 254 = .ok (.sipush 500, 3) := by decide +kernel
theorem dX6_altitude_257 : decode cX6_altitude 257 = .ok (.iload_n 3, 1) := by decide +kernel
theorem dX6_altitude_258 : decode cX6_altitude 258 = .ok (.imul, 1) := by decide +kernel
theorem dX6_altitude_259 : decode cX6_altitude 259 = .ok (.bipush 100, 2) := by decide +kernel
theorem dX6_altitude_261 : decode cX6_altitude 261 = .ok (.iload 4, 2) := by decide +kernel
theorem dX6_altitude_263 : decode cX6_altitude 263 = .ok (.imul, 1) := by decide +kernel
theorem dX6_altitude_264 : decode cX6_altitude 264 = .ok (.iadd, 1) := by decide +kernel
theorem dX6_altitude_265 : decode cX6_altitude 265 = .ok (.sipush 1300, 3) := by decide +kernel
theorem dX6_altitude_268 : decode cX6_altitude 268 = .ok (.isub, 1) := by decide +kernel
theorem dX6_altitude_269 : decode cX6_altitude 269 = .ok (.ireturn, 1) := by decide +kernel
theorem dX6_squawk_0 : decode cX6_squawk 0 = .ok (.iconst 4, 1) := by decide +kernel
theorem dX6_squawk_1 : decode cX6_squawk 1 = .ok (.aload_n 0, 1) := by decide +kernel
theorem dX6_squawk_2 : decode cX6_squawk 2 = .ok (.iload_n 1, 1) := by decide +kernel
theorem dX6_squawk_3 : decode cX6_squawk 3 = .ok (.iconst 5, 1) := by decide +kernel
theorem dX6_squawk_4 : decode cX6_squawk 4 = .ok (.invokevirtual 167, 3) := by decide +kernel
theorem dX6_squawk_7 : decode cX6_squawk 7 = .ok (.imul, 1) := by decide +kernel
theorem dX6_squawk_8 : decode cX6_squawk 8 = .ok (.iconst 2, 1) := by decide +kernel
theorem dX6_squawk_9 : decode cX6_squawk 9 = .ok (.aload_n 0, 1) := by decide +kernel
theorem dX6_squawk_10 : decode cX6_squawk 10 = .ok (.iload_n 1, 1) := by decide +kernel
theorem dX6_squawk_11 : decode cX6_squawk 11 = .ok (.iconst 3, 1) := by decide +kernel
theorem dX6_squawk_12 : decode cX6_squawk 12 = .ok (.invokevirtual 167, 3) := by decide +kernel
theorem dX6_squawk_15 : decode cX6_squawk 15 = .ok (.imul, 1) := by decide +kernel
theorem dX6_squawk_16 : decode cX6_squawk 16 = .ok (.iadd, 1) := by decide +kernel
theorem dX6_squawk_17 : decode cX6_squawk 17 = .ok (.aload_n 0, 1) := by decide +kernel
theorem dX6_squawk_18 : decode cX6_squawk 18 = .ok (.iload_n 1, 1) := by decide +kernel
theorem dX6_squawk_19 : decode cX6_squawk 19 = .ok (.iconst 1, 1) := by decide +kernel
theorem dX6_squawk_20 : decode cX6_squawk 20 = .ok (.invokevirtual 167, 3) := by decide +kernel
theorem dX6_squawk_23 : decode cX6_squawk 23 = .ok (.iadd, 1) := by decide +kernel
theorem dX6_squawk_24 : decode cX6_squawk 24 = .ok (.istore_n 2, 1) := by decide +kernel
theorem dX6_squawk_25 : decode cX6_squawk 25 = .ok (.iconst 4, 1) := by decide +kernel
theorem dX6_squawk_26 : decode cX6_squawk 26 = .ok (.aload_n 0, 1) := by decide +kernel
theorem dX6_squawk_27 : decode cX6_squawk 27 = .ok (.iload_n 1, 1) := by decide +kernel
theorem dX6_squawk_28 : decode cX6_squawk 28 = .ok (.bipush 11, 2) := by decide +kernel
theorem dX6_squawk_30 : decode cX6_squawk 30 = .ok (.invokevirtual 167, 3) := by decide +kernel
theorem dX6_squawk_33 : decode cX6_squawk 33 = .ok (.imul, 1) := by decide +kernel
theorem dX6_squawk_34 : decode cX6_squawk 34 = .ok (.iconst 2, 1) := by decide +kernel
theorem dX6_squawk_35 : decode cX6_squawk 35 = .ok (.aload_n 0, 1) := by decide +kernel
theorem dX6_squawk_36 : decode cX6_squawk 36 = .ok (.iload_n 1, 1) := by decide +kernel
theorem dX6_squawk_37 : decode cX6_squawk 37 = .ok (.bipush 9, 2) := by decide +kernel
theorem dX6_squawk_39 : decode cX6_squawk 39 = .ok (.invokevirtual 167, 3) := by decide +kernel
theorem dX6_squawk_42 : decode cX6_squawk 42 = .ok (.imul, 1) := by decide +kernel
theorem dX6_squawk_43 : decode cX6_squawk 43 = .ok (.iadd, 1) := by decide +kernel
theorem dX6_squawk_44 : decode cX6_squawk 44 = .ok (.aload_n 0, 1) := by decide +kernel
theorem dX6_squawk_45 : decode cX6_squawk 45 = .ok (.iload_n 1, 1) := by decide +kernel
theorem dX6_squawk_46 : decode cX6_squawk 46 = .ok (.bipush 7, 2) := by decide +kernel
theorem dX6_squawk_48 : decode cX6_squawk 48 = .ok (.invokevirtual 167, 3) := by decide +kernel
theorem dX6_squawk_51 : decode cX6_squawk 51 = .ok (.iadd, 1) := by decide +kernel
theorem dX6_squawk_52 : decode cX6_squawk 52 = .ok (.istore_n 3, 1) := by decide +kernel
theorem dX6_squawk_53 : decode cX6_squawk 53 = .ok (.iconst 4, 1) := by decide +kernel
theorem dX6_squawk_54 : decode cX6_squawk 54 = .ok (.aload_n 0, 1) := by decide +kernel
theorem dX6_squawk_55 : decode cX6_squawk 55 = .ok (.iload_n 1, 1) := by decide +kernel
theorem dX6_squawk_56 : decode cX6_squawk 56 = .ok (.iconst 4, 1) := by decide +kernel
theorem dX6_squawk_57 : decode cX6_squawk 57 = .ok (.invokevirtual 167, 3) := by decide +kernel
theorem dX6_squawk_60 : decode cX6_squawk 60 = .ok (.imul, 1) := by decide +kernel
theorem dX6_squawk_61 : decode cX6_squawk 61 = .ok (.iconst 2, 1) := by decide +kernel
theorem dX6_squawk_62 : decode cX6_squawk 62 = .ok (.aload_n 0, 1) := by decide +kernel
theorem dX6_squawk_63 : decode cX6_squawk 63 = .ok (.iload_n 1, 1) := by decide +kernel
theorem dX6_squawk_64 : decode cX6_squawk 64 = .ok (.iconst 2, 1) := by decide +kernel
theorem dX6_squawk_65 : decode cX6_squawk 65 = .ok (.invokevirtual 167, 3) := by decide +kernel
theorem dX6_squawk_68 : decode cX6_squawk 68 = .ok (.imul, 1) := by decide +kernel
theorem dX6_squawk_69 : decode cX6_squawk 69 = .ok (.iadd, 1) := by decide +kernel
theorem dX6_squawk_70 : decode cX6_squawk 70 = .ok (.aload_n 0, 1) := by decide +kernel
theorem dX6_squawk_71 : decode cX6_squawk 71 = .ok (.iload_n 1, 1) := by decide +kernel
theorem dX6_squawk_72 : decode cX6_squawk 72 = .ok (.iconst 0, 1) := by decide +kernel
theorem dX6_squawk_73 : decode cX6_squawk 73 = .ok (.invokevirtual 167, 3) := by decide +kernel
theorem dX6_squawk_76 : decode cX6_squawk 76 = .ok (.iadd, 1) := by decide +kernel
theorem dX6_squawk_77 : decode cX6_squawk 77 = .ok (.istore 4, 2) := by decide +kernel
theorem dX6_squawk_79 : decode cX6_squawk 79 = .ok (.iconst 4, 1) := by decide +kernel
theorem dX6_squawk_80 : decode cX6_squawk 80 = .ok (.aload_n 0, 1) := by decide +kernel
theorem dX6_squawk_81 : decode cX6_squawk 81 = .ok (.iload_n 1, 1) := by decide +kernel
theorem dX6_squawk_82 : decode cX6_squawk 82 = .ok (.bipush 12, 2) := by decide +kernel
theorem dX6_squawk_84 : decode cX6_squawk 84 = .ok (.invokevirtual 167, 3) := by decide +kernel
theorem dX6_squawk_87 : decode cX6_squawk 87 = .ok (.imul, 1) := by decide +kernel
theorem dX6_squawk_88 : decode cX6_squawk 88 = .ok (.iconst 2, 1) := by decide +kernel
theorem dX6_squawk_89 : decode cX6_squawk 89 = .ok (.aload_n 0, 1) := by decide +kernel
theorem dX6_squawk_90 : decode cX6_squawk 90 = .ok (.iload_n 1, 1) := by decide +kernel
theorem dX6_squawk_91 : decode cX6_squawk 91 = .ok (.bipush 10, 2) := by decide +kernel
theorem dX6_squawk_93 : decode cX6_squawk 93 = .ok (.invokevirtual 167, 3) := by decide +kernel
theorem dX6_squawk_96 : decode cX6_squawk 96 = .ok (.imul, 1) := by decide +kernel
theorem dX6_squawk_97 : decode cX6_squawk 97 = .ok (.iadd, 1) := by decide +kernel
theorem dX6_squawk_98 : decode cX6_squawk 98 = .ok (.aload_n 0, 1) := by decide +kernel
theorem dX6_squawk_99 : decode cX6_squawk 99 = .ok (.iload_n 1, 1) := by decide +kernel
theorem dX6_squawk_100 : decode cX6_squawk 100 = .ok (.bipush 8, 2) := by decide +kernel
theorem dX6_squawk_102 : decode cX6_squawk 102 = .ok (.invokevirtual 167, 3) := by decide +kernel
theorem dX6_squawk_105 : decode cX6_squawk 105 = .ok (.iadd, 1) := by decide +kernel
theorem dX6_squawk_106 : decode cX6_squawk 106 = .ok (.istore 5, 2) := by decide +kernel
theorem dX6_squawk_108 : decode cX6_squawk 108 = .ok (.sipush 1000, 3) := by decide +kernel
theorem dX6_squawk_111 : decode cX6_squawk 111 = .ok (.iload_n 2, 1) := by decide +kernel
theorem dX6_squawk_112 : decode cX6_squawk 112 = .ok (.imul, 1) := by decide +kernel
theorem dX6_squawk_113 : decode cX6_squawk 113 = .ok (.bipush 100, 2) := by decide +kernel
theorem dX6_squawk_115 : decode cX6_squawk 115 = .ok (.iload_n 3, 1) := by decide +kernel
theorem dX6_squawk_116 : decode cX6_squawk 116 = .ok (.imul, 1) := by decide +kernel
theorem dX6_squawk_117 : decode cX6_squawk 117 = .ok (.iadd, 1) := by decide +kernel
theorem dX6_squawk_118 : decode cX6_squawk 118 = .ok (.bipush 10, 2) := by decide +kernel
theorem dX6_squawk_120 : decode cX6_squawk 120 = .ok (.iload 4, 2) := by decide +kernel
theorem dX6_squawk_122 : decode cX6_squawk 122 = .ok (.imul, 1) := by decide +kernel
theorem dX6_squawk_123 : decode cX6_squawk 123 = .ok (.iadd, 1) := by decide +kernel
theorem dX6_squawk_124 : decode cX6_squawk 124 = .ok (.iload 5, 2) := by decide +kernel
theorem dX6_squawk_126 : decode cX6_squawk 126 = .ok (.iadd, 1) := by decide +kernel
theorem dX6_squawk_127 : decode cX6_squawk 127 = .ok (.ireturn, 1) := by decide +kernel
theorem dX6_speed_0 : decode cX6_speed 0 = .ok (.iload_n 1, 1) := by decide +kernel
theorem dX6_speed_1 : decode cX6_speed 1 = .ok (.ifCond .eq 9, 3) := by decide +kernel
theorem dX6_speed_4 : decode cX6_speed 4 = .ok (.iload_n 1, 1) := by decide +kernel
theorem dX6_speed_5 : decode cX6_speed 5 = .ok (.bipush 124, 2) := by decide +kernel
theorem dX6_speed_7 : decode cX6_speed 7 = .ok (.if_icmp .le 6, 3) := by decide +kernel
theorem dX6_speed_10 : decode cX6_speed 10 = .ok (.ldc 171, 2) := by decide +kernel
theorem dX6_speed_12 : decode cX6_speed 12 = .ok (.ireturn, 1) := by decide +kernel
theorem dX6_speed_13 : decode cX6_speed 13 = .ok (.iload_n 1, 1) := by decide +kernel
theorem dX6_speed_14 : decode cX6_speed 14 = .ok (.bipush 124, 2) := by decide +kernel
theorem dX6_speed_16 : decode cX6_speed 16 = .ok (.if_icmp .ne 7, 3) := by decide +kernel
theorem dX6_speed_19 : decode cX6_speed 19 = .ok (.sipush 1400, 3) := by decide +kernel
theorem dX6_speed_22 : decode cX6_speed 22 = .ok (.ireturn, 1) := by decide +kernel
theorem dX6_speed_23 : decode cX6_speed 23 = .ok (.iload_n 1, 1) := by decide +kernel
theorem dX6_speed_24 : decode cX6_speed 24 = .ok (.bipush 108, 2) := by decide +kernel
theorem dX6_speed_26 : decode cX6_speed 26 = .ok (.if_icmp .le 15, 3) := by decide +kernel
theorem dX6_speed_29 : decode cX6_speed 29 = .ok (.sipush 800, 3) := by decide +kernel
theorem dX6_speed_32 : decode cX6_speed 32 = .ok (.bipush 40, 2) := by decide +kernel
theorem dX6_speed_34 : decode cX6_speed 34 = .ok (.iload_n 1, 1) := by decide +kernel
theorem dX6_speed_35 : decode cX6_speed 35 = .ok (.bipush 109, 2) := by decide +kernel
theorem dX6_speed_37 : decode cX6_speed 37 = .ok (.isub, 1) := by decide +kernel
theorem dX6_speed_38 : decode cX6_speed 38 = .ok (.imul, 1) := by decide +kernel
theorem dX6_speed_39 : decode cX6_speed 39 = .ok (.iadd, 1) := by decide +kernel
theorem dX6_speed_40 : decode cX6_speed 40 = .ok (.ireturn, 1) := by decide +kernel
theorem dX6_speed_41 : decode cX6_speed 41 = .ok (.iload_n 1, 1) := by decide +kernel
theorem dX6_speed_42 : decode cX6_speed 42 = .ok (.bipush 93, 2) := by decide +kernel
theorem dX6_speed_44 : decode cX6_speed 44 = .ok (.if_icmp .le 15, 3) := by decide +kernel
theorem dX6_speed_47 : decode cX6_speed 47 = .ok (.sipush 560, 3) := by decide +kernel
theorem dX6_speed_50 : decode cX6_speed 50 = .ok (.bipush 16, 2) := by decide +kernel
theorem dX6_speed_52 : decode cX6_speed 52 = .ok (.iload_n 1, 1) := by decide +kernel
theorem dX6_speed_53 : decode cX6_speed 53 = .ok (.bipush 94, 2) := by decide +kernel
theorem dX6_speed_55 : decode cX6_speed 55 = .ok (.isub, 1) := by decide +kernel
theorem dX6_speed_56 : decode cX6_speed 56 = .ok (.imul, 1) := by decide +kernel
theorem dX6_speed_57 : decode cX6_speed 57 = .ok (.iadd, 1) := by decide +kernel
theorem dX6_speed_58 : decode cX6_speed 58 = .ok (.ireturn, 1) := by decide +kernel
theorem dX6_speed_59 : decode cX6_speed 59 = .ok (.iload_n 1, 1) := by decide +kernel
theorem dX6_speed_60 : decode cX6_speed 60 = .ok (.bipush 38, 2) := by decide +kernel
theorem dX6_speed_62 : decode cX6_speed 62 = .ok (.if_icmp .le 14, 3) := by decide +kernel
theorem dX6_speed_65 : decode cX6_speed 65 = .ok (.bipush 120, 2) := by decide +kernel
theorem dX6_speed_67 : decode cX6_speed 67 = .ok (.bipush 8, 2) := by decide +kernel
theorem dX6_speed_69 : decode cX6_speed 69 = .ok (.iload_n 1, 1) := by decide +kernel
theorem dX6_speed_70 : decode cX6_speed 70 = .ok (.bipush 39, 2) := by decide +kernel
theorem dX6_speed_72 : decode cX6_speed 72 = .ok (.isub, 1) := by decide +kernel
theorem dX6_speed_73 : decode cX6_speed 73 = .ok (.imul, 1) := by decide +kernel
theorem dX6_speed_74 : decode cX6_speed 74 = .ok (.iadd, 1) := by decide +kernel
theorem dX6_speed_75 : decode cX6_speed 75 = .ok (.ireturn, 1) := by decide +kernel
theorem dX6_speed_76 : decode cX6_speed 76 = .ok (.iload_n 1, 1) := by decide +kernel
theorem dX6_speed_77 : decode cX6_speed 77 = .ok (.bipush 12, 2) := by decide +kernel
theorem dX6_speed_79 : decode cX6_speed 79 = .ok (.if_icmp .le 13, 3) := by decide +kernel
theorem dX6_speed_82 : decode cX6_speed 82 = .ok (.bipush 16, 2) := by decide +kernel
theorem dX6_speed_84 : decode cX6_speed 84 = .ok (.iconst 4, 1) := by decide +kernel
theorem dX6_speed_85 : decode cX6_speed 85 = .ok (.iload_n 1, 1) := by decide +kernel
theorem dX6_speed_86 : decode cX6_speed 86 = .ok (.bipush 13, 2) := by decide +kernel
theorem dX6_speed_88 : decode cX6_speed 88 = .ok (.isub, 1) := by decide +kernel
theorem dX6_speed_89 : decode cX6_speed 89 = .ok (.imul, 1) := by decide +kernel
theorem dX6_speed_90 : decode cX6_speed 90 = .ok (.iadd, 1) := by decide +kernel
theorem dX6_speed_91 : decode cX6_speed 91 = .ok (.ireturn, 1) := by decide +kernel
theorem dX6_speed_92 : decode cX6_speed 92 = .ok (.iload_n 1, 1) := by decide +kernel
theorem dX6_speed_93 : decode cX6_speed 93 = .ok (.bipush 8, 2) := by decide +kernel
theorem dX6_speed_95 : decode cX6_speed 95 = .ok (.if_icmp .le 15, 3) := by decide +kernel
theorem dX6_speed_98 : decode cX6_speed 98 = .ok (.bipush 8, 2) := by decide +kernel
theorem dX6_speed_100 : decode cX6_speed 100 = .ok (.iconst 2, 1) := by decide +kernel
theorem dX6_speed_101 : decode cX6_speed 101 = .ok (.iload_n 1, 1) := by decide +kernel
theorem dX6_speed_102 : decode cX6_speed 102 = .ok (.bipush 9, 2) := by decide +kernel
theorem dX6_speed_104 : decode cX6_speed 104 = .ok (.isub, 1) := by decide +kernel
theorem dX6_speed_105 : decode cX6_speed 105 = .ok (.imul, 1) := by decide +kernel
theorem dX6_speed_106 : decode cX6_speed 106 = .ok (.iadd, 1) := by decide +kernel
theorem dX6_speed_107 : decode cX6_speed 107 = .ok (.goto 6, 3) := by decide +kernel
theorem dX6_speed_110 : decode cX6_speed 110 = .ok (.iload_n 1, 1) := by decide +kernel
theorem dX6_speed_111 : decode cX6_speed 111 = .ok (.iconst 1, 1) := by decide +kernel
theorem dX6_speed_112 : decode cX6_speed 112 = .ok (.isub, 1) := by decide +kernel
theorem dX6_speed_113 : decode cX6_speed 113 = .ok (.ireturn, 1) := by decide +kernel
theorem dX6_root_0 : decode cX6_root 0 = .ok (.iconst 0, 1) := by decide +kernel
theorem dX6_root_1 : decode cX6_root 1 = .ok (.istore_n 1, 1) := by decide +kernel
theorem dX6_root_2 : decode cX6_root 2 = .ok (.ldc 175, 2) := by decide +kernel
theorem dX6_root_4 : decode cX6_root 4 = .ok (.istore_n 2, 1) := by decide +kernel
theorem dX6_root_5 : decode cX6_root 5 = .ok (.iload_n 2, 1) := by decide +kernel
theorem dX6_root_6 : decode cX6_root 6 = .ok (.ifCond .le 29, 3) := by decide +kernel
theorem dX6_root_9 : decode cX6_root 9 = .ok (.iload_n 1, 1) := by decide +kernel
theorem dX6_root_10 : decode cX6_root 10 = .ok (.iload_n 2, 1) := by decide +kernel
theorem dX6_root_11 : decode cX6_root 11 = .ok (.iadd, 1) := by decide +kernel
theorem dX6_root_12 : decode cX6_root 12 = .ok (.i2l, 1) := by decide +kernel
theorem dX6_root_13 : decode cX6_root 13 = .ok (.iload_n 1, 1) := by decide +kernel
theorem dX6_root_14 : decode cX6_root 14 = .ok (.iload_n 2, 1) := by decide +kernel
theorem dX6_root_15 : decode cX6_root 15 = .ok (.iadd, 1) := by decide +kernel
theorem dX6_root_16 : decode cX6_root 16 = .ok (.i2l, 1) := by decide +kernel
theorem dX6_root_17 : decode cX6_root 17 = .ok (.lmul, 1) := by decide +kernel
theorem dX6_root_18 : decode cX6_root 18 = .ok (.iload_n 0, 1) := by decide +kernel
theorem dX6_root_19 : decode cX6_root 19 = .ok (.i2l, 1) := by decide +kernel
theorem dX6_root_20 : decode cX6_root 20 = .ok (.lcmp, 1) := by decide +kernel
theorem dX6_root_21 : decode cX6_root 21 = .ok (.ifCond .gt 7, 3) := by decide +kernel
theorem dX6_root_24 : decode cX6_root 24 = .ok (.iload_n 1, 1) := by decide +kernel
theorem dX6_root_25 : decode cX6_root 25 = .ok (.iload_n 2, 1) := by decide +kernel
theorem dX6_root_26 : decode cX6_root 26 = .ok (.iadd, 1) := by decide +kernel
theorem dX6_root_27 : decode cX6_root 27 = .ok (.istore_n 1, 1) := by decide +kernel
theorem dX6_root_28 : decode cX6_root 28 = .ok (.iload_n 2, 1) := by decide +kernel
theorem dX6_root_29 : decode cX6_root 29 = .ok (.iconst 2, 1) := by decide +kernel
theorem dX6_root_30 : decode cX6_root 30 = .ok (.idiv, 1) := by decide +kernel
theorem dX6_root_31 : decode cX6_root 31 = .ok (.istore_n 2, 1) := by decide +kernel
theorem dX6_root_32 : decode cX6_root 32 = .ok (.goto (-27), 3) := by decide +kernel
theorem dX6_root_35 : decode cX6_root 35 = .ok (.iload_n 1, 1) := by decide +kernel
theorem dX6_root_36 : decode cX6_root 36 = .ok (.ireturn, 1) := by decide +kernel
theorem dX6_part_0 : decode cX6_part 0 = .ok (.aload_n 0, 1) := by decide +kernel
theorem dX6_part_1 : decode cX6_part 1 = .ok (.aload_n 0, 1) := by decide +kernel
theorem dX6_part_2 : decode cX6_part 2 = .ok (.getfield 133, 3) := by decide +kernel
theorem dX6_part_5 : decode cX6_part 5 = .ok (.bipush 32, 2) := by decide +kernel
theorem dX6_part_7 : decode cX6_part 7 = .ok (.iload_n 1, 1) := by decide +kernel
theorem dX6_part_8 : decode cX6_part 8 = .ok (.iadd, 1) := by decide +kernel
theorem dX6_part_9 : decode cX6_part 9 = .ok (.bipush 32, 2) := by decide +kernel
theorem dX6_part_11 : decode cX6_part 11 = .ok (.iload_n 2, 1) := by decide +kernel
theorem dX6_part_12 : decode cX6_part 12 = .ok (.iadd, 1) := by decide +kernel
theorem dX6_part_13 : decode cX6_part 13 = .ok (.invokevirtual 156, 3) := by decide +kernel
theorem dX6_part_16 : decode cX6_part 16 = .ok (.ireturn, 1) := by decide +kernel
theorem dX6_rest_0 : decode cX6_rest 0 = .ok (.lload_n 0, 1) := by decide +kernel
theorem dX6_rest_1 : decode cX6_rest 1 = .ok (.lload_n 2, 1) := by decide +kernel
theorem dX6_rest_2 : decode cX6_rest 2 = .ok (.lrem, 1) := by decide +kernel
theorem dX6_rest_3 : decode cX6_rest 3 = .ok (.lstore 4, 2) := by decide +kernel
theorem dX6_rest_5 : decode cX6_rest 5 = .ok (.lload 4, 2) := by decide +kernel
theorem dX6_rest_7 : decode cX6_rest 7 = .ok (.lconst 0, 1) := by decide +kernel
theorem dX6_rest_8 : decode cX6_rest 8 = .ok (.lcmp, 1) := by decide +kernel
theorem dX6_rest_9 : decode cX6_rest 9 = .ok (.ifCond .ge 10, 3) := by decide +kernel
theorem dX6_rest_12 : decode cX6_rest 12 = .ok (.lload 4, 2) := by decide +kernel
theorem dX6_rest_14 : decode cX6_rest 14 = .ok (.lload_n 2, 1) := by decide +kernel
theorem dX6_rest_15 : decode cX6_rest 15 = .ok (.ladd, 1) := by decide +kernel
theorem dX6_rest_16 : decode cX6_rest 16 = .ok (.goto 5, 3) := by decide +kernel
theorem dX6_rest_19 : decode cX6_rest 19 = .ok (.lload 4, 2) := by decide +kernel
theorem dX6_rest_21 : decode cX6_rest 21 = .ok (.lreturn, 1) := by decide +kernel
theorem dX6_down_0 : decode cX6_down 0 = .ok (.lload_n 0, 1) := by decide +kernel
theorem dX6_down_1 : decode cX6_down 1 = .ok (.lload_n 0, 1) := by decide +kernel
theorem dX6_down_2 : decode cX6_down 2 = .ok (.lload_n 2, 1) := by decide +kernel
theorem dX6_down_3 : decode cX6_down 3 = .ok (.invokestatic 176, 3) := by decide +kernel
theorem dX6_down_6 : decode cX6_down 6 = .ok (.lsub, 1) := by decide +kernel
theorem dX6_down_7 : decode cX6_down 7 = .ok (.lload_n 2, 1) := by decide +kernel
theorem dX6_down_8 : decode cX6_down 8 = .ok (.ldiv, 1) := by decide +kernel
theorem dX6_down_9 : decode cX6_down 9 = .ok (.lreturn, 1) := by decide +kernel
theorem dX6_sizeOf_0 : decode cX6_sizeOf 0 = .ok (.lload_n 0, 1) := by decide +kernel
theorem dX6_sizeOf_1 : decode cX6_sizeOf 1 = .ok (.lconst 0, 1) := by decide +kernel
theorem dX6_sizeOf_2 : decode cX6_sizeOf 2 = .ok (.lcmp, 1) := by decide +kernel
theorem dX6_sizeOf_3 : decode cX6_sizeOf 3 = .ok (.ifCond .ge 8, 3) := by decide +kernel
theorem dX6_sizeOf_6 : decode cX6_sizeOf 6 = .ok (.lload_n 0, 1) := by decide +kernel
theorem dX6_sizeOf_7 : decode cX6_sizeOf 7 = .ok (.lneg, 1) := by decide +kernel
theorem dX6_sizeOf_8 : decode cX6_sizeOf 8 = .ok (.goto 4, 3) := by decide +kernel
theorem dX6_sizeOf_11 : decode cX6_sizeOf 11 = .ok (.lload_n 0, 1) := by decide +kernel
theorem dX6_sizeOf_12 : decode cX6_sizeOf 12 = .ok (.lreturn, 1) := by decide +kernel
theorem dX6_atLeast1_0 : decode cX6_atLeast1 0 = .ok (.iload_n 0, 1) := by decide +kernel
theorem dX6_atLeast1_1 : decode cX6_atLeast1 1 = .ok (.iconst 1, 1) := by decide +kernel
theorem dX6_atLeast1_2 : decode cX6_atLeast1 2 = .ok (.if_icmp .ge 7, 3) := by decide +kernel
theorem dX6_atLeast1_5 : decode cX6_atLeast1 5 = .ok (.iconst 1, 1) := by decide +kernel
theorem dX6_atLeast1_6 : decode cX6_atLeast1 6 = .ok (.goto 4, 3) := by decide +kernel
theorem dX6_atLeast1_9 : decode cX6_atLeast1 9 = .ok (.iload_n 0, 1) := by decide +kernel
theorem dX6_atLeast1_10 : decode cX6_atLeast1 10 = .ok (.ireturn, 1) := by decide +kernel
theorem dX6_zonesOf_0 : decode cX6_zonesOf 0 = .ok (.lload_n 1, 1) := by decide +kernel
theorem dX6_zonesOf_1 : decode cX6_zonesOf 1 = .ok (.invokestatic 180, 3) := by decide +kernel
theorem dX6_zonesOf_4 : decode cX6_zonesOf 4 = .ok (.lstore 5, 2) := by decide +kernel
theorem dX6_zonesOf_6 : decode cX6_zonesOf 6 = .ok (.bipush 59, 2) := by decide +kernel
theorem dX6_zonesOf_8 : decode cX6_zonesOf 8 = .ok (.istore 7, 2) := by decide +kernel
theorem dX6_zonesOf_10 : decode cX6_zonesOf 10 = .ok (.iload 7, 2) := by decide +kernel
theorem dX6_zonesOf_12 : decode cX6_zonesOf 12 = .ok (.iconst 1, 1) := by decide +kernel
theorem dX6_zonesOf_13 : decode cX6_zonesOf 13 = .ok (.if_icmp .le 48, 3) := by decide +kernel
theorem dX6_zonesOf_16 : decode cX6_zonesOf 16 = .ok (.aload_n 0, 1) := by decide +kernel
theorem dX6_zonesOf_17 : decode cX6_zonesOf 17 = .ok (.getfield 123, 3) := by decide +kernel
theorem dX6_zonesOf_20 : decode cX6_zonesOf 20 = .ok (.bipush 59, 2) := by decide +kernel
theorem dX6_zonesOf_22 : decode cX6_zonesOf 22 = .ok (.iload 7, 2) := by decide +kernel
theorem dX6_zonesOf_24 : decode cX6_zonesOf 24 = .ok (.isub, 1) := by decide +kernel
theorem dX6_zonesOf_25 : decode cX6_zonesOf 25 = .ok (.laload, 1) := by decide +kernel
theorem dX6_zonesOf_26 : decode cX6_zonesOf 26 = .ok (.lload_n 3, 1) := by decide +kernel
theorem dX6_zonesOf_27 : decode cX6_zonesOf 27 = .ok (.lmul, 1) := by decide +kernel
theorem dX6_zonesOf_28 : decode cX6_zonesOf 28 = .ok (.lstore 8, 2) := by decide +kernel
theorem dX6_zonesOf_30 : decode cX6_zonesOf 30 = .ok (.lload 5, 2) := by decide +kernel
theorem dX6_zonesOf_32 : decode cX6_zonesOf 32 = .ok (.lload 8, 2) := by decide +kernel
theorem dX6_zonesOf_34 : decode cX6_zonesOf 34 = .ok (.lcmp, 1) := by decide +kernel
theorem dX6_zonesOf_35 : decode cX6_zonesOf 35 = .ok (.ifCond .lt 17, 3) := by decide +kernel
theorem dX6_zonesOf_38 : decode cX6_zonesOf 38 = .ok (.iload 7, 2) := by decide +kernel
theorem dX6_zonesOf_40 : decode cX6_zonesOf 40 = .ok (.iconst 2, 1) := by decide +kernel
theorem dX6_zonesOf_41 : decode cX6_zonesOf 41 = .ok (.if_icmp .ne 14, 3) := by decide +kernel
theorem dX6_zonesOf_44 : decode cX6_zonesOf 44 = .ok (.lload 5, 2) := by decide +kernel
theorem dX6_zonesOf_46 : decode cX6_zonesOf 46 = .ok (.lload 8, 2) := by decide +kernel
theorem dX6_zonesOf_48 : decode cX6_zonesOf 48 = .ok (.lcmp, 1) := by decide +kernel
theorem dX6_zonesOf_49 : decode cX6_zonesOf 49 = .ok (.ifCond .ne 6, 3) := by decide +kernel
theorem dX6_zonesOf_52 : decode cX6_zonesOf 52 = .ok (.iload 7, 2) := by decide +kernel
theorem dX6_zonesOf_54 : decode cX6_zonesOf 54 = .ok (.ireturn, 1) := by decide +kernel
theorem dX6_zonesOf_55 : decode cX6_zonesOf 55 = .ok (.iinc 7 (-1), 3) := by decide +kernel
theorem dX6_zonesOf_58 : decode cX6_zonesOf 58 = .ok (.goto (-48), 3) := by decide +kernel
theorem dX6_zonesOf_61 : decode cX6_zonesOf 61 = .ok (.iconst 1, 1) := by decide +kernel
theorem dX6_zonesOf_62 : decode cX6_zonesOf 62 = .ok (.ireturn, 1) := by decide +kernel
theorem dX6_isLatitude_0 : decode cX6_isLatitude 0 = .ok (.iload_n 0, 1) := by decide +kernel
theorem dX6_isLatitude_1 : decode cX6_isLatitude 1 = .ok (.ldc 184, 2) := by decide +kernel
theorem dX6_isLatitude_3 : decode cX6_isLatitude 3 = .ok (.if_icmp .lt 13, 3) := by decide +kernel
theorem dX6_isLatitude_6 : decode cX6_isLatitude 6 = .ok (.iload_n 0, 1) := by decide +kernel
theorem dX6_isLatitude_7 : decode cX6_isLatitude 7 = .ok (.ldc 185, 2) := by decide +kernel
theorem dX6_isLatitude_9 : decode cX6_isLatitude 9 = .ok (.if_icmp .gt 7, 3) := by decide +kernel
theorem dX6_isLatitude_12 : decode cX6_isLatitude 12 = .ok (.iconst 1, 1) := by decide +kernel
theorem dX6_isLatitude_13 : decode cX6_isLatitude 13 = .ok (.goto 4, 3) := by decide +kernel
theorem dX6_isLatitude_16 : decode cX6_isLatitude 16 = .ok (.iconst 0, 1) := by decide +kernel
theorem dX6_isLatitude_17 : decode cX6_isLatitude 17 = .ok (.ireturn, 1) := by decide +kernel
theorem dX6_isLongitude_0 : decode cX6_isLongitude 0 = .ok (.iload_n 0, 1) := by decide +kernel
theorem dX6_isLongitude_1 : decode cX6_isLongitude 1 = .ok (.ldc 186, 2) := by decide +kernel
theorem dX6_isLongitude_3 : decode cX6_isLongitude 3 = .ok (.if_icmp .lt 13, 3) := by decide +kernel
theorem dX6_isLongitude_6 : decode cX6_isLongitude 6 = .ok (.iload_n 0, 1) := by decide +kernel
theorem dX6_isLongitude_7 : decode cX6_isLongitude 7 = .ok (.ldc 187, 2) := by decide +kernel
theorem dX6_isLongitude_9 : decode cX6_isLongitude 9 = .ok (.if_icmp .ge 7, 3) := by decide +kernel
theorem dX6_isLongitude_12 : decode cX6_isLongitude 12 = .ok (.iconst 1, 1) := by decide +kernel
theorem dX6_isLongitude_13 : decode cX6_isLongitude 13 = .ok (.goto 4, 3) := by decide +kernel
theorem dX6_isLongitude_16 : decode cX6_isLongitude 16 = .ok (.iconst 0, 1) := by decide +kernel
theorem dX6_isLongitude_17 : decode cX6_isLongitude 17 = .ok (.ireturn, 1) := by decide +kernel
theorem dX6_zones_0 : decode cX6_zones 0 = .ok (.iload_n 1, 1) := by decide +kernel
theorem dX6_zones_1 : decode cX6_zones 1 = .ok (.invokestatic 188, 3) := by decide +kernel
theorem dX6_zones_4 : decode cX6_zones 4 = .ok (.ifCond .eq 17, 3) := by decide +kernel
theorem dX6_zones_7 : decode cX6_zones 7 = .ok (.aload_n 0, 1) := by decide +kernel
theorem dX6_zones_8 : decode cX6_zones 8 = .ok (.ldc2_w 192, 3) := by decide +kernel
theorem dX6_zones_11 : decode cX6_zones 11 = .ok (.iload_n 1, 1) := by decide +kernel
theorem dX6_zones_12 : decode cX6_zones 12 = .ok (.i2l, 1) := by decide +kernel
theorem dX6_zones_13 : decode cX6_zones 13 = .ok (.lmul, 1) := by decide +kernel
theorem dX6_zones_14 : decode cX6_zones 14 = .ok (.lconst 1, 1) := by decide +kernel
theorem dX6_zones_15 : decode cX6_zones 15 = .ok (.invokevirtual 194, 3) := by decide +kernel
theorem dX6_zones_18 : decode cX6_zones 18 = .ok (.goto 4, 3) := by decide +kernel
theorem dX6_zones_21 : decode cX6_zones 21 = .ok (.iconst (-1), 1) := by decide +kernel
theorem dX6_zones_22 : decode cX6_zones 22 = .ok (.ireturn, 1) := by decide +kernel
theorem dX6_parts_0 : decode cX6_parts 0 = .ok (.ldc2_w 198, 3) := by decide +kernel
theorem dX6_parts_3 : decode cX6_parts 3 = .ok (.lload_n 0, 1) := by decide +kernel
theorem dX6_parts_4 : decode cX6_parts 4 = .ok (.lmul, 1) := by decide +kernel
theorem dX6_parts_5 : decode cX6_parts 5 = .ok (.ldc2_w 200, 3) := by decide +kernel
theorem dX6_parts_8 : decode cX6_parts 8 = .ok (.lmul, 1) := by decide +kernel
theorem dX6_parts_9 : decode cX6_parts 9 = .ok (.lload_n 2, 1) := by decide +kernel
theorem dX6_parts_10 : decode cX6_parts 10 = .ok (.ladd, 1) := by decide +kernel
theorem dX6_parts_11 : decode cX6_parts 11 = .ok (.ldc2_w 198, 3) := by decide +kernel
theorem dX6_parts_14 : decode cX6_parts 14 = .ok (.lload_n 2, 1) := by decide +kernel
theorem dX6_parts_15 : decode cX6_parts 15 = .ok (.lmul, 1) := by decide +kernel
theorem dX6_parts_16 : decode cX6_parts 16 = .ok (.invokestatic 202, 3) := by decide +kernel
theorem dX6_parts_19 : decode cX6_parts 19 = .ok (.lreturn, 1) := by decide +kernel
theorem dX6_encode_0 : decode cX6_encode 0 = .ok (.iload_n 1, 1) := by decide +kernel
theorem dX6_encode_1 : decode cX6_encode 1 = .ok (.invokestatic 188, 3) := by decide +kernel
theorem dX6_encode_4 : decode cX6_encode 4 = .ok (.ifCond .eq 10, 3) := by decide +kernel
theorem dX6_encode_7 : decode cX6_encode 7 = .ok (.iload_n 2, 1) := by decide +kernel
theorem dX6_encode_8 : decode cX6_encode 8 = .ok (.invokestatic 205, 3) := by decide +kernel
theorem dX6_encode_11 : decode cX6_encode 11 = .ok (.ifCond .ne 7, 3) := by decide +kernel
theorem dX6_encode_14 : decode cX6_encode 14 = .ok (.ldc2_w 208, 3) := by decide +kernel
theorem dX6_encode_17 : decode cX6_encode 17 = .ok (.lreturn, 1) := by decide +kernel
theorem dX6_encode_18 : decode cX6_encode 18 = .ok (.iload_n 3, 1) := by decide +kernel
theorem dX6_encode_19 : decode cX6_encode 19 = .ok (.ifCond .eq 9, 3) := by decide +kernel
theorem dX6_encode_22 : decode cX6_encode 22 = .ok (.ldc2_w 210, 3) := by decide +kernel
theorem dX6_encode_25 : decode cX6_encode 25 = .ok (.goto 6, 3) := by decide +kernel
theorem dX6_encode_28 : decode cX6_encode 28 = .ok (.ldc2_w 212, 3) := by decide +kernel
theorem dX6_encode_31 : decode cX6_encode 31 = .ok (.lstore 5, 2) := by decide +kernel
theorem dX6_encode_33 : decode cX6_encode 33 = .ok (.iload 4, 2) := by decide +kernel
theorem dX6_encode_35 : decode cX6_encode 35 = .ok (.ifCond .eq 8, 3) := by decide +kernel
theorem dX6_encode_38 : decode cX6_encode 38 = .ok (.bipush 59, 2) := by decide +kernel
theorem dX6_encode_40 : decode cX6_encode 40 = .ok (.goto 5, 3) := by decide +kernel
theorem dX6_encode_43 : decode cX6_encode 43 = .ok (.bipush 60, 2) := by decide +kernel
theorem dX6_encode_45 : decode cX6_encode 45 = .ok (.istore 7, 2) := by decide +kernel
theorem dX6_encode_47 : decode cX6_encode 47 = .ok (.iload_n 1, 1) := by decide +kernel
theorem dX6_encode_48 : decode cX6_encode 48 = .ok (.i2l, 1) := by decide +kernel
theorem dX6_encode_49 : decode cX6_encode 49 = .ok (.iload 7, 2) := by decide +kernel
theorem dX6_encode_51 : decode cX6_encode 51 = .ok (.i2l, 1) := by decide +kernel
theorem dX6_encode_52 : decode cX6_encode 52 = .ok (.lmul, 1) := by decide +kernel
theorem dX6_encode_53 : decode cX6_encode 53 = .ok (.lstore 8, 2) := by decide +kernel
theorem dX6_encode_55 : decode cX6_encode 55 = .ok (.lload 8, 2) := by decide +kernel
theorem dX6_encode_57 : decode cX6_encode 57 = .ok (.lload 5, 2) := by decide +kernel
theorem dX6_encode_59 : decode cX6_encode 59 = .ok (.invokestatic 202, 3) := by decide +kernel
theorem dX6_encode_62 : decode cX6_encode 62 = .ok (.lstore 10, 2) := by decide +kernel
theorem dX6_encode_64 : decode cX6_encode 64 = .ok (.lload 8, 2) := by decide +kernel
theorem dX6_encode_66 : decode cX6_encode 66 = .ok (.lload 5, 2) := by decide +kernel
theorem dX6_encode_68 : decode cX6_encode 68 = .ok (.invokestatic 176, 3) := by decide +kernel
theorem dX6_encode_71 : decode cX6_encode 71 = .ok (.lload 5, 2) := by decide +kernel
theorem dX6_encode_73 : decode cX6_encode 73 = .ok (.invokestatic 214, 3) := by decide +kernel
theorem dX6_encode_76 : decode cX6_encode 76 = .ok (.lstore 12, 2) := by decide +kernel
theorem dX6_encode_78 : decode cX6_encode 78 = .ok (.aload_n 0, 1) := by decide +kernel
theorem dX6_encode_79 : decode cX6_encode 79 = .ok (.ldc2_w 192, 3) := by decide +kernel
theorem dX6_encode_82 : decode cX6_encode 82 = .ok (.lload 5, 2) := by decide +kernel
theorem dX6_encode_84 : decode cX6_encode 84 = .ok (.lmul, 1) := by decide +kernel
theorem dX6_encode_85 : decode cX6_encode 85 = .ok (.lload 10, 2) := by decide +kernel
theorem dX6_encode_87 : decode cX6_encode 87 = .ok (.ldc2_w 200, 3) := by decide +kernel
theorem dX6_encode_90 : decode cX6_encode 90 = .ok (.lmul, 1) := by decide +kernel
theorem dX6_encode_91 : decode cX6_encode 91 = .ok (.lload 12, 2) := by decide +kernel
theorem dX6_encode_93 : decode cX6_encode 93 = .ok (.ladd, 1) := by decide +kernel
theorem dX6_encode_94 : decode cX6_encode 94 = .ok (.lmul, 1) := by decide +kernel
theorem dX6_encode_95 : decode cX6_encode 95 = .ok (.iload 7, 2) := by decide +kernel
theorem dX6_encode_97 : decode cX6_encode 97 = .ok (.i2l, 1) := by decide +kernel
theorem dX6_encode_98 : decode cX6_encode 98 = .ok (.ldc2_w 200, 3) := by decide +kernel
theorem dX6_encode_101 : decode cX6_encode 101 = .ok (.lmul, 1) := by decide +kernel
theorem dX6_encode_102 : decode cX6_encode 102 = .ok (.invokevirtual 194, 3) := by decide +kernel
theorem dX6_encode_105 : decode cX6_encode 105 = .ok (.iload 4, 2) := by decide +kernel
theorem dX6_encode_107 : decode cX6_encode 107 = .ok (.ifCond .eq 7, 3) := by decide +kernel
theorem dX6_encode_110 : decode cX6_encode 110 = .ok (.iconst 1, 1) := by decide +kernel
theorem dX6_encode_111 : decode cX6_encode 111 = .ok (.goto 4, 3) := by decide +kernel
theorem dX6_encode_114 : decode cX6_encode 114 = .ok (.iconst 0, 1) := by decide +kernel
theorem dX6_encode_115 : decode cX6_encode 115 = .ok (.isub, 1) := by decide +kernel
theorem dX6_encode_116 : decode cX6_encode 116 = .ok (.invokestatic 217, 3) := by decide +kernel
theorem dX6_encode_119 : decode cX6_encode 119 = .ok (.istore 14, 2) := by decide +kernel
theorem dX6_encode_121 : decode cX6_encode 121 = .ok (.iload_n 2, 1) := by decide +kernel
theorem dX6_encode_122 : decode cX6_encode 122 = .ok (.i2l, 1) := by decide +kernel
theorem dX6_encode_123 : decode cX6_encode 123 = .ok (.iload 14, 2) := by decide +kernel
theorem dX6_encode_125 : decode cX6_encode 125 = .ok (.i2l, 1) := by decide +kernel
theorem dX6_encode_126 : decode cX6_encode 126 = .ok (.lmul, 1) := by decide +kernel
theorem dX6_encode_127 : decode cX6_encode 127 = .ok (.lload 5, 2) := by decide +kernel
theorem dX6_encode_129 : decode cX6_encode 129 = .ok (.invokestatic 176, 3) := by decide +kernel
theorem dX6_encode_132 : decode cX6_encode 132 = .ok (.lload 5, 2) := by decide +kernel
theorem dX6_encode_134 : decode cX6_encode 134 = .ok (.invokestatic 214, 3) := by decide +kernel
theorem dX6_encode_137 : decode cX6_encode 137 = .ok (.lstore 15, 2) := by decide +kernel
theorem dX6_encode_139 : decode cX6_encode 139 = .ok (.lload 12, 2) := by decide +kernel
theorem dX6_encode_141 : decode cX6_encode 141 = .ok (.ldc2_w 200, 3) := by decide +kernel
theorem dX6_encode_144 : decode cX6_encode 144 = .ok (.lrem, 1) := by decide +kernel
theorem dX6_encode_145 : decode cX6_encode 145 = .ok (.ldc2_w 200, 3) := by decide +kernel
theorem dX6_encode_148 : decode cX6_encode 148 = .ok (.lmul, 1) := by decide +kernel
theorem dX6_encode_149 : decode cX6_encode 149 = .ok (.lload 15, 2) := by decide +kernel
theorem dX6_encode_151 : decode cX6_encode 151 = .ok (.ldc2_w 200, 3) := by decide +kernel
theorem dX6_encode_154 : decode cX6_encode 154 = .ok (.lrem, 1) := by decide +kernel
theorem dX6_encode_155 : decode cX6_encode 155 = .ok (.ladd, 1) := by decide +kernel
theorem dX6_encode_156 : decode cX6_encode 156 = .ok (.lreturn, 1) := by decide +kernel
theorem dX6_isTold_0 : decode cX6_isTold 0 = .ok (.lload_n 1, 1) := by decide +kernel
theorem dX6_isTold_1 : decode cX6_isTold 1 = .ok (.lconst 0, 1) := by decide +kernel
theorem dX6_isTold_2 : decode cX6_isTold 2 = .ok (.lcmp, 1) := by decide +kernel
theorem dX6_isTold_3 : decode cX6_isTold 3 = .ok (.ifCond .lt 15, 3) := by decide +kernel
theorem dX6_isTold_6 : decode cX6_isTold 6 = .ok (.lload_n 1, 1) := by decide +kernel
theorem dX6_isTold_7 : decode cX6_isTold 7 = .ok (.ldc2_w 221, 3) := by decide +kernel
theorem dX6_isTold_10 : decode cX6_isTold 10 = .ok (.lcmp, 1) := by decide +kernel
theorem dX6_isTold_11 : decode cX6_isTold 11 = .ok (.ifCond .ge 7, 3) := by decide +kernel
theorem dX6_isTold_14 : decode cX6_isTold 14 = .ok (.iconst 1, 1) := by decide +kernel
theorem dX6_isTold_15 : decode cX6_isTold 15 = .ok (.goto 4, 3) := by decide +kernel
theorem dX6_isTold_18 : decode cX6_isTold 18 = .ok (.iconst 0, 1) := by decide +kernel
theorem dX6_isTold_19 : decode cX6_isTold 19 = .ok (.ireturn, 1) := by decide +kernel
theorem dX6_both_0 : decode cX6_both 0 = .ok (.iload_n 0, 1) := by decide +kernel
theorem dX6_both_1 : decode cX6_both 1 = .ok (.i2l, 1) := by decide +kernel
theorem dX6_both_2 : decode cX6_both 2 = .ok (.bipush 32, 2) := by decide +kernel
theorem dX6_both_4 : decode cX6_both 4 = .ok (.lshl, 1) := by decide +kernel
theorem dX6_both_5 : decode cX6_both 5 = .ok (.iload_n 1, 1) := by decide +kernel
theorem dX6_both_6 : decode cX6_both 6 = .ok (.i2l, 1) := by decide +kernel
theorem dX6_both_7 : decode cX6_both 7 = .ok (.ldc2_w 223, 3) := by decide +kernel
theorem dX6_both_10 : decode cX6_both 10 = .ok (.land, 1) := by decide +kernel
theorem dX6_both_11 : decode cX6_both 11 = .ok (.lor, 1) := by decide +kernel
theorem dX6_both_12 : decode cX6_both 12 = .ok (.lreturn, 1) := by decide +kernel
theorem dX6_globalOf_0 : decode cX6_globalOf 0 = .ok (.lload_n 1, 1) := by decide +kernel
theorem dX6_globalOf_1 : decode cX6_globalOf 1 = .ok (.ldc2_w 200, 3) := by decide +kernel
theorem dX6_globalOf_4 : decode cX6_globalOf 4 = .ok (.ldiv, 1) := by decide +kernel
theorem dX6_globalOf_5 : decode cX6_globalOf 5 = .ok (.lstore 6, 2) := by decide +kernel
theorem dX6_globalOf_7 : decode cX6_globalOf 7 = .ok (.lload_n 3, 1) := by decide +kernel
theorem dX6_globalOf_8 : decode cX6_globalOf 8 = .ok (.ldc2_w 200, 3) := by decide +kernel
theorem dX6_globalOf_11 : decode cX6_globalOf 11 = .ok (.ldiv, 1) := by decide +kernel
theorem dX6_globalOf_12 : decode cX6_globalOf 12 = .ok (.lstore 8, 2) := by decide +kernel
theorem dX6_globalOf_14 : decode cX6_globalOf 14 = .ok (.lload_n 1, 1) := by decide +kernel
theorem dX6_globalOf_15 : decode cX6_globalOf 15 = .ok (.ldc2_w 200, 3) := by decide +kernel
theorem dX6_globalOf_18 : decode cX6_globalOf 18 = .ok (.lrem, 1) := by decide +kernel
theorem dX6_globalOf_19 : decode cX6_globalOf 19 = .ok (.lstore 10, 2) := by decide +kernel
theorem dX6_globalOf_21 : decode cX6_globalOf 21 = .ok (.lload_n 3, 1) := by decide +kernel
theorem dX6_globalOf_22 : decode cX6_globalOf 22 = .ok (.ldc2_w 200, 3) := by decide +kernel
theorem dX6_globalOf_25 : decode cX6_globalOf 25 = .ok (.lrem, 1) := by decide +kernel
theorem dX6_globalOf_26 : decode cX6_globalOf 26 = .ok (.lstore 12, 2) := by decide +kernel
theorem dX6_globalOf_28 : decode cX6_globalOf 28 = .ok (.ldc2_w 198, 3) := by decide +kernel
theorem dX6_globalOf_31 : decode cX6_globalOf 31 = .ok (.ldc2_w 225, 3) := by decide +kernel
theorem dX6_globalOf_34 : decode cX6_globalOf 34 = .ok (.lload 6, 2) := by decide +kernel
theorem dX6_globalOf_36 : decode cX6_globalOf 36 = .ok (.lmul, 1) := by decide +kernel
theorem dX6_globalOf_37 : decode cX6_globalOf 37 = .ok (.ldc2_w 227, 3) := by decide +kernel
theorem dX6_globalOf_40 : decode cX6_globalOf 40 = .ok (.lload 8, 2) := by decide +kernel
theorem dX6_globalOf_42 : decode cX6_globalOf 42 = .ok (.lmul, 1) := by decide +kernel
theorem dX6_globalOf_43 : decode cX6_globalOf 43 = .ok (.lsub, 1) := by decide +kernel
theorem dX6_globalOf_44 : decode cX6_globalOf 44 = .ok (.lmul, 1) := by decide +kernel
theorem dX6_globalOf_45 : decode cX6_globalOf 45 = .ok (.ldc2_w 200, 3) := by decide +kernel
theorem dX6_globalOf_48 : decode cX6_globalOf 48 = .ok (.ladd, 1) := by decide +kernel
theorem dX6_globalOf_49 : decode cX6_globalOf 49 = .ok (.ldc2_w 229, 3) := by decide +kernel
theorem dX6_globalOf_52 : decode cX6_globalOf 52 = .ok (.invokestatic 202, 3) := by decide +kernel
theorem dX6_globalOf_55 : decode cX6_globalOf 55 = .ok (.lstore 14, 2) := by decide +kernel
theorem dX6_globalOf_57 : decode cX6_globalOf 57 = .ok (.lload 14, 2) := by decide +kernel
theorem dX6_globalOf_59 : decode cX6_globalOf 59 = .ok (.ldc2_w 227, 3) := by decide +kernel
theorem dX6_globalOf_62 : decode cX6_globalOf 62 = .ok (.invokestatic 176, 3) := by decide +kernel
theorem dX6_globalOf_65 : decode cX6_globalOf 65 = .ok (.ldc2_w 200, 3) := by decide +kernel
theorem dX6_globalOf_68 : decode cX6_globalOf 68 = .ok (.lmul, 1) := by decide +kernel
theorem dX6_globalOf_69 : decode cX6_globalOf 69 = .ok (.lload 6, 2) := by decide +kernel
theorem dX6_globalOf_71 : decode cX6_globalOf 71 = .ok (.ladd, 1) := by decide +kernel
theorem dX6_globalOf_72 : decode cX6_globalOf 72 = .ok (.lstore 16, 2) := by decide +kernel
theorem dX6_globalOf_74 : decode cX6_globalOf 74 = .ok (.lload 14, 2) := by decide +kernel
theorem dX6_globalOf_76 : decode cX6_globalOf 76 = .ok (.ldc2_w 225, 3) := by decide +kernel
theorem dX6_globalOf_79 : decode cX6_globalOf 79 = .ok (.invokestatic 176, 3) := by decide +kernel
theorem dX6_globalOf_82 : decode cX6_globalOf 82 = .ok (.ldc2_w 200, 3) := by decide +kernel
theorem dX6_globalOf_85 : decode cX6_globalOf 85 = .ok (.lmul, 1) := by decide +kernel
theorem dX6_globalOf_86 : decode cX6_globalOf 86 = .ok (.lload 8, 2) := by decide +kernel
theorem dX6_globalOf_88 : decode cX6_globalOf 88 = .ok (.ladd, 1) := by decide +kernel
theorem dX6_globalOf_89 : decode cX6_globalOf 89 = .ok (.lstore 18, 2) := by decide +kernel
theorem dX6_globalOf_91 : decode cX6_globalOf 91 = .ok (.ldc2_w 231, 3) := by decide +kernel
theorem dX6_globalOf_94 : decode cX6_globalOf 94 = .ok (.lload 16, 2) := by decide +kernel
theorem dX6_globalOf_96 : decode cX6_globalOf 96 = .ok (.lmul, 1) := by decide +kernel
theorem dX6_globalOf_97 : decode cX6_globalOf 97 = .ok (.ldc2_w 233, 3) := by decide +kernel
theorem dX6_globalOf_100 : decode cX6_globalOf 100 = .ok (.lcmp, 1) := by decide +kernel
theorem dX6_globalOf_101 : decode cX6_globalOf 101 = .ok (.ifCond .lt 11, 3) := by decide +kernel
theorem dX6_globalOf_104 : decode cX6_globalOf 104 = .ok (.lload 16, 2) := by decide +kernel
theorem dX6_globalOf_106 : decode cX6_globalOf 106 = .ok (.ldc2_w 235, 3) := by decide +kernel
theorem dX6_globalOf_109 : decode cX6_globalOf 109 = .ok (.lsub, 1) := by decide +kernel
theorem dX6_globalOf_110 : decode cX6_globalOf 110 = .ok (.lstore 16, 2) := by decide +kernel
theorem dX6_globalOf_112 : decode cX6_globalOf 112 = .ok (.ldc2_w 231, 3) := by decide +kernel
theorem dX6_globalOf_115 : decode cX6_globalOf 115 = .ok (.lload 18, 2) := by decide +kernel
theorem dX6_globalOf_117 : decode cX6_globalOf 117 = .ok (.lmul, 1) := by decide +kernel
theorem dX6_globalOf_118 : decode cX6_globalOf 118 = .ok (.ldc2_w 237, 3) := by decide +kernel
theorem dX6_globalOf_121 : decode cX6_globalOf 121 = .ok (.lcmp, 1) := by decide +kernel
theorem dX6_globalOf_122 : decode cX6_globalOf 122 = .ok (.ifCond .lt 11, 3) := by decide +kernel
theorem dX6_globalOf_125 : decode cX6_globalOf 125 = .ok (.lload 18, 2) := by decide +kernel
theorem dX6_globalOf_127 : decode cX6_globalOf 127 = .ok (.ldc2_w 239, 3) := by decide +kernel
theorem dX6_globalOf_130 : decode cX6_globalOf 130 = .ok (.lsub, 1) := by decide +kernel
theorem dX6_globalOf_131 : decode cX6_globalOf 131 = .ok (.lstore 18, 2) := by decide +kernel
theorem dX6_globalOf_133 : decode cX6_globalOf 133 = .ok (.ldc2_w 231, 3) := by decide +kernel
theorem dX6_globalOf_136 : decode cX6_globalOf 136 = .ok (.lload 16, 2) := by decide +kernel
theorem dX6_globalOf_138 : decode cX6_globalOf 138 = .ok (.lmul, 1) := by decide +kernel
theorem dX6_globalOf_139 : decode cX6_globalOf 139 = .ok (.invokestatic 180, 3) := by decide +kernel
theorem dX6_globalOf_142 : decode cX6_globalOf 142 = .ok (.ldc2_w 235, 3) := by decide +kernel
theorem dX6_globalOf_145 : decode cX6_globalOf 145 = .ok (.lcmp, 1) := by decide +kernel
theorem dX6_globalOf_146 : decode cX6_globalOf 146 = .ok (.ifCond .gt 19, 3) := by decide +kernel
theorem dX6_globalOf_149 : decode cX6_globalOf 149 = .ok (.ldc2_w 231, 3) := by decide +kernel
theorem dX6_globalOf_152 : decode cX6_globalOf 152 = .ok (.lload 18, 2) := by decide +kernel
theorem dX6_globalOf_154 : decode cX6_globalOf 154 = .ok (.lmul, 1) := by decide +kernel
theorem dX6_globalOf_155 : decode cX6_globalOf 155 = .ok (.invokestatic 180, 3) := by decide +kernel
theorem dX6_globalOf_158 : decode cX6_globalOf 158 = .ok (.ldc2_w 239, 3) := by decide +kernel
theorem dX6_globalOf_161 : decode cX6_globalOf 161 = .ok (.lcmp, 1) := by decide +kernel
theorem dX6_globalOf_162 : decode cX6_globalOf 162 = .ok (.ifCond .le 5, 3) := by decide +kernel
theorem dX6_globalOf_165 : decode cX6_globalOf 165 = .ok (.iconst 0, 1) := by decide +kernel
theorem dX6_globalOf_166 : decode cX6_globalOf 166 = .ok (.ireturn, 1) := by decide +kernel
theorem dX6_globalOf_167 : decode cX6_globalOf 167 = .ok (.aload_n 0, 1) := by decide +kernel
theorem dX6_globalOf_168 : decode cX6_globalOf 168 = .ok (.ldc2_w 241, 3) := by decide +kernel
theorem dX6_globalOf_171 : decode cX6_globalOf 171 = .ok (.lload 16, 2) := by decide +kernel
theorem dX6_globalOf_173 : decode cX6_globalOf 173 = .ok (.lmul, 1) := by decide +kernel
theorem dX6_globalOf_174 : decode cX6_globalOf 174 = .ok (.ldc2_w 235, 3) := by decide +kernel
theorem dX6_globalOf_177 : decode cX6_globalOf 177 = .ok (.invokevirtual 194, 3) := by decide +kernel
theorem dX6_globalOf_180 : decode cX6_globalOf 180 = .ok (.istore 20, 2) := by decide +kernel
theorem dX6_globalOf_182 : decode cX6_globalOf 182 = .ok (.iload 20, 2) := by decide +kernel
theorem dX6_globalOf_184 : decode cX6_globalOf 184 = .ok (.aload_n 0, 1) := by decide +kernel
theorem dX6_globalOf_185 : decode cX6_globalOf 185 = .ok (.ldc2_w 241, 3) := by decide +kernel
theorem dX6_globalOf_188 : decode cX6_globalOf 188 = .ok (.lload 18, 2) := by decide +kernel
theorem dX6_globalOf_190 : decode cX6_globalOf 190 = .ok (.lmul, 1) := by decide +kernel
theorem dX6_globalOf_191 : decode cX6_globalOf 191 = .ok (.ldc2_w 239, 3) := by decide +kernel
theorem dX6_globalOf_194 : decode cX6_globalOf 194 = .ok (.invokevirtual 194, 3) := by decide +kernel
theorem dX6_globalOf_197 : decode cX6_globalOf 197 = .ok (.if_icmp .eq 5, 3) := by decide +kernel
theorem dX6_globalOf_200 : decode cX6_globalOf 200 = .ok (.iconst 0, 1) := by decide +kernel
theorem dX6_globalOf_201 : decode cX6_globalOf 201 = .ok (.ireturn, 1) := by decide +kernel
theorem dX6_globalOf_202 : decode cX6_globalOf 202 = .ok (.iload 5, 2) := by decide +kernel
theorem dX6_globalOf_204 : decode cX6_globalOf 204 = .ok (.ifCond .eq 10, 3) := by decide +kernel
theorem dX6_globalOf_207 : decode cX6_globalOf 207 = .ok (.iload 20, 2) := by decide +kernel
theorem dX6_globalOf_209 : decode cX6_globalOf 209 = .ok (.iconst 1, 1) := by decide +kernel
theorem dX6_globalOf_210 : decode cX6_globalOf 210 = .ok (.isub, 1) := by decide +kernel
theorem dX6_globalOf_211 : decode cX6_globalOf 211 = .ok (.goto 5, 3) := by decide +kernel
theorem dX6_globalOf_214 : decode cX6_globalOf 214 = .ok (.iload 20, 2) := by decide +kernel
theorem dX6_globalOf_216 : decode cX6_globalOf 216 = .ok (.invokestatic 217, 3) := by decide +kernel
theorem dX6_globalOf_219 : decode cX6_globalOf 219 = .ok (.istore 21, 2) := by decide +kernel
theorem dX6_globalOf_221 : decode cX6_globalOf 221 = .ok (.ldc2_w 198, 3) := by decide +kernel
theorem dX6_globalOf_224 : decode cX6_globalOf 224 = .ok (.lload 10, 2) := by decide +kernel
theorem dX6_globalOf_226 : decode cX6_globalOf 226 = .ok (.iload 20, 2) := by decide +kernel
theorem dX6_globalOf_228 : decode cX6_globalOf 228 = .ok (.iconst 1, 1) := by decide +kernel
theorem dX6_globalOf_229 : decode cX6_globalOf 229 = .ok (.isub, 1) := by decide +kernel
theorem dX6_globalOf_230 : decode cX6_globalOf 230 = .ok (.i2l, 1) := by decide +kernel
theorem dX6_globalOf_231 : decode cX6_globalOf 231 = .ok (.lmul, 1) := by decide +kernel
theorem dX6_globalOf_232 : decode cX6_globalOf 232 = .ok (.lload 12, 2) := by decide +kernel
theorem dX6_globalOf_234 : decode cX6_globalOf 234 = .ok (.iload 20, 2) := by decide +kernel
theorem dX6_globalOf_236 : decode cX6_globalOf 236 = .ok (.i2l, 1) := by decide +kernel
theorem dX6_globalOf_237 : decode cX6_globalOf 237 = .ok (.lmul, 1) := by decide +kernel
theorem dX6_globalOf_238 : decode cX6_globalOf 238 = .ok (.lsub, 1) := by decide +kernel
theorem dX6_globalOf_239 : decode cX6_globalOf 239 = .ok (.lmul, 1) := by decide +kernel
theorem dX6_globalOf_240 : decode cX6_globalOf 240 = .ok (.ldc2_w 200, 3) := by decide +kernel
theorem dX6_globalOf_243 : decode cX6_globalOf 243 = .ok (.ladd, 1) := by decide +kernel
theorem dX6_globalOf_244 : decode cX6_globalOf 244 = .ok (.ldc2_w 229, 3) := by decide +kernel
theorem dX6_globalOf_247 : decode cX6_globalOf 247 = .ok (.invokestatic 202, 3) := by decide +kernel
theorem dX6_globalOf_250 : decode cX6_globalOf 250 = .ok (.lstore 22, 2) := by decide +kernel
theorem dX6_globalOf_252 : decode cX6_globalOf 252 = .ok (.lload 22, 2) := by decide +kernel
theorem dX6_globalOf_254 : decode cX6_globalOf 254 = .ok (.iload 21, 2) := by decide +kernel
theorem dX6_globalOf_256 : decode cX6_globalOf 256 = .ok (.i2l, 1) := by decide +kernel
theorem dX6_globalOf_257 : decode cX6_globalOf 257 = .ok (.invokestatic 176, 3) := by decide +kernel
theorem dX6_globalOf_260 : decode cX6_globalOf 260 = .ok (.ldc2_w 200, 3) := by decide +kernel
theorem dX6_globalOf_263 : decode cX6_globalOf 263 = .ok (.lmul, 1) := by decide +kernel
theorem dX6_globalOf_264 : decode cX6_globalOf 264 = .ok (.iload 5, 2) := by decide +kernel
theorem dX6_globalOf_266 : decode cX6_globalOf 266 = .ok (.ifCond .eq 8, 3) := by decide +kernel
theorem dX6_globalOf_269 : decode cX6_globalOf 269 = .ok (.lload 12, 2) := by decide +kernel
theorem dX6_globalOf_271 : decode cX6_globalOf 271 = .ok (.goto 5, 3) := by decide +kernel
theorem dX6_globalOf_274 : decode cX6_globalOf 274 = .ok (.lload 10, 2) := by decide +kernel
theorem dX6_globalOf_276 : decode cX6_globalOf 276 = .ok (.ladd, 1) := by decide +kernel
theorem dX6_globalOf_277 : decode cX6_globalOf 277 = .ok (.lstore 24, 2) := by decide +kernel
theorem dX6_globalOf_279 : decode cX6_globalOf 279 = .ok (.ldc2_w 198, 3) := by decide +kernel
theorem dX6_globalOf_282 : decode cX6_globalOf 282 = .ok (.lload 24, 2) := by decide +kernel
theorem dX6_globalOf_284 : decode cX6_globalOf 284 = .ok (.lmul, 1) := by decide +kernel
theorem dX6_globalOf_285 : decode cX6_globalOf 285 = .ok (.iload 21, 2) := by decide +kernel
theorem dX6_globalOf_287 : decode cX6_globalOf 287 = .ok (.i2l, 1) := by decide +kernel
theorem dX6_globalOf_288 : decode cX6_globalOf 288 = .ok (.ldc2_w 200, 3) := by decide +kernel
theorem dX6_globalOf_291 : decode cX6_globalOf 291 = .ok (.lmul, 1) := by decide +kernel
theorem dX6_globalOf_292 : decode cX6_globalOf 292 = .ok (.lcmp, 1) := by decide +kernel
theorem dX6_globalOf_293 : decode cX6_globalOf 293 = .ok (.ifCond .lt 15, 3) := by decide +kernel
theorem dX6_globalOf_296 : decode cX6_globalOf 296 = .ok (.lload 24, 2) := by decide +kernel
theorem dX6_globalOf_298 : decode cX6_globalOf 298 = .ok (.iload 21, 2) := by decide +kernel
theorem dX6_globalOf_300 : decode cX6_globalOf 300 = .ok (.i2l, 1) := by decide +kernel
theorem dX6_globalOf_301 : decode cX6_globalOf 301 = .ok (.ldc2_w 200, 3) := by decide +kernel
theorem dX6_globalOf_304 : decode cX6_globalOf 304 = .ok (.lmul, 1) := by decide +kernel
theorem dX6_globalOf_305 : decode cX6_globalOf 305 = .ok (.lsub, 1) := by decide +kernel
theorem dX6_globalOf_306 : decode cX6_globalOf 306 = .ok (.lstore 24, 2) := by decide +kernel
theorem dX6_globalOf_308 : decode cX6_globalOf 308 = .ok (.aload_n 0, 1) := by decide +kernel
theorem dX6_globalOf_309 : decode cX6_globalOf 309 = .ok (.ldc2_w 212, 3) := by decide +kernel
theorem dX6_globalOf_312 : decode cX6_globalOf 312 = .ok (.iload 5, 2) := by decide +kernel
theorem dX6_globalOf_314 : decode cX6_globalOf 314 = .ok (.ifCond .eq 8, 3) := by decide +kernel
theorem dX6_globalOf_317 : decode cX6_globalOf 317 = .ok (.lload 18, 2) := by decide +kernel
theorem dX6_globalOf_319 : decode cX6_globalOf 319 = .ok (.goto 5, 3) := by decide +kernel
theorem dX6_globalOf_322 : decode cX6_globalOf 322 = .ok (.lload 16, 2) := by decide +kernel
theorem dX6_globalOf_324 : decode cX6_globalOf 324 = .ok (.lmul, 1) := by decide +kernel
theorem dX6_globalOf_325 : decode cX6_globalOf 325 = .ok (.iload 5, 2) := by decide +kernel
theorem dX6_globalOf_327 : decode cX6_globalOf 327 = .ok (.ifCond .eq 9, 3) := by decide +kernel
theorem dX6_globalOf_330 : decode cX6_globalOf 330 = .ok (.ldc2_w 225, 3) := by decide +kernel
theorem dX6_globalOf_333 : decode cX6_globalOf 333 = .ok (.goto 6, 3) := by decide +kernel
theorem dX6_globalOf_336 : decode cX6_globalOf 336 = .ok (.ldc2_w 227, 3) := by decide +kernel
theorem dX6_globalOf_339 : decode cX6_globalOf 339 = .ok (.ldc2_w 200, 3) := by decide +kernel
theorem dX6_globalOf_342 : decode cX6_globalOf 342 = .ok (.lmul, 1) := by decide +kernel
theorem dX6_globalOf_343 : decode cX6_globalOf 343 = .ok (.invokestatic 202, 3) := by decide +kernel
theorem dX6_globalOf_346 : decode cX6_globalOf 346 = .ok (.l2i, 1) := by decide +kernel
theorem dX6_globalOf_347 : decode cX6_globalOf 347 = .ok (.putfield 243, 3) := by decide +kernel
theorem dX6_globalOf_350 : decode cX6_globalOf 350 = .ok (.aload_n 0, 1) := by decide +kernel
theorem dX6_globalOf_351 : decode cX6_globalOf 351 = .ok (.ldc2_w 212, 3) := by decide +kernel
theorem dX6_globalOf_354 : decode cX6_globalOf 354 = .ok (.lload 24, 2) := by decide +kernel
theorem dX6_globalOf_356 : decode cX6_globalOf 356 = .ok (.lmul, 1) := by decide +kernel
theorem dX6_globalOf_357 : decode cX6_globalOf 357 = .ok (.iload 21, 2) := by decide +kernel
theorem dX6_globalOf_359 : decode cX6_globalOf 359 = .ok (.i2l, 1) := by decide +kernel
theorem dX6_globalOf_360 : decode cX6_globalOf 360 = .ok (.ldc2_w 200, 3) := by decide +kernel
theorem dX6_globalOf_363 : decode cX6_globalOf 363 = .ok (.lmul, 1) := by decide +kernel
theorem dX6_globalOf_364 : decode cX6_globalOf 364 = .ok (.invokestatic 202, 3) := by decide +kernel
theorem dX6_globalOf_367 : decode cX6_globalOf 367 = .ok (.l2i, 1) := by decide +kernel
theorem dX6_globalOf_368 : decode cX6_globalOf 368 = .ok (.putfield 246, 3) := by decide +kernel
theorem dX6_globalOf_371 : decode cX6_globalOf 371 = .ok (.iconst 1, 1) := by decide +kernel
theorem dX6_globalOf_372 : decode cX6_globalOf 372 = .ok (.ireturn, 1) := by decide +kernel
theorem dX6_global_0 : decode cX6_global 0 = .ok (.aload_n 0, 1) := by decide +kernel
theorem dX6_global_1 : decode cX6_global 1 = .ok (.lload_n 1, 1) := by decide +kernel
theorem dX6_global_2 : decode cX6_global 2 = .ok (.invokevirtual 249, 3) := by decide +kernel
theorem dX6_global_5 : decode cX6_global 5 = .ok (.ifCond .eq 22, 3) := by decide +kernel
theorem dX6_global_8 : decode cX6_global 8 = .ok (.aload_n 0, 1) := by decide +kernel
theorem dX6_global_9 : decode cX6_global 9 = .ok (.lload_n 3, 1) := by decide +kernel
theorem dX6_global_10 : decode cX6_global 10 = .ok (.invokevirtual 249, 3) := by decide +kernel
theorem dX6_global_13 : decode cX6_global 13 = .ok (.ifCond .eq 14, 3) := by decide +kernel
theorem dX6_global_16 : decode cX6_global 16 = .ok (.aload_n 0, 1) := by decide +kernel
theorem dX6_global_17 : decode cX6_global 17 = .ok (.lload_n 1, 1) := by decide +kernel
theorem dX6_global_18 : decode cX6_global 18 = .ok (.lload_n 3, 1) := by decide +kernel
theorem dX6_global_19 : decode cX6_global 19 = .ok (.iload 5, 2) := by decide +kernel
theorem dX6_global_21 : decode cX6_global 21 = .ok (.invokevirtual 253, 3) := by decide +kernel
theorem dX6_global_24 : decode cX6_global 24 = .ok (.ifCond .ne 7, 3) := by decide +kernel
theorem dX6_global_27 : decode cX6_global 27 = .ok (.ldc2_w 257, 3) := by decide +kernel
theorem dX6_global_30 : decode cX6_global 30 = .ok (.lreturn, 1) := by decide +kernel
theorem dX6_global_31 : decode cX6_global 31 = .ok (.aload_n 0, 1) := by decide +kernel
theorem dX6_global_32 : decode cX6_global 32 = .ok (.getfield 243, 3) := by decide +kernel
theorem dX6_global_35 : decode cX6_global 35 = .ok (.aload_n 0, 1) := by decide +kernel
theorem dX6_global_36 : decode cX6_global 36 = .ok (.getfield 246, 3) := by decide +kernel
theorem dX6_global_39 : decode cX6_global 39 = .ok (.invokestatic 259, 3) := by decide +kernel
theorem dX6_global_42 : decode cX6_global 42 = .ok (.lreturn, 1) := by decide +kernel
theorem dX6_nearest_0 : decode cX6_nearest 0 = .ok (.lload_n 0, 1) := by decide +kernel
theorem dX6_nearest_1 : decode cX6_nearest 1 = .ok (.lload_n 2, 1) := by decide +kernel
theorem dX6_nearest_2 : decode cX6_nearest 2 = .ok (.lmul, 1) := by decide +kernel
theorem dX6_nearest_3 : decode cX6_nearest 3 = .ok (.lstore 8, 2) := by decide +kernel
theorem dX6_nearest_5 : decode cX6_nearest 5 = .ok (.lload 8, 2) := by decide +kernel
theorem dX6_nearest_7 : decode cX6_nearest 7 = .ok (.lload 4, 2) := by decide +kernel
theorem dX6_nearest_9 : decode cX6_nearest 9 = .ok (.invokestatic 202, 3) := by decide +kernel
theorem dX6_nearest_12 : decode cX6_nearest 12 = .ok (.lstore 10, 2) := by decide +kernel
theorem dX6_nearest_14 : decode cX6_nearest 14 = .ok (.lload 8, 2) := by decide +kernel
theorem dX6_nearest_16 : decode cX6_nearest 16 = .ok (.lload 4, 2) := by decide +kernel
theorem dX6_nearest_18 : decode cX6_nearest 18 = .ok (.invokestatic 176, 3) := by decide +kernel
theorem dX6_nearest_21 : decode cX6_nearest 21 = .ok (.lstore 12, 2) := by decide +kernel
theorem dX6_nearest_23 : decode cX6_nearest 23 = .ok (.lload 10, 2) := by decide +kernel
theorem dX6_nearest_25 : decode cX6_nearest 25 = .ok (.lload 4, 2) := by decide +kernel
theorem dX6_nearest_27 : decode cX6_nearest 27 = .ok (.ldc2_w 200, 3) := by decide +kernel
theorem dX6_nearest_30 : decode cX6_nearest 30 = .ok (.lmul, 1) := by decide +kernel
theorem dX6_nearest_31 : decode cX6_nearest 31 = .ok (.ldc2_w 198, 3) := by decide +kernel
theorem dX6_nearest_34 : decode cX6_nearest 34 = .ok (.lload 12, 2) := by decide +kernel
theorem dX6_nearest_36 : decode cX6_nearest 36 = .ok (.lmul, 1) := by decide +kernel
theorem dX6_nearest_37 : decode cX6_nearest 37 = .ok (.ldc2_w 200, 3) := by decide +kernel
theorem dX6_nearest_40 : decode cX6_nearest 40 = .ok (.lmul, 1) := by decide +kernel
theorem dX6_nearest_41 : decode cX6_nearest 41 = .ok (.ladd, 1) := by decide +kernel
theorem dX6_nearest_42 : decode cX6_nearest 42 = .ok (.ldc2_w 198, 3) := by decide +kernel
theorem dX6_nearest_45 : decode cX6_nearest 45 = .ok (.lload 6, 2) := by decide +kernel
theorem dX6_nearest_47 : decode cX6_nearest 47 = .ok (.lmul, 1) := by decide +kernel
theorem dX6_nearest_48 : decode cX6_nearest 48 = .ok (.lload 4, 2) := by decide +kernel
theorem dX6_nearest_50 : decode cX6_nearest 50 = .ok (.lmul, 1) := by decide +kernel
theorem dX6_nearest_51 : decode cX6_nearest 51 = .ok (.lsub, 1) := by decide +kernel
theorem dX6_nearest_52 : decode cX6_nearest 52 = .ok (.ldc2_w 198, 3) := by decide +kernel
theorem dX6_nearest_55 : decode cX6_nearest 55 = .ok (.lload 4, 2) := by decide +kernel
theorem dX6_nearest_57 : decode cX6_nearest 57 = .ok (.lmul, 1) := by decide +kernel
theorem dX6_nearest_58 : decode cX6_nearest 58 = .ok (.ldc2_w 200, 3) := by decide +kernel
theorem dX6_nearest_61 : decode cX6_nearest 61 = .ok (.lmul, 1) := by decide +kernel
theorem dX6_nearest_62 : decode cX6_nearest 62 = .ok (.invokestatic 202, 3) := by decide +kernel
theorem dX6_nearest_65 : decode cX6_nearest 65 = .ok (.ladd, 1) := by decide +kernel
theorem dX6_nearest_66 : decode cX6_nearest 66 = .ok (.lstore 10, 2) := by decide +kernel
theorem dX6_nearest_68 : decode cX6_nearest 68 = .ok (.lload 10, 2) := by decide +kernel
theorem dX6_nearest_70 : decode cX6_nearest 70 = .ok (.ldc2_w 200, 3) := by decide +kernel
theorem dX6_nearest_73 : decode cX6_nearest 73 = .ok (.lmul, 1) := by decide +kernel
theorem dX6_nearest_74 : decode cX6_nearest 74 = .ok (.lload 6, 2) := by decide +kernel
theorem dX6_nearest_76 : decode cX6_nearest 76 = .ok (.ladd, 1) := by decide +kernel
theorem dX6_nearest_77 : decode cX6_nearest 77 = .ok (.lreturn, 1) := by decide +kernel
theorem dX6_localOf_0 : decode cX6_localOf 0 = .ok (.iload_n 3, 1) := by decide +kernel
theorem dX6_localOf_1 : decode cX6_localOf 1 = .ok (.ifCond .eq 9, 3) := by decide +kernel
theorem dX6_localOf_4 : decode cX6_localOf 4 = .ok (.ldc2_w 210, 3) := by decide +kernel
theorem dX6_localOf_7 : decode cX6_localOf 7 = .ok (.goto 6, 3) := by decide +kernel
theorem dX6_localOf_10 : decode cX6_localOf 10 = .ok (.ldc2_w 212, 3) := by decide +kernel
theorem dX6_localOf_13 : decode cX6_localOf 13 = .ok (.lstore 7, 2) := by decide +kernel
theorem dX6_localOf_15 : decode cX6_localOf 15 = .ok (.lload_n 1, 1) := by decide +kernel
theorem dX6_localOf_16 : decode cX6_localOf 16 = .ok (.ldc2_w 200, 3) := by decide +kernel
theorem dX6_localOf_19 : decode cX6_localOf 19 = .ok (.ldiv, 1) := by decide +kernel
theorem dX6_localOf_20 : decode cX6_localOf 20 = .ok (.lstore 9, 2) := by decide +kernel
theorem dX6_localOf_22 : decode cX6_localOf 22 = .ok (.lload_n 1, 1) := by decide +kernel
theorem dX6_localOf_23 : decode cX6_localOf 23 = .ok (.ldc2_w 200, 3) := by decide +kernel
theorem dX6_localOf_26 : decode cX6_localOf 26 = .ok (.lrem, 1) := by decide +kernel
theorem dX6_localOf_27 : decode cX6_localOf 27 = .ok (.lstore 11, 2) := by decide +kernel
theorem dX6_localOf_29 : decode cX6_localOf 29 = .ok (.iload 4, 2) := by decide +kernel
theorem dX6_localOf_31 : decode cX6_localOf 31 = .ok (.ifCond .eq 9, 3) := by decide +kernel
theorem dX6_localOf_34 : decode cX6_localOf 34 = .ok (.ldc2_w 225, 3) := by decide +kernel
theorem dX6_localOf_37 : decode cX6_localOf 37 = .ok (.goto 6, 3) := by decide +kernel
theorem dX6_localOf_40 : decode cX6_localOf 40 = .ok (.ldc2_w 227, 3) := by decide +kernel
theorem dX6_localOf_43 : decode cX6_localOf 43 = .ok (.lstore 13, 2) := by decide +kernel
theorem dX6_localOf_45 : decode cX6_localOf 45 = .ok (.iload 5, 2) := by decide +kernel
theorem dX6_localOf_47 : decode cX6_localOf 47 = .ok (.i2l, 1) := by decide +kernel
theorem dX6_localOf_48 : decode cX6_localOf 48 = .ok (.lload 13, 2) := by decide +kernel
theorem dX6_localOf_50 : decode cX6_localOf 50 = .ok (.lload 7, 2) := by decide +kernel
theorem dX6_localOf_52 : decode cX6_localOf 52 = .ok (.lload 9, 2) := by decide +kernel
theorem dX6_localOf_54 : decode cX6_localOf 54 = .ok (.invokestatic 263, 3) := by decide +kernel
theorem dX6_localOf_57 : decode cX6_localOf 57 = .ok (.lstore 15, 2) := by decide +kernel
theorem dX6_localOf_59 : decode cX6_localOf 59 = .ok (.lload 15, 2) := by decide +kernel
theorem dX6_localOf_61 : decode cX6_localOf 61 = .ok (.invokestatic 180, 3) := by decide +kernel
theorem dX6_localOf_64 : decode cX6_localOf 64 = .ok (.lload 7, 2) := by decide +kernel
theorem dX6_localOf_66 : decode cX6_localOf 66 = .ok (.lmul, 1) := by decide +kernel
theorem dX6_localOf_67 : decode cX6_localOf 67 = .ok (.ldc2_w 210, 3) := by decide +kernel
theorem dX6_localOf_70 : decode cX6_localOf 70 = .ok (.lload 13, 2) := by decide +kernel
theorem dX6_localOf_72 : decode cX6_localOf 72 = .ok (.lmul, 1) := by decide +kernel
theorem dX6_localOf_73 : decode cX6_localOf 73 = .ok (.ldc2_w 200, 3) := by decide +kernel
theorem dX6_localOf_76 : decode cX6_localOf 76 = .ok (.lmul, 1) := by decide +kernel
theorem dX6_localOf_77 : decode cX6_localOf 77 = .ok (.lcmp, 1) := by decide +kernel
theorem dX6_localOf_78 : decode cX6_localOf 78 = .ok (.ifCond .le 5, 3) := by decide +kernel
theorem dX6_localOf_81 : decode cX6_localOf 81 = .ok (.iconst 0, 1) := by decide +kernel
theorem dX6_localOf_82 : decode cX6_localOf 82 = .ok (.ireturn, 1) := by decide +kernel
theorem dX6_localOf_83 : decode cX6_localOf 83 = .ok (.aload_n 0, 1) := by decide +kernel
theorem dX6_localOf_84 : decode cX6_localOf 84 = .ok (.ldc2_w 192, 3) := by decide +kernel
theorem dX6_localOf_87 : decode cX6_localOf 87 = .ok (.lload 7, 2) := by decide +kernel
theorem dX6_localOf_89 : decode cX6_localOf 89 = .ok (.lmul, 1) := by decide +kernel
theorem dX6_localOf_90 : decode cX6_localOf 90 = .ok (.lload 15, 2) := by decide +kernel
theorem dX6_localOf_92 : decode cX6_localOf 92 = .ok (.lmul, 1) := by decide +kernel
theorem dX6_localOf_93 : decode cX6_localOf 93 = .ok (.lload 13, 2) := by decide +kernel
theorem dX6_localOf_95 : decode cX6_localOf 95 = .ok (.ldc2_w 200, 3) := by decide +kernel
theorem dX6_localOf_98 : decode cX6_localOf 98 = .ok (.lmul, 1) := by decide +kernel
theorem dX6_localOf_99 : decode cX6_localOf 99 = .ok (.invokevirtual 194, 3) := by decide +kernel
theorem dX6_localOf_102 : decode cX6_localOf 102 = .ok (.iload 4, 2) := by decide +kernel
theorem dX6_localOf_104 : decode cX6_localOf 104 = .ok (.ifCond .eq 7, 3) := by decide +kernel
theorem dX6_localOf_107 : decode cX6_localOf 107 = .ok (.iconst 1, 1) := by decide +kernel
theorem dX6_localOf_108 : decode cX6_localOf 108 = .ok (.goto 4, 3) := by decide +kernel
theorem dX6_localOf_111 : decode cX6_localOf 111 = .ok (.iconst 0, 1) := by decide +kernel
theorem dX6_localOf_112 : decode cX6_localOf 112 = .ok (.isub, 1) := by decide +kernel
theorem dX6_localOf_113 : decode cX6_localOf 113 = .ok (.invokestatic 217, 3) := by decide +kernel
theorem dX6_localOf_116 : decode cX6_localOf 116 = .ok (.istore 17, 2) := by decide +kernel
theorem dX6_localOf_118 : decode cX6_localOf 118 = .ok (.lload 7, 2) := by decide +kernel
theorem dX6_localOf_120 : decode cX6_localOf 120 = .ok (.iload 6, 2) := by decide +kernel
theorem dX6_localOf_122 : decode cX6_localOf 122 = .ok (.i2l, 1) := by decide +kernel
theorem dX6_localOf_123 : decode cX6_localOf 123 = .ok (.iload 17, 2) := by decide +kernel
theorem dX6_localOf_125 : decode cX6_localOf 125 = .ok (.i2l, 1) := by decide +kernel
theorem dX6_localOf_126 : decode cX6_localOf 126 = .ok (.lload 7, 2) := by decide +kernel
theorem dX6_localOf_128 : decode cX6_localOf 128 = .ok (.lload 11, 2) := by decide +kernel
theorem dX6_localOf_130 : decode cX6_localOf 130 = .ok (.invokestatic 263, 3) := by decide +kernel
theorem dX6_localOf_133 : decode cX6_localOf 133 = .ok (.lmul, 1) := by decide +kernel
theorem dX6_localOf_134 : decode cX6_localOf 134 = .ok (.lstore 18, 2) := by decide +kernel
theorem dX6_localOf_136 : decode cX6_localOf 136 = .ok (.ldc2_w 212, 3) := by decide +kernel
theorem dX6_localOf_139 : decode cX6_localOf 139 = .ok (.iload 17, 2) := by decide +kernel
theorem dX6_localOf_141 : decode cX6_localOf 141 = .ok (.i2l, 1) := by decide +kernel
theorem dX6_localOf_142 : decode cX6_localOf 142 = .ok (.lmul, 1) := by decide +kernel
theorem dX6_localOf_143 : decode cX6_localOf 143 = .ok (.ldc2_w 200, 3) := by decide +kernel
theorem dX6_localOf_146 : decode cX6_localOf 146 = .ok (.lmul, 1) := by decide +kernel
theorem dX6_localOf_147 : decode cX6_localOf 147 = .ok (.lstore 20, 2) := by decide +kernel
theorem dX6_localOf_149 : decode cX6_localOf 149 = .ok (.ldc2_w 198, 3) := by decide +kernel
theorem dX6_localOf_152 : decode cX6_localOf 152 = .ok (.lload 18, 2) := by decide +kernel
theorem dX6_localOf_154 : decode cX6_localOf 154 = .ok (.lmul, 1) := by decide +kernel
theorem dX6_localOf_155 : decode cX6_localOf 155 = .ok (.lload 20, 2) := by decide +kernel
theorem dX6_localOf_157 : decode cX6_localOf 157 = .ok (.lcmp, 1) := by decide +kernel
theorem dX6_localOf_158 : decode cX6_localOf 158 = .ok (.ifCond .lt 13, 3) := by decide +kernel
theorem dX6_localOf_161 : decode cX6_localOf 161 = .ok (.lload 18, 2) := by decide +kernel
theorem dX6_localOf_163 : decode cX6_localOf 163 = .ok (.lload 20, 2) := by decide +kernel
theorem dX6_localOf_165 : decode cX6_localOf 165 = .ok (.lsub, 1) := by decide +kernel
theorem dX6_localOf_166 : decode cX6_localOf 166 = .ok (.lstore 18, 2) := by decide +kernel
theorem dX6_localOf_168 : decode cX6_localOf 168 = .ok (.goto (-19), 3) := by decide +kernel
theorem dX6_localOf_171 : decode cX6_localOf 171 = .ok (.ldc2_w 198, 3) := by decide +kernel
theorem dX6_localOf_174 : decode cX6_localOf 174 = .ok (.lload 18, 2) := by decide +kernel
theorem dX6_localOf_176 : decode cX6_localOf 176 = .ok (.lmul, 1) := by decide +kernel
theorem dX6_localOf_177 : decode cX6_localOf 177 = .ok (.lload 20, 2) := by decide +kernel
theorem dX6_localOf_179 : decode cX6_localOf 179 = .ok (.lneg, 1) := by decide +kernel
theorem dX6_localOf_180 : decode cX6_localOf 180 = .ok (.lcmp, 1) := by decide +kernel
theorem dX6_localOf_181 : decode cX6_localOf 181 = .ok (.ifCond .ge 13, 3) := by decide +kernel
theorem dX6_localOf_184 : decode cX6_localOf 184 = .ok (.lload 18, 2) := by decide +kernel
theorem dX6_localOf_186 : decode cX6_localOf 186 = .ok (.lload 20, 2) := by decide +kernel
theorem dX6_localOf_188 : decode cX6_localOf 188 = .ok (.ladd, 1) := by decide +kernel
theorem dX6_localOf_189 : decode cX6_localOf 189 = .ok (.lstore 18, 2) := by decide +kernel
theorem dX6_localOf_191 : decode cX6_localOf 191 = .ok (.goto (-20), 3) := by decide +kernel
theorem dX6_localOf_194 : decode cX6_localOf 194 = .ok (.aload_n 0, 1) := by decide +kernel
theorem dX6_localOf_195 : decode cX6_localOf 195 = .ok (.lload 7, 2) := by decide +kernel
theorem dX6_localOf_197 : decode cX6_localOf 197 = .ok (.lload 15, 2) := by decide +kernel
theorem dX6_localOf_199 : decode cX6_localOf 199 = .ok (.lmul, 1) := by decide +kernel
theorem dX6_localOf_200 : decode cX6_localOf 200 = .ok (.lload 13, 2) := by decide +kernel
theorem dX6_localOf_202 : decode cX6_localOf 202 = .ok (.ldc2_w 200, 3) := by decide +kernel
theorem dX6_localOf_205 : decode cX6_localOf 205 = .ok (.lmul, 1) := by decide +kernel
theorem dX6_localOf_206 : decode cX6_localOf 206 = .ok (.invokestatic 202, 3) := by decide +kernel
theorem dX6_localOf_209 : decode cX6_localOf 209 = .ok (.l2i, 1) := by decide +kernel
theorem dX6_localOf_210 : decode cX6_localOf 210 = .ok (.putfield 243, 3) := by decide +kernel
theorem dX6_localOf_213 : decode cX6_localOf 213 = .ok (.aload_n 0, 1) := by decide +kernel
theorem dX6_localOf_214 : decode cX6_localOf 214 = .ok (.lload 18, 2) := by decide +kernel
theorem dX6_localOf_216 : decode cX6_localOf 216 = .ok (.iload 17, 2) := by decide +kernel
theorem dX6_localOf_218 : decode cX6_localOf 218 = .ok (.i2l, 1) := by decide +kernel
theorem dX6_localOf_219 : decode cX6_localOf 219 = .ok (.ldc2_w 200, 3) := by decide +kernel
theorem dX6_localOf_222 : decode cX6_localOf 222 = .ok (.lmul, 1) := by decide +kernel
theorem dX6_localOf_223 : decode cX6_localOf 223 = .ok (.invokestatic 202, 3) := by decide +kernel
theorem dX6_localOf_226 : decode cX6_localOf 226 = .ok (.l2i, 1) := by decide +kernel
theorem dX6_localOf_227 : decode cX6_localOf 227 = .ok (.putfield 246, 3) := by decide +kernel
theorem dX6_localOf_230 : decode cX6_localOf 230 = .ok (.iconst 1, 1) := by decide +kernel
theorem dX6_localOf_231 : decode cX6_localOf 231 = .ok (.ireturn, 1) := by decide +kernel
theorem dX6_local_0 : decode cX6_local 0 = .ok (.aload_n 0, 1) := by decide +kernel
theorem dX6_local_1 : decode cX6_local 1 = .ok (.lload_n 1, 1) := by decide +kernel
theorem dX6_local_2 : decode cX6_local 2 = .ok (.invokevirtual 249, 3) := by decide +kernel
theorem dX6_local_5 : decode cX6_local 5 = .ok (.ifCond .eq 34, 3) := by decide +kernel
theorem dX6_local_8 : decode cX6_local 8 = .ok (.iload 5, 2) := by decide +kernel
theorem dX6_local_10 : decode cX6_local 10 = .ok (.invokestatic 188, 3) := by decide +kernel
theorem dX6_local_13 : decode cX6_local 13 = .ok (.ifCond .eq 26, 3) := by decide +kernel
theorem dX6_local_16 : decode cX6_local 16 = .ok (.iload 6, 2) := by decide +kernel
theorem dX6_local_18 : decode cX6_local 18 = .ok (.invokestatic 205, 3) := by decide +kernel
theorem dX6_local_21 : decode cX6_local 21 = .ok (.ifCond .eq 18, 3) := by decide +kernel
theorem dX6_local_24 : decode cX6_local 24 = .ok (.aload_n 0, 1) := by decide +kernel
theorem dX6_local_25 : decode cX6_local 25 = .ok (.lload_n 1, 1) := by decide +kernel
theorem dX6_local_26 : decode cX6_local 26 = .ok (.iload_n 3, 1) := by decide +kernel
theorem dX6_local_27 : decode cX6_local 27 = .ok (.iload 4, 2) := by decide +kernel
theorem dX6_local_29 : decode cX6_local 29 = .ok (.iload 5, 2) := by decide +kernel
theorem dX6_local_31 : decode cX6_local 31 = .ok (.iload 6, 2) := by decide +kernel
theorem dX6_local_33 : decode cX6_local 33 = .ok (.invokevirtual 267, 3) := by decide +kernel
theorem dX6_local_36 : decode cX6_local 36 = .ok (.ifCond .ne 7, 3) := by decide +kernel
theorem dX6_local_39 : decode cX6_local 39 = .ok (.ldc2_w 257, 3) := by decide +kernel
theorem dX6_local_42 : decode cX6_local 42 = .ok (.lreturn, 1) := by decide +kernel
theorem dX6_local_43 : decode cX6_local 43 = .ok (.aload_n 0, 1) := by decide +kernel
theorem dX6_local_44 : decode cX6_local 44 = .ok (.getfield 243, 3) := by decide +kernel
theorem dX6_local_47 : decode cX6_local 47 = .ok (.aload_n 0, 1) := by decide +kernel
theorem dX6_local_48 : decode cX6_local 48 = .ok (.getfield 246, 3) := by decide +kernel
theorem dX6_local_51 : decode cX6_local 51 = .ok (.invokestatic 259, 3) := by decide +kernel
theorem dX6_local_54 : decode cX6_local 54 = .ok (.lreturn, 1) := by decide +kernel
theorem dX6_place_0 : decode cX6_place 0 = .ok (.iload_n 1, 1) := by decide +kernel
theorem dX6_place_1 : decode cX6_place 1 = .ok (.invokestatic 188, 3) := by decide +kernel
theorem dX6_place_4 : decode cX6_place 4 = .ok (.ifCond .eq 10, 3) := by decide +kernel
theorem dX6_place_7 : decode cX6_place 7 = .ok (.iload_n 2, 1) := by decide +kernel
theorem dX6_place_8 : decode cX6_place 8 = .ok (.invokestatic 205, 3) := by decide +kernel
theorem dX6_place_11 : decode cX6_place 11 = .ok (.ifCond .ne 5, 3) := by decide +kernel
theorem dX6_place_14 : decode cX6_place 14 = .ok (.iconst 0, 1) := by decide +kernel
theorem dX6_place_15 : decode cX6_place 15 = .ok (.ireturn, 1) := by decide +kernel
theorem dX6_place_16 : decode cX6_place 16 = .ok (.aload_n 0, 1) := by decide +kernel
theorem dX6_place_17 : decode cX6_place 17 = .ok (.iconst 1, 1) := by decide +kernel
theorem dX6_place_18 : decode cX6_place 18 = .ok (.putfield 271, 3) := by decide +kernel
theorem dX6_place_21 : decode cX6_place 21 = .ok (.aload_n 0, 1) := by decide +kernel
theorem dX6_place_22 : decode cX6_place 22 = .ok (.iload_n 1, 1) := by decide +kernel
theorem dX6_place_23 : decode cX6_place 23 = .ok (.putfield 275, 3) := by decide +kernel
theorem dX6_place_26 : decode cX6_place 26 = .ok (.aload_n 0, 1) := by decide +kernel
theorem dX6_place_27 : decode cX6_place 27 = .ok (.iload_n 2, 1) := by decide +kernel
theorem dX6_place_28 : decode cX6_place 28 = .ok (.putfield 278, 3) := by decide +kernel
theorem dX6_place_31 : decode cX6_place 31 = .ok (.iconst 1, 1) := by decide +kernel
theorem dX6_place_32 : decode cX6_place 32 = .ok (.ireturn, 1) := by decide +kernel
theorem dX6_isKnown_0 : decode cX6_isKnown 0 = .ok (.iload_n 0, 1) := by decide +kernel
theorem dX6_isKnown_1 : decode cX6_isKnown 1 = .ok (.ifCond .eq 49, 3) := by decide +kernel
theorem dX6_isKnown_4 : decode cX6_isKnown 4 = .ok (.iload_n 0, 1) := by decide +kernel
theorem dX6_isKnown_5 : decode cX6_isKnown 5 = .ok (.iconst 4, 1) := by decide +kernel
theorem dX6_isKnown_6 : decode cX6_isKnown 6 = .ok (.if_icmp .eq 44, 3) := by decide +kernel
theorem dX6_isKnown_9 : decode cX6_isKnown 9 = .ok (.iload_n 0, 1) := by decide +kernel
theorem dX6_isKnown_10 : decode cX6_isKnown 10 = .ok (.iconst 5, 1) := by decide +kernel
theorem dX6_isKnown_11 : decode cX6_isKnown 11 = .ok (.if_icmp .eq 39, 3) := by decide +kernel
theorem dX6_isKnown_14 : decode cX6_isKnown 14 = .ok (.iload_n 0, 1) := by decide +kernel
theorem dX6_isKnown_15 : decode cX6_isKnown 15 = .ok (.bipush 11, 2) := by decide +kernel
theorem dX6_isKnown_17 : decode cX6_isKnown 17 = .ok (.if_icmp .eq 33, 3) := by decide +kernel
theorem dX6_isKnown_20 : decode cX6_isKnown 20 = .ok (.iload_n 0, 1) := by decide +kernel
theorem dX6_isKnown_21 : decode cX6_isKnown 21 = .ok (.bipush 16, 2) := by decide +kernel
theorem dX6_isKnown_23 : decode cX6_isKnown 23 = .ok (.if_icmp .eq 27, 3) := by decide +kernel
theorem dX6_isKnown_26 : decode cX6_isKnown 26 = .ok (.iload_n 0, 1) := by decide +kernel
theorem dX6_isKnown_27 : decode cX6_isKnown 27 = .ok (.bipush 17, 2) := by decide +kernel
theorem dX6_isKnown_29 : decode cX6_isKnown 29 = .ok (.if_icmp .eq 21, 3) := by decide +kernel
theorem dX6_isKnown_32 : decode cX6_isKnown 32 = .ok (.iload_n 0, 1) := by decide +kernel
theorem dX6_isKnown_33 : decode cX6_isKnown 33 = .ok (.bipush 18, 2) := by decide +kernel
theorem dX6_isKnown_35 : decode cX6_isKnown 35 = .ok (.if_icmp .eq 15, 3) := by decide +kernel
theorem dX6_isKnown_38 : decode cX6_isKnown 38 = .ok (.iload_n 0, 1) := by decide +kernel
theorem dX6_isKnown_39 : decode cX6_isKnown 39 = .ok (.bipush 20, 2) := by decide +kernel
theorem dX6_isKnown_41 : decode cX6_isKnown 41 = .ok (.if_icmp .eq 9, 3) := by decide +kernel
theorem dX6_isKnown_44 : decode cX6_isKnown 44 = .ok (.iload_n 0, 1) := by decide +kernel
theorem dX6_isKnown_45 : decode cX6_isKnown 45 = .ok (.bipush 21, 2) := by decide +kernel
theorem dX6_isKnown_47 : decode cX6_isKnown 47 = .ok (.if_icmp .ne 7, 3) := by decide +kernel
theorem dX6_isKnown_50 : decode cX6_isKnown 50 = .ok (.iconst 1, 1) := by decide +kernel
theorem dX6_isKnown_51 : decode cX6_isKnown 51 = .ok (.goto 4, 3) := by decide +kernel
theorem dX6_isKnown_54 : decode cX6_isKnown 54 = .ok (.iconst 0, 1) := by decide +kernel
theorem dX6_isKnown_55 : decode cX6_isKnown 55 = .ok (.ireturn, 1) := by decide +kernel
theorem dX6_isSquitter_0 : decode cX6_isSquitter 0 = .ok (.iload_n 0, 1) := by decide +kernel
theorem dX6_isSquitter_1 : decode cX6_isSquitter 1 = .ok (.bipush 11, 2) := by decide +kernel
theorem dX6_isSquitter_3 : decode cX6_isSquitter 3 = .ok (.if_icmp .eq 15, 3) := by decide +kernel
theorem dX6_isSquitter_6 : decode cX6_isSquitter 6 = .ok (.iload_n 0, 1) := by decide +kernel
theorem dX6_isSquitter_7 : decode cX6_isSquitter 7 = .ok (.bipush 17, 2) := by decide +kernel
theorem dX6_isSquitter_9 : decode cX6_isSquitter 9 = .ok (.if_icmp .eq 9, 3) := by decide +kernel
theorem dX6_isSquitter_12 : decode cX6_isSquitter 12 = .ok (.iload_n 0, 1) := by decide +kernel
theorem dX6_isSquitter_13 : decode cX6_isSquitter 13 = .ok (.bipush 18, 2) := by decide +kernel
theorem dX6_isSquitter_15 : decode cX6_isSquitter 15 = .ok (.if_icmp .ne 7, 3) := by decide +kernel
theorem dX6_isSquitter_18 : decode cX6_isSquitter 18 = .ok (.iconst 1, 1) := by decide +kernel
theorem dX6_isSquitter_19 : decode cX6_isSquitter 19 = .ok (.goto 4, 3) := by decide +kernel
theorem dX6_isSquitter_22 : decode cX6_isSquitter 22 = .ok (.iconst 0, 1) := by decide +kernel
theorem dX6_isSquitter_23 : decode cX6_isSquitter 23 = .ok (.ireturn, 1) := by decide +kernel
theorem dX6_at_0 : decode cX6_at 0 = .ok (.bipush 40, 2) := by decide +kernel
theorem dX6_at_2 : decode cX6_at 2 = .ok (.iload_n 1, 1) := by decide +kernel
theorem dX6_at_3 : decode cX6_at 3 = .ok (.imul, 1) := by decide +kernel
theorem dX6_at_4 : decode cX6_at 4 = .ok (.iload_n 2, 1) := by decide +kernel
theorem dX6_at_5 : decode cX6_at 5 = .ok (.iadd, 1) := by decide +kernel
theorem dX6_at_6 : decode cX6_at 6 = .ok (.ireturn, 1) := by decide +kernel
theorem dX6_ages_0 : decode cX6_ages 0 = .ok (.iconst 0, 1) := by decide +kernel
theorem dX6_ages_1 : decode cX6_ages 1 = .ok (.istore_n 2, 1) := by decide +kernel
theorem dX6_ages_2 : decode cX6_ages 2 = .ok (.iconst 0, 1) := by decide +kernel
theorem dX6_ages_3 : decode cX6_ages 3 = .ok (.istore_n 3, 1) := by decide +kernel
theorem dX6_ages_4 : decode cX6_ages 4 = .ok (.iload_n 3, 1) := by decide +kernel
theorem dX6_ages_5 : decode cX6_ages 5 = .ok (.aload_n 0, 1) := by decide +kernel
theorem dX6_ages_6 : decode cX6_ages 6 = .ok (.getfield 281, 3) := by decide +kernel
theorem dX6_ages_9 : decode cX6_ages 9 = .ok (.if_icmp .ge 74, 3) := by decide +kernel
theorem dX6_ages_12 : decode cX6_ages 12 = .ok (.iload_n 1, 1) := by decide +kernel
theorem dX6_ages_13 : decode cX6_ages 13 = .ok (.aload_n 0, 1) := by decide +kernel
theorem dX6_ages_14 : decode cX6_ages 14 = .ok (.getfield 129, 3) := by decide +kernel
theorem dX6_ages_17 : decode cX6_ages 17 = .ok (.aload_n 0, 1) := by decide +kernel
theorem dX6_ages_18 : decode cX6_ages 18 = .ok (.iload_n 3, 1) := by decide +kernel
theorem dX6_ages_19 : decode cX6_ages 19 = .ok (.iconst 1, 1) := by decide +kernel
theorem dX6_ages_20 : decode cX6_ages 20 = .ok (.invokevirtual 284, 3) := by decide +kernel
theorem dX6_ages_23 : decode cX6_ages 23 = .ok (.iaload, 1) := by decide +kernel
theorem dX6_ages_24 : decode cX6_ages 24 = .ok (.isub, 1) := by decide +kernel
theorem dX6_ages_25 : decode cX6_ages 25 = .ok (.sipush 600, 3) := by decide +kernel
theorem dX6_ages_28 : decode cX6_ages 28 = .ok (.if_icmp .le 6, 3) := by decide +kernel
theorem dX6_ages_31 : decode cX6_ages 31 = .ok (.goto 46, 3) := by decide +kernel
theorem dX6_ages_34 : decode cX6_ages 34 = .ok (.iconst 0, 1) := by decide +kernel
theorem dX6_ages_35 : decode cX6_ages 35 = .ok (.istore 4, 2) := by decide +kernel
theorem dX6_ages_37 : decode cX6_ages 37 = .ok (.iload 4, 2) := by decide +kernel
theorem dX6_ages_39 : decode cX6_ages 39 = .ok (.bipush 40, 2) := by decide +kernel
theorem dX6_ages_41 : decode cX6_ages 41 = .ok (.if_icmp .ge 33, 3) := by decide +kernel
theorem dX6_ages_44 : decode cX6_ages 44 = .ok (.aload_n 0, 1) := by decide +kernel
theorem dX6_ages_45 : decode cX6_ages 45 = .ok (.getfield 129, 3) := by decide +kernel
theorem dX6_ages_48 : decode cX6_ages 48 = .ok (.aload_n 0, 1) := by decide +kernel
theorem dX6_ages_49 : decode cX6_ages 49 = .ok (.iload_n 2, 1) := by decide +kernel
theorem dX6_ages_50 : decode cX6_ages 50 = .ok (.iload 4, 2) := by decide +kernel
theorem dX6_ages_52 : decode cX6_ages 52 = .ok (.invokevirtual 284, 3) := by decide +kernel
theorem dX6_ages_55 : decode cX6_ages 55 = .ok (.aload_n 0, 1) := by decide +kernel
theorem dX6_ages_56 : decode cX6_ages 56 = .ok (.getfield 129, 3) := by decide +kernel
theorem dX6_ages_59 : decode cX6_ages 59 = .ok (.aload_n 0, 1) := by decide +kernel
theorem dX6_ages_60 : decode cX6_ages 60 = .ok (.iload_n 3, 1) := by decide +kernel
theorem dX6_ages_61 : decode cX6_ages 61 = .ok (.iload 4, 2) := by decide +kernel
theorem dX6_ages_63 : decode cX6_ages 63 = .ok (.invokevirtual 284, 3) := by decide +kernel
theorem dX6_ages_66 : decode cX6_ages 66 = .ok (.iaload, 1) := by decide +kernel
theorem dX6_ages_67 : decode cX6_ages 67 = .ok (.iastore, 1) := by decide +kernel
theorem dX6_ages_68 : decode cX6_ages 68 = .ok (.iinc 4 1, 3) := by decide +kernel
theorem dX6_ages_71 : decode cX6_ages 71 = .ok (.goto (-34), 3) := by decide +kernel
theorem dX6_ages_74 : decode cX6_ages 74 = .ok (.iinc 2 1, 3) := by decide +kernel
theorem dX6_ages_77 : decode cX6_ages 77 = .ok (.iinc 3 1, 3) := by decide +kernel
theorem dX6_ages_80 : decode cX6_ages 80 = .ok (.goto (-76), 3) := by decide +kernel
theorem dX6_ages_83 : decode cX6_ages 83 = .ok (.aload_n 0, 1) := by decide +kernel
theorem dX6_ages_84 : decode cX6_ages 84 = .ok (.iload_n 2, 1) := by decide +kernel
theorem dX6_ages_85 : decode cX6_ages 85 = .ok (.putfield 281, 3) := by decide +kernel
theorem dX6_ages_88 : decode cX6_ages 88 = .ok (.return_, 1) := by decide +kernel
theorem dX6_find_0 : decode cX6_find 0 = .ok (.iconst (-1), 1) := by decide +kernel
theorem dX6_find_1 : decode cX6_find 1 = .ok (.istore_n 2, 1) := by decide +kernel
theorem dX6_find_2 : decode cX6_find 2 = .ok (.iconst 0, 1) := by decide +kernel
theorem dX6_find_3 : decode cX6_find 3 = .ok (.istore_n 3, 1) := by decide +kernel
theorem dX6_find_4 : decode cX6_find 4 = .ok (.iload_n 3, 1) := by decide +kernel
theorem dX6_find_5 : decode cX6_find 5 = .ok (.aload_n 0, 1) := by decide +kernel
theorem dX6_find_6 : decode cX6_find 6 = .ok (.getfield 281, 3) := by decide +kernel
theorem dX6_find_9 : decode cX6_find 9 = .ok (.if_icmp .ge 30, 3) := by decide +kernel
theorem dX6_find_12 : decode cX6_find 12 = .ok (.aload_n 0, 1) := by decide +kernel
theorem dX6_find_13 : decode cX6_find 13 = .ok (.getfield 129, 3) := by decide +kernel
theorem dX6_find_16 : decode cX6_find 16 = .ok (.aload_n 0, 1) := by decide +kernel
theorem dX6_find_17 : decode cX6_find 17 = .ok (.iload_n 3, 1) := by decide +kernel
theorem dX6_find_18 : decode cX6_find 18 = .ok (.iconst 0, 1) := by decide +kernel
theorem dX6_find_19 : decode cX6_find 19 = .ok (.invokevirtual 284, 3) := by decide +kernel
theorem dX6_find_22 : decode cX6_find 22 = .ok (.iaload, 1) := by decide +kernel
theorem dX6_find_23 : decode cX6_find 23 = .ok (.iload_n 1, 1) := by decide +kernel
theorem dX6_find_24 : decode cX6_find 24 = .ok (.if_icmp .ne 7, 3) := by decide +kernel
theorem dX6_find_27 : decode cX6_find 27 = .ok (.iload_n 3, 1) := by decide +kernel
theorem dX6_find_28 : decode cX6_find 28 = .ok (.goto 4, 3) := by decide +kernel
theorem dX6_find_31 : decode cX6_find 31 = .ok (.iload_n 2, 1) := by decide +kernel
theorem dX6_find_32 : decode cX6_find 32 = .ok (.istore_n 2, 1) := by decide +kernel
theorem dX6_find_33 : decode cX6_find 33 = .ok (.iinc 3 1, 3) := by decide +kernel
theorem dX6_find_36 : decode cX6_find 36 = .ok (.goto (-32), 3) := by decide +kernel
theorem dX6_find_39 : decode cX6_find 39 = .ok (.iload_n 2, 1) := by decide +kernel
theorem dX6_find_40 : decode cX6_find 40 = .ok (.ireturn, 1) := by decide +kernel
end
section
/-! decoded instructions -/
theorem dX6_hear_0 : decode cX6_hear 0 = .ok (.iload 5, 2) := by decide +kernel
theorem dX6_hear_2 : decode cX6_hear 2 = .ok (.aload_n 0, 1) := by decide +kernel
theorem dX6_hear_3 : decode cX6_hear 3 = .ok (.getfield 287, 3) := by decide +kernel
theorem dX6_hear_6 : decode cX6_hear 6 = .ok (.if_icmp .lt 11, 3) := by decide +kernel
theorem dX6_hear_9 : decode cX6_hear 9 = .ok (.iload 5, 2) := by decide +kernel
theorem dX6_hear_11 : decode cX6_hear 11 = .ok (.ldc_w 290, 3) := by decide +kernel
theorem dX6_hear_14 : decode cX6_hear 14 = .ok (.if_icmp .le 5, 3) := by decide +kernel
theorem dX6_hear_17 : decode cX6_hear 17 = .ok (.iconst (-1), 1) := by decide +kernel
theorem dX6_hear_18 : decode cX6_hear 18 = .ok (.ireturn, 1) := by decide +kernel
theorem dX6_hear_19 : decode cX6_hear 19 = .ok (.aload_n 0, 1) := by decide +kernel
theorem dX6_hear_20 : decode cX6_hear 20 = .ok (.iload 5, 2) := by decide +kernel
theorem dX6_hear_22 : decode cX6_hear 22 = .ok (.putfield 287, 3) := by decide +kernel
theorem dX6_hear_25 : decode cX6_hear 25 = .ok (.aload_n 0, 1) := by decide +kernel
theorem dX6_hear_26 : decode cX6_hear 26 = .ok (.iload 5, 2) := by decide +kernel
theorem dX6_hear_28 : decode cX6_hear 28 = .ok (.invokevirtual 291, 3) := by decide +kernel
theorem dX6_hear_31 : decode cX6_hear 31 = .ok (.aload_n 0, 1) := by decide +kernel
theorem dX6_hear_32 : decode cX6_hear 32 = .ok (.iload_n 1, 1) := by decide +kernel
theorem dX6_hear_33 : decode cX6_hear 33 = .ok (.iload_n 2, 1) := by decide +kernel
theorem dX6_hear_34 : decode cX6_hear 34 = .ok (.iload_n 3, 1) := by decide +kernel
theorem dX6_hear_35 : decode cX6_hear 35 = .ok (.iload 4, 2) := by decide +kernel
theorem dX6_hear_37 : decode cX6_hear 37 = .ok (.invokevirtual 148, 3) := by decide +kernel
theorem dX6_hear_40 : decode cX6_hear 40 = .ok (.aload_n 0, 1) := by decide +kernel
theorem dX6_hear_41 : decode cX6_hear 41 = .ok (.aload_n 0, 1) := by decide +kernel
theorem dX6_hear_42 : decode cX6_hear 42 = .ok (.getfield 133, 3) := by decide +kernel
theorem dX6_hear_45 : decode cX6_hear 45 = .ok (.iconst 1, 1) := by decide +kernel
theorem dX6_hear_46 : decode cX6_hear 46 = .ok (.iconst 5, 1) := by decide +kernel
theorem dX6_hear_47 : decode cX6_hear 47 = .ok (.invokevirtual 156, 3) := by decide +kernel
theorem dX6_hear_50 : decode cX6_hear 50 = .ok (.istore 6, 2) := by decide +kernel
theorem dX6_hear_52 : decode cX6_hear 52 = .ok (.iload 6, 2) := by decide +kernel
theorem dX6_hear_54 : decode cX6_hear 54 = .ok (.invokestatic 295, 3) := by decide +kernel
theorem dX6_hear_57 : decode cX6_hear 57 = .ok (.ifCond .ne 6, 3) := by decide +kernel
theorem dX6_hear_60 : decode cX6_hear 60 = .ok (.bipush (-2), 2) := by decide +kernel
theorem dX6_hear_62 : decode cX6_hear 62 = .ok (.ireturn, 1) := by decide +kernel
theorem dX6_hear_63 : decode cX6_hear 63 = .ok (.aload_n 0, 1) := by decide +kernel
theorem dX6_hear_64 : decode cX6_hear 64 = .ok (.invokevirtual 152, 3) := by decide +kernel
theorem dX6_hear_67 : decode cX6_hear 67 = .ok (.istore 7, 2) := by decide +kernel
theorem dX6_hear_69 : decode cX6_hear 69 = .ok (.iconst (-1), 1) := by decide +kernel
theorem dX6_hear_70 : decode cX6_hear 70 = .ok (.istore 8, 2) := by decide +kernel
theorem dX6_hear_72 : decode cX6_hear 72 = .ok (.aload_n 0, 1) := by decide +kernel
theorem dX6_hear_73 : decode cX6_hear 73 = .ok (.iload 6, 2) := by decide +kernel
theorem dX6_hear_75 : decode cX6_hear 75 = .ok (.iload 7, 2) := by decide +kernel
theorem dX6_hear_77 : decode cX6_hear 77 = .ok (.invokevirtual 160, 3) := by decide +kernel
theorem dX6_hear_80 : decode cX6_hear 80 = .ok (.ifCond .eq 40, 3) := by decide +kernel
theorem dX6_hear_83 : decode cX6_hear 83 = .ok (.aload_n 0, 1) := by decide +kernel
theorem dX6_hear_84 : decode cX6_hear 84 = .ok (.invokevirtual 164, 3) := by decide +kernel
theorem dX6_hear_87 : decode cX6_hear 87 = .ok (.istore 8, 2) := by decide +kernel
theorem dX6_hear_89 : decode cX6_hear 89 = .ok (.iload 8, 2) := by decide +kernel
theorem dX6_hear_91 : decode cX6_hear 91 = .ok (.ifCond .ge 6, 3) := by decide +kernel
theorem dX6_hear_94 : decode cX6_hear 94 = .ok (.bipush (-3), 2) := by decide +kernel
theorem dX6_hear_96 : decode cX6_hear 96 = .ok (.ireturn, 1) := by decide +kernel
theorem dX6_hear_97 : decode cX6_hear 97 = .ok (.aload_n 0, 1) := by decide +kernel
theorem dX6_hear_98 : decode cX6_hear 98 = .ok (.getfield 133, 3) := by decide +kernel
theorem dX6_hear_101 : decode cX6_hear 101 = .ok (.iload 8, 2) := by decide +kernel
theorem dX6_hear_103 : decode cX6_hear 103 = .ok (.iconst 1, 1) := by decide +kernel
theorem dX6_hear_104 : decode cX6_hear 104 = .ok (.isub, 1) := by decide +kernel
theorem dX6_hear_105 : decode cX6_hear 105 = .ok (.iconst 1, 1) := by decide +kernel
theorem dX6_hear_106 : decode cX6_hear 106 = .ok (.aload_n 0, 1) := by decide +kernel
theorem dX6_hear_107 : decode cX6_hear 107 = .ok (.getfield 133, 3) := by decide +kernel
theorem dX6_hear_110 : decode cX6_hear 110 = .ok (.iload 8, 2) := by decide +kernel
theorem dX6_hear_112 : decode cX6_hear 112 = .ok (.iconst 1, 1) := by decide +kernel
theorem dX6_hear_113 : decode cX6_hear 113 = .ok (.isub, 1) := by decide +kernel
theorem dX6_hear_114 : decode cX6_hear 114 = .ok (.iaload, 1) := by decide +kernel
theorem dX6_hear_115 : decode cX6_hear 115 = .ok (.isub, 1) := by decide +kernel
theorem dX6_hear_116 : decode cX6_hear 116 = .ok (.iastore, 1) := by decide +kernel
theorem dX6_hear_117 : decode cX6_hear 117 = .ok (.iconst 0, 1) := by decide +kernel
theorem dX6_hear_118 : decode cX6_hear 118 = .ok (.istore 7, 2) := by decide +kernel
theorem dX6_hear_120 : decode cX6_hear 120 = .ok (.iload 6, 2) := by decide +kernel
theorem dX6_hear_122 : decode cX6_hear 122 = .ok (.invokestatic 298, 3) := by decide +kernel
theorem dX6_hear_125 : decode cX6_hear 125 = .ok (.ifCond .eq 18, 3) := by decide +kernel
theorem dX6_hear_128 : decode cX6_hear 128 = .ok (.aload_n 0, 1) := by decide +kernel
theorem dX6_hear_129 : decode cX6_hear 129 = .ok (.aload_n 0, 1) := by decide +kernel
theorem dX6_hear_130 : decode cX6_hear 130 = .ok (.getfield 133, 3) := by decide +kernel
theorem dX6_hear_133 : decode cX6_hear 133 = .ok (.bipush 9, 2) := by decide +kernel
theorem dX6_hear_135 : decode cX6_hear 135 = .ok (.bipush 32, 2) := by decide +kernel
theorem dX6_hear_137 : decode cX6_hear 137 = .ok (.invokevirtual 156, 3) := by decide +kernel
theorem dX6_hear_140 : decode cX6_hear 140 = .ok (.goto 5, 3) := by decide +kernel
theorem dX6_hear_143 : decode cX6_hear 143 = .ok (.iload 7, 2) := by decide +kernel
theorem dX6_hear_145 : decode cX6_hear 145 = .ok (.istore 9, 2) := by decide +kernel
theorem dX6_hear_147 : decode cX6_hear 147 = .ok (.aload_n 0, 1) := by decide +kernel
theorem dX6_hear_148 : decode cX6_hear 148 = .ok (.iload 9, 2) := by decide +kernel
theorem dX6_hear_150 : decode cX6_hear 150 = .ok (.invokevirtual 301, 3) := by decide +kernel
theorem dX6_hear_153 : decode cX6_hear 153 = .ok (.istore 10, 2) := by decide +kernel
theorem dX6_hear_155 : decode cX6_hear 155 = .ok (.iload 10, 2) := by decide +kernel
theorem dX6_hear_157 : decode cX6_hear 157 = .ok (.ifCond .ge 14, 3) := by decide +kernel
theorem dX6_hear_160 : decode cX6_hear 160 = .ok (.iload 6, 2) := by decide +kernel
theorem dX6_hear_162 : decode cX6_hear 162 = .ok (.invokestatic 298, 3) := by decide +kernel
theorem dX6_hear_165 : decode cX6_hear 165 = .ok (.ifCond .ne 6, 3) := by decide +kernel
theorem dX6_hear_168 : decode cX6_hear 168 = .ok (.bipush (-4), 2) := by decide +kernel
theorem dX6_hear_170 : decode cX6_hear 170 = .ok (.ireturn, 1) := by decide +kernel
theorem dX6_hear_171 : decode cX6_hear 171 = .ok (.iload 10, 2) := by decide +kernel
theorem dX6_hear_173 : decode cX6_hear 173 = .ok (.ifCond .ge 15, 3) := by decide +kernel
theorem dX6_hear_176 : decode cX6_hear 176 = .ok (.aload_n 0, 1) := by decide +kernel
theorem dX6_hear_177 : decode cX6_hear 177 = .ok (.getfield 281, 3) := by decide +kernel
theorem dX6_hear_180 : decode cX6_hear 180 = .ok (.bipush 20, 2) := by decide +kernel
theorem dX6_hear_182 : decode cX6_hear 182 = .ok (.if_icmp .ne 6, 3) := by decide +kernel
theorem dX6_hear_185 : decode cX6_hear 185 = .ok (.bipush (-5), 2) := by decide +kernel
theorem dX6_hear_187 : decode cX6_hear 187 = .ok (.ireturn, 1) := by decide +kernel
theorem dX6_hear_188 : decode cX6_hear 188 = .ok (.iload 10, 2) := by decide +kernel
theorem dX6_hear_190 : decode cX6_hear 190 = .ok (.ifCond .ge 101, 3) := by decide +kernel
theorem dX6_hear_193 : decode cX6_hear 193 = .ok (.aload_n 0, 1) := by decide +kernel
theorem dX6_hear_194 : decode cX6_hear 194 = .ok (.getfield 281, 3) := by decide +kernel
theorem dX6_hear_197 : decode cX6_hear 197 = .ok (.istore 10, 2) := by decide +kernel
theorem dX6_hear_199 : decode cX6_hear 199 = .ok (.aload_n 0, 1) := by decide +kernel
theorem dX6_hear_200 : decode cX6_hear 200 = .ok (.dup, 1) := by decide +kernel
theorem dX6_hear_201 : decode cX6_hear 201 = .ok (.getfield 281, 3) := by decide +kernel
theorem dX6_hear_204 : decode cX6_hear 204 = .ok (.iconst 1, 1) := by decide +kernel
theorem dX6_hear_205 : decode cX6_hear 205 = .ok (.iadd, 1) := by decide +kernel
theorem dX6_hear_206 : decode cX6_hear 206 = .ok (.putfield 281, 3) := by decide +kernel
theorem dX6_hear_209 : decode cX6_hear 209 = .ok (.iconst 0, 1) := by decide +kernel
theorem dX6_hear_210 : decode cX6_hear 210 = .ok (.istore 11, 2) := by decide +kernel
theorem dX6_hear_212 : decode cX6_hear 212 = .ok (.iload 11, 2) := by decide +kernel
theorem dX6_hear_214 : decode cX6_hear 214 = .ok (.bipush 40, 2) := by decide +kernel
theorem dX6_hear_216 : decode cX6_hear 216 = .ok (.if_icmp .ge 35, 3) := by decide +kernel
theorem dX6_hear_219 : decode cX6_hear 219 = .ok (.aload_n 0, 1) := by decide +kernel
theorem dX6_hear_220 : decode cX6_hear 220 = .ok (.getfield 129, 3) := by decide +kernel
theorem dX6_hear_223 : decode cX6_hear 223 = .ok (.aload_n 0, 1) := by decide +kernel
theorem dX6_hear_224 : decode cX6_hear 224 = .ok (.iload 10, 2) := by decide +kernel
theorem dX6_hear_226 : decode cX6_hear 226 = .ok (.iload 11, 2) := by decide +kernel
theorem dX6_hear_228 : decode cX6_hear 228 = .ok (.invokevirtual 284, 3) := by decide +kernel
theorem dX6_hear_231 : decode cX6_hear 231 = .ok (.iload 11, 2) := by decide +kernel
theorem dX6_hear_233 : decode cX6_hear 233 = .ok (.bipush 18, 2) := by decide +kernel
theorem dX6_hear_235 : decode cX6_hear 235 = .ok (.if_icmp .ge 8, 3) := by decide +kernel
theorem dX6_hear_238 : decode cX6_hear 238 = .ok (.ldc 171, 2) := by decide +kernel
theorem dX6_hear_240 : decode cX6_hear 240 = .ok (.goto 4, 3) := by decide +kernel
theorem dX6_hear_243 : decode cX6_hear 243 = .ok (.iconst 0, 1) := by decide +kernel
theorem dX6_hear_244 : decode cX6_hear 244 = .ok (.iastore, 1) := by decide +kernel
theorem dX6_hear_245 : decode cX6_hear 245 = .ok (.iinc 11 1, 3) := by decide +kernel
theorem dX6_hear_248 : decode cX6_hear 248 = .ok (.goto (-36), 3) := by decide +kernel
theorem dX6_hear_251 : decode cX6_hear 251 = .ok (.aload_n 0, 1) := by decide +kernel
theorem dX6_hear_252 : decode cX6_hear 252 = .ok (.getfield 129, 3) := by decide +kernel
theorem dX6_hear_255 : decode cX6_hear 255 = .ok (.aload_n 0, 1) := by decide +kernel
theorem dX6_hear_256 : decode cX6_hear 256 = .ok (.iload 10, 2) := by decide +kernel
theorem dX6_hear_258 : decode cX6_hear 258 = .ok (.iconst 0, 1) := by decide +kernel
theorem dX6_hear_259 : decode cX6_hear 259 = .ok (.invokevirtual 284, 3) := by decide +kernel
theorem dX6_hear_262 : decode cX6_hear 262 = .ok (.iload 9, 2) := by decide +kernel
theorem dX6_hear_264 : decode cX6_hear 264 = .ok (.iastore, 1) := by decide +kernel
theorem dX6_hear_265 : decode cX6_hear 265 = .ok (.aload_n 0, 1) := by decide +kernel
theorem dX6_hear_266 : decode cX6_hear 266 = .ok (.getfield 129, 3) := by decide +kernel
theorem dX6_hear_269 : decode cX6_hear 269 = .ok (.aload_n 0, 1) := by decide +kernel
theorem dX6_hear_270 : decode cX6_hear 270 = .ok (.iload 10, 2) := by decide +kernel
theorem dX6_hear_272 : decode cX6_hear 272 = .ok (.iconst 2, 1) := by decide +kernel
theorem dX6_hear_273 : decode cX6_hear 273 = .ok (.invokevirtual 284, 3) := by decide +kernel
theorem dX6_hear_276 : decode cX6_hear 276 = .ok (.iconst 0, 1) := by decide +kernel
theorem dX6_hear_277 : decode cX6_hear 277 = .ok (.iastore, 1) := by decide +kernel
theorem dX6_hear_278 : decode cX6_hear 278 = .ok (.aload_n 0, 1) := by decide +kernel
theorem dX6_hear_279 : decode cX6_hear 279 = .ok (.getfield 129, 3) := by decide +kernel
theorem dX6_hear_282 : decode cX6_hear 282 = .ok (.aload_n 0, 1) := by decide +kernel
theorem dX6_hear_283 : decode cX6_hear 283 = .ok (.iload 10, 2) := by decide +kernel
theorem dX6_hear_285 : decode cX6_hear 285 = .ok (.iconst 3, 1) := by decide +kernel
theorem dX6_hear_286 : decode cX6_hear 286 = .ok (.invokevirtual 284, 3) := by decide +kernel
theorem dX6_hear_289 : decode cX6_hear 289 = .ok (.iconst 0, 1) := by decide +kernel
theorem dX6_hear_290 : decode cX6_hear 290 = .ok (.iastore, 1) := by decide +kernel
theorem dX6_hear_291 : decode cX6_hear 291 = .ok (.iconst 0, 1) := by decide +kernel
theorem dX6_hear_292 : decode cX6_hear 292 = .ok (.istore 11, 2) := by decide +kernel
theorem dX6_hear_294 : decode cX6_hear 294 = .ok (.iload 11, 2) := by decide +kernel
theorem dX6_hear_296 : decode cX6_hear 296 = .ok (.bipush 112, 2) := by decide +kernel
theorem dX6_hear_298 : decode cX6_hear 298 = .ok (.if_icmp .ge 23, 3) := by decide +kernel
theorem dX6_hear_301 : decode cX6_hear 301 = .ok (.aload_n 0, 1) := by decide +kernel
theorem dX6_hear_302 : decode cX6_hear 302 = .ok (.getfield 136, 3) := by decide +kernel
theorem dX6_hear_305 : decode cX6_hear 305 = .ok (.iload 11, 2) := by decide +kernel
theorem dX6_hear_307 : decode cX6_hear 307 = .ok (.aload_n 0, 1) := by decide +kernel
theorem dX6_hear_308 : decode cX6_hear 308 = .ok (.getfield 133, 3) := by decide +kernel
theorem dX6_hear_311 : decode cX6_hear 311 = .ok (.iload 11, 2) := by decide +kernel
theorem dX6_hear_313 : decode cX6_hear 313 = .ok (.iaload, 1) := by decide +kernel
theorem dX6_hear_314 : decode cX6_hear 314 = .ok (.iastore, 1) := by decide +kernel
theorem dX6_hear_315 : decode cX6_hear 315 = .ok (.iinc 11 1, 3) := by decide +kernel
theorem dX6_hear_318 : decode cX6_hear 318 = .ok (.goto (-24), 3) := by decide +kernel
theorem dX6_hear_321 : decode cX6_hear 321 = .ok (.aload_n 0, 1) := by decide +kernel
theorem dX6_hear_322 : decode cX6_hear 322 = .ok (.aload_n 0, 1) := by decide +kernel
theorem dX6_hear_323 : decode cX6_hear 323 = .ok (.getfield 143, 3) := by decide +kernel
theorem dX6_hear_326 : decode cX6_hear 326 = .ok (.putfield 304, 3) := by decide +kernel
theorem dX6_hear_329 : decode cX6_hear 329 = .ok (.aload_n 0, 1) := by decide +kernel
theorem dX6_hear_330 : decode cX6_hear 330 = .ok (.iload 7, 2) := by decide +kernel
theorem dX6_hear_332 : decode cX6_hear 332 = .ok (.putfield 307, 3) := by decide +kernel
theorem dX6_hear_335 : decode cX6_hear 335 = .ok (.aload_n 0, 1) := by decide +kernel
theorem dX6_hear_336 : decode cX6_hear 336 = .ok (.iload 8, 2) := by decide +kernel
theorem dX6_hear_338 : decode cX6_hear 338 = .ok (.putfield 139, 3) := by decide +kernel
theorem dX6_hear_341 : decode cX6_hear 341 = .ok (.aload_n 0, 1) := by decide +kernel
theorem dX6_hear_342 : decode cX6_hear 342 = .ok (.getfield 129, 3) := by decide +kernel
theorem dX6_hear_345 : decode cX6_hear 345 = .ok (.aload_n 0, 1) := by decide +kernel
theorem dX6_hear_346 : decode cX6_hear 346 = .ok (.iload 10, 2) := by decide +kernel
theorem dX6_hear_348 : decode cX6_hear 348 = .ok (.iconst 1, 1) := by decide +kernel
theorem dX6_hear_349 : decode cX6_hear 349 = .ok (.invokevirtual 284, 3) := by decide +kernel
theorem dX6_hear_352 : decode cX6_hear 352 = .ok (.iload 5, 2) := by decide +kernel
theorem dX6_hear_354 : decode cX6_hear 354 = .ok (.iastore, 1) := by decide +kernel
theorem dX6_hear_355 : decode cX6_hear 355 = .ok (.aload_n 0, 1) := by decide +kernel
theorem dX6_hear_356 : decode cX6_hear 356 = .ok (.getfield 129, 3) := by decide +kernel
theorem dX6_hear_359 : decode cX6_hear 359 = .ok (.aload_n 0, 1) := by decide +kernel
theorem dX6_hear_360 : decode cX6_hear 360 = .ok (.iload 10, 2) := by decide +kernel
theorem dX6_hear_362 : decode cX6_hear 362 = .ok (.iconst 2, 1) := by decide +kernel
theorem dX6_hear_363 : decode cX6_hear 363 = .ok (.invokevirtual 284, 3) := by decide +kernel
theorem dX6_hear_366 : decode cX6_hear 366 = .ok (.dup2, 1) := by decide +kernel
theorem dX6_hear_367 : decode cX6_hear 367 = .ok (.iaload, 1) := by decide +kernel
theorem dX6_hear_368 : decode cX6_hear 368 = .ok (.iconst 1, 1) := by decide +kernel
theorem dX6_hear_369 : decode cX6_hear 369 = .ok (.iadd, 1) := by decide +kernel
theorem dX6_hear_370 : decode cX6_hear 370 = .ok (.iastore, 1) := by decide +kernel
theorem dX6_hear_371 : decode cX6_hear 371 = .ok (.aload_n 0, 1) := by decide +kernel
theorem dX6_hear_372 : decode cX6_hear 372 = .ok (.getfield 129, 3) := by decide +kernel
theorem dX6_hear_375 : decode cX6_hear 375 = .ok (.aload_n 0, 1) := by decide +kernel
theorem dX6_hear_376 : decode cX6_hear 376 = .ok (.iload 10, 2) := by decide +kernel
theorem dX6_hear_378 : decode cX6_hear 378 = .ok (.iconst 3, 1) := by decide +kernel
theorem dX6_hear_379 : decode cX6_hear 379 = .ok (.invokevirtual 284, 3) := by decide +kernel
theorem dX6_hear_382 : decode cX6_hear 382 = .ok (.dup2, 1) := by decide +kernel
theorem dX6_hear_383 : decode cX6_hear 383 = .ok (.iaload, 1) := by decide +kernel
theorem dX6_hear_384 : decode cX6_hear 384 = .ok (.iload 8, 2) := by decide +kernel
theorem dX6_hear_386 : decode cX6_hear 386 = .ok (.ifCond .ge 7, 3) := by decide +kernel
theorem dX6_hear_389 : decode cX6_hear 389 = .ok (.iconst 0, 1) := by decide +kernel
theorem dX6_hear_390 : decode cX6_hear 390 = .ok (.goto 4, 3) := by decide +kernel
theorem dX6_hear_393 : decode cX6_hear 393 = .ok (.iconst 1, 1) := by decide +kernel
theorem dX6_hear_394 : decode cX6_hear 394 = .ok (.iadd, 1) := by decide +kernel
theorem dX6_hear_395 : decode cX6_hear 395 = .ok (.iastore, 1) := by decide +kernel
theorem dX6_hear_396 : decode cX6_hear 396 = .ok (.iload 6, 2) := by decide +kernel
theorem dX6_hear_398 : decode cX6_hear 398 = .ok (.ifCond .eq 23, 3) := by decide +kernel
theorem dX6_hear_401 : decode cX6_hear 401 = .ok (.iload 6, 2) := by decide +kernel
theorem dX6_hear_403 : decode cX6_hear 403 = .ok (.iconst 4, 1) := by decide +kernel
theorem dX6_hear_404 : decode cX6_hear 404 = .ok (.if_icmp .eq 17, 3) := by decide +kernel
theorem dX6_hear_407 : decode cX6_hear 407 = .ok (.iload 6, 2) := by decide +kernel
theorem dX6_hear_409 : decode cX6_hear 409 = .ok (.bipush 16, 2) := by decide +kernel
theorem dX6_hear_411 : decode cX6_hear 411 = .ok (.if_icmp .eq 10, 3) := by decide +kernel
theorem dX6_hear_414 : decode cX6_hear 414 = .ok (.iload 6, 2) := by decide +kernel
theorem dX6_hear_416 : decode cX6_hear 416 = .ok (.bipush 20, 2) := by decide +kernel
theorem dX6_hear_418 : decode cX6_hear 418 = .ok (.if_icmp .ne 31, 3) := by decide +kernel
theorem dX6_hear_421 : decode cX6_hear 421 = .ok (.aload_n 0, 1) := by decide +kernel
theorem dX6_hear_422 : decode cX6_hear 422 = .ok (.getfield 129, 3) := by decide +kernel
theorem dX6_hear_425 : decode cX6_hear 425 = .ok (.aload_n 0, 1) := by decide +kernel
theorem dX6_hear_426 : decode cX6_hear 426 = .ok (.iload 10, 2) := by decide +kernel
theorem dX6_hear_428 : decode cX6_hear 428 = .ok (.iconst 4, 1) := by decide +kernel
theorem dX6_hear_429 : decode cX6_hear 429 = .ok (.invokevirtual 284, 3) := by decide +kernel
theorem dX6_hear_432 : decode cX6_hear 432 = .ok (.aload_n 0, 1) := by decide +kernel
theorem dX6_hear_433 : decode cX6_hear 433 = .ok (.aload_n 0, 1) := by decide +kernel
theorem dX6_hear_434 : decode cX6_hear 434 = .ok (.aload_n 0, 1) := by decide +kernel
theorem dX6_hear_435 : decode cX6_hear 435 = .ok (.getfield 133, 3) := by decide +kernel
theorem dX6_hear_438 : decode cX6_hear 438 = .ok (.bipush 20, 2) := by decide +kernel
theorem dX6_hear_440 : decode cX6_hear 440 = .ok (.bipush 32, 2) := by decide +kernel
theorem dX6_hear_442 : decode cX6_hear 442 = .ok (.invokevirtual 156, 3) := by decide +kernel
theorem dX6_hear_445 : decode cX6_hear 445 = .ok (.invokevirtual 310, 3) := by decide +kernel
theorem dX6_hear_448 : decode cX6_hear 448 = .ok (.iastore, 1) := by decide +kernel
theorem dX6_hear_449 : decode cX6_hear 449 = .ok (.iload 6, 2) := by decide +kernel
theorem dX6_hear_451 : decode cX6_hear 451 = .ok (.iconst 5, 1) := by decide +kernel
theorem dX6_hear_452 : decode cX6_hear 452 = .ok (.if_icmp .eq 10, 3) := by decide +kernel
theorem dX6_hear_455 : decode cX6_hear 455 = .ok (.iload 6, 2) := by decide +kernel
theorem dX6_hear_457 : decode cX6_hear 457 = .ok (.bipush 21, 2) := by decide +kernel
theorem dX6_hear_459 : decode cX6_hear 459 = .ok (.if_icmp .ne 31, 3) := by decide +kernel
theorem dX6_hear_462 : decode cX6_hear 462 = .ok (.aload_n 0, 1) := by decide +kernel
theorem dX6_hear_463 : decode cX6_hear 463 = .ok (.getfield 129, 3) := by decide +kernel
theorem dX6_hear_466 : decode cX6_hear 466 = .ok (.aload_n 0, 1) := by decide +kernel
theorem dX6_hear_467 : decode cX6_hear 467 = .ok (.iload 10, 2) := by decide +kernel
theorem dX6_hear_469 : decode cX6_hear 469 = .ok (.iconst 5, 1) := by decide +kernel
theorem dX6_hear_470 : decode cX6_hear 470 = .ok (.invokevirtual 284, 3) := by decide +kernel
theorem dX6_hear_473 : decode cX6_hear 473 = .ok (.aload_n 0, 1) := by decide +kernel
theorem dX6_hear_474 : decode cX6_hear 474 = .ok (.aload_n 0, 1) := by decide +kernel
theorem dX6_hear_475 : decode cX6_hear 475 = .ok (.aload_n 0, 1) := by decide +kernel
theorem dX6_hear_476 : decode cX6_hear 476 = .ok (.getfield 133, 3) := by decide +kernel
theorem dX6_hear_479 : decode cX6_hear 479 = .ok (.bipush 20, 2) := by decide +kernel
theorem dX6_hear_481 : decode cX6_hear 481 = .ok (.bipush 32, 2) := by decide +kernel
theorem dX6_hear_483 : decode cX6_hear 483 = .ok (.invokevirtual 156, 3) := by decide +kernel
theorem dX6_hear_486 : decode cX6_hear 486 = .ok (.invokevirtual 313, 3) := by decide +kernel
theorem dX6_hear_489 : decode cX6_hear 489 = .ok (.iastore, 1) := by decide +kernel
theorem dX6_hear_490 : decode cX6_hear 490 = .ok (.iload 6, 2) := by decide +kernel
theorem dX6_hear_492 : decode cX6_hear 492 = .ok (.bipush 17, 2) := by decide +kernel
theorem dX6_hear_494 : decode cX6_hear 494 = .ok (.if_icmp .eq 10, 3) := by decide +kernel
theorem dX6_hear_497 : decode cX6_hear 497 = .ok (.iload 6, 2) := by decide +kernel
theorem dX6_hear_499 : decode cX6_hear 499 = .ok (.bipush 18, 2) := by decide +kernel
theorem dX6_hear_501 : decode cX6_hear 501 = .ok (.if_icmp .ne 11, 3) := by decide +kernel
theorem dX6_hear_504 : decode cX6_hear 504 = .ok (.aload_n 0, 1) := by decide +kernel
theorem dX6_hear_505 : decode cX6_hear 505 = .ok (.iload 10, 2) := by decide +kernel
theorem dX6_hear_507 : decode cX6_hear 507 = .ok (.iload 5, 2) := by decide +kernel
theorem dX6_hear_509 : decode cX6_hear 509 = .ok (.invokevirtual 316, 3) := by decide +kernel
theorem dX6_hear_512 : decode cX6_hear 512 = .ok (.iload 8, 2) := by decide +kernel
theorem dX6_hear_514 : decode cX6_hear 514 = .ok (.ifCond .ge 7, 3) := by decide +kernel
theorem dX6_hear_517 : decode cX6_hear 517 = .ok (.iconst 0, 1) := by decide +kernel
theorem dX6_hear_518 : decode cX6_hear 518 = .ok (.goto 4, 3) := by decide +kernel
theorem dX6_hear_521 : decode cX6_hear 521 = .ok (.iconst 1, 1) := by decide +kernel
theorem dX6_hear_522 : decode cX6_hear 522 = .ok (.ireturn, 1) := by decide +kernel
theorem dX6_tells_0 : decode cX6_tells 0 = .ok (.aload_n 0, 1) := by decide +kernel
theorem dX6_tells_1 : decode cX6_tells 1 = .ok (.iconst 1, 1) := by decide +kernel
theorem dX6_tells_2 : decode cX6_tells 2 = .ok (.iconst 5, 1) := by decide +kernel
theorem dX6_tells_3 : decode cX6_tells 3 = .ok (.invokevirtual 320, 3) := by decide +kernel
theorem dX6_tells_6 : decode cX6_tells 6 = .ok (.istore_n 3, 1) := by decide +kernel
theorem dX6_tells_7 : decode cX6_tells 7 = .ok (.aload_n 0, 1) := by decide +kernel
theorem dX6_tells_8 : decode cX6_tells 8 = .ok (.bipush 6, 2) := by decide +kernel
theorem dX6_tells_10 : decode cX6_tells 10 = .ok (.bipush 8, 2) := by decide +kernel
theorem dX6_tells_12 : decode cX6_tells 12 = .ok (.invokevirtual 320, 3) := by decide +kernel
theorem dX6_tells_15 : decode cX6_tells 15 = .ok (.istore 4, 2) := by decide +kernel
theorem dX6_tells_17 : decode cX6_tells 17 = .ok (.iload_n 3, 1) := by decide +kernel
theorem dX6_tells_18 : decode cX6_tells 18 = .ok (.iconst 1, 1) := by decide +kernel
theorem dX6_tells_19 : decode cX6_tells 19 = .ok (.if_icmp .lt 147, 3) := by decide +kernel
theorem dX6_tells_22 : decode cX6_tells 22 = .ok (.iload_n 3, 1) := by decide +kernel
theorem dX6_tells_23 : decode cX6_tells 23 = .ok (.iconst 4, 1) := by decide +kernel
theorem dX6_tells_24 : decode cX6_tells 24 = .ok (.if_icmp .gt 142, 3) := by decide +kernel
theorem dX6_tells_27 : decode cX6_tells 27 = .ok (.aload_n 0, 1) := by decide +kernel
theorem dX6_tells_28 : decode cX6_tells 28 = .ok (.getfield 129, 3) := by decide +kernel
theorem dX6_tells_31 : decode cX6_tells 31 = .ok (.aload_n 0, 1) := by decide +kernel
theorem dX6_tells_32 : decode cX6_tells 32 = .ok (.iload_n 1, 1) := by decide +kernel
theorem dX6_tells_33 : decode cX6_tells 33 = .ok (.bipush 6, 2) := by decide +kernel
theorem dX6_tells_35 : decode cX6_tells 35 = .ok (.invokevirtual 284, 3) := by decide +kernel
theorem dX6_tells_38 : decode cX6_tells 38 = .ok (.bipush 10, 2) := by decide +kernel
theorem dX6_tells_40 : decode cX6_tells 40 = .ok (.iconst 5, 1) := by decide +kernel
theorem dX6_tells_41 : decode cX6_tells 41 = .ok (.iload_n 3, 1) := by decide +kernel
theorem dX6_tells_42 : decode cX6_tells 42 = .ok (.isub, 1) := by decide +kernel
theorem dX6_tells_43 : decode cX6_tells 43 = .ok (.imul, 1) := by decide +kernel
theorem dX6_tells_44 : decode cX6_tells 44 = .ok (.iload 4, 2) := by decide +kernel
theorem dX6_tells_46 : decode cX6_tells 46 = .ok (.iadd, 1) := by decide +kernel
theorem dX6_tells_47 : decode cX6_tells 47 = .ok (.iastore, 1) := by decide +kernel
theorem dX6_tells_48 : decode cX6_tells 48 = .ok (.aload_n 0, 1) := by decide +kernel
theorem dX6_tells_49 : decode cX6_tells 49 = .ok (.getfield 129, 3) := by decide +kernel
theorem dX6_tells_52 : decode cX6_tells 52 = .ok (.aload_n 0, 1) := by decide +kernel
theorem dX6_tells_53 : decode cX6_tells 53 = .ok (.iload_n 1, 1) := by decide +kernel
theorem dX6_tells_54 : decode cX6_tells 54 = .ok (.bipush 18, 2) := by decide +kernel
theorem dX6_tells_56 : decode cX6_tells 56 = .ok (.invokevirtual 284, 3) := by decide +kernel
theorem dX6_tells_59 : decode cX6_tells 59 = .ok (.iconst 1, 1) := by decide +kernel
theorem dX6_tells_60 : decode cX6_tells 60 = .ok (.iastore, 1) := by decide +kernel
theorem dX6_tells_61 : decode cX6_tells 61 = .ok (.iconst 0, 1) := by decide +kernel
theorem dX6_tells_62 : decode cX6_tells 62 = .ok (.istore 5, 2) := by decide +kernel
theorem dX6_tells_64 : decode cX6_tells 64 = .ok (.iload 5, 2) := by decide +kernel
theorem dX6_tells_66 : decode cX6_tells 66 = .ok (.bipush 8, 2) := by decide +kernel
theorem dX6_tells_68 : decode cX6_tells 68 = .ok (.if_icmp .ge 95, 3) := by decide +kernel
theorem dX6_tells_71 : decode cX6_tells 71 = .ok (.aload_n 0, 1) := by decide +kernel
theorem dX6_tells_72 : decode cX6_tells 72 = .ok (.bipush 9, 2) := by decide +kernel
theorem dX6_tells_74 : decode cX6_tells 74 = .ok (.bipush 6, 2) := by decide +kernel
theorem dX6_tells_76 : decode cX6_tells 76 = .ok (.iload 5, 2) := by decide +kernel
theorem dX6_tells_78 : decode cX6_tells 78 = .ok (.imul, 1) := by decide +kernel
theorem dX6_tells_79 : decode cX6_tells 79 = .ok (.iadd, 1) := by decide +kernel
theorem dX6_tells_80 : decode cX6_tells 80 = .ok (.bipush 14, 2) := by decide +kernel
theorem dX6_tells_82 : decode cX6_tells 82 = .ok (.bipush 6, 2) := by decide +kernel
theorem dX6_tells_84 : decode cX6_tells 84 = .ok (.iload 5, 2) := by decide +kernel
theorem dX6_tells_86 : decode cX6_tells 86 = .ok (.imul, 1) := by decide +kernel
theorem dX6_tells_87 : decode cX6_tells 87 = .ok (.iadd, 1) := by decide +kernel
theorem dX6_tells_88 : decode cX6_tells 88 = .ok (.invokevirtual 320, 3) := by decide +kernel
theorem dX6_tells_91 : decode cX6_tells 91 = .ok (.istore 6, 2) := by decide +kernel
theorem dX6_tells_93 : decode cX6_tells 93 = .ok (.aload_n 0, 1) := by decide +kernel
theorem dX6_tells_94 : decode cX6_tells 94 = .ok (.getfield 129, 3) := by decide +kernel
theorem dX6_tells_97 : decode cX6_tells 97 = .ok (.aload_n 0, 1) := by decide +kernel
theorem dX6_tells_98 : decode cX6_tells 98 = .ok (.iload_n 1, 1) := by decide +kernel
theorem dX6_tells_99 : decode cX6_tells 99 = .ok (.bipush 19, 2) := by decide +kernel
theorem dX6_tells_101 : decode cX6_tells 101 = .ok (.iload 5, 2) := by decide +kernel
theorem dX6_tells_103 : decode cX6_tells 103 = .ok (.iadd, 1) := by decide +kernel
theorem dX6_tells_104 : decode cX6_tells 104 = .ok (.invokevirtual 284, 3) := by decide +kernel
theorem dX6_tells_107 : decode cX6_tells 107 = .ok (.iload 6, 2) := by decide +kernel
theorem dX6_tells_109 : decode cX6_tells 109 = .ok (.iconst 1, 1) := by decide +kernel
theorem dX6_tells_110 : decode cX6_tells 110 = .ok (.if_icmp .lt 18, 3) := by decide +kernel
theorem dX6_tells_113 : decode cX6_tells 113 = .ok (.iload 6, 2) := by decide +kernel
theorem dX6_tells_115 : decode cX6_tells 115 = .ok (.bipush 26, 2) := by decide +kernel
theorem dX6_tells_117 : decode cX6_tells 117 = .ok (.if_icmp .gt 11, 3) := by decide +kernel
theorem dX6_tells_120 : decode cX6_tells 120 = .ok (.bipush 64, 2) := by decide +kernel
theorem dX6_tells_122 : decode cX6_tells 122 = .ok (.iload 6, 2) := by decide +kernel
theorem dX6_tells_124 : decode cX6_tells 124 = .ok (.iadd, 1) := by decide +kernel
theorem dX6_tells_125 : decode cX6_tells 125 = .ok (.goto 31, 3) := by decide +kernel
theorem dX6_tells_128 : decode cX6_tells 128 = .ok (.iload 6, 2) := by decide +kernel
theorem dX6_tells_130 : decode cX6_tells 130 = .ok (.bipush 32, 2) := by decide +kernel
theorem dX6_tells_132 : decode cX6_tells 132 = .ok (.if_icmp .eq 17, 3) := by decide +kernel
theorem dX6_tells_135 : decode cX6_tells 135 = .ok (.iload 6, 2) := by decide +kernel
theorem dX6_tells_137 : decode cX6_tells 137 = .ok (.bipush 48, 2) := by decide +kernel
theorem dX6_tells_139 : decode cX6_tells 139 = .ok (.if_icmp .lt 15, 3) := by decide +kernel
theorem dX6_tells_142 : decode cX6_tells 142 = .ok (.iload 6, 2) := by decide +kernel
theorem dX6_tells_144 : decode cX6_tells 144 = .ok (.bipush 57, 2) := by decide +kernel
theorem dX6_tells_146 : decode cX6_tells 146 = .ok (.if_icmp .gt 8, 3) := by decide +kernel
theorem dX6_tells_149 : decode cX6_tells 149 = .ok (.iload 6, 2) := by decide +kernel
theorem dX6_tells_151 : decode cX6_tells 151 = .ok (.goto 5, 3) := by decide +kernel
theorem dX6_tells_154 : decode cX6_tells 154 = .ok (.bipush 63, 2) := by decide +kernel
theorem dX6_tells_156 : decode cX6_tells 156 = .ok (.iastore, 1) := by decide +kernel
theorem dX6_tells_157 : decode cX6_tells 157 = .ok (.iinc 5 1, 3) := by decide +kernel
theorem dX6_tells_160 : decode cX6_tells 160 = .ok (.goto (-96), 3) := by decide +kernel
theorem dX6_tells_163 : decode cX6_tells 163 = .ok (.goto 328, 3) := by decide +kernel
theorem dX6_tells_166 : decode cX6_tells 166 = .ok (.iload_n 3, 1) := by decide +kernel
theorem dX6_tells_167 : decode cX6_tells 167 = .ok (.iconst 5, 1) := by decide +kernel
theorem dX6_tells_168 : decode cX6_tells 168 = .ok (.if_icmp .lt 125, 3) := by decide +kernel
theorem dX6_tells_171 : decode cX6_tells 171 = .ok (.iload_n 3, 1) := by decide +kernel
theorem dX6_tells_172 : decode cX6_tells 172 = .ok (.bipush 8, 2) := by decide +kernel
theorem dX6_tells_174 : decode cX6_tells 174 = .ok (.if_icmp .gt 119, 3) := by decide +kernel
theorem dX6_tells_177 : decode cX6_tells 177 = .ok (.aload_n 0, 1) := by decide +kernel
theorem dX6_tells_178 : decode cX6_tells 178 = .ok (.getfield 129, 3) := by decide +kernel
theorem dX6_tells_181 : decode cX6_tells 181 = .ok (.aload_n 0, 1) := by decide +kernel
theorem dX6_tells_182 : decode cX6_tells 182 = .ok (.iload_n 1, 1) := by decide +kernel
theorem dX6_tells_183 : decode cX6_tells 183 = .ok (.bipush 9, 2) := by decide +kernel
theorem dX6_tells_185 : decode cX6_tells 185 = .ok (.invokevirtual 284, 3) := by decide +kernel
theorem dX6_tells_188 : decode cX6_tells 188 = .ok (.aload_n 0, 1) := by decide +kernel
theorem dX6_tells_189 : decode cX6_tells 189 = .ok (.aload_n 0, 1) := by decide +kernel
theorem dX6_tells_190 : decode cX6_tells 190 = .ok (.bipush 6, 2) := by decide +kernel
theorem dX6_tells_192 : decode cX6_tells 192 = .ok (.bipush 12, 2) := by decide +kernel
theorem dX6_tells_194 : decode cX6_tells 194 = .ok (.invokevirtual 320, 3) := by decide +kernel
theorem dX6_tells_197 : decode cX6_tells 197 = .ok (.invokevirtual 323, 3) := by decide +kernel
theorem dX6_tells_200 : decode cX6_tells 200 = .ok (.iastore, 1) := by decide +kernel
theorem dX6_tells_201 : decode cX6_tells 201 = .ok (.aload_n 0, 1) := by decide +kernel
theorem dX6_tells_202 : decode cX6_tells 202 = .ok (.getfield 129, 3) := by decide +kernel
theorem dX6_tells_205 : decode cX6_tells 205 = .ok (.aload_n 0, 1) := by decide +kernel
theorem dX6_tells_206 : decode cX6_tells 206 = .ok (.iload_n 1, 1) := by decide +kernel
theorem dX6_tells_207 : decode cX6_tells 207 = .ok (.bipush 10, 2) := by decide +kernel
theorem dX6_tells_209 : decode cX6_tells 209 = .ok (.invokevirtual 284, 3) := by decide +kernel
theorem dX6_tells_212 : decode cX6_tells 212 = .ok (.aload_n 0, 1) := by decide +kernel
theorem dX6_tells_213 : decode cX6_tells 213 = .ok (.bipush 13, 2) := by decide +kernel
theorem dX6_tells_215 : decode cX6_tells 215 = .ok (.bipush 13, 2) := by decide +kernel
theorem dX6_tells_217 : decode cX6_tells 217 = .ok (.invokevirtual 320, 3) := by decide +kernel
theorem dX6_tells_220 : decode cX6_tells 220 = .ok (.ifCond .ne 8, 3) := by decide +kernel
theorem dX6_tells_223 : decode cX6_tells 223 = .ok (.ldc 171, 2) := by decide +kernel
theorem dX6_tells_225 : decode cX6_tells 225 = .ok (.goto 19, 3) := by decide +kernel
theorem dX6_tells_228 : decode cX6_tells 228 = .ok (.ldc_w 326, 3) := by decide +kernel
theorem dX6_tells_231 : decode cX6_tells 231 = .ok (.aload_n 0, 1) := by decide +kernel
theorem dX6_tells_232 : decode cX6_tells 232 = .ok (.bipush 14, 2) := by decide +kernel
theorem dX6_tells_234 : decode cX6_tells 234 = .ok (.bipush 20, 2) := by decide +kernel
theorem dX6_tells_236 : decode cX6_tells 236 = .ok (.invokevirtual 320, 3) := by decide +kernel
theorem dX6_tells_239 : decode cX6_tells 239 = .ok (.imul, 1) := by decide +kernel
theorem dX6_tells_240 : decode cX6_tells 240 = .ok (.sipush 128, 3) := by decide +kernel
theorem dX6_tells_243 : decode cX6_tells 243 = .ok (.idiv, 1) := by decide +kernel
theorem dX6_tells_244 : decode cX6_tells 244 = .ok (.iastore, 1) := by decide +kernel
theorem dX6_tells_245 : decode cX6_tells 245 = .ok (.aload_n 0, 1) := by decide +kernel
theorem dX6_tells_246 : decode cX6_tells 246 = .ok (.getfield 129, 3) := by decide +kernel
theorem dX6_tells_249 : decode cX6_tells 249 = .ok (.aload_n 0, 1) := by decide +kernel
theorem dX6_tells_250 : decode cX6_tells 250 = .ok (.iload_n 1, 1) := by decide +kernel
theorem dX6_tells_251 : decode cX6_tells 251 = .ok (.bipush 14, 2) := by decide +kernel
theorem dX6_tells_253 : decode cX6_tells 253 = .ok (.invokevirtual 284, 3) := by decide +kernel
theorem dX6_tells_256 : decode cX6_tells 256 = .ok (.iconst 1, 1) := by decide +kernel
theorem dX6_tells_257 : decode cX6_tells 257 = .ok (.iastore, 1) := by decide +kernel
theorem dX6_tells_258 : decode cX6_tells 258 = .ok (.aload_n 0, 1) := by decide +kernel
theorem dX6_tells_259 : decode cX6_tells 259 = .ok (.getfield 129, 3) := by decide +kernel
theorem dX6_tells_262 : decode cX6_tells 262 = .ok (.aload_n 0, 1) := by decide +kernel
theorem dX6_tells_263 : decode cX6_tells 263 = .ok (.iload_n 1, 1) := by decide +kernel
theorem dX6_tells_264 : decode cX6_tells 264 = .ok (.bipush 27, 2) := by decide +kernel
theorem dX6_tells_266 : decode cX6_tells 266 = .ok (.invokevirtual 284, 3) := by decide +kernel
theorem dX6_tells_269 : decode cX6_tells 269 = .ok (.iconst 0, 1) := by decide +kernel
theorem dX6_tells_270 : decode cX6_tells 270 = .ok (.iastore, 1) := by decide +kernel
theorem dX6_tells_271 : decode cX6_tells 271 = .ok (.aload_n 0, 1) := by decide +kernel
theorem dX6_tells_272 : decode cX6_tells 272 = .ok (.getfield 129, 3) := by decide +kernel
theorem dX6_tells_275 : decode cX6_tells 275 = .ok (.aload_n 0, 1) := by decide +kernel
theorem dX6_tells_276 : decode cX6_tells 276 = .ok (.iload_n 1, 1) := by decide +kernel
theorem dX6_tells_277 : decode cX6_tells 277 = .ok (.bipush 31, 2) := by decide +kernel
theorem dX6_tells_279 : decode cX6_tells 279 = .ok (.invokevirtual 284, 3) := by decide +kernel
theorem dX6_tells_282 : decode cX6_tells 282 = .ok (.iconst 0, 1) := by decide +kernel
theorem dX6_tells_283 : decode cX6_tells 283 = .ok (.iastore, 1) := by decide +kernel
theorem dX6_tells_284 : decode cX6_tells 284 = .ok (.aload_n 0, 1) := by decide +kernel
theorem dX6_tells_285 : decode cX6_tells 285 = .ok (.iload_n 1, 1) := by decide +kernel
theorem dX6_tells_286 : decode cX6_tells 286 = .ok (.iload_n 2, 1) := by decide +kernel
theorem dX6_tells_287 : decode cX6_tells 287 = .ok (.invokevirtual 327, 3) := by decide +kernel
theorem dX6_tells_290 : decode cX6_tells 290 = .ok (.goto 201, 3) := by decide +kernel
theorem dX6_tells_293 : decode cX6_tells 293 = .ok (.iload_n 3, 1) := by decide +kernel
theorem dX6_tells_294 : decode cX6_tells 294 = .ok (.bipush 9, 2) := by decide +kernel
theorem dX6_tells_296 : decode cX6_tells 296 = .ok (.if_icmp .lt 83, 3) := by decide +kernel
theorem dX6_tells_299 : decode cX6_tells 299 = .ok (.iload_n 3, 1) := by decide +kernel
theorem dX6_tells_300 : decode cX6_tells 300 = .ok (.bipush 22, 2) := by decide +kernel
theorem dX6_tells_302 : decode cX6_tells 302 = .ok (.if_icmp .gt 77, 3) := by decide +kernel
theorem dX6_tells_305 : decode cX6_tells 305 = .ok (.iload_n 3, 1) := by decide +kernel
theorem dX6_tells_306 : decode cX6_tells 306 = .ok (.bipush 19, 2) := by decide +kernel
theorem dX6_tells_308 : decode cX6_tells 308 = .ok (.if_icmp .eq 71, 3) := by decide +kernel
theorem dX6_tells_311 : decode cX6_tells 311 = .ok (.iload_n 3, 1) := by decide +kernel
theorem dX6_tells_312 : decode cX6_tells 312 = .ok (.bipush 19, 2) := by decide +kernel
theorem dX6_tells_314 : decode cX6_tells 314 = .ok (.if_icmp .ge 43, 3) := by decide +kernel
theorem dX6_tells_317 : decode cX6_tells 317 = .ok (.aload_n 0, 1) := by decide +kernel
theorem dX6_tells_318 : decode cX6_tells 318 = .ok (.bipush 9, 2) := by decide +kernel
theorem dX6_tells_320 : decode cX6_tells 320 = .ok (.bipush 20, 2) := by decide +kernel
theorem dX6_tells_322 : decode cX6_tells 322 = .ok (.invokevirtual 320, 3) := by decide +kernel
theorem dX6_tells_325 : decode cX6_tells 325 = .ok (.istore 5, 2) := by decide +kernel
theorem dX6_tells_327 : decode cX6_tells 327 = .ok (.aload_n 0, 1) := by decide +kernel
theorem dX6_tells_328 : decode cX6_tells 328 = .ok (.getfield 129, 3) := by decide +kernel
theorem dX6_tells_331 : decode cX6_tells 331 = .ok (.aload_n 0, 1) := by decide +kernel
theorem dX6_tells_332 : decode cX6_tells 332 = .ok (.iload_n 1, 1) := by decide +kernel
theorem dX6_tells_333 : decode cX6_tells 333 = .ok (.iconst 4, 1) := by decide +kernel
theorem dX6_tells_334 : decode cX6_tells 334 = .ok (.invokevirtual 284, 3) := by decide +kernel
theorem dX6_tells_337 : decode cX6_tells 337 = .ok (.aload_n 0, 1) := by decide +kernel
theorem dX6_tells_338 : decode cX6_tells 338 = .ok (.iload 5, 2) := by decide +kernel
theorem dX6_tells_340 : decode cX6_tells 340 = .ok (.bipush 6, 2) := by decide +kernel
theorem dX6_tells_342 : decode cX6_tells 342 = .ok (.ishr, 1) := by decide +kernel
theorem dX6_tells_343 : decode cX6_tells 343 = .ok (.sipush 128, 3) := by decide +kernel
theorem dX6_tells_346 : decode cX6_tells 346 = .ok (.imul, 1) := by decide +kernel
theorem dX6_tells_347 : decode cX6_tells 347 = .ok (.iload 5, 2) := by decide +kernel
theorem dX6_tells_349 : decode cX6_tells 349 = .ok (.bipush 64, 2) := by decide +kernel
theorem dX6_tells_351 : decode cX6_tells 351 = .ok (.irem, 1) := by decide +kernel
theorem dX6_tells_352 : decode cX6_tells 352 = .ok (.iadd, 1) := by decide +kernel
theorem dX6_tells_353 : decode cX6_tells 353 = .ok (.invokevirtual 310, 3) := by decide +kernel
theorem dX6_tells_356 : decode cX6_tells 356 = .ok (.iastore, 1) := by decide +kernel
theorem dX6_tells_357 : decode cX6_tells 357 = .ok (.aload_n 0, 1) := by decide +kernel
theorem dX6_tells_358 : decode cX6_tells 358 = .ok (.getfield 129, 3) := by decide +kernel
theorem dX6_tells_361 : decode cX6_tells 361 = .ok (.aload_n 0, 1) := by decide +kernel
theorem dX6_tells_362 : decode cX6_tells 362 = .ok (.iload_n 1, 1) := by decide +kernel
theorem dX6_tells_363 : decode cX6_tells 363 = .ok (.bipush 14, 2) := by decide +kernel
theorem dX6_tells_365 : decode cX6_tells 365 = .ok (.invokevirtual 284, 3) := by decide +kernel
theorem dX6_tells_368 : decode cX6_tells 368 = .ok (.iconst 0, 1) := by decide +kernel
theorem dX6_tells_369 : decode cX6_tells 369 = .ok (.iastore, 1) := by decide +kernel
theorem dX6_tells_370 : decode cX6_tells 370 = .ok (.aload_n 0, 1) := by decide +kernel
theorem dX6_tells_371 : decode cX6_tells 371 = .ok (.iload_n 1, 1) := by decide +kernel
theorem dX6_tells_372 : decode cX6_tells 372 = .ok (.iload_n 2, 1) := by decide +kernel
theorem dX6_tells_373 : decode cX6_tells 373 = .ok (.invokevirtual 330, 3) := by decide +kernel
theorem dX6_tells_376 : decode cX6_tells 376 = .ok (.goto 115, 3) := by decide +kernel
theorem dX6_tells_379 : decode cX6_tells 379 = .ok (.iload_n 3, 1) := by decide +kernel
theorem dX6_tells_380 : decode cX6_tells 380 = .ok (.bipush 19, 2) := by decide +kernel
theorem dX6_tells_382 : decode cX6_tells 382 = .ok (.if_icmp .ne 25, 3) := by decide +kernel
theorem dX6_tells_385 : decode cX6_tells 385 = .ok (.iload 4, 2) := by decide +kernel
theorem dX6_tells_387 : decode cX6_tells 387 = .ok (.iconst 1, 1) := by decide +kernel
theorem dX6_tells_388 : decode cX6_tells 388 = .ok (.if_icmp .lt 19, 3) := by decide +kernel
theorem dX6_tells_391 : decode cX6_tells 391 = .ok (.iload 4, 2) := by decide +kernel
theorem dX6_tells_393 : decode cX6_tells 393 = .ok (.iconst 4, 1) := by decide +kernel
theorem dX6_tells_394 : decode cX6_tells 394 = .ok (.if_icmp .gt 13, 3) := by decide +kernel
theorem dX6_tells_397 : decode cX6_tells 397 = .ok (.aload_n 0, 1) := by decide +kernel
theorem dX6_tells_398 : decode cX6_tells 398 = .ok (.iload_n 1, 1) := by decide +kernel
theorem dX6_tells_399 : decode cX6_tells 399 = .ok (.iload 4, 2) := by decide +kernel
theorem dX6_tells_401 : decode cX6_tells 401 = .ok (.invokevirtual 333, 3) := by decide +kernel
theorem dX6_tells_404 : decode cX6_tells 404 = .ok (.goto 87, 3) := by decide +kernel
theorem dX6_tells_407 : decode cX6_tells 407 = .ok (.iload_n 3, 1) := by decide +kernel
theorem dX6_tells_408 : decode cX6_tells 408 = .ok (.bipush 28, 2) := by decide +kernel
theorem dX6_tells_410 : decode cX6_tells 410 = .ok (.if_icmp .ne 55, 3) := by decide +kernel
theorem dX6_tells_413 : decode cX6_tells 413 = .ok (.iload 4, 2) := by decide +kernel
theorem dX6_tells_415 : decode cX6_tells 415 = .ok (.iconst 1, 1) := by decide +kernel
theorem dX6_tells_416 : decode cX6_tells 416 = .ok (.if_icmp .ne 49, 3) := by decide +kernel
theorem dX6_tells_419 : decode cX6_tells 419 = .ok (.aload_n 0, 1) := by decide +kernel
theorem dX6_tells_420 : decode cX6_tells 420 = .ok (.getfield 129, 3) := by decide +kernel
theorem dX6_tells_423 : decode cX6_tells 423 = .ok (.aload_n 0, 1) := by decide +kernel
theorem dX6_tells_424 : decode cX6_tells 424 = .ok (.iload_n 1, 1) := by decide +kernel
theorem dX6_tells_425 : decode cX6_tells 425 = .ok (.bipush 12, 2) := by decide +kernel
theorem dX6_tells_427 : decode cX6_tells 427 = .ok (.invokevirtual 284, 3) := by decide +kernel
theorem dX6_tells_430 : decode cX6_tells 430 = .ok (.aload_n 0, 1) := by decide +kernel
theorem dX6_tells_431 : decode cX6_tells 431 = .ok (.bipush 9, 2) := by decide +kernel
theorem dX6_tells_433 : decode cX6_tells 433 = .ok (.bipush 11, 2) := by decide +kernel
theorem dX6_tells_435 : decode cX6_tells 435 = .ok (.invokevirtual 320, 3) := by decide +kernel
theorem dX6_tells_438 : decode cX6_tells 438 = .ok (.iastore, 1) := by decide +kernel
theorem dX6_tells_439 : decode cX6_tells 439 = .ok (.aload_n 0, 1) := by decide +kernel
theorem dX6_tells_440 : decode cX6_tells 440 = .ok (.getfield 129, 3) := by decide +kernel
theorem dX6_tells_443 : decode cX6_tells 443 = .ok (.aload_n 0, 1) := by decide +kernel
theorem dX6_tells_444 : decode cX6_tells 444 = .ok (.iload_n 1, 1) := by decide +kernel
theorem dX6_tells_445 : decode cX6_tells 445 = .ok (.iconst 5, 1) := by decide +kernel
theorem dX6_tells_446 : decode cX6_tells 446 = .ok (.invokevirtual 284, 3) := by decide +kernel
theorem dX6_tells_449 : decode cX6_tells 449 = .ok (.aload_n 0, 1) := by decide +kernel
theorem dX6_tells_450 : decode cX6_tells 450 = .ok (.aload_n 0, 1) := by decide +kernel
theorem dX6_tells_451 : decode cX6_tells 451 = .ok (.bipush 12, 2) := by decide +kernel
theorem dX6_tells_453 : decode cX6_tells 453 = .ok (.bipush 24, 2) := by decide +kernel
theorem dX6_tells_455 : decode cX6_tells 455 = .ok (.invokevirtual 320, 3) := by decide +kernel
theorem dX6_tells_458 : decode cX6_tells 458 = .ok (.invokevirtual 313, 3) := by decide +kernel
theorem dX6_tells_461 : decode cX6_tells 461 = .ok (.iastore, 1) := by decide +kernel
theorem dX6_tells_462 : decode cX6_tells 462 = .ok (.goto 29, 3) := by decide +kernel
theorem dX6_tells_465 : decode cX6_tells 465 = .ok (.iload_n 3, 1) := by decide +kernel
theorem dX6_tells_466 : decode cX6_tells 466 = .ok (.bipush 31, 2) := by decide +kernel
theorem dX6_tells_468 : decode cX6_tells 468 = .ok (.if_icmp .ne 23, 3) := by decide +kernel
theorem dX6_tells_471 : decode cX6_tells 471 = .ok (.aload_n 0, 1) := by decide +kernel
theorem dX6_tells_472 : decode cX6_tells 472 = .ok (.getfield 129, 3) := by decide +kernel
theorem dX6_tells_475 : decode cX6_tells 475 = .ok (.aload_n 0, 1) := by decide +kernel
theorem dX6_tells_476 : decode cX6_tells 476 = .ok (.iload_n 1, 1) := by decide +kernel
theorem dX6_tells_477 : decode cX6_tells 477 = .ok (.bipush 13, 2) := by decide +kernel
theorem dX6_tells_479 : decode cX6_tells 479 = .ok (.invokevirtual 284, 3) := by decide +kernel
theorem dX6_tells_482 : decode cX6_tells 482 = .ok (.aload_n 0, 1) := by decide +kernel
theorem dX6_tells_483 : decode cX6_tells 483 = .ok (.bipush 41, 2) := by decide +kernel
theorem dX6_tells_485 : decode cX6_tells 485 = .ok (.bipush 43, 2) := by decide +kernel
theorem dX6_tells_487 : decode cX6_tells 487 = .ok (.invokevirtual 320, 3) := by decide +kernel
theorem dX6_tells_490 : decode cX6_tells 490 = .ok (.iastore, 1) := by decide +kernel
theorem dX6_tells_491 : decode cX6_tells 491 = .ok (.return_, 1) := by decide +kernel
theorem dX6_moves_0 : decode cX6_moves 0 = .ok (.iload_n 2, 1) := by decide +kernel
theorem dX6_moves_1 : decode cX6_moves 1 = .ok (.iconst 2, 1) := by decide +kernel
theorem dX6_moves_2 : decode cX6_moves 2 = .ok (.irem, 1) := by decide +kernel
theorem dX6_moves_3 : decode cX6_moves 3 = .ok (.ifCond .ne 7, 3) := by decide +kernel
theorem dX6_moves_6 : decode cX6_moves 6 = .ok (.iconst 4, 1) := by decide +kernel
theorem dX6_moves_7 : decode cX6_moves 7 = .ok (.goto 4, 3) := by decide +kernel
theorem dX6_moves_10 : decode cX6_moves 10 = .ok (.iconst 1, 1) := by decide +kernel
theorem dX6_moves_11 : decode cX6_moves 11 = .ok (.istore_n 3, 1) := by decide +kernel
theorem dX6_moves_12 : decode cX6_moves 12 = .ok (.aload_n 0, 1) := by decide +kernel
theorem dX6_moves_13 : decode cX6_moves 13 = .ok (.bipush 15, 2) := by decide +kernel
theorem dX6_moves_15 : decode cX6_moves 15 = .ok (.bipush 24, 2) := by decide +kernel
theorem dX6_moves_17 : decode cX6_moves 17 = .ok (.invokevirtual 320, 3) := by decide +kernel
theorem dX6_moves_20 : decode cX6_moves 20 = .ok (.istore 4, 2) := by decide +kernel
theorem dX6_moves_22 : decode cX6_moves 22 = .ok (.aload_n 0, 1) := by decide +kernel
theorem dX6_moves_23 : decode cX6_moves 23 = .ok (.bipush 26, 2) := by decide +kernel
theorem dX6_moves_25 : decode cX6_moves 25 = .ok (.bipush 35, 2) := by decide +kernel
theorem dX6_moves_27 : decode cX6_moves 27 = .ok (.invokevirtual 320, 3) := by decide +kernel
theorem dX6_moves_30 : decode cX6_moves 30 = .ok (.istore 5, 2) := by decide +kernel
theorem dX6_moves_32 : decode cX6_moves 32 = .ok (.iload_n 2, 1) := by decide +kernel
theorem dX6_moves_33 : decode cX6_moves 33 = .ok (.iconst 3, 1) := by decide +kernel
theorem dX6_moves_34 : decode cX6_moves 34 = .ok (.if_icmp .ge 150, 3) := by decide +kernel
theorem dX6_moves_37 : decode cX6_moves 37 = .ok (.iload 4, 2) := by decide +kernel
theorem dX6_moves_39 : decode cX6_moves 39 = .ok (.ifCond .ne 8, 3) := by decide +kernel
theorem dX6_moves_42 : decode cX6_moves 42 = .ok (.ldc 171, 2) := by decide +kernel
theorem dX6_moves_44 : decode cX6_moves 44 = .ok (.goto 27, 3) := by decide +kernel
theorem dX6_moves_47 : decode cX6_moves 47 = .ok (.iload_n 3, 1) := by decide +kernel
theorem dX6_moves_48 : decode cX6_moves 48 = .ok (.iload 4, 2) := by decide +kernel
theorem dX6_moves_50 : decode cX6_moves 50 = .ok (.iconst 1, 1) := by decide +kernel
theorem dX6_moves_51 : decode cX6_moves 51 = .ok (.isub, 1) := by decide +kernel
theorem dX6_moves_52 : decode cX6_moves 52 = .ok (.imul, 1) := by decide +kernel
theorem dX6_moves_53 : decode cX6_moves 53 = .ok (.aload_n 0, 1) := by decide +kernel
theorem dX6_moves_54 : decode cX6_moves 54 = .ok (.bipush 14, 2) := by decide +kernel
theorem dX6_moves_56 : decode cX6_moves 56 = .ok (.bipush 14, 2) := by decide +kernel
theorem dX6_moves_58 : decode cX6_moves 58 = .ok (.invokevirtual 320, 3) := by decide +kernel
theorem dX6_moves_61 : decode cX6_moves 61 = .ok (.iconst 1, 1) := by decide +kernel
theorem dX6_moves_62 : decode cX6_moves 62 = .ok (.if_icmp .ne 7, 3) := by decide +kernel
theorem dX6_moves_65 : decode cX6_moves 65 = .ok (.iconst (-1), 1) := by decide +kernel
theorem dX6_moves_66 : decode cX6_moves 66 = .ok (.goto 4, 3) := by decide +kernel
theorem dX6_moves_69 : decode cX6_moves 69 = .ok (.iconst 1, 1) := by decide +kernel
theorem dX6_moves_70 : decode cX6_moves 70 = .ok (.imul, 1) := by decide +kernel
theorem dX6_moves_71 : decode cX6_moves 71 = .ok (.istore 6, 2) := by decide +kernel
theorem dX6_moves_73 : decode cX6_moves 73 = .ok (.iload 5, 2) := by decide +kernel
theorem dX6_moves_75 : decode cX6_moves 75 = .ok (.ifCond .ne 8, 3) := by decide +kernel
theorem dX6_moves_78 : decode cX6_moves 78 = .ok (.ldc 171, 2) := by decide +kernel
theorem dX6_moves_80 : decode cX6_moves 80 = .ok (.goto 27, 3) := by decide +kernel
theorem dX6_moves_83 : decode cX6_moves 83 = .ok (.iload_n 3, 1) := by decide +kernel
theorem dX6_moves_84 : decode cX6_moves 84 = .ok (.iload 5, 2) := by decide +kernel
theorem dX6_moves_86 : decode cX6_moves 86 = .ok (.iconst 1, 1) := by decide +kernel
theorem dX6_moves_87 : decode cX6_moves 87 = .ok (.isub, 1) := by decide +kernel
theorem dX6_moves_88 : decode cX6_moves 88 = .ok (.imul, 1) := by decide +kernel
theorem dX6_moves_89 : decode cX6_moves 89 = .ok (.aload_n 0, 1) := by decide +kernel
theorem dX6_moves_90 : decode cX6_moves 90 = .ok (.bipush 25, 2) := by decide +kernel
theorem dX6_moves_92 : decode cX6_moves 92 = .ok (.bipush 25, 2) := by decide +kernel
theorem dX6_moves_94 : decode cX6_moves 94 = .ok (.invokevirtual 320, 3) := by decide +kernel
theorem dX6_moves_97 : decode cX6_moves 97 = .ok (.iconst 1, 1) := by decide +kernel
theorem dX6_moves_98 : decode cX6_moves 98 = .ok (.if_icmp .ne 7, 3) := by decide +kernel
theorem dX6_moves_101 : decode cX6_moves 101 = .ok (.iconst (-1), 1) := by decide +kernel
theorem dX6_moves_102 : decode cX6_moves 102 = .ok (.goto 4, 3) := by decide +kernel
theorem dX6_moves_105 : decode cX6_moves 105 = .ok (.iconst 1, 1) := by decide +kernel
theorem dX6_moves_106 : decode cX6_moves 106 = .ok (.imul, 1) := by decide +kernel
theorem dX6_moves_107 : decode cX6_moves 107 = .ok (.istore 7, 2) := by decide +kernel
theorem dX6_moves_109 : decode cX6_moves 109 = .ok (.aload_n 0, 1) := by decide +kernel
theorem dX6_moves_110 : decode cX6_moves 110 = .ok (.getfield 129, 3) := by decide +kernel
theorem dX6_moves_113 : decode cX6_moves 113 = .ok (.aload_n 0, 1) := by decide +kernel
theorem dX6_moves_114 : decode cX6_moves 114 = .ok (.iload_n 1, 1) := by decide +kernel
theorem dX6_moves_115 : decode cX6_moves 115 = .ok (.bipush 7, 2) := by decide +kernel
theorem dX6_moves_117 : decode cX6_moves 117 = .ok (.invokevirtual 284, 3) := by decide +kernel
theorem dX6_moves_120 : decode cX6_moves 120 = .ok (.iload 6, 2) := by decide +kernel
theorem dX6_moves_122 : decode cX6_moves 122 = .ok (.iastore, 1) := by decide +kernel
theorem dX6_moves_123 : decode cX6_moves 123 = .ok (.aload_n 0, 1) := by decide +kernel
theorem dX6_moves_124 : decode cX6_moves 124 = .ok (.getfield 129, 3) := by decide +kernel
theorem dX6_moves_127 : decode cX6_moves 127 = .ok (.aload_n 0, 1) := by decide +kernel
theorem dX6_moves_128 : decode cX6_moves 128 = .ok (.iload_n 1, 1) := by decide +kernel
theorem dX6_moves_129 : decode cX6_moves 129 = .ok (.bipush 8, 2) := by decide +kernel
theorem dX6_moves_131 : decode cX6_moves 131 = .ok (.invokevirtual 284, 3) := by decide +kernel
theorem dX6_moves_134 : decode cX6_moves 134 = .ok (.iload 7, 2) := by decide +kernel
theorem dX6_moves_136 : decode cX6_moves 136 = .ok (.iastore, 1) := by decide +kernel
theorem dX6_moves_137 : decode cX6_moves 137 = .ok (.aload_n 0, 1) := by decide +kernel
theorem dX6_moves_138 : decode cX6_moves 138 = .ok (.getfield 129, 3) := by decide +kernel
theorem dX6_moves_141 : decode cX6_moves 141 = .ok (.aload_n 0, 1) := by decide +kernel
theorem dX6_moves_142 : decode cX6_moves 142 = .ok (.iload_n 1, 1) := by decide +kernel
theorem dX6_moves_143 : decode cX6_moves 143 = .ok (.bipush 9, 2) := by decide +kernel
theorem dX6_moves_145 : decode cX6_moves 145 = .ok (.invokevirtual 284, 3) := by decide +kernel
theorem dX6_moves_148 : decode cX6_moves 148 = .ok (.iload 4, 2) := by decide +kernel
theorem dX6_moves_150 : decode cX6_moves 150 = .ok (.ifCond .eq 8, 3) := by decide +kernel
theorem dX6_moves_153 : decode cX6_moves 153 = .ok (.iload 5, 2) := by decide +kernel
theorem dX6_moves_155 : decode cX6_moves 155 = .ok (.ifCond .ne 8, 3) := by decide +kernel
theorem dX6_moves_158 : decode cX6_moves 158 = .ok (.ldc 171, 2) := by decide +kernel
theorem dX6_moves_160 : decode cX6_moves 160 = .ok (.goto 20, 3) := by decide +kernel
theorem dX6_moves_163 : decode cX6_moves 163 = .ok (.bipush 64, 2) := by decide +kernel
theorem dX6_moves_165 : decode cX6_moves 165 = .ok (.iload 6, 2) := by decide +kernel
theorem dX6_moves_167 : decode cX6_moves 167 = .ok (.iload 6, 2) := by decide +kernel
theorem dX6_moves_169 : decode cX6_moves 169 = .ok (.imul, 1) := by decide +kernel
theorem dX6_moves_170 : decode cX6_moves 170 = .ok (.iload 7, 2) := by decide +kernel
theorem dX6_moves_172 : decode cX6_moves 172 = .ok (.iload 7, 2) := by decide +kernel
theorem dX6_moves_174 : decode cX6_moves 174 = .ok (.imul, 1) := by decide +kernel
theorem dX6_moves_175 : decode cX6_moves 175 = .ok (.iadd, 1) := by decide +kernel
theorem dX6_moves_176 : decode cX6_moves 176 = .ok (.imul, 1) := by decide +kernel
theorem dX6_moves_177 : decode cX6_moves 177 = .ok (.invokestatic 336, 3) := by decide +kernel
theorem dX6_moves_180 : decode cX6_moves 180 = .ok (.iastore, 1) := by decide +kernel
theorem dX6_moves_181 : decode cX6_moves 181 = .ok (.goto 72, 3) := by decide +kernel
theorem dX6_moves_184 : decode cX6_moves 184 = .ok (.aload_n 0, 1) := by decide +kernel
theorem dX6_moves_185 : decode cX6_moves 185 = .ok (.getfield 129, 3) := by decide +kernel
theorem dX6_moves_188 : decode cX6_moves 188 = .ok (.aload_n 0, 1) := by decide +kernel
theorem dX6_moves_189 : decode cX6_moves 189 = .ok (.iload_n 1, 1) := by decide +kernel
theorem dX6_moves_190 : decode cX6_moves 190 = .ok (.bipush 10, 2) := by decide +kernel
theorem dX6_moves_192 : decode cX6_moves 192 = .ok (.invokevirtual 284, 3) := by decide +kernel
theorem dX6_moves_195 : decode cX6_moves 195 = .ok (.aload_n 0, 1) := by decide +kernel
theorem dX6_moves_196 : decode cX6_moves 196 = .ok (.bipush 14, 2) := by decide +kernel
theorem dX6_moves_198 : decode cX6_moves 198 = .ok (.bipush 14, 2) := by decide +kernel
theorem dX6_moves_200 : decode cX6_moves 200 = .ok (.invokevirtual 320, 3) := by decide +kernel
theorem dX6_moves_203 : decode cX6_moves 203 = .ok (.ifCond .ne 8, 3) := by decide +kernel
theorem dX6_moves_206 : decode cX6_moves 206 = .ok (.ldc 171, 2) := by decide +kernel
theorem dX6_moves_208 : decode cX6_moves 208 = .ok (.goto 13, 3) := by decide +kernel
theorem dX6_moves_211 : decode cX6_moves 211 = .ok (.ldc_w 326, 3) := by decide +kernel
theorem dX6_moves_214 : decode cX6_moves 214 = .ok (.iload 4, 2) := by decide +kernel
theorem dX6_moves_216 : decode cX6_moves 216 = .ok (.imul, 1) := by decide +kernel
theorem dX6_moves_217 : decode cX6_moves 217 = .ok (.sipush 1024, 3) := by decide +kernel
theorem dX6_moves_220 : decode cX6_moves 220 = .ok (.idiv, 1) := by decide +kernel
theorem dX6_moves_221 : decode cX6_moves 221 = .ok (.iastore, 1) := by decide +kernel
theorem dX6_moves_222 : decode cX6_moves 222 = .ok (.aload_n 0, 1) := by decide +kernel
theorem dX6_moves_223 : decode cX6_moves 223 = .ok (.getfield 129, 3) := by decide +kernel
theorem dX6_moves_226 : decode cX6_moves 226 = .ok (.aload_n 0, 1) := by decide +kernel
theorem dX6_moves_227 : decode cX6_moves 227 = .ok (.iload_n 1, 1) := by decide +kernel
theorem dX6_moves_228 : decode cX6_moves 228 = .ok (.bipush 9, 2) := by decide +kernel
theorem dX6_moves_230 : decode cX6_moves 230 = .ok (.invokevirtual 284, 3) := by decide +kernel
theorem dX6_moves_233 : decode cX6_moves 233 = .ok (.iload 5, 2) := by decide +kernel
theorem dX6_moves_235 : decode cX6_moves 235 = .ok (.ifCond .ne 8, 3) := by decide +kernel
theorem dX6_moves_238 : decode cX6_moves 238 = .ok (.ldc 171, 2) := by decide +kernel
theorem dX6_moves_240 : decode cX6_moves 240 = .ok (.goto 12, 3) := by decide +kernel
theorem dX6_moves_243 : decode cX6_moves 243 = .ok (.bipush 8, 2) := by decide +kernel
theorem dX6_moves_245 : decode cX6_moves 245 = .ok (.iload_n 3, 1) := by decide +kernel
theorem dX6_moves_246 : decode cX6_moves 246 = .ok (.imul, 1) := by decide +kernel
theorem dX6_moves_247 : decode cX6_moves 247 = .ok (.iload 5, 2) := by decide +kernel
theorem dX6_moves_249 : decode cX6_moves 249 = .ok (.iconst 1, 1) := by decide +kernel
theorem dX6_moves_250 : decode cX6_moves 250 = .ok (.isub, 1) := by decide +kernel
theorem dX6_moves_251 : decode cX6_moves 251 = .ok (.imul, 1) := by decide +kernel
theorem dX6_moves_252 : decode cX6_moves 252 = .ok (.iastore, 1) := by decide +kernel
theorem dX6_moves_253 : decode cX6_moves 253 = .ok (.aload_n 0, 1) := by decide +kernel
theorem dX6_moves_254 : decode cX6_moves 254 = .ok (.bipush 38, 2) := by decide +kernel
theorem dX6_moves_256 : decode cX6_moves 256 = .ok (.bipush 46, 2) := by decide +kernel
theorem dX6_moves_258 : decode cX6_moves 258 = .ok (.invokevirtual 320, 3) := by decide +kernel
theorem dX6_moves_261 : decode cX6_moves 261 = .ok (.istore 6, 2) := by decide +kernel
theorem dX6_moves_263 : decode cX6_moves 263 = .ok (.aload_n 0, 1) := by decide +kernel
theorem dX6_moves_264 : decode cX6_moves 264 = .ok (.getfield 129, 3) := by decide +kernel
theorem dX6_moves_267 : decode cX6_moves 267 = .ok (.aload_n 0, 1) := by decide +kernel
theorem dX6_moves_268 : decode cX6_moves 268 = .ok (.iload_n 1, 1) := by decide +kernel
theorem dX6_moves_269 : decode cX6_moves 269 = .ok (.bipush 11, 2) := by decide +kernel
theorem dX6_moves_271 : decode cX6_moves 271 = .ok (.invokevirtual 284, 3) := by decide +kernel
theorem dX6_moves_274 : decode cX6_moves 274 = .ok (.iload 6, 2) := by decide +kernel
theorem dX6_moves_276 : decode cX6_moves 276 = .ok (.ifCond .ne 8, 3) := by decide +kernel
theorem dX6_moves_279 : decode cX6_moves 279 = .ok (.ldc 171, 2) := by decide +kernel
theorem dX6_moves_281 : decode cX6_moves 281 = .ok (.goto 28, 3) := by decide +kernel
theorem dX6_moves_284 : decode cX6_moves 284 = .ok (.bipush 64, 2) := by decide +kernel
theorem dX6_moves_286 : decode cX6_moves 286 = .ok (.iload 6, 2) := by decide +kernel
theorem dX6_moves_288 : decode cX6_moves 288 = .ok (.iconst 1, 1) := by decide +kernel
theorem dX6_moves_289 : decode cX6_moves 289 = .ok (.isub, 1) := by decide +kernel
theorem dX6_moves_290 : decode cX6_moves 290 = .ok (.imul, 1) := by decide +kernel
theorem dX6_moves_291 : decode cX6_moves 291 = .ok (.aload_n 0, 1) := by decide +kernel
theorem dX6_moves_292 : decode cX6_moves 292 = .ok (.bipush 37, 2) := by decide +kernel
theorem dX6_moves_294 : decode cX6_moves 294 = .ok (.bipush 37, 2) := by decide +kernel
theorem dX6_moves_296 : decode cX6_moves 296 = .ok (.invokevirtual 320, 3) := by decide +kernel
theorem dX6_moves_299 : decode cX6_moves 299 = .ok (.iconst 1, 1) := by decide +kernel
theorem dX6_moves_300 : decode cX6_moves 300 = .ok (.if_icmp .ne 7, 3) := by decide +kernel
theorem dX6_moves_303 : decode cX6_moves 303 = .ok (.iconst (-1), 1) := by decide +kernel
theorem dX6_moves_304 : decode cX6_moves 304 = .ok (.goto 4, 3) := by decide +kernel
theorem dX6_moves_307 : decode cX6_moves 307 = .ok (.iconst 1, 1) := by decide +kernel
theorem dX6_moves_308 : decode cX6_moves 308 = .ok (.imul, 1) := by decide +kernel
theorem dX6_moves_309 : decode cX6_moves 309 = .ok (.iastore, 1) := by decide +kernel
theorem dX6_moves_310 : decode cX6_moves 310 = .ok (.return_, 1) := by decide +kernel
theorem dX6_isFresh_0 : decode cX6_isFresh 0 = .ok (.aload_n 0, 1) := by decide +kernel
theorem dX6_isFresh_1 : decode cX6_isFresh 1 = .ok (.getfield 129, 3) := by decide +kernel
theorem dX6_isFresh_4 : decode cX6_isFresh 4 = .ok (.aload_n 0, 1) := by decide +kernel
theorem dX6_isFresh_5 : decode cX6_isFresh 5 = .ok (.iload_n 1, 1) := by decide +kernel
theorem dX6_isFresh_6 : decode cX6_isFresh 6 = .ok (.bipush 17, 2) := by decide +kernel
theorem dX6_isFresh_8 : decode cX6_isFresh 8 = .ok (.invokevirtual 284, 3) := by decide +kernel
theorem dX6_isFresh_11 : decode cX6_isFresh 11 = .ok (.iaload, 1) := by decide +kernel
theorem dX6_isFresh_12 : decode cX6_isFresh 12 = .ok (.ldc 171, 2) := by decide +kernel
theorem dX6_isFresh_14 : decode cX6_isFresh 14 = .ok (.if_icmp .eq 27, 3) := by decide +kernel
theorem dX6_isFresh_17 : decode cX6_isFresh 17 = .ok (.iload_n 2, 1) := by decide +kernel
theorem dX6_isFresh_18 : decode cX6_isFresh 18 = .ok (.aload_n 0, 1) := by decide +kernel
theorem dX6_isFresh_19 : decode cX6_isFresh 19 = .ok (.getfield 129, 3) := by decide +kernel
theorem dX6_isFresh_22 : decode cX6_isFresh 22 = .ok (.aload_n 0, 1) := by decide +kernel
theorem dX6_isFresh_23 : decode cX6_isFresh 23 = .ok (.iload_n 1, 1) := by decide +kernel
theorem dX6_isFresh_24 : decode cX6_isFresh 24 = .ok (.bipush 17, 2) := by decide +kernel
theorem dX6_isFresh_26 : decode cX6_isFresh 26 = .ok (.invokevirtual 284, 3) := by decide +kernel
theorem dX6_isFresh_29 : decode cX6_isFresh 29 = .ok (.iaload, 1) := by decide +kernel
theorem dX6_isFresh_30 : decode cX6_isFresh 30 = .ok (.isub, 1) := by decide +kernel
theorem dX6_isFresh_31 : decode cX6_isFresh 31 = .ok (.sipush 300, 3) := by decide +kernel
theorem dX6_isFresh_34 : decode cX6_isFresh 34 = .ok (.if_icmp .gt 7, 3) := by decide +kernel
theorem dX6_isFresh_37 : decode cX6_isFresh 37 = .ok (.iconst 1, 1) := by decide +kernel
theorem dX6_isFresh_38 : decode cX6_isFresh 38 = .ok (.goto 4, 3) := by decide +kernel
theorem dX6_isFresh_41 : decode cX6_isFresh 41 = .ok (.iconst 0, 1) := by decide +kernel
theorem dX6_isFresh_42 : decode cX6_isFresh 42 = .ok (.ireturn, 1) := by decide +kernel
theorem dX6_toldNow_0 : decode cX6_toldNow 0 = .ok (.aload_n 0, 1) := by decide +kernel
theorem dX6_toldNow_1 : decode cX6_toldNow 1 = .ok (.bipush 23, 2) := by decide +kernel
theorem dX6_toldNow_3 : decode cX6_toldNow 3 = .ok (.bipush 39, 2) := by decide +kernel
theorem dX6_toldNow_5 : decode cX6_toldNow 5 = .ok (.invokevirtual 320, 3) := by decide +kernel
theorem dX6_toldNow_8 : decode cX6_toldNow 8 = .ok (.i2l, 1) := by decide +kernel
theorem dX6_toldNow_9 : decode cX6_toldNow 9 = .ok (.ldc2_w 200, 3) := by decide +kernel
theorem dX6_toldNow_12 : decode cX6_toldNow 12 = .ok (.lmul, 1) := by decide +kernel
theorem dX6_toldNow_13 : decode cX6_toldNow 13 = .ok (.aload_n 0, 1) := by decide +kernel
theorem dX6_toldNow_14 : decode cX6_toldNow 14 = .ok (.bipush 40, 2) := by decide +kernel
theorem dX6_toldNow_16 : decode cX6_toldNow 16 = .ok (.bipush 56, 2) := by decide +kernel
theorem dX6_toldNow_18 : decode cX6_toldNow 18 = .ok (.invokevirtual 320, 3) := by decide +kernel
theorem dX6_toldNow_21 : decode cX6_toldNow 21 = .ok (.i2l, 1) := by decide +kernel
theorem dX6_toldNow_22 : decode cX6_toldNow 22 = .ok (.ladd, 1) := by decide +kernel
theorem dX6_toldNow_23 : decode cX6_toldNow 23 = .ok (.lreturn, 1) := by decide +kernel
theorem dX6_comes_0 : decode cX6_comes 0 = .ok (.iload_n 3, 1) := by decide +kernel
theorem dX6_comes_1 : decode cX6_comes 1 = .ok (.ifCond .ne 4, 3) := by decide +kernel
theorem dX6_comes_4 : decode cX6_comes 4 = .ok (.return_, 1) := by decide +kernel
theorem dX6_comes_5 : decode cX6_comes 5 = .ok (.aload_n 0, 1) := by decide +kernel
theorem dX6_comes_6 : decode cX6_comes 6 = .ok (.getfield 129, 3) := by decide +kernel
theorem dX6_comes_9 : decode cX6_comes 9 = .ok (.aload_n 0, 1) := by decide +kernel
theorem dX6_comes_10 : decode cX6_comes 10 = .ok (.iload_n 1, 1) := by decide +kernel
theorem dX6_comes_11 : decode cX6_comes 11 = .ok (.bipush 15, 2) := by decide +kernel
theorem dX6_comes_13 : decode cX6_comes 13 = .ok (.invokevirtual 284, 3) := by decide +kernel
theorem dX6_comes_16 : decode cX6_comes 16 = .ok (.aload_n 0, 1) := by decide +kernel
theorem dX6_comes_17 : decode cX6_comes 17 = .ok (.getfield 243, 3) := by decide +kernel
theorem dX6_comes_20 : decode cX6_comes 20 = .ok (.iastore, 1) := by decide +kernel
theorem dX6_comes_21 : decode cX6_comes 21 = .ok (.aload_n 0, 1) := by decide +kernel
theorem dX6_comes_22 : decode cX6_comes 22 = .ok (.getfield 129, 3) := by decide +kernel
theorem dX6_comes_25 : decode cX6_comes 25 = .ok (.aload_n 0, 1) := by decide +kernel
theorem dX6_comes_26 : decode cX6_comes 26 = .ok (.iload_n 1, 1) := by decide +kernel
theorem dX6_comes_27 : decode cX6_comes 27 = .ok (.bipush 16, 2) := by decide +kernel
theorem dX6_comes_29 : decode cX6_comes 29 = .ok (.invokevirtual 284, 3) := by decide +kernel
theorem dX6_comes_32 : decode cX6_comes 32 = .ok (.aload_n 0, 1) := by decide +kernel
theorem dX6_comes_33 : decode cX6_comes 33 = .ok (.getfield 246, 3) := by decide +kernel
theorem dX6_comes_36 : decode cX6_comes 36 = .ok (.iastore, 1) := by decide +kernel
theorem dX6_comes_37 : decode cX6_comes 37 = .ok (.aload_n 0, 1) := by decide +kernel
theorem dX6_comes_38 : decode cX6_comes 38 = .ok (.getfield 129, 3) := by decide +kernel
theorem dX6_comes_41 : decode cX6_comes 41 = .ok (.aload_n 0, 1) := by decide +kernel
theorem dX6_comes_42 : decode cX6_comes 42 = .ok (.iload_n 1, 1) := by decide +kernel
theorem dX6_comes_43 : decode cX6_comes 43 = .ok (.bipush 17, 2) := by decide +kernel
theorem dX6_comes_45 : decode cX6_comes 45 = .ok (.invokevirtual 284, 3) := by decide +kernel
theorem dX6_comes_48 : decode cX6_comes 48 = .ok (.iload_n 2, 1) := by decide +kernel
theorem dX6_comes_49 : decode cX6_comes 49 = .ok (.iastore, 1) := by decide +kernel
theorem dX6_comes_50 : decode cX6_comes 50 = .ok (.return_, 1) := by decide +kernel
theorem dX6_onGround_0 : decode cX6_onGround 0 = .ok (.aload_n 0, 1) := by decide +kernel
theorem dX6_onGround_1 : decode cX6_onGround 1 = .ok (.bipush 22, 2) := by decide +kernel
theorem dX6_onGround_3 : decode cX6_onGround 3 = .ok (.bipush 22, 2) := by decide +kernel
theorem dX6_onGround_5 : decode cX6_onGround 5 = .ok (.invokevirtual 320, 3) := by decide +kernel
theorem dX6_onGround_8 : decode cX6_onGround 8 = .ok (.iconst 1, 1) := by decide +kernel
theorem dX6_onGround_9 : decode cX6_onGround 9 = .ok (.if_icmp .ne 7, 3) := by decide +kernel
theorem dX6_onGround_12 : decode cX6_onGround 12 = .ok (.iconst 1, 1) := by decide +kernel
theorem dX6_onGround_13 : decode cX6_onGround 13 = .ok (.goto 4, 3) := by decide +kernel
theorem dX6_onGround_16 : decode cX6_onGround 16 = .ok (.iconst 0, 1) := by decide +kernel
theorem dX6_onGround_17 : decode cX6_onGround 17 = .ok (.istore_n 3, 1) := by decide +kernel
theorem dX6_onGround_18 : decode cX6_onGround 18 = .ok (.aload_n 0, 1) := by decide +kernel
theorem dX6_onGround_19 : decode cX6_onGround 19 = .ok (.iload_n 1, 1) := by decide +kernel
theorem dX6_onGround_20 : decode cX6_onGround 20 = .ok (.iload_n 2, 1) := by decide +kernel
theorem dX6_onGround_21 : decode cX6_onGround 21 = .ok (.invokevirtual 339, 3) := by decide +kernel
theorem dX6_onGround_24 : decode cX6_onGround 24 = .ok (.ifCond .eq 46, 3) := by decide +kernel
theorem dX6_onGround_27 : decode cX6_onGround 27 = .ok (.aload_n 0, 1) := by decide +kernel
theorem dX6_onGround_28 : decode cX6_onGround 28 = .ok (.iload_n 1, 1) := by decide +kernel
theorem dX6_onGround_29 : decode cX6_onGround 29 = .ok (.iload_n 2, 1) := by decide +kernel
theorem dX6_onGround_30 : decode cX6_onGround 30 = .ok (.aload_n 0, 1) := by decide +kernel
theorem dX6_onGround_31 : decode cX6_onGround 31 = .ok (.aload_n 0, 1) := by decide +kernel
theorem dX6_onGround_32 : decode cX6_onGround 32 = .ok (.invokevirtual 342, 3) := by decide +kernel
theorem dX6_onGround_35 : decode cX6_onGround 35 = .ok (.iconst 1, 1) := by decide +kernel
theorem dX6_onGround_36 : decode cX6_onGround 36 = .ok (.iload_n 3, 1) := by decide +kernel
theorem dX6_onGround_37 : decode cX6_onGround 37 = .ok (.aload_n 0, 1) := by decide +kernel
theorem dX6_onGround_38 : decode cX6_onGround 38 = .ok (.getfield 129, 3) := by decide +kernel
theorem dX6_onGround_41 : decode cX6_onGround 41 = .ok (.aload_n 0, 1) := by decide +kernel
theorem dX6_onGround_42 : decode cX6_onGround 42 = .ok (.iload_n 1, 1) := by decide +kernel
theorem dX6_onGround_43 : decode cX6_onGround 43 = .ok (.bipush 15, 2) := by decide +kernel
theorem dX6_onGround_45 : decode cX6_onGround 45 = .ok (.invokevirtual 284, 3) := by decide +kernel
theorem dX6_onGround_48 : decode cX6_onGround 48 = .ok (.iaload, 1) := by decide +kernel
theorem dX6_onGround_49 : decode cX6_onGround 49 = .ok (.aload_n 0, 1) := by decide +kernel
theorem dX6_onGround_50 : decode cX6_onGround 50 = .ok (.getfield 129, 3) := by decide +kernel
theorem dX6_onGround_53 : decode cX6_onGround 53 = .ok (.aload_n 0, 1) := by decide +kernel
theorem dX6_onGround_54 : decode cX6_onGround 54 = .ok (.iload_n 1, 1) := by decide +kernel
theorem dX6_onGround_55 : decode cX6_onGround 55 = .ok (.bipush 16, 2) := by decide +kernel
theorem dX6_onGround_57 : decode cX6_onGround 57 = .ok (.invokevirtual 284, 3) := by decide +kernel
theorem dX6_onGround_60 : decode cX6_onGround 60 = .ok (.iaload, 1) := by decide +kernel
theorem dX6_onGround_61 : decode cX6_onGround 61 = .ok (.invokevirtual 267, 3) := by decide +kernel
theorem dX6_onGround_64 : decode cX6_onGround 64 = .ok (.invokevirtual 346, 3) := by decide +kernel
theorem dX6_onGround_67 : decode cX6_onGround 67 = .ok (.goto 34, 3) := by decide +kernel
theorem dX6_onGround_70 : decode cX6_onGround 70 = .ok (.aload_n 0, 1) := by decide +kernel
theorem dX6_onGround_71 : decode cX6_onGround 71 = .ok (.getfield 271, 3) := by decide +kernel
theorem dX6_onGround_74 : decode cX6_onGround 74 = .ok (.ifCond .eq 27, 3) := by decide +kernel
theorem dX6_onGround_77 : decode cX6_onGround 77 = .ok (.aload_n 0, 1) := by decide +kernel
theorem dX6_onGround_78 : decode cX6_onGround 78 = .ok (.iload_n 1, 1) := by decide +kernel
theorem dX6_onGround_79 : decode cX6_onGround 79 = .ok (.iload_n 2, 1) := by decide +kernel
theorem dX6_onGround_80 : decode cX6_onGround 80 = .ok (.aload_n 0, 1) := by decide +kernel
theorem dX6_onGround_81 : decode cX6_onGround 81 = .ok (.aload_n 0, 1) := by decide +kernel
theorem dX6_onGround_82 : decode cX6_onGround 82 = .ok (.invokevirtual 342, 3) := by decide +kernel
theorem dX6_onGround_85 : decode cX6_onGround 85 = .ok (.iconst 1, 1) := by decide +kernel
theorem dX6_onGround_86 : decode cX6_onGround 86 = .ok (.iload_n 3, 1) := by decide +kernel
theorem dX6_onGround_87 : decode cX6_onGround 87 = .ok (.aload_n 0, 1) := by decide +kernel
theorem dX6_onGround_88 : decode cX6_onGround 88 = .ok (.getfield 275, 3) := by decide +kernel
theorem dX6_onGround_91 : decode cX6_onGround 91 = .ok (.aload_n 0, 1) := by decide +kernel
theorem dX6_onGround_92 : decode cX6_onGround 92 = .ok (.getfield 278, 3) := by decide +kernel
theorem dX6_onGround_95 : decode cX6_onGround 95 = .ok (.invokevirtual 267, 3) := by decide +kernel
theorem dX6_onGround_98 : decode cX6_onGround 98 = .ok (.invokevirtual 346, 3) := by decide +kernel
theorem dX6_onGround_101 : decode cX6_onGround 101 = .ok (.return_, 1) := by decide +kernel
theorem dX6_inAir_0 : decode cX6_inAir 0 = .ok (.aload_n 0, 1) := by decide +kernel
theorem dX6_inAir_1 : decode cX6_inAir 1 = .ok (.bipush 22, 2) := by decide +kernel
theorem dX6_inAir_3 : decode cX6_inAir 3 = .ok (.bipush 22, 2) := by decide +kernel
theorem dX6_inAir_5 : decode cX6_inAir 5 = .ok (.invokevirtual 320, 3) := by decide +kernel
theorem dX6_inAir_8 : decode cX6_inAir 8 = .ok (.iconst 1, 1) := by decide +kernel
theorem dX6_inAir_9 : decode cX6_inAir 9 = .ok (.if_icmp .ne 7, 3) := by decide +kernel
theorem dX6_inAir_12 : decode cX6_inAir 12 = .ok (.iconst 1, 1) := by decide +kernel
theorem dX6_inAir_13 : decode cX6_inAir 13 = .ok (.goto 4, 3) := by decide +kernel
theorem dX6_inAir_16 : decode cX6_inAir 16 = .ok (.iconst 0, 1) := by decide +kernel
theorem dX6_inAir_17 : decode cX6_inAir 17 = .ok (.istore_n 3, 1) := by decide +kernel
theorem dX6_inAir_18 : decode cX6_inAir 18 = .ok (.aload_n 0, 1) := by decide +kernel
theorem dX6_inAir_19 : decode cX6_inAir 19 = .ok (.iload_n 1, 1) := by decide +kernel
theorem dX6_inAir_20 : decode cX6_inAir 20 = .ok (.bipush 27, 2) := by decide +kernel
theorem dX6_inAir_22 : decode cX6_inAir 22 = .ok (.iload_n 3, 1) := by decide +kernel
theorem dX6_inAir_23 : decode cX6_inAir 23 = .ok (.ifCond .eq 7, 3) := by decide +kernel
theorem dX6_inAir_26 : decode cX6_inAir 26 = .ok (.iconst 4, 1) := by decide +kernel
theorem dX6_inAir_27 : decode cX6_inAir 27 = .ok (.goto 4, 3) := by decide +kernel
theorem dX6_inAir_30 : decode cX6_inAir 30 = .ok (.iconst 0, 1) := by decide +kernel
theorem dX6_inAir_31 : decode cX6_inAir 31 = .ok (.iadd, 1) := by decide +kernel
theorem dX6_inAir_32 : decode cX6_inAir 32 = .ok (.invokevirtual 284, 3) := by decide +kernel
theorem dX6_inAir_35 : decode cX6_inAir 35 = .ok (.istore 4, 2) := by decide +kernel
theorem dX6_inAir_37 : decode cX6_inAir 37 = .ok (.aload_n 0, 1) := by decide +kernel
theorem dX6_inAir_38 : decode cX6_inAir 38 = .ok (.getfield 129, 3) := by decide +kernel
theorem dX6_inAir_41 : decode cX6_inAir 41 = .ok (.iload 4, 2) := by decide +kernel
theorem dX6_inAir_43 : decode cX6_inAir 43 = .ok (.iconst 1, 1) := by decide +kernel
theorem dX6_inAir_44 : decode cX6_inAir 44 = .ok (.iastore, 1) := by decide +kernel
theorem dX6_inAir_45 : decode cX6_inAir 45 = .ok (.aload_n 0, 1) := by decide +kernel
theorem dX6_inAir_46 : decode cX6_inAir 46 = .ok (.getfield 129, 3) := by decide +kernel
theorem dX6_inAir_49 : decode cX6_inAir 49 = .ok (.iload 4, 2) := by decide +kernel
theorem dX6_inAir_51 : decode cX6_inAir 51 = .ok (.iconst 1, 1) := by decide +kernel
theorem dX6_inAir_52 : decode cX6_inAir 52 = .ok (.iadd, 1) := by decide +kernel
theorem dX6_inAir_53 : decode cX6_inAir 53 = .ok (.aload_n 0, 1) := by decide +kernel
theorem dX6_inAir_54 : decode cX6_inAir 54 = .ok (.bipush 23, 2) := by decide +kernel
theorem dX6_inAir_56 : decode cX6_inAir 56 = .ok (.bipush 39, 2) := by decide +kernel
theorem dX6_inAir_58 : decode cX6_inAir 58 = .ok (.invokevirtual 320, 3) := by decide +kernel
theorem dX6_inAir_61 : decode cX6_inAir 61 = .ok (.iastore, 1) := by decide +kernel
theorem dX6_inAir_62 : decode cX6_inAir 62 = .ok (.aload_n 0, 1) := by decide +kernel
theorem dX6_inAir_63 : decode cX6_inAir 63 = .ok (.getfield 129, 3) := by decide +kernel
theorem dX6_inAir_66 : decode cX6_inAir 66 = .ok (.iload 4, 2) := by decide +kernel
theorem dX6_inAir_68 : decode cX6_inAir 68 = .ok (.iconst 2, 1) := by decide +kernel
theorem dX6_inAir_69 : decode cX6_inAir 69 = .ok (.iadd, 1) := by decide +kernel
theorem dX6_inAir_70 : decode cX6_inAir 70 = .ok (.aload_n 0, 1) := by decide +kernel
theorem dX6_inAir_71 : decode cX6_inAir 71 = .ok (.bipush 40, 2) := by decide +kernel
theorem dX6_inAir_73 : decode cX6_inAir 73 = .ok (.bipush 56, 2) := by decide +kernel
theorem dX6_inAir_75 : decode cX6_inAir 75 = .ok (.invokevirtual 320, 3) := by decide +kernel
theorem dX6_inAir_78 : decode cX6_inAir 78 = .ok (.iastore, 1) := by decide +kernel
theorem dX6_inAir_79 : decode cX6_inAir 79 = .ok (.aload_n 0, 1) := by decide +kernel
theorem dX6_inAir_80 : decode cX6_inAir 80 = .ok (.getfield 129, 3) := by decide +kernel
theorem dX6_inAir_83 : decode cX6_inAir 83 = .ok (.iload 4, 2) := by decide +kernel
theorem dX6_inAir_85 : decode cX6_inAir 85 = .ok (.iconst 3, 1) := by decide +kernel
theorem dX6_inAir_86 : decode cX6_inAir 86 = .ok (.iadd, 1) := by decide +kernel
theorem dX6_inAir_87 : decode cX6_inAir 87 = .ok (.iload_n 2, 1) := by decide +kernel
theorem dX6_inAir_88 : decode cX6_inAir 88 = .ok (.iastore, 1) := by decide +kernel
theorem dX6_inAir_89 : decode cX6_inAir 89 = .ok (.aload_n 0, 1) := by decide +kernel
theorem dX6_inAir_90 : decode cX6_inAir 90 = .ok (.iload_n 1, 1) := by decide +kernel
theorem dX6_inAir_91 : decode cX6_inAir 91 = .ok (.bipush 27, 2) := by decide +kernel
theorem dX6_inAir_93 : decode cX6_inAir 93 = .ok (.iload_n 3, 1) := by decide +kernel
theorem dX6_inAir_94 : decode cX6_inAir 94 = .ok (.ifCond .eq 7, 3) := by decide +kernel
theorem dX6_inAir_97 : decode cX6_inAir 97 = .ok (.iconst 0, 1) := by decide +kernel
theorem dX6_inAir_98 : decode cX6_inAir 98 = .ok (.goto 4, 3) := by decide +kernel
theorem dX6_inAir_101 : decode cX6_inAir 101 = .ok (.iconst 4, 1) := by decide +kernel
theorem dX6_inAir_102 : decode cX6_inAir 102 = .ok (.iadd, 1) := by decide +kernel
theorem dX6_inAir_103 : decode cX6_inAir 103 = .ok (.invokevirtual 284, 3) := by decide +kernel
theorem dX6_inAir_106 : decode cX6_inAir 106 = .ok (.istore 5, 2) := by decide +kernel
theorem dX6_inAir_108 : decode cX6_inAir 108 = .ok (.aload_n 0, 1) := by decide +kernel
theorem dX6_inAir_109 : decode cX6_inAir 109 = .ok (.iload_n 1, 1) := by decide +kernel
theorem dX6_inAir_110 : decode cX6_inAir 110 = .ok (.iload_n 2, 1) := by decide +kernel
theorem dX6_inAir_111 : decode cX6_inAir 111 = .ok (.invokevirtual 339, 3) := by decide +kernel
theorem dX6_inAir_114 : decode cX6_inAir 114 = .ok (.ifCond .eq 46, 3) := by decide +kernel
theorem dX6_inAir_117 : decode cX6_inAir 117 = .ok (.aload_n 0, 1) := by decide +kernel
theorem dX6_inAir_118 : decode cX6_inAir 118 = .ok (.iload_n 1, 1) := by decide +kernel
theorem dX6_inAir_119 : decode cX6_inAir 119 = .ok (.iload_n 2, 1) := by decide +kernel
theorem dX6_inAir_120 : decode cX6_inAir 120 = .ok (.aload_n 0, 1) := by decide +kernel
theorem dX6_inAir_121 : decode cX6_inAir 121 = .ok (.aload_n 0, 1) := by decide +kernel
theorem dX6_inAir_122 : decode cX6_inAir 122 = .ok (.invokevirtual 342, 3) := by decide +kernel
theorem dX6_inAir_125 : decode cX6_inAir 125 = .ok (.iconst 0, 1) := by decide +kernel
theorem dX6_inAir_126 : decode cX6_inAir 126 = .ok (.iload_n 3, 1) := by decide +kernel
theorem dX6_inAir_127 : decode cX6_inAir 127 = .ok (.aload_n 0, 1) := by decide +kernel
theorem dX6_inAir_128 : decode cX6_inAir 128 = .ok (.getfield 129, 3) := by decide +kernel
theorem dX6_inAir_131 : decode cX6_inAir 131 = .ok (.aload_n 0, 1) := by decide +kernel
theorem dX6_inAir_132 : decode cX6_inAir 132 = .ok (.iload_n 1, 1) := by decide +kernel
theorem dX6_inAir_133 : decode cX6_inAir 133 = .ok (.bipush 15, 2) := by decide +kernel
theorem dX6_inAir_135 : decode cX6_inAir 135 = .ok (.invokevirtual 284, 3) := by decide +kernel
theorem dX6_inAir_138 : decode cX6_inAir 138 = .ok (.iaload, 1) := by decide +kernel
theorem dX6_inAir_139 : decode cX6_inAir 139 = .ok (.aload_n 0, 1) := by decide +kernel
theorem dX6_inAir_140 : decode cX6_inAir 140 = .ok (.getfield 129, 3) := by decide +kernel
theorem dX6_inAir_143 : decode cX6_inAir 143 = .ok (.aload_n 0, 1) := by decide +kernel
theorem dX6_inAir_144 : decode cX6_inAir 144 = .ok (.iload_n 1, 1) := by decide +kernel
theorem dX6_inAir_145 : decode cX6_inAir 145 = .ok (.bipush 16, 2) := by decide +kernel
theorem dX6_inAir_147 : decode cX6_inAir 147 = .ok (.invokevirtual 284, 3) := by decide +kernel
theorem dX6_inAir_150 : decode cX6_inAir 150 = .ok (.iaload, 1) := by decide +kernel
theorem dX6_inAir_151 : decode cX6_inAir 151 = .ok (.invokevirtual 267, 3) := by decide +kernel
theorem dX6_inAir_154 : decode cX6_inAir 154 = .ok (.invokevirtual 346, 3) := by decide +kernel
theorem dX6_inAir_157 : decode cX6_inAir 157 = .ok (.goto 94, 3) := by decide +kernel
theorem dX6_inAir_160 : decode cX6_inAir 160 = .ok (.aload_n 0, 1) := by decide +kernel
theorem dX6_inAir_161 : decode cX6_inAir 161 = .ok (.getfield 129, 3) := by decide +kernel
theorem dX6_inAir_164 : decode cX6_inAir 164 = .ok (.iload 5, 2) := by decide +kernel
theorem dX6_inAir_166 : decode cX6_inAir 166 = .ok (.iaload, 1) := by decide +kernel
theorem dX6_inAir_167 : decode cX6_inAir 167 = .ok (.iconst 1, 1) := by decide +kernel
theorem dX6_inAir_168 : decode cX6_inAir 168 = .ok (.if_icmp .ne 83, 3) := by decide +kernel
theorem dX6_inAir_171 : decode cX6_inAir 171 = .ok (.iload_n 2, 1) := by decide +kernel
theorem dX6_inAir_172 : decode cX6_inAir 172 = .ok (.aload_n 0, 1) := by decide +kernel
theorem dX6_inAir_173 : decode cX6_inAir 173 = .ok (.getfield 129, 3) := by decide +kernel
theorem dX6_inAir_176 : decode cX6_inAir 176 = .ok (.iload 5, 2) := by decide +kernel
theorem dX6_inAir_178 : decode cX6_inAir 178 = .ok (.iconst 3, 1) := by decide +kernel
theorem dX6_inAir_179 : decode cX6_inAir 179 = .ok (.iadd, 1) := by decide +kernel
theorem dX6_inAir_180 : decode cX6_inAir 180 = .ok (.iaload, 1) := by decide +kernel
theorem dX6_inAir_181 : decode cX6_inAir 181 = .ok (.isub, 1) := by decide +kernel
theorem dX6_inAir_182 : decode cX6_inAir 182 = .ok (.bipush 100, 2) := by decide +kernel
theorem dX6_inAir_184 : decode cX6_inAir 184 = .ok (.if_icmp .gt 67, 3) := by decide +kernel
theorem dX6_inAir_187 : decode cX6_inAir 187 = .ok (.aload_n 0, 1) := by decide +kernel
theorem dX6_inAir_188 : decode cX6_inAir 188 = .ok (.getfield 129, 3) := by decide +kernel
theorem dX6_inAir_191 : decode cX6_inAir 191 = .ok (.iload 5, 2) := by decide +kernel
theorem dX6_inAir_193 : decode cX6_inAir 193 = .ok (.iconst 1, 1) := by decide +kernel
theorem dX6_inAir_194 : decode cX6_inAir 194 = .ok (.iadd, 1) := by decide +kernel
theorem dX6_inAir_195 : decode cX6_inAir 195 = .ok (.iaload, 1) := by decide +kernel
theorem dX6_inAir_196 : decode cX6_inAir 196 = .ok (.i2l, 1) := by decide +kernel
theorem dX6_inAir_197 : decode cX6_inAir 197 = .ok (.ldc2_w 200, 3) := by decide +kernel
theorem dX6_inAir_200 : decode cX6_inAir 200 = .ok (.lmul, 1) := by decide +kernel
theorem dX6_inAir_201 : decode cX6_inAir 201 = .ok (.aload_n 0, 1) := by decide +kernel
theorem dX6_inAir_202 : decode cX6_inAir 202 = .ok (.getfield 129, 3) := by decide +kernel
theorem dX6_inAir_205 : decode cX6_inAir 205 = .ok (.iload 5, 2) := by decide +kernel
theorem dX6_inAir_207 : decode cX6_inAir 207 = .ok (.iconst 2, 1) := by decide +kernel
theorem dX6_inAir_208 : decode cX6_inAir 208 = .ok (.iadd, 1) := by decide +kernel
theorem dX6_inAir_209 : decode cX6_inAir 209 = .ok (.iaload, 1) := by decide +kernel
theorem dX6_inAir_210 : decode cX6_inAir 210 = .ok (.i2l, 1) := by decide +kernel
theorem dX6_inAir_211 : decode cX6_inAir 211 = .ok (.ladd, 1) := by decide +kernel
theorem dX6_inAir_212 : decode cX6_inAir 212 = .ok (.lstore 6, 2) := by decide +kernel
theorem dX6_inAir_214 : decode cX6_inAir 214 = .ok (.aload_n 0, 1) := by decide +kernel
theorem dX6_inAir_215 : decode cX6_inAir 215 = .ok (.iload_n 1, 1) := by decide +kernel
theorem dX6_inAir_216 : decode cX6_inAir 216 = .ok (.iload_n 2, 1) := by decide +kernel
theorem dX6_inAir_217 : decode cX6_inAir 217 = .ok (.aload_n 0, 1) := by decide +kernel
theorem dX6_inAir_218 : decode cX6_inAir 218 = .ok (.iload_n 3, 1) := by decide +kernel
theorem dX6_inAir_219 : decode cX6_inAir 219 = .ok (.ifCond .eq 8, 3) := by decide +kernel
theorem dX6_inAir_222 : decode cX6_inAir 222 = .ok (.lload 6, 2) := by decide +kernel
theorem dX6_inAir_224 : decode cX6_inAir 224 = .ok (.goto 7, 3) := by decide +kernel
theorem dX6_inAir_227 : decode cX6_inAir 227 = .ok (.aload_n 0, 1) := by decide +kernel
theorem dX6_inAir_228 : decode cX6_inAir 228 = .ok (.invokevirtual 342, 3) := by decide +kernel
theorem dX6_inAir_231 : decode cX6_inAir 231 = .ok (.iload_n 3, 1) := by decide +kernel
theorem dX6_inAir_232 : decode cX6_inAir 232 = .ok (.ifCond .eq 10, 3) := by decide +kernel
theorem dX6_inAir_235 : decode cX6_inAir 235 = .ok (.aload_n 0, 1) := by decide +kernel
theorem dX6_inAir_236 : decode cX6_inAir 236 = .ok (.invokevirtual 342, 3) := by decide +kernel
theorem dX6_inAir_239 : decode cX6_inAir 239 = .ok (.goto 5, 3) := by decide +kernel
theorem dX6_inAir_242 : decode cX6_inAir 242 = .ok (.lload 6, 2) := by decide +kernel
theorem dX6_inAir_244 : decode cX6_inAir 244 = .ok (.iload_n 3, 1) := by decide +kernel
theorem dX6_inAir_245 : decode cX6_inAir 245 = .ok (.invokevirtual 253, 3) := by decide +kernel
theorem dX6_inAir_248 : decode cX6_inAir 248 = .ok (.invokevirtual 346, 3) := by decide +kernel
theorem dX6_inAir_251 : decode cX6_inAir 251 = .ok (.return_, 1) := by decide +kernel
theorem dX6_field_0 : decode cX6_field 0 = .ok (.aload_n 0, 1) := by decide +kernel
theorem dX6_field_1 : decode cX6_field 1 = .ok (.getfield 304, 3) := by decide +kernel
theorem dX6_field_4 : decode cX6_field 4 = .ok (.ifCond .ne 5, 3) := by decide +kernel
theorem dX6_field_7 : decode cX6_field 7 = .ok (.iconst (-1), 1) := by decide +kernel
theorem dX6_field_8 : decode cX6_field 8 = .ok (.ireturn, 1) := by decide +kernel
theorem dX6_field_9 : decode cX6_field 9 = .ok (.aload_n 0, 1) := by decide +kernel
theorem dX6_field_10 : decode cX6_field 10 = .ok (.aload_n 0, 1) := by decide +kernel
theorem dX6_field_11 : decode cX6_field 11 = .ok (.getfield 136, 3) := by decide +kernel
theorem dX6_field_14 : decode cX6_field 14 = .ok (.iconst 1, 1) := by decide +kernel
theorem dX6_field_15 : decode cX6_field 15 = .ok (.iconst 5, 1) := by decide +kernel
theorem dX6_field_16 : decode cX6_field 16 = .ok (.invokevirtual 156, 3) := by decide +kernel
theorem dX6_field_19 : decode cX6_field 19 = .ok (.istore_n 2, 1) := by decide +kernel
theorem dX6_field_20 : decode cX6_field 20 = .ok (.iload_n 2, 1) := by decide +kernel
theorem dX6_field_21 : decode cX6_field 21 = .ok (.invokestatic 298, 3) := by decide +kernel
theorem dX6_field_24 : decode cX6_field 24 = .ok (.istore_n 3, 1) := by decide +kernel
theorem dX6_field_25 : decode cX6_field 25 = .ok (.iload_n 2, 1) := by decide +kernel
theorem dX6_field_26 : decode cX6_field 26 = .ok (.iconst 4, 1) := by decide +kernel
theorem dX6_field_27 : decode cX6_field 27 = .ok (.if_icmp .eq 20, 3) := by decide +kernel
theorem dX6_field_30 : decode cX6_field 30 = .ok (.iload_n 2, 1) := by decide +kernel
theorem dX6_field_31 : decode cX6_field 31 = .ok (.iconst 5, 1) := by decide +kernel
theorem dX6_field_32 : decode cX6_field 32 = .ok (.if_icmp .eq 15, 3) := by decide +kernel
theorem dX6_field_35 : decode cX6_field 35 = .ok (.iload_n 2, 1) := by decide +kernel
theorem dX6_field_36 : decode cX6_field 36 = .ok (.bipush 20, 2) := by decide +kernel
theorem dX6_field_38 : decode cX6_field 38 = .ok (.if_icmp .eq 9, 3) := by decide +kernel
theorem dX6_field_41 : decode cX6_field 41 = .ok (.iload_n 2, 1) := by decide +kernel
theorem dX6_field_42 : decode cX6_field 42 = .ok (.bipush 21, 2) := by decide +kernel
theorem dX6_field_44 : decode cX6_field 44 = .ok (.if_icmp .ne 7, 3) := by decide +kernel
theorem dX6_field_47 : decode cX6_field 47 = .ok (.iconst 1, 1) := by decide +kernel
theorem dX6_field_48 : decode cX6_field 48 = .ok (.goto 4, 3) := by decide +kernel
theorem dX6_field_51 : decode cX6_field 51 = .ok (.iconst 0, 1) := by decide +kernel
theorem dX6_field_52 : decode cX6_field 52 = .ok (.istore 4, 2) := by decide +kernel
theorem dX6_field_54 : decode cX6_field 54 = .ok (.iload_n 2, 1) := by decide +kernel
theorem dX6_field_55 : decode cX6_field 55 = .ok (.ifCond .eq 9, 3) := by decide +kernel
theorem dX6_field_58 : decode cX6_field 58 = .ok (.iload_n 2, 1) := by decide +kernel
theorem dX6_field_59 : decode cX6_field 59 = .ok (.bipush 16, 2) := by decide +kernel
theorem dX6_field_61 : decode cX6_field 61 = .ok (.if_icmp .ne 7, 3) := by decide +kernel
theorem dX6_field_64 : decode cX6_field 64 = .ok (.iconst 1, 1) := by decide +kernel
theorem dX6_field_65 : decode cX6_field 65 = .ok (.goto 4, 3) := by decide +kernel
theorem dX6_field_68 : decode cX6_field 68 = .ok (.iconst 0, 1) := by decide +kernel
theorem dX6_field_69 : decode cX6_field 69 = .ok (.istore 5, 2) := by decide +kernel
theorem dX6_field_71 : decode cX6_field 71 = .ok (.iload_n 2, 1) := by decide +kernel
theorem dX6_field_72 : decode cX6_field 72 = .ok (.bipush 17, 2) := by decide +kernel
theorem dX6_field_74 : decode cX6_field 74 = .ok (.if_icmp .eq 9, 3) := by decide +kernel
theorem dX6_field_77 : decode cX6_field 77 = .ok (.iload_n 2, 1) := by decide +kernel
theorem dX6_field_78 : decode cX6_field 78 = .ok (.bipush 18, 2) := by decide +kernel
theorem dX6_field_80 : decode cX6_field 80 = .ok (.if_icmp .ne 7, 3) := by decide +kernel
theorem dX6_field_83 : decode cX6_field 83 = .ok (.iconst 1, 1) := by decide +kernel
theorem dX6_field_84 : decode cX6_field 84 = .ok (.goto 4, 3) := by decide +kernel
theorem dX6_field_87 : decode cX6_field 87 = .ok (.iconst 0, 1) := by decide +kernel
theorem dX6_field_88 : decode cX6_field 88 = .ok (.istore 6, 2) := by decide +kernel
theorem dX6_field_90 : decode cX6_field 90 = .ok (.iload_n 1, 1) := by decide +kernel
theorem dX6_field_91 : decode cX6_field 91 = .ok (.tableswitch 402 0 15 #[77, 79, 100, 122, 144, 166, 188, 209, 231, 253, 286, 314, 338, 353, 375, 397], 77) := by decide +kernel
theorem dX6_field_168 : decode cX6_field 168 = .ok (.iload_n 2, 1) := by decide +kernel
theorem dX6_field_169 : decode cX6_field 169 = .ok (.ireturn, 1) := by decide +kernel
theorem dX6_field_170 : decode cX6_field 170 = .ok (.iload_n 3, 1) := by decide +kernel
theorem dX6_field_171 : decode cX6_field 171 = .ok (.ifCond .eq 18, 3) := by decide +kernel
theorem dX6_field_174 : decode cX6_field 174 = .ok (.aload_n 0, 1) := by decide +kernel
theorem dX6_field_175 : decode cX6_field 175 = .ok (.aload_n 0, 1) := by decide +kernel
theorem dX6_field_176 : decode cX6_field 176 = .ok (.getfield 136, 3) := by decide +kernel
theorem dX6_field_179 : decode cX6_field 179 = .ok (.bipush 6, 2) := by decide +kernel
theorem dX6_field_181 : decode cX6_field 181 = .ok (.bipush 8, 2) := by decide +kernel
theorem dX6_field_183 : decode cX6_field 183 = .ok (.invokevirtual 156, 3) := by decide +kernel
theorem dX6_field_186 : decode cX6_field 186 = .ok (.goto 4, 3) := by decide +kernel
theorem dX6_field_189 : decode cX6_field 189 = .ok (.iconst (-1), 1) := by decide +kernel
theorem dX6_field_190 : decode cX6_field 190 = .ok (.ireturn, 1) := by decide +kernel
theorem dX6_field_191 : decode cX6_field 191 = .ok (.iload 4, 2) := by decide +kernel
theorem dX6_field_193 : decode cX6_field 193 = .ok (.ifCond .eq 18, 3) := by decide +kernel
theorem dX6_field_196 : decode cX6_field 196 = .ok (.aload_n 0, 1) := by decide +kernel
theorem dX6_field_197 : decode cX6_field 197 = .ok (.aload_n 0, 1) := by decide +kernel
theorem dX6_field_198 : decode cX6_field 198 = .ok (.getfield 136, 3) := by decide +kernel
theorem dX6_field_201 : decode cX6_field 201 = .ok (.bipush 6, 2) := by decide +kernel
theorem dX6_field_203 : decode cX6_field 203 = .ok (.bipush 8, 2) := by decide +kernel
theorem dX6_field_205 : decode cX6_field 205 = .ok (.invokevirtual 156, 3) := by decide +kernel
theorem dX6_field_208 : decode cX6_field 208 = .ok (.goto 4, 3) := by decide +kernel
theorem dX6_field_211 : decode cX6_field 211 = .ok (.iconst (-1), 1) := by decide +kernel
theorem dX6_field_212 : decode cX6_field 212 = .ok (.ireturn, 1) := by decide +kernel
theorem dX6_field_213 : decode cX6_field 213 = .ok (.iload 4, 2) := by decide +kernel
theorem dX6_field_215 : decode cX6_field 215 = .ok (.ifCond .eq 18, 3) := by decide +kernel
theorem dX6_field_218 : decode cX6_field 218 = .ok (.aload_n 0, 1) := by decide +kernel
theorem dX6_field_219 : decode cX6_field 219 = .ok (.aload_n 0, 1) := by decide +kernel
theorem dX6_field_220 : decode cX6_field 220 = .ok (.getfield 136, 3) := by decide +kernel
theorem dX6_field_223 : decode cX6_field 223 = .ok (.bipush 9, 2) := by decide +kernel
theorem dX6_field_225 : decode cX6_field 225 = .ok (.bipush 13, 2) := by decide +kernel
theorem dX6_field_227 : decode cX6_field 227 = .ok (.invokevirtual 156, 3) := by decide +kernel
theorem dX6_field_230 : decode cX6_field 230 = .ok (.goto 4, 3) := by decide +kernel
theorem dX6_field_233 : decode cX6_field 233 = .ok (.iconst (-1), 1) := by decide +kernel
theorem dX6_field_234 : decode cX6_field 234 = .ok (.ireturn, 1) := by decide +kernel
theorem dX6_field_235 : decode cX6_field 235 = .ok (.iload 4, 2) := by decide +kernel
theorem dX6_field_237 : decode cX6_field 237 = .ok (.ifCond .eq 18, 3) := by decide +kernel
theorem dX6_field_240 : decode cX6_field 240 = .ok (.aload_n 0, 1) := by decide +kernel
theorem dX6_field_241 : decode cX6_field 241 = .ok (.aload_n 0, 1) := by decide +kernel
theorem dX6_field_242 : decode cX6_field 242 = .ok (.getfield 136, 3) := by decide +kernel
theorem dX6_field_245 : decode cX6_field 245 = .ok (.bipush 14, 2) := by decide +kernel
theorem dX6_field_247 : decode cX6_field 247 = .ok (.bipush 19, 2) := by decide +kernel
theorem dX6_field_249 : decode cX6_field 249 = .ok (.invokevirtual 156, 3) := by decide +kernel
theorem dX6_field_252 : decode cX6_field 252 = .ok (.goto 4, 3) := by decide +kernel
theorem dX6_field_255 : decode cX6_field 255 = .ok (.iconst (-1), 1) := by decide +kernel
theorem dX6_field_256 : decode cX6_field 256 = .ok (.ireturn, 1) := by decide +kernel
theorem dX6_field_257 : decode cX6_field 257 = .ok (.iload 5, 2) := by decide +kernel
theorem dX6_field_259 : decode cX6_field 259 = .ok (.ifCond .eq 18, 3) := by decide +kernel
theorem dX6_field_262 : decode cX6_field 262 = .ok (.aload_n 0, 1) := by decide +kernel
theorem dX6_field_263 : decode cX6_field 263 = .ok (.aload_n 0, 1) := by decide +kernel
theorem dX6_field_264 : decode cX6_field 264 = .ok (.getfield 136, 3) := by decide +kernel
theorem dX6_field_267 : decode cX6_field 267 = .ok (.bipush 6, 2) := by decide +kernel
theorem dX6_field_269 : decode cX6_field 269 = .ok (.bipush 6, 2) := by decide +kernel
theorem dX6_field_271 : decode cX6_field 271 = .ok (.invokevirtual 156, 3) := by decide +kernel
theorem dX6_field_274 : decode cX6_field 274 = .ok (.goto 4, 3) := by decide +kernel
theorem dX6_field_277 : decode cX6_field 277 = .ok (.iconst (-1), 1) := by decide +kernel
theorem dX6_field_278 : decode cX6_field 278 = .ok (.ireturn, 1) := by decide +kernel
theorem dX6_field_279 : decode cX6_field 279 = .ok (.iload_n 2, 1) := by decide +kernel
theorem dX6_field_280 : decode cX6_field 280 = .ok (.ifCond .ne 18, 3) := by decide +kernel
theorem dX6_field_283 : decode cX6_field 283 = .ok (.aload_n 0, 1) := by decide +kernel
theorem dX6_field_284 : decode cX6_field 284 = .ok (.aload_n 0, 1) := by decide +kernel
theorem dX6_field_285 : decode cX6_field 285 = .ok (.getfield 136, 3) := by decide +kernel
theorem dX6_field_288 : decode cX6_field 288 = .ok (.bipush 7, 2) := by decide +kernel
theorem dX6_field_290 : decode cX6_field 290 = .ok (.bipush 7, 2) := by decide +kernel
theorem dX6_field_292 : decode cX6_field 292 = .ok (.invokevirtual 156, 3) := by decide +kernel
theorem dX6_field_295 : decode cX6_field 295 = .ok (.goto 4, 3) := by decide +kernel
theorem dX6_field_298 : decode cX6_field 298 = .ok (.iconst (-1), 1) := by decide +kernel
theorem dX6_field_299 : decode cX6_field 299 = .ok (.ireturn, 1) := by decide +kernel
theorem dX6_field_300 : decode cX6_field 300 = .ok (.iload 5, 2) := by decide +kernel
theorem dX6_field_302 : decode cX6_field 302 = .ok (.ifCond .eq 18, 3) := by decide +kernel
theorem dX6_field_305 : decode cX6_field 305 = .ok (.aload_n 0, 1) := by decide +kernel
theorem dX6_field_306 : decode cX6_field 306 = .ok (.aload_n 0, 1) := by decide +kernel
theorem dX6_field_307 : decode cX6_field 307 = .ok (.getfield 136, 3) := by decide +kernel
theorem dX6_field_310 : decode cX6_field 310 = .ok (.bipush 9, 2) := by decide +kernel
theorem dX6_field_312 : decode cX6_field 312 = .ok (.bipush 11, 2) := by decide +kernel
theorem dX6_field_314 : decode cX6_field 314 = .ok (.invokevirtual 156, 3) := by decide +kernel
theorem dX6_field_317 : decode cX6_field 317 = .ok (.goto 4, 3) := by decide +kernel
theorem dX6_field_320 : decode cX6_field 320 = .ok (.iconst (-1), 1) := by decide +kernel
theorem dX6_field_321 : decode cX6_field 321 = .ok (.ireturn, 1) := by decide +kernel
theorem dX6_field_322 : decode cX6_field 322 = .ok (.iload 5, 2) := by decide +kernel
theorem dX6_field_324 : decode cX6_field 324 = .ok (.ifCond .eq 18, 3) := by decide +kernel
theorem dX6_field_327 : decode cX6_field 327 = .ok (.aload_n 0, 1) := by decide +kernel
theorem dX6_field_328 : decode cX6_field 328 = .ok (.aload_n 0, 1) := by decide +kernel
theorem dX6_field_329 : decode cX6_field 329 = .ok (.getfield 136, 3) := by decide +kernel
theorem dX6_field_332 : decode cX6_field 332 = .ok (.bipush 14, 2) := by decide +kernel
theorem dX6_field_334 : decode cX6_field 334 = .ok (.bipush 17, 2) := by decide +kernel
theorem dX6_field_336 : decode cX6_field 336 = .ok (.invokevirtual 156, 3) := by decide +kernel
theorem dX6_field_339 : decode cX6_field 339 = .ok (.goto 4, 3) := by decide +kernel
theorem dX6_field_342 : decode cX6_field 342 = .ok (.iconst (-1), 1) := by decide +kernel
theorem dX6_field_343 : decode cX6_field 343 = .ok (.ireturn, 1) := by decide +kernel
theorem dX6_field_344 : decode cX6_field 344 = .ok (.iload 5, 2) := by decide +kernel
theorem dX6_field_346 : decode cX6_field 346 = .ok (.ifCond .ne 14, 3) := by decide +kernel
theorem dX6_field_349 : decode cX6_field 349 = .ok (.iload_n 2, 1) := by decide +kernel
theorem dX6_field_350 : decode cX6_field 350 = .ok (.iconst 4, 1) := by decide +kernel
theorem dX6_field_351 : decode cX6_field 351 = .ok (.if_icmp .eq 9, 3) := by decide +kernel
theorem dX6_field_354 : decode cX6_field 354 = .ok (.iload_n 2, 1) := by decide +kernel
theorem dX6_field_355 : decode cX6_field 355 = .ok (.bipush 20, 2) := by decide +kernel
theorem dX6_field_357 : decode cX6_field 357 = .ok (.if_icmp .ne 18, 3) := by decide +kernel
theorem dX6_field_360 : decode cX6_field 360 = .ok (.aload_n 0, 1) := by decide +kernel
theorem dX6_field_361 : decode cX6_field 361 = .ok (.aload_n 0, 1) := by decide +kernel
theorem dX6_field_362 : decode cX6_field 362 = .ok (.getfield 136, 3) := by decide +kernel
theorem dX6_field_365 : decode cX6_field 365 = .ok (.bipush 20, 2) := by decide +kernel
theorem dX6_field_367 : decode cX6_field 367 = .ok (.bipush 32, 2) := by decide +kernel
theorem dX6_field_369 : decode cX6_field 369 = .ok (.invokevirtual 156, 3) := by decide +kernel
theorem dX6_field_372 : decode cX6_field 372 = .ok (.goto 4, 3) := by decide +kernel
theorem dX6_field_375 : decode cX6_field 375 = .ok (.iconst (-1), 1) := by decide +kernel
theorem dX6_field_376 : decode cX6_field 376 = .ok (.ireturn, 1) := by decide +kernel
theorem dX6_field_377 : decode cX6_field 377 = .ok (.iload_n 2, 1) := by decide +kernel
theorem dX6_field_378 : decode cX6_field 378 = .ok (.iconst 5, 1) := by decide +kernel
theorem dX6_field_379 : decode cX6_field 379 = .ok (.if_icmp .eq 9, 3) := by decide +kernel
theorem dX6_field_382 : decode cX6_field 382 = .ok (.iload_n 2, 1) := by decide +kernel
theorem dX6_field_383 : decode cX6_field 383 = .ok (.bipush 21, 2) := by decide +kernel
theorem dX6_field_385 : decode cX6_field 385 = .ok (.if_icmp .ne 18, 3) := by decide +kernel
theorem dX6_field_388 : decode cX6_field 388 = .ok (.aload_n 0, 1) := by decide +kernel
theorem dX6_field_389 : decode cX6_field 389 = .ok (.aload_n 0, 1) := by decide +kernel
theorem dX6_field_390 : decode cX6_field 390 = .ok (.getfield 136, 3) := by decide +kernel
theorem dX6_field_393 : decode cX6_field 393 = .ok (.bipush 20, 2) := by decide +kernel
theorem dX6_field_395 : decode cX6_field 395 = .ok (.bipush 32, 2) := by decide +kernel
theorem dX6_field_397 : decode cX6_field 397 = .ok (.invokevirtual 156, 3) := by decide +kernel
theorem dX6_field_400 : decode cX6_field 400 = .ok (.goto 4, 3) := by decide +kernel
theorem dX6_field_403 : decode cX6_field 403 = .ok (.iconst (-1), 1) := by decide +kernel
theorem dX6_field_404 : decode cX6_field 404 = .ok (.ireturn, 1) := by decide +kernel
theorem dX6_field_405 : decode cX6_field 405 = .ok (.iload_n 3, 1) := by decide +kernel
theorem dX6_field_406 : decode cX6_field 406 = .ok (.ifCond .eq 18, 3) := by decide +kernel
theorem dX6_field_409 : decode cX6_field 409 = .ok (.aload_n 0, 1) := by decide +kernel
theorem dX6_field_410 : decode cX6_field 410 = .ok (.aload_n 0, 1) := by decide +kernel
theorem dX6_field_411 : decode cX6_field 411 = .ok (.getfield 136, 3) := by decide +kernel
theorem dX6_field_414 : decode cX6_field 414 = .ok (.bipush 9, 2) := by decide +kernel
theorem dX6_field_416 : decode cX6_field 416 = .ok (.bipush 32, 2) := by decide +kernel
theorem dX6_field_418 : decode cX6_field 418 = .ok (.invokevirtual 156, 3) := by decide +kernel
theorem dX6_field_421 : decode cX6_field 421 = .ok (.goto 7, 3) := by decide +kernel
theorem dX6_field_424 : decode cX6_field 424 = .ok (.aload_n 0, 1) := by decide +kernel
theorem dX6_field_425 : decode cX6_field 425 = .ok (.getfield 307, 3) := by decide +kernel
theorem dX6_field_428 : decode cX6_field 428 = .ok (.ireturn, 1) := by decide +kernel
theorem dX6_field_429 : decode cX6_field 429 = .ok (.iload_n 2, 1) := by decide +kernel
theorem dX6_field_430 : decode cX6_field 430 = .ok (.bipush 11, 2) := by decide +kernel
theorem dX6_field_432 : decode cX6_field 432 = .ok (.if_icmp .ne 10, 3) := by decide +kernel
theorem dX6_field_435 : decode cX6_field 435 = .ok (.aload_n 0, 1) := by decide +kernel
theorem dX6_field_436 : decode cX6_field 436 = .ok (.getfield 307, 3) := by decide +kernel
theorem dX6_field_439 : decode cX6_field 439 = .ok (.goto 4, 3) := by decide +kernel
theorem dX6_field_442 : decode cX6_field 442 = .ok (.iconst (-1), 1) := by decide +kernel
theorem dX6_field_443 : decode cX6_field 443 = .ok (.ireturn, 1) := by decide +kernel
theorem dX6_field_444 : decode cX6_field 444 = .ok (.iload 6, 2) := by decide +kernel
theorem dX6_field_446 : decode cX6_field 446 = .ok (.ifCond .eq 18, 3) := by decide +kernel
theorem dX6_field_449 : decode cX6_field 449 = .ok (.aload_n 0, 1) := by decide +kernel
theorem dX6_field_450 : decode cX6_field 450 = .ok (.aload_n 0, 1) := by decide +kernel
theorem dX6_field_451 : decode cX6_field 451 = .ok (.getfield 136, 3) := by decide +kernel
theorem dX6_field_454 : decode cX6_field 454 = .ok (.bipush 33, 2) := by decide +kernel
theorem dX6_field_456 : decode cX6_field 456 = .ok (.bipush 37, 2) := by decide +kernel
theorem dX6_field_458 : decode cX6_field 458 = .ok (.invokevirtual 156, 3) := by decide +kernel
theorem dX6_field_461 : decode cX6_field 461 = .ok (.goto 4, 3) := by decide +kernel
theorem dX6_field_464 : decode cX6_field 464 = .ok (.iconst (-1), 1) := by decide +kernel
theorem dX6_field_465 : decode cX6_field 465 = .ok (.ireturn, 1) := by decide +kernel
theorem dX6_field_466 : decode cX6_field 466 = .ok (.iload 6, 2) := by decide +kernel
theorem dX6_field_468 : decode cX6_field 468 = .ok (.ifCond .eq 18, 3) := by decide +kernel
theorem dX6_field_471 : decode cX6_field 471 = .ok (.aload_n 0, 1) := by decide +kernel
theorem dX6_field_472 : decode cX6_field 472 = .ok (.aload_n 0, 1) := by decide +kernel
theorem dX6_field_473 : decode cX6_field 473 = .ok (.getfield 136, 3) := by decide +kernel
theorem dX6_field_476 : decode cX6_field 476 = .ok (.bipush 38, 2) := by decide +kernel
theorem dX6_field_478 : decode cX6_field 478 = .ok (.bipush 40, 2) := by decide +kernel
theorem dX6_field_480 : decode cX6_field 480 = .ok (.invokevirtual 156, 3) := by decide +kernel
theorem dX6_field_483 : decode cX6_field 483 = .ok (.goto 4, 3) := by decide +kernel
theorem dX6_field_486 : decode cX6_field 486 = .ok (.iconst (-1), 1) := by decide +kernel
theorem dX6_field_487 : decode cX6_field 487 = .ok (.ireturn, 1) := by decide +kernel
theorem dX6_field_488 : decode cX6_field 488 = .ok (.aload_n 0, 1) := by decide +kernel
theorem dX6_field_489 : decode cX6_field 489 = .ok (.getfield 139, 3) := by decide +kernel
theorem dX6_field_492 : decode cX6_field 492 = .ok (.ireturn, 1) := by decide +kernel
theorem dX6_field_493 : decode cX6_field 493 = .ok (.iconst (-1), 1) := by decide +kernel
theorem dX6_field_494 : decode cX6_field 494 = .ok (.ireturn, 1) := by decide +kernel
theorem dX6_bits_0 : decode cX6_bits 0 = .ok (.iload_n 1, 1) := by decide +kernel
theorem dX6_bits_1 : decode cX6_bits 1 = .ok (.iconst 1, 1) := by decide +kernel
theorem dX6_bits_2 : decode cX6_bits 2 = .ok (.if_icmp .lt 26, 3) := by decide +kernel
theorem dX6_bits_5 : decode cX6_bits 5 = .ok (.iload_n 2, 1) := by decide +kernel
theorem dX6_bits_6 : decode cX6_bits 6 = .ok (.iconst 1, 1) := by decide +kernel
theorem dX6_bits_7 : decode cX6_bits 7 = .ok (.if_icmp .lt 21, 3) := by decide +kernel
theorem dX6_bits_10 : decode cX6_bits 10 = .ok (.iload_n 2, 1) := by decide +kernel
theorem dX6_bits_11 : decode cX6_bits 11 = .ok (.bipush 32, 2) := by decide +kernel
theorem dX6_bits_13 : decode cX6_bits 13 = .ok (.if_icmp .gt 15, 3) := by decide +kernel
theorem dX6_bits_16 : decode cX6_bits 16 = .ok (.iload_n 1, 1) := by decide +kernel
theorem dX6_bits_17 : decode cX6_bits 17 = .ok (.aload_n 0, 1) := by decide +kernel
theorem dX6_bits_18 : decode cX6_bits 18 = .ok (.getfield 304, 3) := by decide +kernel
theorem dX6_bits_21 : decode cX6_bits 21 = .ok (.iload_n 2, 1) := by decide +kernel
theorem dX6_bits_22 : decode cX6_bits 22 = .ok (.isub, 1) := by decide +kernel
theorem dX6_bits_23 : decode cX6_bits 23 = .ok (.iconst 1, 1) := by decide +kernel
theorem dX6_bits_24 : decode cX6_bits 24 = .ok (.iadd, 1) := by decide +kernel
theorem dX6_bits_25 : decode cX6_bits 25 = .ok (.if_icmp .le 5, 3) := by decide +kernel
theorem dX6_bits_28 : decode cX6_bits 28 = .ok (.iconst 0, 1) := by decide +kernel
theorem dX6_bits_29 : decode cX6_bits 29 = .ok (.ireturn, 1) := by decide +kernel
theorem dX6_bits_30 : decode cX6_bits 30 = .ok (.aload_n 0, 1) := by decide +kernel
theorem dX6_bits_31 : decode cX6_bits 31 = .ok (.aload_n 0, 1) := by decide +kernel
theorem dX6_bits_32 : decode cX6_bits 32 = .ok (.getfield 136, 3) := by decide +kernel
theorem dX6_bits_35 : decode cX6_bits 35 = .ok (.iload_n 1, 1) := by decide +kernel
theorem dX6_bits_36 : decode cX6_bits 36 = .ok (.iload_n 1, 1) := by decide +kernel
theorem dX6_bits_37 : decode cX6_bits 37 = .ok (.iload_n 2, 1) := by decide +kernel
theorem dX6_bits_38 : decode cX6_bits 38 = .ok (.iadd, 1) := by decide +kernel
theorem dX6_bits_39 : decode cX6_bits 39 = .ok (.iconst 1, 1) := by decide +kernel
theorem dX6_bits_40 : decode cX6_bits 40 = .ok (.isub, 1) := by decide +kernel
theorem dX6_bits_41 : decode cX6_bits 41 = .ok (.invokevirtual 156, 3) := by decide +kernel
theorem dX6_bits_44 : decode cX6_bits 44 = .ok (.ireturn, 1) := by decide +kernel
theorem dX6_crafts_0 : decode cX6_crafts 0 = .ok (.aload_n 0, 1) := by decide +kernel
theorem dX6_crafts_1 : decode cX6_crafts 1 = .ok (.getfield 281, 3) := by decide +kernel
theorem dX6_crafts_4 : decode cX6_crafts 4 = .ok (.ireturn, 1) := by decide +kernel
theorem dX6_isCraft_0 : decode cX6_isCraft 0 = .ok (.iload_n 1, 1) := by decide +kernel
theorem dX6_isCraft_1 : decode cX6_isCraft 1 = .ok (.ifCond .lt 15, 3) := by decide +kernel
theorem dX6_isCraft_4 : decode cX6_isCraft 4 = .ok (.iload_n 1, 1) := by decide +kernel
theorem dX6_isCraft_5 : decode cX6_isCraft 5 = .ok (.aload_n 0, 1) := by decide +kernel
theorem dX6_isCraft_6 : decode cX6_isCraft 6 = .ok (.getfield 281, 3) := by decide +kernel
theorem dX6_isCraft_9 : decode cX6_isCraft 9 = .ok (.if_icmp .ge 7, 3) := by decide +kernel
theorem dX6_isCraft_12 : decode cX6_isCraft 12 = .ok (.iconst 1, 1) := by decide +kernel
theorem dX6_isCraft_13 : decode cX6_isCraft 13 = .ok (.goto 4, 3) := by decide +kernel
theorem dX6_isCraft_16 : decode cX6_isCraft 16 = .ok (.iconst 0, 1) := by decide +kernel
theorem dX6_isCraft_17 : decode cX6_isCraft 17 = .ok (.ireturn, 1) := by decide +kernel
theorem dX6_craft_0 : decode cX6_craft 0 = .ok (.aload_n 0, 1) := by decide +kernel
theorem dX6_craft_1 : decode cX6_craft 1 = .ok (.iload_n 1, 1) := by decide +kernel
theorem dX6_craft_2 : decode cX6_craft 2 = .ok (.invokevirtual 350, 3) := by decide +kernel
theorem dX6_craft_5 : decode cX6_craft 5 = .ok (.ifCond .eq 27, 3) := by decide +kernel
theorem dX6_craft_8 : decode cX6_craft 8 = .ok (.iload_n 2, 1) := by decide +kernel
theorem dX6_craft_9 : decode cX6_craft 9 = .ok (.ifCond .lt 23, 3) := by decide +kernel
theorem dX6_craft_12 : decode cX6_craft 12 = .ok (.iload_n 2, 1) := by decide +kernel
theorem dX6_craft_13 : decode cX6_craft 13 = .ok (.bipush 18, 2) := by decide +kernel
theorem dX6_craft_15 : decode cX6_craft 15 = .ok (.if_icmp .ge 17, 3) := by decide +kernel
theorem dX6_craft_18 : decode cX6_craft 18 = .ok (.aload_n 0, 1) := by decide +kernel
theorem dX6_craft_19 : decode cX6_craft 19 = .ok (.getfield 129, 3) := by decide +kernel
theorem dX6_craft_22 : decode cX6_craft 22 = .ok (.aload_n 0, 1) := by decide +kernel
theorem dX6_craft_23 : decode cX6_craft 23 = .ok (.iload_n 1, 1) := by decide +kernel
theorem dX6_craft_24 : decode cX6_craft 24 = .ok (.iload_n 2, 1) := by decide +kernel
theorem dX6_craft_25 : decode cX6_craft 25 = .ok (.invokevirtual 284, 3) := by decide +kernel
theorem dX6_craft_28 : decode cX6_craft 28 = .ok (.iaload, 1) := by decide +kernel
theorem dX6_craft_29 : decode cX6_craft 29 = .ok (.goto 4, 3) := by decide +kernel
theorem dX6_craft_32 : decode cX6_craft 32 = .ok (.iconst (-1), 1) := by decide +kernel
theorem dX6_craft_33 : decode cX6_craft 33 = .ok (.ireturn, 1) := by decide +kernel
theorem dX6_sign_0 : decode cX6_sign 0 = .ok (.aload_n 0, 1) := by decide +kernel
theorem dX6_sign_1 : decode cX6_sign 1 = .ok (.iload_n 1, 1) := by decide +kernel
theorem dX6_sign_2 : decode cX6_sign 2 = .ok (.invokevirtual 350, 3) := by decide +kernel
theorem dX6_sign_5 : decode cX6_sign 5 = .ok (.ifCond .eq 46, 3) := by decide +kernel
theorem dX6_sign_8 : decode cX6_sign 8 = .ok (.iload_n 2, 1) := by decide +kernel
theorem dX6_sign_9 : decode cX6_sign 9 = .ok (.ifCond .lt 42, 3) := by decide +kernel
theorem dX6_sign_12 : decode cX6_sign 12 = .ok (.iload_n 2, 1) := by decide +kernel
theorem dX6_sign_13 : decode cX6_sign 13 = .ok (.bipush 8, 2) := by decide +kernel
theorem dX6_sign_15 : decode cX6_sign 15 = .ok (.if_icmp .ge 36, 3) := by decide +kernel
theorem dX6_sign_18 : decode cX6_sign 18 = .ok (.aload_n 0, 1) := by decide +kernel
theorem dX6_sign_19 : decode cX6_sign 19 = .ok (.getfield 129, 3) := by decide +kernel
theorem dX6_sign_22 : decode cX6_sign 22 = .ok (.aload_n 0, 1) := by decide +kernel
theorem dX6_sign_23 : decode cX6_sign 23 = .ok (.iload_n 1, 1) := by decide +kernel
theorem dX6_sign_24 : decode cX6_sign 24 = .ok (.bipush 18, 2) := by decide +kernel
theorem dX6_sign_26 : decode cX6_sign 26 = .ok (.invokevirtual 284, 3) := by decide +kernel
theorem dX6_sign_29 : decode cX6_sign 29 = .ok (.iaload, 1) := by decide +kernel
theorem dX6_sign_30 : decode cX6_sign 30 = .ok (.iconst 1, 1) := by decide +kernel
theorem dX6_sign_31 : decode cX6_sign 31 = .ok (.if_icmp .ne 20, 3) := by decide +kernel
theorem dX6_sign_34 : decode cX6_sign 34 = .ok (.aload_n 0, 1) := by decide +kernel
theorem dX6_sign_35 : decode cX6_sign 35 = .ok (.getfield 129, 3) := by decide +kernel
theorem dX6_sign_38 : decode cX6_sign 38 = .ok (.aload_n 0, 1) := by decide +kernel
theorem dX6_sign_39 : decode cX6_sign 39 = .ok (.iload_n 1, 1) := by decide +kernel
theorem dX6_sign_40 : decode cX6_sign 40 = .ok (.bipush 19, 2) := by decide +kernel
theorem dX6_sign_42 : decode cX6_sign 42 = .ok (.iload_n 2, 1) := by decide +kernel
theorem dX6_sign_43 : decode cX6_sign 43 = .ok (.iadd, 1) := by decide +kernel
theorem dX6_sign_44 : decode cX6_sign 44 = .ok (.invokevirtual 284, 3) := by decide +kernel
theorem dX6_sign_47 : decode cX6_sign 47 = .ok (.iaload, 1) := by decide +kernel
theorem dX6_sign_48 : decode cX6_sign 48 = .ok (.goto 4, 3) := by decide +kernel
theorem dX6_sign_51 : decode cX6_sign 51 = .ok (.iconst (-1), 1) := by decide +kernel
theorem dX6_sign_52 : decode cX6_sign 52 = .ok (.ireturn, 1) := by decide +kernel
end
section
/-! decoded instructions -/
theorem dL_law_0 : decode cL_law 0 = .ok (.new 7, 3) := by decide +kernel
theorem dL_law_3 : decode cL_law 3 = .ok (.dup, 1) := by decide +kernel
theorem dL_law_4 : decode cL_law 4 = .ok (.invokespecial 9, 3) := by decide +kernel
theorem dL_law_7 : decode cL_law 7 = .ok (.astore_n 1, 1) := by decide +kernel
theorem dL_law_8 : decode cL_law 8 = .ok (.new 10, 3) := by decide +kernel
theorem dL_law_11 : decode cL_law 11 = .ok (.dup, 1) := by decide +kernel
theorem dL_law_12 : decode cL_law 12 = .ok (.invokespecial 12, 3) := by decide +kernel
theorem dL_law_15 : decode cL_law 15 = .ok (.astore_n 2, 1) := by decide +kernel
theorem dL_law_16 : decode cL_law 16 = .ok (.iconst 0, 1) := by decide +kernel
theorem dL_law_17 : decode cL_law 17 = .ok (.istore_n 3, 1) := by decide +kernel
theorem dL_law_18 : decode cL_law 18 = .ok (.iload_n 3, 1) := by decide +kernel
theorem dL_law_19 : decode cL_law 19 = .ok (.aload_n 0, 1) := by decide +kernel
theorem dL_law_20 : decode cL_law 20 = .ok (.arraylength, 1) := by decide +kernel
theorem dL_law_21 : decode cL_law 21 = .ok (.bipush 7, 2) := by decide +kernel
theorem dL_law_23 : decode cL_law 23 = .ok (.isub, 1) := by decide +kernel
theorem dL_law_24 : decode cL_law 24 = .ok (.if_icmp .gt 860, 3) := by decide +kernel
theorem dL_law_27 : decode cL_law 27 = .ok (.aload_n 0, 1) := by decide +kernel
theorem dL_law_28 : decode cL_law 28 = .ok (.iload_n 3, 1) := by decide +kernel
theorem dL_law_29 : decode cL_law 29 = .ok (.iaload, 1) := by decide +kernel
theorem dL_law_30 : decode cL_law 30 = .ok (.bipush 15, 2) := by decide +kernel
theorem dL_law_32 : decode cL_law 32 = .ok (.iand, 1) := by decide +kernel
theorem dL_law_33 : decode cL_law 33 = .ok (.tableswitch 845 0 14 #[75, 128, 181, 234, 267, 330, 353, 386, 399, 422, 455, 488, 511, 597, 717], 75) := by decide +kernel
theorem dL_law_108 : decode cL_law 108 = .ok (.aload_n 1, 1) := by decide +kernel
theorem dL_law_109 : decode cL_law 109 = .ok (.aload_n 0, 1) := by decide +kernel
theorem dL_law_110 : decode cL_law 110 = .ok (.iload_n 3, 1) := by decide +kernel
theorem dL_law_111 : decode cL_law 111 = .ok (.iconst 1, 1) := by decide +kernel
theorem dL_law_112 : decode cL_law 112 = .ok (.iadd, 1) := by decide +kernel
theorem dL_law_113 : decode cL_law 113 = .ok (.iaload, 1) := by decide +kernel
theorem dL_law_114 : decode cL_law 114 = .ok (.aload_n 0, 1) := by decide +kernel
theorem dL_law_115 : decode cL_law 115 = .ok (.iload_n 3, 1) := by decide +kernel
theorem dL_law_116 : decode cL_law 116 = .ok (.iconst 2, 1) := by decide +kernel
theorem dL_law_117 : decode cL_law 117 = .ok (.iadd, 1) := by decide +kernel
theorem dL_law_118 : decode cL_law 118 = .ok (.iaload, 1) := by decide +kernel
theorem dL_law_119 : decode cL_law 119 = .ok (.aload_n 0, 1) := by decide +kernel
theorem dL_law_120 : decode cL_law 120 = .ok (.iload_n 3, 1) := by decide +kernel
theorem dL_law_121 : decode cL_law 121 = .ok (.iconst 3, 1) := by decide +kernel
theorem dL_law_122 : decode cL_law 122 = .ok (.iadd, 1) := by decide +kernel
theorem dL_law_123 : decode cL_law 123 = .ok (.iaload, 1) := by decide +kernel
theorem dL_law_124 : decode cL_law 124 = .ok (.aload_n 0, 1) := by decide +kernel
theorem dL_law_125 : decode cL_law 125 = .ok (.iload_n 3, 1) := by decide +kernel
theorem dL_law_126 : decode cL_law 126 = .ok (.iconst 4, 1) := by decide +kernel
theorem dL_law_127 : decode cL_law 127 = .ok (.iadd, 1) := by decide +kernel
theorem dL_law_128 : decode cL_law 128 = .ok (.iaload, 1) := by decide +kernel
theorem dL_law_129 : decode cL_law 129 = .ok (.invokevirtual 13, 3) := by decide +kernel
theorem dL_law_132 : decode cL_law 132 = .ok (.aload_n 2, 1) := by decide +kernel
theorem dL_law_133 : decode cL_law 133 = .ok (.aload_n 0, 1) := by decide +kernel
theorem dL_law_134 : decode cL_law 134 = .ok (.iload_n 3, 1) := by decide +kernel
theorem dL_law_135 : decode cL_law 135 = .ok (.iconst 1, 1) := by decide +kernel
theorem dL_law_136 : decode cL_law 136 = .ok (.iadd, 1) := by decide +kernel
theorem dL_law_137 : decode cL_law 137 = .ok (.iaload, 1) := by decide +kernel
theorem dL_law_138 : decode cL_law 138 = .ok (.aload_n 0, 1) := by decide +kernel
theorem dL_law_139 : decode cL_law 139 = .ok (.iload_n 3, 1) := by decide +kernel
theorem dL_law_140 : decode cL_law 140 = .ok (.iconst 2, 1) := by decide +kernel
theorem dL_law_141 : decode cL_law 141 = .ok (.iadd, 1) := by decide +kernel
theorem dL_law_142 : decode cL_law 142 = .ok (.iaload, 1) := by decide +kernel
theorem dL_law_143 : decode cL_law 143 = .ok (.aload_n 0, 1) := by decide +kernel
theorem dL_law_144 : decode cL_law 144 = .ok (.iload_n 3, 1) := by decide +kernel
theorem dL_law_145 : decode cL_law 145 = .ok (.iconst 3, 1) := by decide +kernel
theorem dL_law_146 : decode cL_law 146 = .ok (.iadd, 1) := by decide +kernel
theorem dL_law_147 : decode cL_law 147 = .ok (.iaload, 1) := by decide +kernel
theorem dL_law_148 : decode cL_law 148 = .ok (.aload_n 0, 1) := by decide +kernel
theorem dL_law_149 : decode cL_law 149 = .ok (.iload_n 3, 1) := by decide +kernel
theorem dL_law_150 : decode cL_law 150 = .ok (.iconst 4, 1) := by decide +kernel
theorem dL_law_151 : decode cL_law 151 = .ok (.iadd, 1) := by decide +kernel
theorem dL_law_152 : decode cL_law 152 = .ok (.iaload, 1) := by decide +kernel
theorem dL_law_153 : decode cL_law 153 = .ok (.invokevirtual 17, 3) := by decide +kernel
theorem dL_law_156 : decode cL_law 156 = .ok (.if_icmp .eq 722, 3) := by decide +kernel
theorem dL_law_159 : decode cL_law 159 = .ok (.iconst 0, 1) := by decide +kernel
theorem dL_law_160 : decode cL_law 160 = .ok (.ireturn, 1) := by decide +kernel
theorem dL_law_161 : decode cL_law 161 = .ok (.aload_n 1, 1) := by decide +kernel
theorem dL_law_162 : decode cL_law 162 = .ok (.aload_n 0, 1) := by decide +kernel
theorem dL_law_163 : decode cL_law 163 = .ok (.iload_n 3, 1) := by decide +kernel
theorem dL_law_164 : decode cL_law 164 = .ok (.iconst 1, 1) := by decide +kernel
theorem dL_law_165 : decode cL_law 165 = .ok (.iadd, 1) := by decide +kernel
theorem dL_law_166 : decode cL_law 166 = .ok (.iaload, 1) := by decide +kernel
theorem dL_law_167 : decode cL_law 167 = .ok (.aload_n 0, 1) := by decide +kernel
theorem dL_law_168 : decode cL_law 168 = .ok (.iload_n 3, 1) := by decide +kernel
theorem dL_law_169 : decode cL_law 169 = .ok (.iconst 2, 1) := by decide +kernel
theorem dL_law_170 : decode cL_law 170 = .ok (.iadd, 1) := by decide +kernel
theorem dL_law_171 : decode cL_law 171 = .ok (.iaload, 1) := by decide +kernel
theorem dL_law_172 : decode cL_law 172 = .ok (.aload_n 0, 1) := by decide +kernel
theorem dL_law_173 : decode cL_law 173 = .ok (.iload_n 3, 1) := by decide +kernel
theorem dL_law_174 : decode cL_law 174 = .ok (.iconst 3, 1) := by decide +kernel
theorem dL_law_175 : decode cL_law 175 = .ok (.iadd, 1) := by decide +kernel
theorem dL_law_176 : decode cL_law 176 = .ok (.iaload, 1) := by decide +kernel
theorem dL_law_177 : decode cL_law 177 = .ok (.aload_n 0, 1) := by decide +kernel
theorem dL_law_178 : decode cL_law 178 = .ok (.iload_n 3, 1) := by decide +kernel
theorem dL_law_179 : decode cL_law 179 = .ok (.iconst 4, 1) := by decide +kernel
theorem dL_law_180 : decode cL_law 180 = .ok (.iadd, 1) := by decide +kernel
theorem dL_law_181 : decode cL_law 181 = .ok (.iaload, 1) := by decide +kernel
theorem dL_law_182 : decode cL_law 182 = .ok (.invokevirtual 18, 3) := by decide +kernel
theorem dL_law_185 : decode cL_law 185 = .ok (.aload_n 2, 1) := by decide +kernel
theorem dL_law_186 : decode cL_law 186 = .ok (.aload_n 0, 1) := by decide +kernel
theorem dL_law_187 : decode cL_law 187 = .ok (.iload_n 3, 1) := by decide +kernel
theorem dL_law_188 : decode cL_law 188 = .ok (.iconst 1, 1) := by decide +kernel
theorem dL_law_189 : decode cL_law 189 = .ok (.iadd, 1) := by decide +kernel
theorem dL_law_190 : decode cL_law 190 = .ok (.iaload, 1) := by decide +kernel
theorem dL_law_191 : decode cL_law 191 = .ok (.aload_n 0, 1) := by decide +kernel
theorem dL_law_192 : decode cL_law 192 = .ok (.iload_n 3, 1) := by decide +kernel
theorem dL_law_193 : decode cL_law 193 = .ok (.iconst 2, 1) := by decide +kernel
theorem dL_law_194 : decode cL_law 194 = .ok (.iadd, 1) := by decide +kernel
theorem dL_law_195 : decode cL_law 195 = .ok (.iaload, 1) := by decide +kernel
theorem dL_law_196 : decode cL_law 196 = .ok (.aload_n 0, 1) := by decide +kernel
theorem dL_law_197 : decode cL_law 197 = .ok (.iload_n 3, 1) := by decide +kernel
theorem dL_law_198 : decode cL_law 198 = .ok (.iconst 3, 1) := by decide +kernel
theorem dL_law_199 : decode cL_law 199 = .ok (.iadd, 1) := by decide +kernel
theorem dL_law_200 : decode cL_law 200 = .ok (.iaload, 1) := by decide +kernel
theorem dL_law_201 : decode cL_law 201 = .ok (.aload_n 0, 1) := by decide +kernel
theorem dL_law_202 : decode cL_law 202 = .ok (.iload_n 3, 1) := by decide +kernel
theorem dL_law_203 : decode cL_law 203 = .ok (.iconst 4, 1) := by decide +kernel
theorem dL_law_204 : decode cL_law 204 = .ok (.iadd, 1) := by decide +kernel
theorem dL_law_205 : decode cL_law 205 = .ok (.iaload, 1) := by decide +kernel
theorem dL_law_206 : decode cL_law 206 = .ok (.invokevirtual 21, 3) := by decide +kernel
theorem dL_law_209 : decode cL_law 209 = .ok (.if_icmp .eq 669, 3) := by decide +kernel
theorem dL_law_212 : decode cL_law 212 = .ok (.iconst 0, 1) := by decide +kernel
theorem dL_law_213 : decode cL_law 213 = .ok (.ireturn, 1) := by decide +kernel
theorem dL_law_214 : decode cL_law 214 = .ok (.aload_n 1, 1) := by decide +kernel
theorem dL_law_215 : decode cL_law 215 = .ok (.aload_n 0, 1) := by decide +kernel
theorem dL_law_216 : decode cL_law 216 = .ok (.iload_n 3, 1) := by decide +kernel
theorem dL_law_217 : decode cL_law 217 = .ok (.iconst 1, 1) := by decide +kernel
theorem dL_law_218 : decode cL_law 218 = .ok (.iadd, 1) := by decide +kernel
theorem dL_law_219 : decode cL_law 219 = .ok (.iaload, 1) := by decide +kernel
theorem dL_law_220 : decode cL_law 220 = .ok (.aload_n 0, 1) := by decide +kernel
theorem dL_law_221 : decode cL_law 221 = .ok (.iload_n 3, 1) := by decide +kernel
theorem dL_law_222 : decode cL_law 222 = .ok (.iconst 2, 1) := by decide +kernel
theorem dL_law_223 : decode cL_law 223 = .ok (.iadd, 1) := by decide +kernel
theorem dL_law_224 : decode cL_law 224 = .ok (.iaload, 1) := by decide +kernel
theorem dL_law_225 : decode cL_law 225 = .ok (.aload_n 0, 1) := by decide +kernel
theorem dL_law_226 : decode cL_law 226 = .ok (.iload_n 3, 1) := by decide +kernel
theorem dL_law_227 : decode cL_law 227 = .ok (.iconst 3, 1) := by decide +kernel
theorem dL_law_228 : decode cL_law 228 = .ok (.iadd, 1) := by decide +kernel
theorem dL_law_229 : decode cL_law 229 = .ok (.iaload, 1) := by decide +kernel
theorem dL_law_230 : decode cL_law 230 = .ok (.aload_n 0, 1) := by decide +kernel
theorem dL_law_231 : decode cL_law 231 = .ok (.iload_n 3, 1) := by decide +kernel
theorem dL_law_232 : decode cL_law 232 = .ok (.iconst 4, 1) := by decide +kernel
theorem dL_law_233 : decode cL_law 233 = .ok (.iadd, 1) := by decide +kernel
theorem dL_law_234 : decode cL_law 234 = .ok (.iaload, 1) := by decide +kernel
theorem dL_law_235 : decode cL_law 235 = .ok (.invokevirtual 22, 3) := by decide +kernel
theorem dL_law_238 : decode cL_law 238 = .ok (.aload_n 2, 1) := by decide +kernel
theorem dL_law_239 : decode cL_law 239 = .ok (.aload_n 0, 1) := by decide +kernel
theorem dL_law_240 : decode cL_law 240 = .ok (.iload_n 3, 1) := by decide +kernel
theorem dL_law_241 : decode cL_law 241 = .ok (.iconst 1, 1) := by decide +kernel
theorem dL_law_242 : decode cL_law 242 = .ok (.iadd, 1) := by decide +kernel
theorem dL_law_243 : decode cL_law 243 = .ok (.iaload, 1) := by decide +kernel
theorem dL_law_244 : decode cL_law 244 = .ok (.aload_n 0, 1) := by decide +kernel
theorem dL_law_245 : decode cL_law 245 = .ok (.iload_n 3, 1) := by decide +kernel
theorem dL_law_246 : decode cL_law 246 = .ok (.iconst 2, 1) := by decide +kernel
theorem dL_law_247 : decode cL_law 247 = .ok (.iadd, 1) := by decide +kernel
theorem dL_law_248 : decode cL_law 248 = .ok (.iaload, 1) := by decide +kernel
theorem dL_law_249 : decode cL_law 249 = .ok (.aload_n 0, 1) := by decide +kernel
theorem dL_law_250 : decode cL_law 250 = .ok (.iload_n 3, 1) := by decide +kernel
theorem dL_law_251 : decode cL_law 251 = .ok (.iconst 3, 1) := by decide +kernel
theorem dL_law_252 : decode cL_law 252 = .ok (.iadd, 1) := by decide +kernel
theorem dL_law_253 : decode cL_law 253 = .ok (.iaload, 1) := by decide +kernel
theorem dL_law_254 : decode cL_law 254 = .ok (.aload_n 0, 1) := by decide +kernel
theorem dL_law_255 : decode cL_law 255 = .ok (.iload_n 3, 1) := by decide +kernel
theorem dL_law_256 : decode cL_law 256 = .ok (.iconst 4, 1) := by decide +kernel
theorem dL_law_257 : decode cL_law 257 = .ok (.iadd, 1) := by decide +kernel
theorem dL_law_258 : decode cL_law 258 = .ok (.iaload, 1) := by decide +kernel
theorem dL_law_259 : decode cL_law 259 = .ok (.invokevirtual 25, 3) := by decide +kernel
theorem dL_law_262 : decode cL_law 262 = .ok (.if_icmp .eq 616, 3) := by decide +kernel
theorem dL_law_265 : decode cL_law 265 = .ok (.iconst 0, 1) := by decide +kernel
theorem dL_law_266 : decode cL_law 266 = .ok (.ireturn, 1) := by decide +kernel
theorem dL_law_267 : decode cL_law 267 = .ok (.aload_n 1, 1) := by decide +kernel
theorem dL_law_268 : decode cL_law 268 = .ok (.aload_n 0, 1) := by decide +kernel
theorem dL_law_269 : decode cL_law 269 = .ok (.iload_n 3, 1) := by decide +kernel
theorem dL_law_270 : decode cL_law 270 = .ok (.iconst 1, 1) := by decide +kernel
theorem dL_law_271 : decode cL_law 271 = .ok (.iadd, 1) := by decide +kernel
theorem dL_law_272 : decode cL_law 272 = .ok (.iaload, 1) := by decide +kernel
theorem dL_law_273 : decode cL_law 273 = .ok (.aload_n 0, 1) := by decide +kernel
theorem dL_law_274 : decode cL_law 274 = .ok (.iload_n 3, 1) := by decide +kernel
theorem dL_law_275 : decode cL_law 275 = .ok (.iconst 2, 1) := by decide +kernel
theorem dL_law_276 : decode cL_law 276 = .ok (.iadd, 1) := by decide +kernel
theorem dL_law_277 : decode cL_law 277 = .ok (.iaload, 1) := by decide +kernel
theorem dL_law_278 : decode cL_law 278 = .ok (.invokevirtual 26, 3) := by decide +kernel
theorem dL_law_281 : decode cL_law 281 = .ok (.aload_n 2, 1) := by decide +kernel
theorem dL_law_282 : decode cL_law 282 = .ok (.aload_n 0, 1) := by decide +kernel
theorem dL_law_283 : decode cL_law 283 = .ok (.iload_n 3, 1) := by decide +kernel
theorem dL_law_284 : decode cL_law 284 = .ok (.iconst 1, 1) := by decide +kernel
theorem dL_law_285 : decode cL_law 285 = .ok (.iadd, 1) := by decide +kernel
theorem dL_law_286 : decode cL_law 286 = .ok (.iaload, 1) := by decide +kernel
theorem dL_law_287 : decode cL_law 287 = .ok (.aload_n 0, 1) := by decide +kernel
theorem dL_law_288 : decode cL_law 288 = .ok (.iload_n 3, 1) := by decide +kernel
theorem dL_law_289 : decode cL_law 289 = .ok (.iconst 2, 1) := by decide +kernel
theorem dL_law_290 : decode cL_law 290 = .ok (.iadd, 1) := by decide +kernel
theorem dL_law_291 : decode cL_law 291 = .ok (.iaload, 1) := by decide +kernel
theorem dL_law_292 : decode cL_law 292 = .ok (.invokevirtual 30, 3) := by decide +kernel
theorem dL_law_295 : decode cL_law 295 = .ok (.if_icmp .eq 583, 3) := by decide +kernel
theorem dL_law_298 : decode cL_law 298 = .ok (.iconst 0, 1) := by decide +kernel
theorem dL_law_299 : decode cL_law 299 = .ok (.ireturn, 1) := by decide +kernel
theorem dL_law_300 : decode cL_law 300 = .ok (.aload_n 1, 1) := by decide +kernel
theorem dL_law_301 : decode cL_law 301 = .ok (.aload_n 0, 1) := by decide +kernel
theorem dL_law_302 : decode cL_law 302 = .ok (.iload_n 3, 1) := by decide +kernel
theorem dL_law_303 : decode cL_law 303 = .ok (.iconst 1, 1) := by decide +kernel
theorem dL_law_304 : decode cL_law 304 = .ok (.iadd, 1) := by decide +kernel
theorem dL_law_305 : decode cL_law 305 = .ok (.iaload, 1) := by decide +kernel
theorem dL_law_306 : decode cL_law 306 = .ok (.aload_n 0, 1) := by decide +kernel
theorem dL_law_307 : decode cL_law 307 = .ok (.iload_n 3, 1) := by decide +kernel
theorem dL_law_308 : decode cL_law 308 = .ok (.iconst 2, 1) := by decide +kernel
theorem dL_law_309 : decode cL_law 309 = .ok (.iadd, 1) := by decide +kernel
theorem dL_law_310 : decode cL_law 310 = .ok (.iaload, 1) := by decide +kernel
theorem dL_law_311 : decode cL_law 311 = .ok (.aload_n 0, 1) := by decide +kernel
theorem dL_law_312 : decode cL_law 312 = .ok (.iload_n 3, 1) := by decide +kernel
theorem dL_law_313 : decode cL_law 313 = .ok (.iconst 3, 1) := by decide +kernel
theorem dL_law_314 : decode cL_law 314 = .ok (.iadd, 1) := by decide +kernel
theorem dL_law_315 : decode cL_law 315 = .ok (.iaload, 1) := by decide +kernel
theorem dL_law_316 : decode cL_law 316 = .ok (.aload_n 0, 1) := by decide +kernel
theorem dL_law_317 : decode cL_law 317 = .ok (.iload_n 3, 1) := by decide +kernel
theorem dL_law_318 : decode cL_law 318 = .ok (.iconst 4, 1) := by decide +kernel
theorem dL_law_319 : decode cL_law 319 = .ok (.iadd, 1) := by decide +kernel
theorem dL_law_320 : decode cL_law 320 = .ok (.iaload, 1) := by decide +kernel
theorem dL_law_321 : decode cL_law 321 = .ok (.aload_n 0, 1) := by decide +kernel
theorem dL_law_322 : decode cL_law 322 = .ok (.iload_n 3, 1) := by decide +kernel
theorem dL_law_323 : decode cL_law 323 = .ok (.iconst 5, 1) := by decide +kernel
theorem dL_law_324 : decode cL_law 324 = .ok (.iadd, 1) := by decide +kernel
theorem dL_law_325 : decode cL_law 325 = .ok (.iaload, 1) := by decide +kernel
theorem dL_law_326 : decode cL_law 326 = .ok (.invokevirtual 31, 3) := by decide +kernel
theorem dL_law_329 : decode cL_law 329 = .ok (.aload_n 2, 1) := by decide +kernel
theorem dL_law_330 : decode cL_law 330 = .ok (.aload_n 0, 1) := by decide +kernel
theorem dL_law_331 : decode cL_law 331 = .ok (.iload_n 3, 1) := by decide +kernel
theorem dL_law_332 : decode cL_law 332 = .ok (.iconst 1, 1) := by decide +kernel
theorem dL_law_333 : decode cL_law 333 = .ok (.iadd, 1) := by decide +kernel
theorem dL_law_334 : decode cL_law 334 = .ok (.iaload, 1) := by decide +kernel
theorem dL_law_335 : decode cL_law 335 = .ok (.aload_n 0, 1) := by decide +kernel
theorem dL_law_336 : decode cL_law 336 = .ok (.iload_n 3, 1) := by decide +kernel
theorem dL_law_337 : decode cL_law 337 = .ok (.iconst 2, 1) := by decide +kernel
theorem dL_law_338 : decode cL_law 338 = .ok (.iadd, 1) := by decide +kernel
theorem dL_law_339 : decode cL_law 339 = .ok (.iaload, 1) := by decide +kernel
theorem dL_law_340 : decode cL_law 340 = .ok (.aload_n 0, 1) := by decide +kernel
theorem dL_law_341 : decode cL_law 341 = .ok (.iload_n 3, 1) := by decide +kernel
theorem dL_law_342 : decode cL_law 342 = .ok (.iconst 3, 1) := by decide +kernel
theorem dL_law_343 : decode cL_law 343 = .ok (.iadd, 1) := by decide +kernel
theorem dL_law_344 : decode cL_law 344 = .ok (.iaload, 1) := by decide +kernel
theorem dL_law_345 : decode cL_law 345 = .ok (.aload_n 0, 1) := by decide +kernel
theorem dL_law_346 : decode cL_law 346 = .ok (.iload_n 3, 1) := by decide +kernel
theorem dL_law_347 : decode cL_law 347 = .ok (.iconst 4, 1) := by decide +kernel
theorem dL_law_348 : decode cL_law 348 = .ok (.iadd, 1) := by decide +kernel
theorem dL_law_349 : decode cL_law 349 = .ok (.iaload, 1) := by decide +kernel
theorem dL_law_350 : decode cL_law 350 = .ok (.aload_n 0, 1) := by decide +kernel
theorem dL_law_351 : decode cL_law 351 = .ok (.iload_n 3, 1) := by decide +kernel
theorem dL_law_352 : decode cL_law 352 = .ok (.iconst 5, 1) := by decide +kernel
theorem dL_law_353 : decode cL_law 353 = .ok (.iadd, 1) := by decide +kernel
theorem dL_law_354 : decode cL_law 354 = .ok (.iaload, 1) := by decide +kernel
theorem dL_law_355 : decode cL_law 355 = .ok (.invokevirtual 35, 3) := by decide +kernel
theorem dL_law_358 : decode cL_law 358 = .ok (.if_icmp .eq 520, 3) := by decide +kernel
theorem dL_law_361 : decode cL_law 361 = .ok (.iconst 0, 1) := by decide +kernel
theorem dL_law_362 : decode cL_law 362 = .ok (.ireturn, 1) := by decide +kernel
theorem dL_law_363 : decode cL_law 363 = .ok (.aload_n 1, 1) := by decide +kernel
theorem dL_law_364 : decode cL_law 364 = .ok (.aload_n 0, 1) := by decide +kernel
theorem dL_law_365 : decode cL_law 365 = .ok (.iload_n 3, 1) := by decide +kernel
theorem dL_law_366 : decode cL_law 366 = .ok (.iconst 1, 1) := by decide +kernel
theorem dL_law_367 : decode cL_law 367 = .ok (.iadd, 1) := by decide +kernel
theorem dL_law_368 : decode cL_law 368 = .ok (.iaload, 1) := by decide +kernel
theorem dL_law_369 : decode cL_law 369 = .ok (.invokevirtual 36, 3) := by decide +kernel
theorem dL_law_372 : decode cL_law 372 = .ok (.aload_n 2, 1) := by decide +kernel
theorem dL_law_373 : decode cL_law 373 = .ok (.aload_n 0, 1) := by decide +kernel
theorem dL_law_374 : decode cL_law 374 = .ok (.iload_n 3, 1) := by decide +kernel
theorem dL_law_375 : decode cL_law 375 = .ok (.iconst 1, 1) := by decide +kernel
theorem dL_law_376 : decode cL_law 376 = .ok (.iadd, 1) := by decide +kernel
theorem dL_law_377 : decode cL_law 377 = .ok (.iaload, 1) := by decide +kernel
theorem dL_law_378 : decode cL_law 378 = .ok (.invokevirtual 40, 3) := by decide +kernel
theorem dL_law_381 : decode cL_law 381 = .ok (.if_icmp .eq 497, 3) := by decide +kernel
theorem dL_law_384 : decode cL_law 384 = .ok (.iconst 0, 1) := by decide +kernel
theorem dL_law_385 : decode cL_law 385 = .ok (.ireturn, 1) := by decide +kernel
theorem dL_law_386 : decode cL_law 386 = .ok (.aload_n 1, 1) := by decide +kernel
theorem dL_law_387 : decode cL_law 387 = .ok (.aload_n 0, 1) := by decide +kernel
theorem dL_law_388 : decode cL_law 388 = .ok (.iload_n 3, 1) := by decide +kernel
theorem dL_law_389 : decode cL_law 389 = .ok (.iconst 1, 1) := by decide +kernel
theorem dL_law_390 : decode cL_law 390 = .ok (.iadd, 1) := by decide +kernel
theorem dL_law_391 : decode cL_law 391 = .ok (.iaload, 1) := by decide +kernel
theorem dL_law_392 : decode cL_law 392 = .ok (.aload_n 0, 1) := by decide +kernel
theorem dL_law_393 : decode cL_law 393 = .ok (.iload_n 3, 1) := by decide +kernel
theorem dL_law_394 : decode cL_law 394 = .ok (.iconst 2, 1) := by decide +kernel
theorem dL_law_395 : decode cL_law 395 = .ok (.iadd, 1) := by decide +kernel
theorem dL_law_396 : decode cL_law 396 = .ok (.iaload, 1) := by decide +kernel
theorem dL_law_397 : decode cL_law 397 = .ok (.invokevirtual 41, 3) := by decide +kernel
theorem dL_law_400 : decode cL_law 400 = .ok (.aload_n 2, 1) := by decide +kernel
theorem dL_law_401 : decode cL_law 401 = .ok (.aload_n 0, 1) := by decide +kernel
theorem dL_law_402 : decode cL_law 402 = .ok (.iload_n 3, 1) := by decide +kernel
theorem dL_law_403 : decode cL_law 403 = .ok (.iconst 1, 1) := by decide +kernel
theorem dL_law_404 : decode cL_law 404 = .ok (.iadd, 1) := by decide +kernel
theorem dL_law_405 : decode cL_law 405 = .ok (.iaload, 1) := by decide +kernel
theorem dL_law_406 : decode cL_law 406 = .ok (.aload_n 0, 1) := by decide +kernel
theorem dL_law_407 : decode cL_law 407 = .ok (.iload_n 3, 1) := by decide +kernel
theorem dL_law_408 : decode cL_law 408 = .ok (.iconst 2, 1) := by decide +kernel
theorem dL_law_409 : decode cL_law 409 = .ok (.iadd, 1) := by decide +kernel
theorem dL_law_410 : decode cL_law 410 = .ok (.iaload, 1) := by decide +kernel
theorem dL_law_411 : decode cL_law 411 = .ok (.invokevirtual 45, 3) := by decide +kernel
theorem dL_law_414 : decode cL_law 414 = .ok (.if_icmp .eq 464, 3) := by decide +kernel
theorem dL_law_417 : decode cL_law 417 = .ok (.iconst 0, 1) := by decide +kernel
theorem dL_law_418 : decode cL_law 418 = .ok (.ireturn, 1) := by decide +kernel
theorem dL_law_419 : decode cL_law 419 = .ok (.aload_n 1, 1) := by decide +kernel
theorem dL_law_420 : decode cL_law 420 = .ok (.invokevirtual 46, 3) := by decide +kernel
theorem dL_law_423 : decode cL_law 423 = .ok (.aload_n 2, 1) := by decide +kernel
theorem dL_law_424 : decode cL_law 424 = .ok (.invokevirtual 50, 3) := by decide +kernel
theorem dL_law_427 : decode cL_law 427 = .ok (.if_icmp .eq 451, 3) := by decide +kernel
theorem dL_law_430 : decode cL_law 430 = .ok (.iconst 0, 1) := by decide +kernel
theorem dL_law_431 : decode cL_law 431 = .ok (.ireturn, 1) := by decide +kernel
theorem dL_law_432 : decode cL_law 432 = .ok (.aload_n 1, 1) := by decide +kernel
theorem dL_law_433 : decode cL_law 433 = .ok (.aload_n 0, 1) := by decide +kernel
theorem dL_law_434 : decode cL_law 434 = .ok (.iload_n 3, 1) := by decide +kernel
theorem dL_law_435 : decode cL_law 435 = .ok (.iconst 1, 1) := by decide +kernel
theorem dL_law_436 : decode cL_law 436 = .ok (.iadd, 1) := by decide +kernel
theorem dL_law_437 : decode cL_law 437 = .ok (.iaload, 1) := by decide +kernel
theorem dL_law_438 : decode cL_law 438 = .ok (.invokevirtual 51, 3) := by decide +kernel
theorem dL_law_441 : decode cL_law 441 = .ok (.aload_n 2, 1) := by decide +kernel
theorem dL_law_442 : decode cL_law 442 = .ok (.aload_n 0, 1) := by decide +kernel
theorem dL_law_443 : decode cL_law 443 = .ok (.iload_n 3, 1) := by decide +kernel
theorem dL_law_444 : decode cL_law 444 = .ok (.iconst 1, 1) := by decide +kernel
theorem dL_law_445 : decode cL_law 445 = .ok (.iadd, 1) := by decide +kernel
theorem dL_law_446 : decode cL_law 446 = .ok (.iaload, 1) := by decide +kernel
theorem dL_law_447 : decode cL_law 447 = .ok (.invokevirtual 54, 3) := by decide +kernel
theorem dL_law_450 : decode cL_law 450 = .ok (.if_icmp .eq 428, 3) := by decide +kernel
theorem dL_law_453 : decode cL_law 453 = .ok (.iconst 0, 1) := by decide +kernel
theorem dL_law_454 : decode cL_law 454 = .ok (.ireturn, 1) := by decide +kernel
theorem dL_law_455 : decode cL_law 455 = .ok (.aload_n 1, 1) := by decide +kernel
theorem dL_law_456 : decode cL_law 456 = .ok (.aload_n 0, 1) := by decide +kernel
theorem dL_law_457 : decode cL_law 457 = .ok (.iload_n 3, 1) := by decide +kernel
theorem dL_law_458 : decode cL_law 458 = .ok (.iconst 1, 1) := by decide +kernel
theorem dL_law_459 : decode cL_law 459 = .ok (.iadd, 1) := by decide +kernel
theorem dL_law_460 : decode cL_law 460 = .ok (.iaload, 1) := by decide +kernel
theorem dL_law_461 : decode cL_law 461 = .ok (.aload_n 0, 1) := by decide +kernel
theorem dL_law_462 : decode cL_law 462 = .ok (.iload_n 3, 1) := by decide +kernel
theorem dL_law_463 : decode cL_law 463 = .ok (.iconst 2, 1) := by decide +kernel
theorem dL_law_464 : decode cL_law 464 = .ok (.iadd, 1) := by decide +kernel
theorem dL_law_465 : decode cL_law 465 = .ok (.iaload, 1) := by decide +kernel
theorem dL_law_466 : decode cL_law 466 = .ok (.invokevirtual 55, 3) := by decide +kernel
theorem dL_law_469 : decode cL_law 469 = .ok (.aload_n 2, 1) := by decide +kernel
theorem dL_law_470 : decode cL_law 470 = .ok (.aload_n 0, 1) := by decide +kernel
theorem dL_law_471 : decode cL_law 471 = .ok (.iload_n 3, 1) := by decide +kernel
theorem dL_law_472 : decode cL_law 472 = .ok (.iconst 1, 1) := by decide +kernel
theorem dL_law_473 : decode cL_law 473 = .ok (.iadd, 1) := by decide +kernel
theorem dL_law_474 : decode cL_law 474 = .ok (.iaload, 1) := by decide +kernel
theorem dL_law_475 : decode cL_law 475 = .ok (.aload_n 0, 1) := by decide +kernel
theorem dL_law_476 : decode cL_law 476 = .ok (.iload_n 3, 1) := by decide +kernel
theorem dL_law_477 : decode cL_law 477 = .ok (.iconst 2, 1) := by decide +kernel
theorem dL_law_478 : decode cL_law 478 = .ok (.iadd, 1) := by decide +kernel
theorem dL_law_479 : decode cL_law 479 = .ok (.iaload, 1) := by decide +kernel
theorem dL_law_480 : decode cL_law 480 = .ok (.invokevirtual 58, 3) := by decide +kernel
theorem dL_law_483 : decode cL_law 483 = .ok (.if_icmp .eq 395, 3) := by decide +kernel
theorem dL_law_486 : decode cL_law 486 = .ok (.iconst 0, 1) := by decide +kernel
theorem dL_law_487 : decode cL_law 487 = .ok (.ireturn, 1) := by decide +kernel
theorem dL_law_488 : decode cL_law 488 = .ok (.aload_n 1, 1) := by decide +kernel
theorem dL_law_489 : decode cL_law 489 = .ok (.aload_n 0, 1) := by decide +kernel
theorem dL_law_490 : decode cL_law 490 = .ok (.iload_n 3, 1) := by decide +kernel
theorem dL_law_491 : decode cL_law 491 = .ok (.iconst 1, 1) := by decide +kernel
theorem dL_law_492 : decode cL_law 492 = .ok (.iadd, 1) := by decide +kernel
theorem dL_law_493 : decode cL_law 493 = .ok (.iaload, 1) := by decide +kernel
theorem dL_law_494 : decode cL_law 494 = .ok (.aload_n 0, 1) := by decide +kernel
theorem dL_law_495 : decode cL_law 495 = .ok (.iload_n 3, 1) := by decide +kernel
theorem dL_law_496 : decode cL_law 496 = .ok (.iconst 2, 1) := by decide +kernel
theorem dL_law_497 : decode cL_law 497 = .ok (.iadd, 1) := by decide +kernel
theorem dL_law_498 : decode cL_law 498 = .ok (.iaload, 1) := by decide +kernel
theorem dL_law_499 : decode cL_law 499 = .ok (.invokevirtual 59, 3) := by decide +kernel
theorem dL_law_502 : decode cL_law 502 = .ok (.aload_n 2, 1) := by decide +kernel
theorem dL_law_503 : decode cL_law 503 = .ok (.aload_n 0, 1) := by decide +kernel
theorem dL_law_504 : decode cL_law 504 = .ok (.iload_n 3, 1) := by decide +kernel
theorem dL_law_505 : decode cL_law 505 = .ok (.iconst 1, 1) := by decide +kernel
theorem dL_law_506 : decode cL_law 506 = .ok (.iadd, 1) := by decide +kernel
theorem dL_law_507 : decode cL_law 507 = .ok (.iaload, 1) := by decide +kernel
theorem dL_law_508 : decode cL_law 508 = .ok (.aload_n 0, 1) := by decide +kernel
theorem dL_law_509 : decode cL_law 509 = .ok (.iload_n 3, 1) := by decide +kernel
theorem dL_law_510 : decode cL_law 510 = .ok (.iconst 2, 1) := by decide +kernel
theorem dL_law_511 : decode cL_law 511 = .ok (.iadd, 1) := by decide +kernel
theorem dL_law_512 : decode cL_law 512 = .ok (.iaload, 1) := by decide +kernel
theorem dL_law_513 : decode cL_law 513 = .ok (.invokevirtual 62, 3) := by decide +kernel
theorem dL_law_516 : decode cL_law 516 = .ok (.if_icmp .eq 362, 3) := by decide +kernel
theorem dL_law_519 : decode cL_law 519 = .ok (.iconst 0, 1) := by decide +kernel
theorem dL_law_520 : decode cL_law 520 = .ok (.ireturn, 1) := by decide +kernel
theorem dL_law_521 : decode cL_law 521 = .ok (.aload_n 1, 1) := by decide +kernel
theorem dL_law_522 : decode cL_law 522 = .ok (.aload_n 0, 1) := by decide +kernel
theorem dL_law_523 : decode cL_law 523 = .ok (.iload_n 3, 1) := by decide +kernel
theorem dL_law_524 : decode cL_law 524 = .ok (.iconst 1, 1) := by decide +kernel
theorem dL_law_525 : decode cL_law 525 = .ok (.iadd, 1) := by decide +kernel
theorem dL_law_526 : decode cL_law 526 = .ok (.iaload, 1) := by decide +kernel
theorem dL_law_527 : decode cL_law 527 = .ok (.invokevirtual 63, 3) := by decide +kernel
theorem dL_law_530 : decode cL_law 530 = .ok (.aload_n 2, 1) := by decide +kernel
theorem dL_law_531 : decode cL_law 531 = .ok (.aload_n 0, 1) := by decide +kernel
theorem dL_law_532 : decode cL_law 532 = .ok (.iload_n 3, 1) := by decide +kernel
theorem dL_law_533 : decode cL_law 533 = .ok (.iconst 1, 1) := by decide +kernel
theorem dL_law_534 : decode cL_law 534 = .ok (.iadd, 1) := by decide +kernel
theorem dL_law_535 : decode cL_law 535 = .ok (.iaload, 1) := by decide +kernel
theorem dL_law_536 : decode cL_law 536 = .ok (.invokevirtual 66, 3) := by decide +kernel
theorem dL_law_539 : decode cL_law 539 = .ok (.if_icmp .eq 339, 3) := by decide +kernel
theorem dL_law_542 : decode cL_law 542 = .ok (.iconst 0, 1) := by decide +kernel
theorem dL_law_543 : decode cL_law 543 = .ok (.ireturn, 1) := by decide +kernel
theorem dL_law_544 : decode cL_law 544 = .ok (.aload_n 1, 1) := by decide +kernel
theorem dL_law_545 : decode cL_law 545 = .ok (.aload_n 0, 1) := by decide +kernel
theorem dL_law_546 : decode cL_law 546 = .ok (.iload_n 3, 1) := by decide +kernel
theorem dL_law_547 : decode cL_law 547 = .ok (.iconst 1, 1) := by decide +kernel
theorem dL_law_548 : decode cL_law 548 = .ok (.iadd, 1) := by decide +kernel
theorem dL_law_549 : decode cL_law 549 = .ok (.iaload, 1) := by decide +kernel
theorem dL_law_550 : decode cL_law 550 = .ok (.aload_n 0, 1) := by decide +kernel
theorem dL_law_551 : decode cL_law 551 = .ok (.iload_n 3, 1) := by decide +kernel
theorem dL_law_552 : decode cL_law 552 = .ok (.iconst 2, 1) := by decide +kernel
theorem dL_law_553 : decode cL_law 553 = .ok (.iadd, 1) := by decide +kernel
theorem dL_law_554 : decode cL_law 554 = .ok (.iaload, 1) := by decide +kernel
theorem dL_law_555 : decode cL_law 555 = .ok (.aload_n 0, 1) := by decide +kernel
theorem dL_law_556 : decode cL_law 556 = .ok (.iload_n 3, 1) := by decide +kernel
theorem dL_law_557 : decode cL_law 557 = .ok (.iconst 3, 1) := by decide +kernel
theorem dL_law_558 : decode cL_law 558 = .ok (.iadd, 1) := by decide +kernel
theorem dL_law_559 : decode cL_law 559 = .ok (.iaload, 1) := by decide +kernel
theorem dL_law_560 : decode cL_law 560 = .ok (.ifCond .eq 7, 3) := by decide +kernel
theorem dL_law_563 : decode cL_law 563 = .ok (.iconst 1, 1) := by decide +kernel
theorem dL_law_564 : decode cL_law 564 = .ok (.goto 4, 3) := by decide +kernel
theorem dL_law_567 : decode cL_law 567 = .ok (.iconst 0, 1) := by decide +kernel
theorem dL_law_568 : decode cL_law 568 = .ok (.aload_n 0, 1) := by decide +kernel
theorem dL_law_569 : decode cL_law 569 = .ok (.iload_n 3, 1) := by decide +kernel
theorem dL_law_570 : decode cL_law 570 = .ok (.iconst 4, 1) := by decide +kernel
theorem dL_law_571 : decode cL_law 571 = .ok (.iadd, 1) := by decide +kernel
theorem dL_law_572 : decode cL_law 572 = .ok (.iaload, 1) := by decide +kernel
theorem dL_law_573 : decode cL_law 573 = .ok (.ifCond .eq 7, 3) := by decide +kernel
theorem dL_law_576 : decode cL_law 576 = .ok (.iconst 1, 1) := by decide +kernel
theorem dL_law_577 : decode cL_law 577 = .ok (.goto 4, 3) := by decide +kernel
theorem dL_law_580 : decode cL_law 580 = .ok (.iconst 0, 1) := by decide +kernel
theorem dL_law_581 : decode cL_law 581 = .ok (.invokevirtual 67, 3) := by decide +kernel
theorem dL_law_584 : decode cL_law 584 = .ok (.aload_n 2, 1) := by decide +kernel
theorem dL_law_585 : decode cL_law 585 = .ok (.aload_n 0, 1) := by decide +kernel
theorem dL_law_586 : decode cL_law 586 = .ok (.iload_n 3, 1) := by decide +kernel
theorem dL_law_587 : decode cL_law 587 = .ok (.iconst 1, 1) := by decide +kernel
theorem dL_law_588 : decode cL_law 588 = .ok (.iadd, 1) := by decide +kernel
theorem dL_law_589 : decode cL_law 589 = .ok (.iaload, 1) := by decide +kernel
theorem dL_law_590 : decode cL_law 590 = .ok (.aload_n 0, 1) := by decide +kernel
theorem dL_law_591 : decode cL_law 591 = .ok (.iload_n 3, 1) := by decide +kernel
theorem dL_law_592 : decode cL_law 592 = .ok (.iconst 2, 1) := by decide +kernel
theorem dL_law_593 : decode cL_law 593 = .ok (.iadd, 1) := by decide +kernel
theorem dL_law_594 : decode cL_law 594 = .ok (.iaload, 1) := by decide +kernel
theorem dL_law_595 : decode cL_law 595 = .ok (.aload_n 0, 1) := by decide +kernel
theorem dL_law_596 : decode cL_law 596 = .ok (.iload_n 3, 1) := by decide +kernel
theorem dL_law_597 : decode cL_law 597 = .ok (.iconst 3, 1) := by decide +kernel
theorem dL_law_598 : decode cL_law 598 = .ok (.iadd, 1) := by decide +kernel
theorem dL_law_599 : decode cL_law 599 = .ok (.iaload, 1) := by decide +kernel
theorem dL_law_600 : decode cL_law 600 = .ok (.ifCond .eq 7, 3) := by decide +kernel
theorem dL_law_603 : decode cL_law 603 = .ok (.iconst 1, 1) := by decide +kernel
theorem dL_law_604 : decode cL_law 604 = .ok (.goto 4, 3) := by decide +kernel
theorem dL_law_607 : decode cL_law 607 = .ok (.iconst 0, 1) := by decide +kernel
theorem dL_law_608 : decode cL_law 608 = .ok (.aload_n 0, 1) := by decide +kernel
theorem dL_law_609 : decode cL_law 609 = .ok (.iload_n 3, 1) := by decide +kernel
theorem dL_law_610 : decode cL_law 610 = .ok (.iconst 4, 1) := by decide +kernel
theorem dL_law_611 : decode cL_law 611 = .ok (.iadd, 1) := by decide +kernel
theorem dL_law_612 : decode cL_law 612 = .ok (.iaload, 1) := by decide +kernel
theorem dL_law_613 : decode cL_law 613 = .ok (.ifCond .eq 7, 3) := by decide +kernel
theorem dL_law_616 : decode cL_law 616 = .ok (.iconst 1, 1) := by decide +kernel
theorem dL_law_617 : decode cL_law 617 = .ok (.goto 4, 3) := by decide +kernel
theorem dL_law_620 : decode cL_law 620 = .ok (.iconst 0, 1) := by decide +kernel
theorem dL_law_621 : decode cL_law 621 = .ok (.invokevirtual 71, 3) := by decide +kernel
theorem dL_law_624 : decode cL_law 624 = .ok (.lcmp, 1) := by decide +kernel
theorem dL_law_625 : decode cL_law 625 = .ok (.ifCond .eq 253, 3) := by decide +kernel
theorem dL_law_628 : decode cL_law 628 = .ok (.iconst 0, 1) := by decide +kernel
theorem dL_law_629 : decode cL_law 629 = .ok (.ireturn, 1) := by decide +kernel
theorem dL_law_630 : decode cL_law 630 = .ok (.aload_n 1, 1) := by decide +kernel
theorem dL_law_631 : decode cL_law 631 = .ok (.aload_n 0, 1) := by decide +kernel
theorem dL_law_632 : decode cL_law 632 = .ok (.iload_n 3, 1) := by decide +kernel
theorem dL_law_633 : decode cL_law 633 = .ok (.iconst 1, 1) := by decide +kernel
theorem dL_law_634 : decode cL_law 634 = .ok (.iadd, 1) := by decide +kernel
theorem dL_law_635 : decode cL_law 635 = .ok (.iaload, 1) := by decide +kernel
theorem dL_law_636 : decode cL_law 636 = .ok (.i2l, 1) := by decide +kernel
theorem dL_law_637 : decode cL_law 637 = .ok (.bipush 32, 2) := by decide +kernel
theorem dL_law_639 : decode cL_law 639 = .ok (.lshl, 1) := by decide +kernel
theorem dL_law_640 : decode cL_law 640 = .ok (.aload_n 0, 1) := by decide +kernel
theorem dL_law_641 : decode cL_law 641 = .ok (.iload_n 3, 1) := by decide +kernel
theorem dL_law_642 : decode cL_law 642 = .ok (.iconst 2, 1) := by decide +kernel
theorem dL_law_643 : decode cL_law 643 = .ok (.iadd, 1) := by decide +kernel
theorem dL_law_644 : decode cL_law 644 = .ok (.iaload, 1) := by decide +kernel
theorem dL_law_645 : decode cL_law 645 = .ok (.i2l, 1) := by decide +kernel
theorem dL_law_646 : decode cL_law 646 = .ok (.ldc2_w 72, 3) := by decide +kernel
theorem dL_law_649 : decode cL_law 649 = .ok (.land, 1) := by decide +kernel
theorem dL_law_650 : decode cL_law 650 = .ok (.lor, 1) := by decide +kernel
theorem dL_law_651 : decode cL_law 651 = .ok (.aload_n 0, 1) := by decide +kernel
theorem dL_law_652 : decode cL_law 652 = .ok (.iload_n 3, 1) := by decide +kernel
theorem dL_law_653 : decode cL_law 653 = .ok (.iconst 3, 1) := by decide +kernel
theorem dL_law_654 : decode cL_law 654 = .ok (.iadd, 1) := by decide +kernel
theorem dL_law_655 : decode cL_law 655 = .ok (.iaload, 1) := by decide +kernel
theorem dL_law_656 : decode cL_law 656 = .ok (.i2l, 1) := by decide +kernel
theorem dL_law_657 : decode cL_law 657 = .ok (.bipush 32, 2) := by decide +kernel
theorem dL_law_659 : decode cL_law 659 = .ok (.lshl, 1) := by decide +kernel
theorem dL_law_660 : decode cL_law 660 = .ok (.aload_n 0, 1) := by decide +kernel
theorem dL_law_661 : decode cL_law 661 = .ok (.iload_n 3, 1) := by decide +kernel
theorem dL_law_662 : decode cL_law 662 = .ok (.iconst 4, 1) := by decide +kernel
theorem dL_law_663 : decode cL_law 663 = .ok (.iadd, 1) := by decide +kernel
theorem dL_law_664 : decode cL_law 664 = .ok (.iaload, 1) := by decide +kernel
theorem dL_law_665 : decode cL_law 665 = .ok (.i2l, 1) := by decide +kernel
theorem dL_law_666 : decode cL_law 666 = .ok (.ldc2_w 72, 3) := by decide +kernel
theorem dL_law_669 : decode cL_law 669 = .ok (.land, 1) := by decide +kernel
theorem dL_law_670 : decode cL_law 670 = .ok (.lor, 1) := by decide +kernel
theorem dL_law_671 : decode cL_law 671 = .ok (.aload_n 0, 1) := by decide +kernel
theorem dL_law_672 : decode cL_law 672 = .ok (.iload_n 3, 1) := by decide +kernel
theorem dL_law_673 : decode cL_law 673 = .ok (.iconst 5, 1) := by decide +kernel
theorem dL_law_674 : decode cL_law 674 = .ok (.iadd, 1) := by decide +kernel
theorem dL_law_675 : decode cL_law 675 = .ok (.iaload, 1) := by decide +kernel
theorem dL_law_676 : decode cL_law 676 = .ok (.ifCond .eq 7, 3) := by decide +kernel
theorem dL_law_679 : decode cL_law 679 = .ok (.iconst 1, 1) := by decide +kernel
theorem dL_law_680 : decode cL_law 680 = .ok (.goto 4, 3) := by decide +kernel
theorem dL_law_683 : decode cL_law 683 = .ok (.iconst 0, 1) := by decide +kernel
theorem dL_law_684 : decode cL_law 684 = .ok (.invokevirtual 74, 3) := by decide +kernel
theorem dL_law_687 : decode cL_law 687 = .ok (.aload_n 2, 1) := by decide +kernel
theorem dL_law_688 : decode cL_law 688 = .ok (.aload_n 0, 1) := by decide +kernel
theorem dL_law_689 : decode cL_law 689 = .ok (.iload_n 3, 1) := by decide +kernel
theorem dL_law_690 : decode cL_law 690 = .ok (.iconst 1, 1) := by decide +kernel
theorem dL_law_691 : decode cL_law 691 = .ok (.iadd, 1) := by decide +kernel
theorem dL_law_692 : decode cL_law 692 = .ok (.iaload, 1) := by decide +kernel
theorem dL_law_693 : decode cL_law 693 = .ok (.i2l, 1) := by decide +kernel
theorem dL_law_694 : decode cL_law 694 = .ok (.bipush 32, 2) := by decide +kernel
theorem dL_law_696 : decode cL_law 696 = .ok (.lshl, 1) := by decide +kernel
theorem dL_law_697 : decode cL_law 697 = .ok (.aload_n 0, 1) := by decide +kernel
theorem dL_law_698 : decode cL_law 698 = .ok (.iload_n 3, 1) := by decide +kernel
theorem dL_law_699 : decode cL_law 699 = .ok (.iconst 2, 1) := by decide +kernel
theorem dL_law_700 : decode cL_law 700 = .ok (.iadd, 1) := by decide +kernel
theorem dL_law_701 : decode cL_law 701 = .ok (.iaload, 1) := by decide +kernel
theorem dL_law_702 : decode cL_law 702 = .ok (.i2l, 1) := by decide +kernel
theorem dL_law_703 : decode cL_law 703 = .ok (.ldc2_w 72, 3) := by decide +kernel
theorem dL_law_706 : decode cL_law 706 = .ok (.land, 1) := by decide +kernel
theorem dL_law_707 : decode cL_law 707 = .ok (.lor, 1) := by decide +kernel
theorem dL_law_708 : decode cL_law 708 = .ok (.aload_n 0, 1) := by decide +kernel
theorem dL_law_709 : decode cL_law 709 = .ok (.iload_n 3, 1) := by decide +kernel
theorem dL_law_710 : decode cL_law 710 = .ok (.iconst 3, 1) := by decide +kernel
theorem dL_law_711 : decode cL_law 711 = .ok (.iadd, 1) := by decide +kernel
theorem dL_law_712 : decode cL_law 712 = .ok (.iaload, 1) := by decide +kernel
theorem dL_law_713 : decode cL_law 713 = .ok (.i2l, 1) := by decide +kernel
theorem dL_law_714 : decode cL_law 714 = .ok (.bipush 32, 2) := by decide +kernel
theorem dL_law_716 : decode cL_law 716 = .ok (.lshl, 1) := by decide +kernel
theorem dL_law_717 : decode cL_law 717 = .ok (.aload_n 0, 1) := by decide +kernel
theorem dL_law_718 : decode cL_law 718 = .ok (.iload_n 3, 1) := by decide +kernel
theorem dL_law_719 : decode cL_law 719 = .ok (.iconst 4, 1) := by decide +kernel
theorem dL_law_720 : decode cL_law 720 = .ok (.iadd, 1) := by decide +kernel
theorem dL_law_721 : decode cL_law 721 = .ok (.iaload, 1) := by decide +kernel
theorem dL_law_722 : decode cL_law 722 = .ok (.i2l, 1) := by decide +kernel
theorem dL_law_723 : decode cL_law 723 = .ok (.ldc2_w 72, 3) := by decide +kernel
theorem dL_law_726 : decode cL_law 726 = .ok (.land, 1) := by decide +kernel
theorem dL_law_727 : decode cL_law 727 = .ok (.lor, 1) := by decide +kernel
theorem dL_law_728 : decode cL_law 728 = .ok (.aload_n 0, 1) := by decide +kernel
theorem dL_law_729 : decode cL_law 729 = .ok (.iload_n 3, 1) := by decide +kernel
theorem dL_law_730 : decode cL_law 730 = .ok (.iconst 5, 1) := by decide +kernel
theorem dL_law_731 : decode cL_law 731 = .ok (.iadd, 1) := by decide +kernel
theorem dL_law_732 : decode cL_law 732 = .ok (.iaload, 1) := by decide +kernel
theorem dL_law_733 : decode cL_law 733 = .ok (.ifCond .eq 7, 3) := by decide +kernel
theorem dL_law_736 : decode cL_law 736 = .ok (.iconst 1, 1) := by decide +kernel
theorem dL_law_737 : decode cL_law 737 = .ok (.goto 4, 3) := by decide +kernel
theorem dL_law_740 : decode cL_law 740 = .ok (.iconst 0, 1) := by decide +kernel
theorem dL_law_741 : decode cL_law 741 = .ok (.invokevirtual 78, 3) := by decide +kernel
theorem dL_law_744 : decode cL_law 744 = .ok (.lcmp, 1) := by decide +kernel
theorem dL_law_745 : decode cL_law 745 = .ok (.ifCond .eq 133, 3) := by decide +kernel
theorem dL_law_748 : decode cL_law 748 = .ok (.iconst 0, 1) := by decide +kernel
theorem dL_law_749 : decode cL_law 749 = .ok (.ireturn, 1) := by decide +kernel
theorem dL_law_750 : decode cL_law 750 = .ok (.aload_n 1, 1) := by decide +kernel
theorem dL_law_751 : decode cL_law 751 = .ok (.aload_n 0, 1) := by decide +kernel
theorem dL_law_752 : decode cL_law 752 = .ok (.iload_n 3, 1) := by decide +kernel
theorem dL_law_753 : decode cL_law 753 = .ok (.iconst 1, 1) := by decide +kernel
theorem dL_law_754 : decode cL_law 754 = .ok (.iadd, 1) := by decide +kernel
theorem dL_law_755 : decode cL_law 755 = .ok (.iaload, 1) := by decide +kernel
theorem dL_law_756 : decode cL_law 756 = .ok (.i2l, 1) := by decide +kernel
theorem dL_law_757 : decode cL_law 757 = .ok (.bipush 32, 2) := by decide +kernel
theorem dL_law_759 : decode cL_law 759 = .ok (.lshl, 1) := by decide +kernel
theorem dL_law_760 : decode cL_law 760 = .ok (.aload_n 0, 1) := by decide +kernel
theorem dL_law_761 : decode cL_law 761 = .ok (.iload_n 3, 1) := by decide +kernel
theorem dL_law_762 : decode cL_law 762 = .ok (.iconst 2, 1) := by decide +kernel
theorem dL_law_763 : decode cL_law 763 = .ok (.iadd, 1) := by decide +kernel
theorem dL_law_764 : decode cL_law 764 = .ok (.iaload, 1) := by decide +kernel
theorem dL_law_765 : decode cL_law 765 = .ok (.i2l, 1) := by decide +kernel
theorem dL_law_766 : decode cL_law 766 = .ok (.ldc2_w 72, 3) := by decide +kernel
theorem dL_law_769 : decode cL_law 769 = .ok (.land, 1) := by decide +kernel
theorem dL_law_770 : decode cL_law 770 = .ok (.lor, 1) := by decide +kernel
theorem dL_law_771 : decode cL_law 771 = .ok (.aload_n 0, 1) := by decide +kernel
theorem dL_law_772 : decode cL_law 772 = .ok (.iload_n 3, 1) := by decide +kernel
theorem dL_law_773 : decode cL_law 773 = .ok (.iconst 3, 1) := by decide +kernel
theorem dL_law_774 : decode cL_law 774 = .ok (.iadd, 1) := by decide +kernel
theorem dL_law_775 : decode cL_law 775 = .ok (.iaload, 1) := by decide +kernel
theorem dL_law_776 : decode cL_law 776 = .ok (.ifCond .eq 7, 3) := by decide +kernel
theorem dL_law_779 : decode cL_law 779 = .ok (.iconst 1, 1) := by decide +kernel
theorem dL_law_780 : decode cL_law 780 = .ok (.goto 4, 3) := by decide +kernel
theorem dL_law_783 : decode cL_law 783 = .ok (.iconst 0, 1) := by decide +kernel
theorem dL_law_784 : decode cL_law 784 = .ok (.aload_n 0, 1) := by decide +kernel
theorem dL_law_785 : decode cL_law 785 = .ok (.iload_n 3, 1) := by decide +kernel
theorem dL_law_786 : decode cL_law 786 = .ok (.iconst 4, 1) := by decide +kernel
theorem dL_law_787 : decode cL_law 787 = .ok (.iadd, 1) := by decide +kernel
theorem dL_law_788 : decode cL_law 788 = .ok (.iaload, 1) := by decide +kernel
theorem dL_law_789 : decode cL_law 789 = .ok (.ifCond .eq 7, 3) := by decide +kernel
theorem dL_law_792 : decode cL_law 792 = .ok (.iconst 1, 1) := by decide +kernel
theorem dL_law_793 : decode cL_law 793 = .ok (.goto 4, 3) := by decide +kernel
theorem dL_law_796 : decode cL_law 796 = .ok (.iconst 0, 1) := by decide +kernel
theorem dL_law_797 : decode cL_law 797 = .ok (.aload_n 0, 1) := by decide +kernel
theorem dL_law_798 : decode cL_law 798 = .ok (.iload_n 3, 1) := by decide +kernel
theorem dL_law_799 : decode cL_law 799 = .ok (.iconst 5, 1) := by decide +kernel
theorem dL_law_800 : decode cL_law 800 = .ok (.iadd, 1) := by decide +kernel
theorem dL_law_801 : decode cL_law 801 = .ok (.iaload, 1) := by decide +kernel
theorem dL_law_802 : decode cL_law 802 = .ok (.aload_n 0, 1) := by decide +kernel
theorem dL_law_803 : decode cL_law 803 = .ok (.iload_n 3, 1) := by decide +kernel
theorem dL_law_804 : decode cL_law 804 = .ok (.bipush 6, 2) := by decide +kernel
theorem dL_law_806 : decode cL_law 806 = .ok (.iadd, 1) := by decide +kernel
theorem dL_law_807 : decode cL_law 807 = .ok (.iaload, 1) := by decide +kernel
theorem dL_law_808 : decode cL_law 808 = .ok (.invokevirtual 79, 3) := by decide +kernel
theorem dL_law_811 : decode cL_law 811 = .ok (.aload_n 2, 1) := by decide +kernel
theorem dL_law_812 : decode cL_law 812 = .ok (.aload_n 0, 1) := by decide +kernel
theorem dL_law_813 : decode cL_law 813 = .ok (.iload_n 3, 1) := by decide +kernel
theorem dL_law_814 : decode cL_law 814 = .ok (.iconst 1, 1) := by decide +kernel
theorem dL_law_815 : decode cL_law 815 = .ok (.iadd, 1) := by decide +kernel
theorem dL_law_816 : decode cL_law 816 = .ok (.iaload, 1) := by decide +kernel
theorem dL_law_817 : decode cL_law 817 = .ok (.i2l, 1) := by decide +kernel
theorem dL_law_818 : decode cL_law 818 = .ok (.bipush 32, 2) := by decide +kernel
theorem dL_law_820 : decode cL_law 820 = .ok (.lshl, 1) := by decide +kernel
theorem dL_law_821 : decode cL_law 821 = .ok (.aload_n 0, 1) := by decide +kernel
theorem dL_law_822 : decode cL_law 822 = .ok (.iload_n 3, 1) := by decide +kernel
theorem dL_law_823 : decode cL_law 823 = .ok (.iconst 2, 1) := by decide +kernel
theorem dL_law_824 : decode cL_law 824 = .ok (.iadd, 1) := by decide +kernel
theorem dL_law_825 : decode cL_law 825 = .ok (.iaload, 1) := by decide +kernel
theorem dL_law_826 : decode cL_law 826 = .ok (.i2l, 1) := by decide +kernel
theorem dL_law_827 : decode cL_law 827 = .ok (.ldc2_w 72, 3) := by decide +kernel
theorem dL_law_830 : decode cL_law 830 = .ok (.land, 1) := by decide +kernel
theorem dL_law_831 : decode cL_law 831 = .ok (.lor, 1) := by decide +kernel
theorem dL_law_832 : decode cL_law 832 = .ok (.aload_n 0, 1) := by decide +kernel
theorem dL_law_833 : decode cL_law 833 = .ok (.iload_n 3, 1) := by decide +kernel
theorem dL_law_834 : decode cL_law 834 = .ok (.iconst 3, 1) := by decide +kernel
theorem dL_law_835 : decode cL_law 835 = .ok (.iadd, 1) := by decide +kernel
theorem dL_law_836 : decode cL_law 836 = .ok (.iaload, 1) := by decide +kernel
theorem dL_law_837 : decode cL_law 837 = .ok (.ifCond .eq 7, 3) := by decide +kernel
theorem dL_law_840 : decode cL_law 840 = .ok (.iconst 1, 1) := by decide +kernel
theorem dL_law_841 : decode cL_law 841 = .ok (.goto 4, 3) := by decide +kernel
theorem dL_law_844 : decode cL_law 844 = .ok (.iconst 0, 1) := by decide +kernel
theorem dL_law_845 : decode cL_law 845 = .ok (.aload_n 0, 1) := by decide +kernel
theorem dL_law_846 : decode cL_law 846 = .ok (.iload_n 3, 1) := by decide +kernel
theorem dL_law_847 : decode cL_law 847 = .ok (.iconst 4, 1) := by decide +kernel
theorem dL_law_848 : decode cL_law 848 = .ok (.iadd, 1) := by decide +kernel
theorem dL_law_849 : decode cL_law 849 = .ok (.iaload, 1) := by decide +kernel
theorem dL_law_850 : decode cL_law 850 = .ok (.ifCond .eq 7, 3) := by decide +kernel
theorem dL_law_853 : decode cL_law 853 = .ok (.iconst 1, 1) := by decide +kernel
theorem dL_law_854 : decode cL_law 854 = .ok (.goto 4, 3) := by decide +kernel
theorem dL_law_857 : decode cL_law 857 = .ok (.iconst 0, 1) := by decide +kernel
theorem dL_law_858 : decode cL_law 858 = .ok (.aload_n 0, 1) := by decide +kernel
theorem dL_law_859 : decode cL_law 859 = .ok (.iload_n 3, 1) := by decide +kernel
theorem dL_law_860 : decode cL_law 860 = .ok (.iconst 5, 1) := by decide +kernel
theorem dL_law_861 : decode cL_law 861 = .ok (.iadd, 1) := by decide +kernel
theorem dL_law_862 : decode cL_law 862 = .ok (.iaload, 1) := by decide +kernel
theorem dL_law_863 : decode cL_law 863 = .ok (.aload_n 0, 1) := by decide +kernel
theorem dL_law_864 : decode cL_law 864 = .ok (.iload_n 3, 1) := by decide +kernel
theorem dL_law_865 : decode cL_law 865 = .ok (.bipush 6, 2) := by decide +kernel
theorem dL_law_867 : decode cL_law 867 = .ok (.iadd, 1) := by decide +kernel
theorem dL_law_868 : decode cL_law 868 = .ok (.iaload, 1) := by decide +kernel
theorem dL_law_869 : decode cL_law 869 = .ok (.invokevirtual 83, 3) := by decide +kernel
theorem dL_law_872 : decode cL_law 872 = .ok (.lcmp, 1) := by decide +kernel
theorem dL_law_873 : decode cL_law 873 = .ok (.ifCond .eq 5, 3) := by decide +kernel
theorem dL_law_876 : decode cL_law 876 = .ok (.iconst 0, 1) := by decide +kernel
theorem dL_law_877 : decode cL_law 877 = .ok (.ireturn, 1) := by decide +kernel
theorem dL_law_878 : decode cL_law 878 = .ok (.iinc 3 7, 3) := by decide +kernel
theorem dL_law_881 : decode cL_law 881 = .ok (.goto (-863), 3) := by decide +kernel
theorem dL_law_884 : decode cL_law 884 = .ok (.iconst 1, 1) := by decide +kernel
theorem dL_law_885 : decode cL_law 885 = .ok (.ireturn, 1) := by decide +kernel
end
section
/-! rows of this claim: how a method is entered, called and left -/
theorem gV {own C : String} {idx : Nat} {y : MethodName} {b : ByteArray} {n : Nat} {r : Option FieldType} (h1 : Cond.methodLink own idx y ∈ gw) (h2 : Cond.instanceMethod y ∈ gw) (h3 : Cond.selects C y y ∈ gw) (h4 : Cond.initialized C ∈ gw) (h5 : Cond.code y b n r ∈ gw) : GoodIn gw (wsV own idx C y (Cond.code y b n r :: gw)) := by
  intro w hw
  have hm : w ∈ gw := by
    simp only [wsV, List.cons_append, List.nil_append, List.mem_cons] at hw
    rcases hw with rfl | rfl | rfl | rfl | rfl | hw <;> assumption
  exact ⟨hm, good_of_word (gw_good w hm)⟩
theorem gS {own : String} {idx : Nat} {y : MethodName} {b : ByteArray} {n : Nat} {r : Option FieldType} (h1 : Cond.methodLink own idx y ∈ gw) (h2 : Cond.static y ∈ gw) (h4 : Cond.initialized y.cls ∈ gw) (h5 : Cond.code y b n r ∈ gw) : GoodIn gw (va_wsS own idx y (Cond.code y b n r :: gw)) := by
  intro w hw
  have hm : w ∈ gw := by
    simp only [va_wsS, List.cons_append, List.nil_append, List.mem_cons] at hw
    rcases hw with rfl | rfl | rfl | rfl | hw <;> assumption
  exact ⟨hm, good_of_word (gw_good w hm)⟩
theorem gC {y : MethodName} {b : ByteArray} {n : Nat} {r : Option FieldType} (h5 : Cond.code y b n r ∈ gw) : GoodIn gw (Cond.code y b n r :: gw) := by
  intro w hw
  have hm : w ∈ gw := by
    rcases List.mem_cons.mp hw with rfl | hw <;> assumption
  exact ⟨hm, good_of_word (gw_good w hm)⟩
/-- a method that changes no cell: its answer -/
def rdQ (v : Option Value) : Array Value → State → Outcome → State → Prop := fun _ st o t => o = .returned v ∧ t.heap = st.heap
/-- in a world's addresses -/
def inW (wd : va_W) (q : Nat) : Prop := ∃ (k : Nat) (e : va_E), wd[k]? = some (q, e)
/-- a method that changes the cells of a world in place -/
def wrQ (D : va_G) (v : Option Value) (wd wd' : va_W) : Array Value → State → Outcome → State → Prop := fun _ st o t => o = .returned v ∧ va_P D vwCl wd' t.heap ∧ va_F (inW wd) st t
abbrev Rd (l : Launch) (y : MethodName) (cc : ByteArray) (maxL : Nat) (ret : Option FieldType) (fr lo : Nat) (av : List Value) (B : State → Prop) (v : Option Value) : Prop :=
  Met l y (Cond.code y cc maxL ret :: gw) { frames := fr, cells := 0, slots := 0, locals := lo } (va_Pc av B) (rdQ v) 0 0 (fun _ => False)
abbrev Wr (l : Launch) (y : MethodName) (cc : ByteArray) (maxL : Nat) (ret : Option FieldType) (fr lo : Nat) (av : List Value) (B : State → Prop) (D : va_G) (v : Option Value) (wd wd' : va_W) : Prop :=
  Met l y (Cond.code y cc maxL ret :: gw) { frames := fr, cells := 0, slots := 0, locals := lo } (va_Pc av B) (wrQ D v wd wd') 0 0 (inW wd)
/-- a state's property that neither frames nor arguments touch -/
def Blind (B : State → Prop) : Prop := ∀ (a : Array Value) (U : State) (g : JFrame) (mk : MethodId), B U → B (U.calling g mk a)
theorem Blind.pc {B : State → Prop} (h : Blind B) (av : List Value) : FrameBlind (va_Pc av B) := fun a U g mk q => ⟨q.1, h a U g mk q.2⟩
theorem Blind.tt : Blind (fun _ => True) := fun _ _ _ _ h => h
abbrev TY (cI cJ cO : ClassId) : List (ClassId × FieldType) := [(cI, .int), (cJ, .long), (cO, .object "SquitterDesk$Craft")]
/-- the world of a method: its cells, and the classes -/
def B0 (D : va_G) (cI cJ cO : ClassId) (wd : va_W) (U : State) : Prop := va_P D vwCl wd U.heap ∧ va_K D vwCl (TY cI cJ cO) U
theorem Blind.b0 {D : va_G} {cI cJ cO : ClassId} {wd : va_W} : Blind (B0 D cI cJ cO wd) := fun a U g mk h => ⟨h.1, va_K.moved (u := U) (U := U.calling g mk a) (Vm.Alike.refl U.vm) h.2⟩
/-- the same, its addresses apart -/
def B1 (D : va_G) (cI cJ cO : ClassId) (wd : va_W) (U : State) : Prop := va_P D vwCl wd U.heap ∧ va_K D vwCl (TY cI cJ cO) U ∧ va_D (fun _ => True) wd
theorem Blind.b1 {D : va_G} {cI cJ cO : ClassId} {wd : va_W} : Blind (B1 D cI cJ cO wd) := fun a U g mk h => ⟨h.1, va_K.moved (u := U) (U := U.calling g mk a) (Vm.Alike.refl U.vm) h.2.1, h.2.2⟩
theorem Met.ofWF {l : Launch} {y : MethodName} {ws ws' : List Cond} {rm : Room} {Pc : Array Value → State → Prop} {Qc : Array Value → State → Outcome → State → Prop} {mc ms : Nat} {free : Addr → Prop} {cc : ByteArray} {maxL : Nat} {ret : Option FieldType}
    (hy : plainFor y = true) (hw : ws = Cond.code y cc maxL ret :: ws')
    (body : ∀ p e s m args below meth c s₁, BodyLoose p l y (headSpec ws rm) cc maxL ret e s m args below meth c s₁ → c.maxLocals = maxL → Pc args s →
      W p l e (headSpec ws rm).room s m args below meth c s.heap [] 0 0 (MQ below Qc args s mc ms free) (entryFrame m args maxL)) : Met l y ws rm Pc Qc mc ms free := by
  refine MetFree.of_bodySF (code := cc) (maxLocals := maxL) (ret := ret) hy ?_ ?_
  · intro args s m h hn
    obtain ⟨meth, c, h1, h2, h3, h4, h5, h6, -, -⟩ := Cond.code_spec hn (atoms_spec (ws := ws) h _ (by rw [hw]; exact List.mem_cons_self))
    exact ⟨meth, c, h1, h2, h3, h4, h5, h6⟩
  · intro p e s m args below meth c s₁ B hml hP _
    have hh0 : s₁.heap = s.heap := by rw [B.state]; rfl
    obtain ⟨t, a1, o, b1, b2, b3⟩ := body p e s m args below meth c s₁ B hml hP s₁ hh0 (Stand.of_body B)
    exact ⟨t, o, a1, b1, b2, ⟨b3.1, b3.2⟩⟩
theorem Rd.of {l : Launch} {y : MethodName} {cc : ByteArray} {maxL : Nat} {ret : Option FieldType} {fr lo : Nat} {av : List Value} {B : State → Prop} {v : Option Value} (hy : plainFor y = true) (hn : (lg_sl av).length ≤ maxL)
    (body : ∀ (p : Program) (e : Env) (s : State) (m : MethodId) (args : Array Value) (below : List Frame) (meth : Method) (c : Code), p.tables.exec = Jvm.exec → c.code = cc → meth.sig.returnType = ret → c.maxLocals = maxL → s.vm.findClass y.cls = some m.cls → (∀ w ∈ gw, w.before args s = true) → meth.locks = false → B s → ∀ ls : Array Slot, lv_has ls maxL (lv_args 0 av) →
      W p l e { frames := fr, cells := 0, slots := 0, locals := lo } s m args below meth c s.heap [] 0 0 (MQ below (rdQ v) args s 0 0 (fun _ => False)) (F0 m 0 ls [])) : Rd l y cc maxL ret fr lo av B v := by
  refine Met.ofWF (cc := cc) (maxL := maxL) (ret := ret) hy rfl ?_
  intro p e s m args below meth c s₁ Bd hml hv
  obtain ⟨rfl, hB⟩ := hv
  have hts := atoms_spec (ws := Cond.code y cc maxL ret :: gw) Bd.pre
  have hown : s.vm.findClass y.cls = some m.cls := findClass_of_methodNamed Bd.named
  have hl := lv_entry av (n := maxL) hn
  rw [lg_entry_eq]
  exact body p e s m _ below meth c Bd.exec Bd.bytes Bd.returns hml hown (fun w h => hts w (List.mem_cons_of_mem _ h)) Bd.notSynchronized hB _ hl
theorem Wr.of {l : Launch} {y : MethodName} {cc : ByteArray} {maxL : Nat} {ret : Option FieldType} {fr lo : Nat} {av : List Value} {D : va_G} {cI cJ cO : ClassId} {v : Option Value} {wd wd' : va_W} {X : State → Prop} (hy : plainFor y = true) (hn : (lg_sl av).length ≤ maxL)
    (body : ∀ (p : Program) (e : Env) (s : State) (m : MethodId) (args : Array Value) (below : List Frame) (meth : Method) (c : Code), p.tables.exec = Jvm.exec → c.code = cc → meth.sig.returnType = ret → c.maxLocals = maxL → s.vm.findClass y.cls = some m.cls → (∀ w ∈ gw, w.before args s = true) → meth.locks = false →
      ∀ A : Nat → Prop, A = inW wd → va_P D vwCl wd s.heap → va_K D vwCl (TY cI cJ cO) s → va_D A wd → X s → va_S A s.heap s.heap [] → ∀ ls : Array Slot, lv_has ls maxL (lv_args 0 av) →
      W p l e { frames := fr, cells := 0, slots := 0, locals := lo } s m args below meth c s.heap [] 0 0 (MQ below (wrQ D v wd wd') args s 0 0 (inW wd)) (F0 m 0 ls [])) : Wr l y cc maxL ret fr lo av (fun U => B1 D cI cJ cO wd U ∧ X U) D v wd wd' := by
  refine Met.ofWF (cc := cc) (maxL := maxL) (ret := ret) hy rfl ?_
  intro p e s m args below meth c s₁ Bd hml hv
  obtain ⟨rfl, ⟨hP, hK, hD⟩, hX⟩ := hv
  have hts := atoms_spec (ws := Cond.code y cc maxL ret :: gw) Bd.pre
  have hown : s.vm.findClass y.cls = some m.cls := findClass_of_methodNamed Bd.named
  have hl := lv_entry av (n := maxL) hn
  rw [lg_entry_eq]
  exact body p e s m _ below meth c Bd.exec Bd.bytes Bd.returns hml hown (fun w h => hts w (List.mem_cons_of_mem _ h)) Bd.notSynchronized _ rfl hP hK ⟨hD.1, fun k q hk => ⟨k, q.2, hk⟩⟩ hX va_S.rf _ hl
theorem Blind.and {B C : State → Prop} (h1 : Blind B) (h2 : Blind C) : Blind (fun U => B U ∧ C U) := fun a U g mk h => ⟨h1 a U g mk h.1, h2 a U g mk h.2⟩
/-- cells put at their places -/
def putAll : va_W → List Nat → va_W → va_W
  | ws, i :: is, q :: qs => putAll (ws.set i q) is qs
  | ws, _, _ => ws
theorem putAll_P {D : va_G} {cl : List vw_C} {H1 : Heap} : ∀ (is : List Nat) (ws w1 : va_W), is.length = w1.length → (∀ (k : Nat) (q : Nat × va_E), ws[k]? = some q → k ∉ is → va_at D cl q H1) → (∀ q ∈ w1, va_at D cl q H1) → va_P D cl (putAll ws is w1) H1
  | [], ws, [], _, h1, _ => fun k q hk => h1 k q hk List.not_mem_nil
  | i :: is, ws, q :: qs, hl, h1, h2 => by
    refine putAll_P is (ws.set i q) qs (by simpa using hl) (fun k q' hk hn => ?_) (fun q' hq => h2 q' (List.mem_cons_of_mem _ hq))
    by_cases hki : k = i
    · subst hki
      have hlt : k < (ws.set k q).length := (List.getElem?_eq_some_iff.mp hk).1
      rw [List.length_set] at hlt
      rw [List.getElem?_set_self hlt] at hk
      cases hk
      exact h2 _ List.mem_cons_self
    · rw [List.getElem?_set_ne (Ne.symm hki)] at hk
      exact h1 k q' hk (fun h => (List.mem_cons.mp h).elim hki hn)
  | [], _, _ :: _, hl, _, _ => by simp at hl
  | _ :: _, _, [], hl, _, _ => by simp at hl
theorem putAll_D {A : Nat → Prop} : ∀ (is : List Nat) (ws w1 : va_W), va_D A ws → is.map (fun i => (ws[i]?).map (·.1)) = w1.map (fun q => some q.1) → va_D A (putAll ws is w1)
  | [], ws, [], hD, _ => hD
  | [], ws, _ :: _, hD, _ => hD
  | _ :: _, ws, [], hD, _ => hD
  | i :: is, ws, (a, e) :: qs, hD, h => by
    simp only [List.map_cons, List.cons.injEq] at h
    obtain ⟨h1, h2⟩ := h
    cases hi : ws[i]? with
    | none => rw [hi] at h1; cases h1
    | some p =>
      obtain ⟨a0, e0⟩ := p
      rw [hi] at h1
      have ha : a0 = a := Option.some.inj h1
      subst ha
      refine putAll_D is (ws.set i (a0, e)) qs (hD.set hi) ?_
      rw [← h2]
      refine List.map_congr_left (fun j _ => ?_)
      by_cases hj : j = i
      · subst hj
        rw [List.getElem?_set_self (List.getElem?_eq_some_iff.mp hi).1, hi]; rfl
      · rw [List.getElem?_set_ne (Ne.symm hj)]
theorem inW_sub {A0 : Nat → Prop} {ws wc : va_W} (hD : va_D A0 ws) (isC : List Nat) (hC : isC.map (fun i => ws[i]?) = wc.map some) : ∀ q, inW wc q → A0 q := by
  rintro q ⟨k, e, h⟩
  have h1 : (isC.map (fun i => ws[i]?))[k]? = some (some (q, e)) := by rw [hC, List.getElem?_map, h]; rfl
  rw [List.getElem?_map] at h1
  cases hi : isC[k]? with
  | none => rw [hi] at h1; cases h1
  | some i => rw [hi] at h1; exact hD.2 i (q, e) (Option.some.inj h1)
theorem va_P.eq {D : va_G} {cl : List vw_C} {ws ws' : va_W} {H : Heap} (h : va_P D cl ws H) (e : ws = ws') : va_P D cl ws' H := e ▸ h
/-- behind a call that changed a part of the cells in place -/
theorem put_back {A0 : Nat → Prop} {D : va_G} {ws wc w1 : va_W} {H H1 : Heap} (hP : va_P D vwCl ws H) (hD : va_D A0 ws) (isC : List Nat) (hC : isC.map (fun i => ws[i]?) = wc.map some) (hs : wc.map (·.1) = w1.map (·.1))
    (hk : ∀ q : Nat, q < H.size → ¬ inW wc q → H1[q]? = H[q]?) (hP1 : va_P D vwCl w1 H1) : va_P D vwCl (putAll ws isC w1) H1 ∧ va_D A0 (putAll ws isC w1) := by
  have hlen : isC.length = w1.length := by
    have e1 := congrArg List.length hC
    have e2 := congrArg List.length hs
    simp only [List.length_map] at e1 e2
    rw [e1, e2]
  refine ⟨putAll_P isC ws w1 hlen (fun k q hq hn => (hP k q hq).kept (hk q.1 (hP k q hq).lt ?_)) (fun q hq => ?_), putAll_D isC ws w1 hD ?_⟩
  · rintro ⟨j, e, hj⟩
    have h1 : (isC.map (fun i => ws[i]?))[j]? = some (some (q.1, e)) := by rw [hC, List.getElem?_map, hj]; rfl
    rw [List.getElem?_map] at h1
    cases hi : isC[j]? with
    | none => rw [hi] at h1; cases h1
    | some i =>
      rw [hi] at h1
      have h2 : ws[i]? = some (q.1, e) := Option.some.inj h1
      have h3 := hD.1 k i q (q.1, e) hq h2 rfl
      subst h3
      exact hn (List.mem_of_getElem? hi)
  · obtain ⟨k, hk1⟩ := List.getElem?_of_mem hq
    exact hP1 k q hk1
  · have e1 : isC.map (fun i => (ws[i]?).map (·.1)) = wc.map (fun q => some q.1) := by
      have := congrArg (List.map (Option.map (fun q : Nat × va_E => q.1))) hC
      simpa only [List.map_map, Function.comp_def, Option.map_some] using this
    rw [e1]
    have := congrArg (List.map (fun a : Nat => some a)) hs
    simpa only [List.map_map, Function.comp_def] using this
section RC
variable {p : Program} {l : Launch} {e : Env} {R : Room} {s : State} {m : MethodId} {args : Array Value} {below : List Frame} {meth : Method} {c : Code} {H : Heap} {locs : List Loc} {cells slots : Nat} {Q : State → Prop}
variable {pc : Nat} {ls : Array Slot} {rest st0 : List Value} {cc : ByteArray} {a : Array Value}
theorem rd_call {v : Value} (hr : va_Run p l e R s m args below meth c H locs cells slots 0 0 (F0 m pc ls st0) rest (rdQ (some v) a) (fun _ => False))
    (kk : W p l e R s m args below meth c H locs cells slots Q (F0 m (pc + 3) ls (v :: rest))) : W p l e R s m args below meth c H locs cells slots Q (F0 m pc ls st0) := by
  intro T hT X
  obtain ⟨v', st₀, t, T', L, h0, X', hL, e1, e2, ⟨hv, hh⟩, st⟩ := hr T hT X
  cases hv
  obtain ⟨t2, a1, b1⟩ := kk T' (by rw [e1, hh, h0]) (Stand.forget X' (fun q h => (hL q h).elim))
  exact ⟨t2, st t2 a1, b1⟩
/-- a call of a static method that changes nothing -/
theorem rS {y : MethodName} {bytes : ByteArray} {maxL nL n index fr lo : Nat} {ret : Option FieldType} {own : String} {As : List Value} {B : State → Prop} {v : Value} (hx : p.tables.exec = Jvm.exec) (hb : c.code = cc) (hml : c.maxLocals = nL) (hown : s.vm.findClass own = some m.cls) (htg : ∀ w ∈ gw, w.before args s = true)
    (M : Rd l y bytes maxL ret fr lo As B (some v)) (hB : Blind B) (h1 : Cond.methodLink own index y ∈ gw) (h2 : Cond.static y ∈ gw) (h4 : Cond.initialized y.cls ∈ gw) (h5 : Cond.code y bytes maxL ret ∈ gw)
    (hd : y.cls ≠ "java/lang/invoke/MethodHandle" ∧ y.cls ≠ "java/lang/invoke/VarHandle" ∧ (parseMethodDescriptor y.desc).map (fun d => d.parameters.length) = some n) (hn : As.length = n)
    (hU : ∀ U : State, U.heap = H → s.WarmedH U.vm → B U) (hls : ls.size = nL) (hst : st0 = As.reverse ++ rest) (hW : (rest.map fun v => v.category).sum ≤ 8) (hR : fr + 1 ≤ R.frames ∧ 8 + (maxL + 11) + lo ≤ R.locals) (hC : cells ≤ R.cells ∧ slots ≤ R.slots) (hdg : decode cc pc = .ok (.invokestatic index, 3))
    (kk : W p l e R s m args below meth c H locs cells slots Q (F0 m (pc + 3) ls (v :: rest))) : W p l e R s m args below meth c H locs cells slots Q (F0 m pc ls st0) :=
  rd_call (va_runS (As := As) (rest := rest) ⟨hx, hb, hml, hown, htg⟩ M (va_cwS n htg (gS h1 h2 h4 h5) rfl rfl rfl hd hR) ⟨hB.pc As, fun U hU1 hW1 => ⟨rfl, hU U hU1 hW1⟩⟩ rfl hn hls hst (lv_room hW) hdg hC) kk
/-- a call of a method of an object that changes nothing -/
theorem rV {y : MethodName} {bytes : ByteArray} {maxL nL n index fr lo : Nat} {ret : Option FieldType} {own : String} {C : String} {b : Addr} {As : List Value} {B : State → Prop} {v : Value} (hx : p.tables.exec = Jvm.exec) (hb : c.code = cc) (hml : c.maxLocals = nL) (hown : s.vm.findClass own = some m.cls) (htg : ∀ w ∈ gw, w.before args s = true)
    (M : Rd l y bytes maxL ret fr lo (.ref b :: As) B (some v)) (hB : Blind B) (h1 : Cond.methodLink own index y ∈ gw) (h2 : Cond.instanceMethod y ∈ gw) (h3 : Cond.selects C y y ∈ gw) (h4 : Cond.initialized C ∈ gw) (h5 : Cond.code y bytes maxL ret ∈ gw) (hyC : y.cls = C)
    (hd : y.cls ≠ "java/lang/invoke/MethodHandle" ∧ y.cls ≠ "java/lang/invoke/VarHandle" ∧ (parseMethodDescriptor y.desc).map (fun d => d.parameters.length) = some n) (hn : As.length = n)
    (hrec : ∃ cell : Cell, H[b]? = some cell ∧ cell.vm.isStatics = false ∧ s.vm.findClass C = some cell.cls)
    (hU : ∀ U : State, U.heap = H → s.WarmedH U.vm → B U) (hls : ls.size = nL) (hst : st0 = As.reverse ++ .ref b :: rest) (hW : (rest.map fun v => v.category).sum ≤ 8) (hR : fr + 1 ≤ R.frames ∧ 8 + (maxL + 11) + lo ≤ R.locals) (hC : cells ≤ R.cells ∧ slots ≤ R.slots) (hdg : decode cc pc = .ok (.invokevirtual index, 3))
    (kk : W p l e R s m args below meth c H locs cells slots Q (F0 m (pc + 3) ls (v :: rest))) : W p l e R s m args below meth c H locs cells slots Q (F0 m pc ls st0) :=
  rd_call (va_runV (As := As) (rest := rest) ⟨hx, hb, hml, hown, htg⟩ M (cwV n htg (gV h1 h2 h3 h4 h5) rfl rfl rfl ⟨hyC, hd⟩ hR) ⟨hB.pc _, hrec, fun U hU1 hW1 => ⟨rfl, hU U hU1 hW1⟩⟩ rfl hn hls hst (lv_room hW) hdg hC) kk
variable {A0 : Nat → Prop} {H0 : Heap}
theorem wr_call {D : va_G} {v : Option Value} {ws wc w1 : va_W} (hr : va_Run p l e R s m args below meth c H locs cells slots 0 0 (F0 m pc ls st0) rest (wrQ D v wc w1 a) (inW wc)) (hP : va_P D vwCl ws H) (hD : va_D A0 ws) (hS : va_S A0 H0 H locs) (isC : List Nat) (hC : isC.map (fun i => ws[i]?) = wc.map some) (hs : wc.map (·.1) = w1.map (·.1))
    (kk : ∀ (H1 : Heap) (locs1 : List Loc), va_P D vwCl (putAll ws isC w1) H1 → va_D A0 (putAll ws isC w1) → va_S A0 H0 H1 locs1 → W p l e R s m args below meth c H1 locs1 cells slots Q (F0 m (pc + 3) ls (v.toList ++ rest))) : W p l e R s m args below meth c H locs cells slots Q (F0 m pc ls st0) := by
  intro T hT X
  obtain ⟨v', st₀, t, T', L, h0, X', hL, e1, e2, ⟨hv, hP1, hz, hk⟩, st⟩ := hr T hT X
  cases hv
  rw [h0] at hz hk
  rw [← e1] at hP1 hz
  have hk' : ∀ q : Nat, q < H.size → ¬ inW wc q → T'.heap[q]? = H[q]? := fun q h1 h2 => by rw [e1]; exact hk q h1 h2
  obtain ⟨p1, p2⟩ := put_back hP hD isC hC hs hk' hP1
  obtain ⟨t2, a1, b1⟩ := kk T'.heap (locs ++ L) p1 p2 ⟨Nat.le_trans hS.1 hz, fun q h1 h2 => by rw [hk' q (Nat.lt_of_lt_of_le h1 hS.1) (fun z => h2 (inW_sub hD isC hC q z))]; exact hS.2.1 q h1 h2, fun q hq => by
      rcases List.mem_append.mp hq with h | h
      · exact hS.2.2 q h
      · exact inW_sub hD isC hC _ (hL q h)⟩ T' rfl X'
  exact ⟨t2, st t2 a1, b1⟩
/-- a call of a static method that changes cells in place -/
theorem wS {y : MethodName} {bytes : ByteArray} {maxL nL n index fr lo : Nat} {ret : Option FieldType} {own : String} {As : List Value} {B : State → Prop} {D : va_G} {v : Option Value} {ws wc w1 : va_W} (hx : p.tables.exec = Jvm.exec) (hb : c.code = cc) (hml : c.maxLocals = nL) (hown : s.vm.findClass own = some m.cls) (htg : ∀ w ∈ gw, w.before args s = true)
    (M : Wr l y bytes maxL ret fr lo As B D v wc w1) (hB : Blind B) (h1 : Cond.methodLink own index y ∈ gw) (h2 : Cond.static y ∈ gw) (h4 : Cond.initialized y.cls ∈ gw) (h5 : Cond.code y bytes maxL ret ∈ gw)
    (hd : y.cls ≠ "java/lang/invoke/MethodHandle" ∧ y.cls ≠ "java/lang/invoke/VarHandle" ∧ (parseMethodDescriptor y.desc).map (fun d => d.parameters.length) = some n) (hn : As.length = n)
    (hU : ∀ U : State, U.heap = H → s.WarmedH U.vm → B U) (hls : ls.size = nL) (hst : st0 = As.reverse ++ rest) (hW : (rest.map fun v => v.category).sum ≤ 8) (hR : fr + 1 ≤ R.frames ∧ 8 + (maxL + 11) + lo ≤ R.locals) (hC : cells ≤ R.cells ∧ slots ≤ R.slots) (hdg : decode cc pc = .ok (.invokestatic index, 3))
    (hP : va_P D vwCl ws H) (hD : va_D A0 ws) (hS : va_S A0 H0 H locs) (isC : List Nat) (hCs : isC.map (fun i => ws[i]?) = wc.map some) (hs : wc.map (·.1) = w1.map (·.1))
    (kk : ∀ (H1 : Heap) (locs1 : List Loc), va_P D vwCl (putAll ws isC w1) H1 → va_D A0 (putAll ws isC w1) → va_S A0 H0 H1 locs1 → W p l e R s m args below meth c H1 locs1 cells slots Q (F0 m (pc + 3) ls (v.toList ++ rest))) : W p l e R s m args below meth c H locs cells slots Q (F0 m pc ls st0) :=
  wr_call (va_runS (As := As) (rest := rest) ⟨hx, hb, hml, hown, htg⟩ M (va_cwS n htg (gS h1 h2 h4 h5) rfl rfl rfl hd hR) ⟨hB.pc As, fun U hU1 hW1 => ⟨rfl, hU U hU1 hW1⟩⟩ rfl hn hls hst (lv_room hW) hdg hC) hP hD hS isC hCs hs kk
/-- a call of a method of an object that changes cells in place -/
theorem wV {y : MethodName} {bytes : ByteArray} {maxL nL n index fr lo : Nat} {ret : Option FieldType} {own : String} {C : String} {b : Addr} {As : List Value} {B : State → Prop} {D : va_G} {v : Option Value} {ws wc w1 : va_W} (hx : p.tables.exec = Jvm.exec) (hb : c.code = cc) (hml : c.maxLocals = nL) (hown : s.vm.findClass own = some m.cls) (htg : ∀ w ∈ gw, w.before args s = true)
    (M : Wr l y bytes maxL ret fr lo (.ref b :: As) B D v wc w1) (hB : Blind B) (h1 : Cond.methodLink own index y ∈ gw) (h2 : Cond.instanceMethod y ∈ gw) (h3 : Cond.selects C y y ∈ gw) (h4 : Cond.initialized C ∈ gw) (h5 : Cond.code y bytes maxL ret ∈ gw) (hyC : y.cls = C)
    (hd : y.cls ≠ "java/lang/invoke/MethodHandle" ∧ y.cls ≠ "java/lang/invoke/VarHandle" ∧ (parseMethodDescriptor y.desc).map (fun d => d.parameters.length) = some n) (hn : As.length = n)
    (hrec : ∃ cell : Cell, H[b]? = some cell ∧ cell.vm.isStatics = false ∧ s.vm.findClass C = some cell.cls)
    (hU : ∀ U : State, U.heap = H → s.WarmedH U.vm → B U) (hls : ls.size = nL) (hst : st0 = As.reverse ++ .ref b :: rest) (hW : (rest.map fun v => v.category).sum ≤ 8) (hR : fr + 1 ≤ R.frames ∧ 8 + (maxL + 11) + lo ≤ R.locals) (hC : cells ≤ R.cells ∧ slots ≤ R.slots) (hdg : decode cc pc = .ok (.invokevirtual index, 3))
    (hP : va_P D vwCl ws H) (hD : va_D A0 ws) (hS : va_S A0 H0 H locs) (isC : List Nat) (hCs : isC.map (fun i => ws[i]?) = wc.map some) (hs : wc.map (·.1) = w1.map (·.1))
    (kk : ∀ (H1 : Heap) (locs1 : List Loc), va_P D vwCl (putAll ws isC w1) H1 → va_D A0 (putAll ws isC w1) → va_S A0 H0 H1 locs1 → W p l e R s m args below meth c H1 locs1 cells slots Q (F0 m (pc + 3) ls (v.toList ++ rest))) : W p l e R s m args below meth c H locs cells slots Q (F0 m pc ls st0) :=
  wr_call (va_runV (As := As) (rest := rest) ⟨hx, hb, hml, hown, htg⟩ M (cwV n htg (gV h1 h2 h3 h4 h5) rfl rfl rfl ⟨hyC, hd⟩ hR) ⟨hB.pc _, hrec, fun U hU1 hW1 => ⟨rfl, hU U hU1 hW1⟩⟩ rfl hn hls hst (lv_room hW) hdg hC) hP hD hS isC hCs hs kk
theorem wr_v {D : va_G} {A : Nat → Prop} {wd wd' : va_W} (hx : p.tables.exec = Jvm.exec) (hb : c.code = cc) (hr : meth.sig.returnType = none) (hlocks : meth.locks = false) (hA : A = inW wd) (hS : va_S A s.heap H locs) (hP : va_P D vwCl wd' H) (hdg : decode cc pc = .ok (.return_, 1)) : W p l e R s m args below meth c H locs 0 0 (MQ below (wrQ D none wd wd') args s 0 0 (inW wd)) (F0 m pc ls []) := by
  subst hA
  exact W.vret hx hb hr (fun t ht _ => ⟨rfl, by rw [ht]; exact hP, hS.F ht⟩) hS.2.2 hdg
theorem wr_i {D : va_G} {A : Nat → Prop} {wd wd' : va_W} {v w : Int32} (hx : p.tables.exec = Jvm.exec) (hb : c.code = cc) (hr : meth.sig.returnType = some .int) (hlocks : meth.locks = false) (hA : A = inW wd) (hS : va_S A s.heap H locs) (hP : va_P D vwCl wd' H) (hv : w = v) (hdg : decode cc pc = .ok (.ireturn, 1)) : W p l e R s m args below meth c H locs 0 0 (MQ below (wrQ D (some (.int v)) wd wd') args s 0 0 (inW wd)) (F0 m pc ls [.int w]) := by
  subst hA; subst hv
  exact W.iret hx hb hr (fun t ht _ => ⟨rfl, by rw [ht]; exact hP, hS.F ht⟩) hS.2.2 hdg
theorem wr_z {D : va_G} {A : Nat → Prop} {wd wd' : va_W} {v w : Int32} (hx : p.tables.exec = Jvm.exec) (hb : c.code = cc) (hr : meth.sig.returnType = some .boolean) (hlocks : meth.locks = false) (hA : A = inW wd) (hS : va_S A s.heap H locs) (hP : va_P D vwCl wd' H) (hn : narrow .boolean (.int w) = .int w) (hv : w = v) (hdg : decode cc pc = .ok (.ireturn, 1)) : W p l e R s m args below meth c H locs 0 0 (MQ below (wrQ D (some (.int v)) wd wd') args s 0 0 (inW wd)) (F0 m pc ls [.int w]) := by
  subst hA; subst hv
  exact W.zret hx hb hr hn (fun t ht _ => ⟨rfl, by rw [ht]; exact hP, hS.F ht⟩) hS.2.2 hdg
theorem wr_l {D : va_G} {A : Nat → Prop} {wd wd' : va_W} {v w : Int64} (hx : p.tables.exec = Jvm.exec) (hb : c.code = cc) (hr : meth.sig.returnType = some .long) (hlocks : meth.locks = false) (hA : A = inW wd) (hS : va_S A s.heap H locs) (hP : va_P D vwCl wd' H) (hv : w = v) (hdg : decode cc pc = .ok (.lreturn, 1)) : W p l e R s m args below meth c H locs 0 0 (MQ below (wrQ D (some (.long v)) wd wd') args s 0 0 (inW wd)) (F0 m pc ls [.long w]) := by
  subst hA; subst hv
  exact W.lret hx hb hr (fun t ht _ => ⟨rfl, by rw [ht]; exact hP, hS.F ht⟩) hS.2.2 hdg
theorem rd_i {v w : Int32} (hx : p.tables.exec = Jvm.exec) (hb : c.code = cc) (hr : meth.sig.returnType = some .int) (hlocks : meth.locks = false) (hv : w = v) (hdg : decode cc pc = .ok (.ireturn, 1)) : W p l e R s m args below meth c s.heap [] 0 0 (MQ below (rdQ (some (.int v))) args s 0 0 (fun _ => False)) (F0 m pc ls [.int w]) := by
  subst hv
  exact W.iret hx hb hr (fun t ht _ => ⟨rfl, ht⟩) (fun _ h => by cases h) hdg
theorem rd_z {v w : Int32} (hx : p.tables.exec = Jvm.exec) (hb : c.code = cc) (hr : meth.sig.returnType = some .boolean) (hlocks : meth.locks = false) (hn : narrow .boolean (.int w) = .int w) (hv : w = v) (hdg : decode cc pc = .ok (.ireturn, 1)) : W p l e R s m args below meth c s.heap [] 0 0 (MQ below (rdQ (some (.int v))) args s 0 0 (fun _ => False)) (F0 m pc ls [.int w]) := by
  subst hv
  exact W.zret hx hb hr hn (fun t ht _ => ⟨rfl, ht⟩) (fun _ h => by cases h) hdg
theorem rd_l {v w : Int64} (hx : p.tables.exec = Jvm.exec) (hb : c.code = cc) (hr : meth.sig.returnType = some .long) (hlocks : meth.locks = false) (hv : w = v) (hdg : decode cc pc = .ok (.lreturn, 1)) : W p l e R s m args below meth c s.heap [] 0 0 (MQ below (rdQ (some (.long v))) args s 0 0 (fun _ => False)) (F0 m pc ls [.long w]) := by
  subst hv
  exact W.lret hx hb hr (fun t ht _ => ⟨rfl, ht⟩) (fun _ h => by cases h) hdg
/-! a comparison of longs and the branch behind it -/
theorem lc_eq {x y : Int64} {off : Int} {tgt : Nat} (hx : p.tables.exec = Jvm.exec) (hb : c.code = cc) (hd1 : decode cc pc = .ok (.lcmp, 1)) (hd2 : decode cc (pc + 1) = .ok (.ifCond .eq off, 3)) (ht : ((pc + 1 : Nat) : Int) + off = (tgt : Int))
    (kt : x = y → W p l e R s m args below meth c H locs cells slots Q (F0 m tgt ls rest)) (kf : ¬ x = y → W p l e R s m args below meth c H locs cells slots Q (F0 m (pc + 1 + 3) ls rest)) : W p l e R s m args below meth c H locs cells slots Q (F0 m pc ls (.long y :: .long x :: rest)) := by
  have e1 : lg_cmp x y = 0 ↔ x = y := by
    unfold lg_cmp
    split
    · rename_i h
      exact ⟨fun q => absurd q (by decide), fun q => absurd h (by rw [q]; exact Int64.lt_irrefl)⟩
    · split
      · rename_i h; exact ⟨fun _ => h, fun _ => rfl⟩
      · rename_i h; exact ⟨fun q => absurd q (by decide), fun q => absurd q h⟩
  exact W.lcmp hx hb hd1 (lv_if_eq hx hb hd2 ht (fun q => kt (e1.mp q)) (fun q => kf (fun z => q (e1.mpr z))))
theorem lc_ne {x y : Int64} {off : Int} {tgt : Nat} (hx : p.tables.exec = Jvm.exec) (hb : c.code = cc) (hd1 : decode cc pc = .ok (.lcmp, 1)) (hd2 : decode cc (pc + 1) = .ok (.ifCond .ne off, 3)) (ht : ((pc + 1 : Nat) : Int) + off = (tgt : Int))
    (kt : ¬ x = y → W p l e R s m args below meth c H locs cells slots Q (F0 m tgt ls rest)) (kf : x = y → W p l e R s m args below meth c H locs cells slots Q (F0 m (pc + 1 + 3) ls rest)) : W p l e R s m args below meth c H locs cells slots Q (F0 m pc ls (.long y :: .long x :: rest)) := by
  have e1 : lg_cmp x y = 0 ↔ x = y := by
    unfold lg_cmp
    split
    · rename_i h
      exact ⟨fun q => absurd q (by decide), fun q => absurd h (by rw [q]; exact Int64.lt_irrefl)⟩
    · split
      · rename_i h; exact ⟨fun _ => h, fun _ => rfl⟩
      · rename_i h; exact ⟨fun q => absurd q (by decide), fun q => absurd q h⟩
  exact W.lcmp hx hb hd1 (lv_if_ne hx hb hd2 ht (fun q => kt (fun z => q (e1.mpr z))) (fun q => kf (e1.mp q)))
theorem lg3 (x y : Int64) : (y < x ∧ lg_cmp x y = 1) ∨ (x = y ∧ lg_cmp x y = 0) ∨ (x < y ∧ lg_cmp x y = -1) := by
  unfold lg_cmp
  by_cases h : x > y
  · exact Or.inl ⟨h, if_pos h⟩
  · rw [if_neg h]
    by_cases h2 : x = y
    · exact Or.inr (Or.inl ⟨h2, if_pos h2⟩)
    · refine Or.inr (Or.inr ⟨?_, if_neg h2⟩)
      have h3 : ¬ y.toInt < x.toInt := fun q => h (Int64.lt_iff_toInt_lt.mpr q)
      have h4 : ¬ x.toInt = y.toInt := fun q => h2 (Int64.toInt_inj.mp q)
      exact Int64.lt_iff_toInt_lt.mpr (by omega)
theorem lg_lt (x y : Int64) : lg_cmp x y < 0 ↔ x < y := by
  rcases lg3 x y with ⟨h, e1⟩ | ⟨h, e1⟩ | ⟨h, e1⟩ <;> rw [e1]
  · exact ⟨fun q => absurd q (by decide), fun q => by rw [Int64.lt_iff_toInt_lt] at h q; omega⟩
  · exact ⟨fun q => absurd q (by decide), fun q => by rw [h] at q; exact absurd q Int64.lt_irrefl⟩
  · exact ⟨fun _ => h, fun _ => by decide⟩
theorem lg_gt (x y : Int64) : 0 < lg_cmp x y ↔ y < x := by
  rcases lg3 x y with ⟨h, e1⟩ | ⟨h, e1⟩ | ⟨h, e1⟩ <;> rw [e1]
  · exact ⟨fun _ => h, fun _ => by decide⟩
  · exact ⟨fun q => absurd q (by decide), fun q => by rw [h] at q; exact absurd q Int64.lt_irrefl⟩
  · exact ⟨fun q => absurd q (by decide), fun q => by rw [Int64.lt_iff_toInt_lt] at h q; omega⟩
theorem lg_le (x y : Int64) : lg_cmp x y ≤ 0 ↔ x ≤ y := by
  rw [Int64.le_iff_toInt_le]
  rcases lg3 x y with ⟨h, e1⟩ | ⟨h, e1⟩ | ⟨h, e1⟩ <;> rw [e1]
  · exact ⟨fun q => absurd q (by decide), fun q => by rw [Int64.lt_iff_toInt_lt] at h; omega⟩
  · exact ⟨fun _ => by rw [h]; exact Int.le_refl _, fun _ => by decide⟩
  · exact ⟨fun _ => by rw [Int64.lt_iff_toInt_lt] at h; omega, fun _ => by decide⟩
theorem lg_ge (x y : Int64) : 0 ≤ lg_cmp x y ↔ y ≤ x := lg_cmp_ge x y
theorem lc_lt {x y : Int64} {off : Int} {tgt : Nat} (hx : p.tables.exec = Jvm.exec) (hb : c.code = cc) (hd1 : decode cc pc = .ok (.lcmp, 1)) (hd2 : decode cc (pc + 1) = .ok (.ifCond .lt off, 3)) (ht : ((pc + 1 : Nat) : Int) + off = (tgt : Int))
    (kt : x < y → W p l e R s m args below meth c H locs cells slots Q (F0 m tgt ls rest)) (kf : ¬ x < y → W p l e R s m args below meth c H locs cells slots Q (F0 m (pc + 1 + 3) ls rest)) : W p l e R s m args below meth c H locs cells slots Q (F0 m pc ls (.long y :: .long x :: rest)) :=
  W.lcmp hx hb hd1 (lv_if_lt hx hb hd2 ht (fun q => kt ((lg_lt x y).mp q)) (fun q => kf (fun z => q ((lg_lt x y).mpr z))))
theorem lc_gt {x y : Int64} {off : Int} {tgt : Nat} (hx : p.tables.exec = Jvm.exec) (hb : c.code = cc) (hd1 : decode cc pc = .ok (.lcmp, 1)) (hd2 : decode cc (pc + 1) = .ok (.ifCond .gt off, 3)) (ht : ((pc + 1 : Nat) : Int) + off = (tgt : Int))
    (kt : y < x → W p l e R s m args below meth c H locs cells slots Q (F0 m tgt ls rest)) (kf : ¬ y < x → W p l e R s m args below meth c H locs cells slots Q (F0 m (pc + 1 + 3) ls rest)) : W p l e R s m args below meth c H locs cells slots Q (F0 m pc ls (.long y :: .long x :: rest)) :=
  W.lcmp hx hb hd1 (lv_if_gt hx hb hd2 ht (fun q => kt ((lg_gt x y).mp q)) (fun q => kf (fun z => q ((lg_gt x y).mpr z))))
theorem lc_le {x y : Int64} {off : Int} {tgt : Nat} (hx : p.tables.exec = Jvm.exec) (hb : c.code = cc) (hd1 : decode cc pc = .ok (.lcmp, 1)) (hd2 : decode cc (pc + 1) = .ok (.ifCond .le off, 3)) (ht : ((pc + 1 : Nat) : Int) + off = (tgt : Int))
    (kt : x ≤ y → W p l e R s m args below meth c H locs cells slots Q (F0 m tgt ls rest)) (kf : ¬ x ≤ y → W p l e R s m args below meth c H locs cells slots Q (F0 m (pc + 1 + 3) ls rest)) : W p l e R s m args below meth c H locs cells slots Q (F0 m pc ls (.long y :: .long x :: rest)) :=
  W.lcmp hx hb hd1 (lv_if_le hx hb hd2 ht (fun q => kt ((lg_le x y).mp q)) (fun q => kf (fun z => q ((lg_le x y).mpr z))))
theorem lc_ge {x y : Int64} {off : Int} {tgt : Nat} (hx : p.tables.exec = Jvm.exec) (hb : c.code = cc) (hd1 : decode cc pc = .ok (.lcmp, 1)) (hd2 : decode cc (pc + 1) = .ok (.ifCond .ge off, 3)) (ht : ((pc + 1 : Nat) : Int) + off = (tgt : Int))
    (kt : y ≤ x → W p l e R s m args below meth c H locs cells slots Q (F0 m tgt ls rest)) (kf : ¬ y ≤ x → W p l e R s m args below meth c H locs cells slots Q (F0 m (pc + 1 + 3) ls rest)) : W p l e R s m args below meth c H locs cells slots Q (F0 m pc ls (.long y :: .long x :: rest)) :=
  W.lcmp hx hb hd1 (lv_if_ge hx hb hd2 ht (fun q => kt ((lg_ge x y).mp q)) (fun q => kf (fun z => q ((lg_ge x y).mpr z))))
theorem W.join {g : JFrame} {nL : Nat} {lv : List (Nat × Value)} {pc2 : Nat} {st2 : List Value} (J : ∀ ls' : Array Slot, lv_has ls' nL lv → W p l e R s m args below meth c H locs cells slots Q (F0 m pc2 ls' st2)) (k : (∀ ls' : Array Slot, lv_has ls' nL lv → W p l e R s m args below meth c H locs cells slots Q (F0 m pc2 ls' st2)) → W p l e R s m args below meth c H locs cells slots Q g) : W p l e R s m args below meth c H locs cells slots Q g := k J
variable {D : va_G} {cl : List vw_C} {A : Nat → Prop} {ad : Nat} {tys : List (ClassId × FieldType)} {ws : va_W} {H0 : Heap}
theorem va_iald' (hexec : p.tables.exec = Jvm.exec) (hb : c.code = cc) (hK : va_K D cl tys s) (hP : va_P D cl ws H) (q0 t0 : Nat) {cA : ClassId} {n : Nat} {f : Nat → Int32} (ha : ws[q0]? = some (ad, .inl (cA, n, .inl f))) (ht : tys[t0]? = some (cA, .int)) {i : Int32} (hin : vp_in i n) {v : Int32} (hv : f i.toNatClampNeg = v) (hdg : decode cc pc = .ok (.iaload, 1))
    (kk : W p l e R s m args below meth c H locs cells slots Q (F0 m (pc + 1) ls (.int v :: rest))) : W p l e R s m args below meth c H locs cells slots Q (F0 m pc ls (.int i :: .ref ad :: rest)) := by
  subst hv
  exact va_iald hexec hb hK hP q0 t0 ha ht hin hdg kk
theorem va_lald' (hexec : p.tables.exec = Jvm.exec) (hb : c.code = cc) (hK : va_K D cl tys s) (hP : va_P D cl ws H) (q0 t0 : Nat) {cA : ClassId} {n : Nat} {f : Nat → Int64} (ha : ws[q0]? = some (ad, .inl (cA, n, .inr (.inl f)))) (ht : tys[t0]? = some (cA, .long)) {i : Int32} (hin : vp_in i n) {v : Int64} (hv : f i.toNatClampNeg = v) (hdg : decode cc pc = .ok (.laload, 1))
    (kk : W p l e R s m args below meth c H locs cells slots Q (F0 m (pc + 1) ls (.long v :: rest))) : W p l e R s m args below meth c H locs cells slots Q (F0 m pc ls (.int i :: .ref ad :: rest)) := by
  subst hv
  exact va_lald hexec hb hK hP q0 t0 ha ht hin hdg kk
theorem va_iast' (hexec : p.tables.exec = Jvm.exec) (hb : c.code = cc) (hK : va_K D cl tys s) (hP : va_P D cl ws H) (hD : va_D A ws) (hS : va_S A H0 H locs) (q0 t0 : Nat) {cA : ClassId} {n : Nat} {f : Nat → Int32} (ha : ws[q0]? = some (ad, .inl (cA, n, .inl f))) (ht : tys[t0]? = some (cA, .int)) {i : Int32} {x : Int32} (hin : vp_in i n) {j : Nat} (hj : i.toNatClampNeg = j) (hdg : decode cc pc = .ok (.iastore, 1))
    (kk : ∀ (H1 : Heap) (locs1 : List Loc), va_P D cl (ws.set q0 (ad, .inl (cA, n, .inl (upd f j x)))) H1 → va_D A (ws.set q0 (ad, .inl (cA, n, .inl (upd f j x)))) → va_S A H0 H1 locs1 → W p l e R s m args below meth c H1 locs1 cells slots Q (F0 m (pc + 1) ls rest)) : W p l e R s m args below meth c H locs cells slots Q (F0 m pc ls (.int x :: .int i :: .ref ad :: rest)) := by
  subst hj
  exact va_iast hexec hb hK hP hD hS q0 t0 ha ht hin hdg kk
theorem va_last' (hexec : p.tables.exec = Jvm.exec) (hb : c.code = cc) (hK : va_K D cl tys s) (hP : va_P D cl ws H) (hD : va_D A ws) (hS : va_S A H0 H locs) (q0 t0 : Nat) {cA : ClassId} {n : Nat} {f : Nat → Int64} (ha : ws[q0]? = some (ad, .inl (cA, n, .inr (.inl f)))) (ht : tys[t0]? = some (cA, .long)) {i : Int32} {x : Int64} (hin : vp_in i n) {j : Nat} (hj : i.toNatClampNeg = j) (hdg : decode cc pc = .ok (.lastore, 1))
    (kk : ∀ (H1 : Heap) (locs1 : List Loc), va_P D cl (ws.set q0 (ad, .inl (cA, n, .inr (.inl (vp_updL f j x))))) H1 → va_D A (ws.set q0 (ad, .inl (cA, n, .inr (.inl (vp_updL f j x))))) → va_S A H0 H1 locs1 → W p l e R s m args below meth c H1 locs1 cells slots Q (F0 m (pc + 1) ls rest)) : W p l e R s m args below meth c H locs cells slots Q (F0 m pc ls (.long x :: .int i :: .ref ad :: rest)) := by
  subst hj
  exact va_last hexec hb hK hP hD hS q0 t0 ha ht hin hdg kk
end RC
def ushr (x y : Int32) : Int32 := (x.toUInt32 >>> (y.toUInt32 &&& Int32.toUInt32 31)).toInt32
theorem lv_eq {ls : Array Slot} {nL : Nat} {l l' : List (Nat × Value)} (h : lv_has ls nL l) (e : l = l') : lv_has ls nL l' := e ▸ h
end
