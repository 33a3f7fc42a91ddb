/-! the words that every method is given: those of the tables that stay good -/
def gw : List Cond := lw_tbl.filter goodWord
theorem gw_at {k : Nat} {w : Cond} (h : lw_tbl[k]? = some w) (g : goodWord w = true) : w ∈ gw := List.mem_filter.mpr ⟨List.mem_of_getElem? h, g⟩
theorem gw_good : ∀ w ∈ gw, goodWord w = true := fun w h => (List.mem_filter.mp h).2
theorem gw_hts {args : Array Value} {s : State} (h : ∀ w ∈ lw_tbl, w.before args s = true) : ∀ w ∈ gw, w.before args s = true := fun w hw => h w (List.mem_filter.mp hw).1
theorem se_X4_format : Cond.selects RX4 yX4_format yX4_format ∈ gw := gw_at (k := 0) (by decide +kernel) rfl
theorem se_X4_bit : Cond.selects RX4 yX4_bit yX4_bit ∈ gw := gw_at (k := 1) (by decide +kernel) rfl
theorem se_X4_isSound : Cond.selects RX4 yX4_isSound yX4_isSound ∈ gw := gw_at (k := 2) (by decide +kernel) rfl
theorem se_X4_turn : Cond.selects RX4 yX4_turn yX4_turn ∈ gw := gw_at (k := 3) (by decide +kernel) rfl
theorem se_X3_learnName : Cond.selects RX3 yX3_learnName yX3_learnName ∈ gw := gw_at (k := 4) (by decide +kernel) rfl
theorem se_X3_learnOnGround : Cond.selects RX3 yX3_learnOnGround yX3_learnOnGround ∈ gw := gw_at (k := 5) (by decide +kernel) rfl
theorem se_X3_hasFreshPlace : Cond.selects RX3 yX3_hasFreshPlace yX3_hasFreshPlace ∈ gw := gw_at (k := 6) (by decide +kernel) rfl
theorem se_X3_lastPlace : Cond.selects RX3 yX3_lastPlace yX3_lastPlace ∈ gw := gw_at (k := 7) (by decide +kernel) rfl
theorem se_X3_keepPlace : Cond.selects RX3 yX3_keepPlace yX3_keepPlace ∈ gw := gw_at (k := 8) (by decide +kernel) rfl
theorem se_X3_learnMotion : Cond.selects RX3 yX3_learnMotion yX3_learnMotion ∈ gw := gw_at (k := 9) (by decide +kernel) rfl
theorem se_X3_learnInAir : Cond.selects RX3 yX3_learnInAir yX3_learnInAir ∈ gw := gw_at (k := 10) (by decide +kernel) rfl
theorem se_X4_part : Cond.selects RX4 yX4_part yX4_part ∈ gw := gw_at (k := 11) (by decide +kernel) rfl
theorem se_X6_frame : Cond.selects RX6 yX6_frame yX6_frame ∈ gw := gw_at (k := 12) (by decide +kernel) rfl
theorem se_X6_remainder : Cond.selects RX6 yX6_remainder yX6_remainder ∈ gw := gw_at (k := 13) (by decide +kernel) rfl
theorem se_X6_number : Cond.selects RX6 yX6_number yX6_number ∈ gw := gw_at (k := 14) (by decide +kernel) rfl
theorem se_X6_isWrong : Cond.selects RX6 yX6_isWrong yX6_isWrong ∈ gw := gw_at (k := 15) (by decide +kernel) rfl
theorem se_X6_toTurn : Cond.selects RX6 yX6_toTurn yX6_toTurn ∈ gw := gw_at (k := 16) (by decide +kernel) rfl
theorem se_X6_zonesOf : Cond.selects RX6 yX6_zonesOf yX6_zonesOf ∈ gw := gw_at (k := 17) (by decide +kernel) rfl
theorem se_X6_isTold : Cond.selects RX6 yX6_isTold yX6_isTold ∈ gw := gw_at (k := 18) (by decide +kernel) rfl
theorem se_X6_globalOf : Cond.selects RX6 yX6_globalOf yX6_globalOf ∈ gw := gw_at (k := 19) (by decide +kernel) rfl
theorem se_X6_localOf : Cond.selects RX6 yX6_localOf yX6_localOf ∈ gw := gw_at (k := 20) (by decide +kernel) rfl
theorem se_X6_at : Cond.selects RX6 yX6_at yX6_at ∈ gw := gw_at (k := 21) (by decide +kernel) rfl
theorem se_X6_ages : Cond.selects RX6 yX6_ages yX6_ages ∈ gw := gw_at (k := 22) (by decide +kernel) rfl
theorem se_X6_altitude : Cond.selects RX6 yX6_altitude yX6_altitude ∈ gw := gw_at (k := 23) (by decide +kernel) rfl
theorem se_X6_of : Cond.selects RX6 yX6_of yX6_of ∈ gw := gw_at (k := 24) (by decide +kernel) rfl
theorem se_X6_ungray : Cond.selects RX6 yX6_ungray yX6_ungray ∈ gw := gw_at (k := 25) (by decide +kernel) rfl
theorem se_X6_squawk : Cond.selects RX6 yX6_squawk yX6_squawk ∈ gw := gw_at (k := 26) (by decide +kernel) rfl
theorem se_X6_tells : Cond.selects RX6 yX6_tells yX6_tells ∈ gw := gw_at (k := 27) (by decide +kernel) rfl
theorem se_X6_part : Cond.selects RX6 yX6_part yX6_part ∈ gw := gw_at (k := 28) (by decide +kernel) rfl
theorem se_X6_speed : Cond.selects RX6 yX6_speed yX6_speed ∈ gw := gw_at (k := 29) (by decide +kernel) rfl
theorem se_X6_onGround : Cond.selects RX6 yX6_onGround yX6_onGround ∈ gw := gw_at (k := 30) (by decide +kernel) rfl
theorem se_X6_isFresh : Cond.selects RX6 yX6_isFresh yX6_isFresh ∈ gw := gw_at (k := 31) (by decide +kernel) rfl
theorem se_X6_toldNow : Cond.selects RX6 yX6_toldNow yX6_toldNow ∈ gw := gw_at (k := 32) (by decide +kernel) rfl
theorem se_X6_comes : Cond.selects RX6 yX6_comes yX6_comes ∈ gw := gw_at (k := 33) (by decide +kernel) rfl
theorem se_X6_inAir : Cond.selects RX6 yX6_inAir yX6_inAir ∈ gw := gw_at (k := 34) (by decide +kernel) rfl
theorem se_X6_moves : Cond.selects RX6 yX6_moves yX6_moves ∈ gw := gw_at (k := 35) (by decide +kernel) rfl
theorem se_X6_isCraft : Cond.selects RX6 yX6_isCraft yX6_isCraft ∈ gw := gw_at (k := 36) (by decide +kernel) rfl
theorem ini_L : Cond.initialized RL ∈ gw := gw_at (k := 37) (by decide +kernel) rfl
theorem ini_X5 : Cond.initialized RX5 ∈ gw := gw_at (k := 38) (by decide +kernel) rfl
theorem ini_X4 : Cond.initialized RX4 ∈ gw := gw_at (k := 39) (by decide +kernel) rfl
theorem ini_X0 : Cond.initialized RX0 ∈ gw := gw_at (k := 40) (by decide +kernel) rfl
theorem ini_X3 : Cond.initialized RX3 ∈ gw := gw_at (k := 41) (by decide +kernel) rfl
theorem ini_X6 : Cond.initialized RX6 ∈ gw := gw_at (k := 42) (by decide +kernel) rfl
theorem ini_X2 : Cond.initialized RX2 ∈ gw := gw_at (k := 43) (by decide +kernel) rfl
theorem ini_J7 : Cond.initialized RJ7 ∈ gw := gw_at (k := 44) (by decide +kernel) rfl
theorem ini_J10 : Cond.initialized RJ10 ∈ gw := gw_at (k := 45) (by decide +kernel) rfl
theorem ini_X1 : Cond.initialized RX1 ∈ gw := gw_at (k := 46) (by decide +kernel) rfl
theorem ini_J9 : Cond.initialized RJ9 ∈ gw := gw_at (k := 47) (by decide +kernel) rfl
theorem cl_L_7 : Cond.classLink RL 7 RX5 ∈ gw := gw_at (k := 48) (by decide +kernel) rfl
theorem it_X5 : Cond.instantiable RX5 5 ∈ gw := gw_at (k := 49) (by decide +kernel) rfl
theorem ml_L_9 : Cond.methodLink RL 9 yX5_init ∈ gw := gw_at (k := 50) (by decide +kernel) rfl
theorem im_X5_init : Cond.instanceMethod yX5_init ∈ gw := gw_at (k := 51) (by decide +kernel) rfl
theorem co_X5_init : Cond.code yX5_init cX5_init 1 none ∈ gw := gw_at (k := 52) (by decide +kernel) rfl
theorem ml_X5_1 : Cond.methodLink RX5 1 objectInit ∈ gw := gw_at (k := 53) (by decide +kernel) rfl
theorem im_objectInit : Cond.instanceMethod objectInit ∈ gw := gw_at (k := 54) (by decide +kernel) rfl
theorem co_objectInit : Cond.code objectInit ⟨#[0xb1]⟩ 1 none ∈ gw := gw_at (k := 55) (by decide +kernel) rfl
theorem cl_X5_7 : Cond.classLink RX5 7 RX4 ∈ gw := gw_at (k := 56) (by decide +kernel) rfl
theorem it_X4 : Cond.instantiable RX4 3 ∈ gw := gw_at (k := 57) (by decide +kernel) rfl
theorem ml_X5_9 : Cond.methodLink RX5 9 yX4_init ∈ gw := gw_at (k := 58) (by decide +kernel) rfl
theorem im_X4_init : Cond.instanceMethod yX4_init ∈ gw := gw_at (k := 59) (by decide +kernel) rfl
theorem co_X4_init : Cond.code yX4_init cX4_init 1 none ∈ gw := gw_at (k := 60) (by decide +kernel) rfl
theorem ml_X4_5 : Cond.methodLink RX4 5 objectInit ∈ gw := gw_at (k := 61) (by decide +kernel) rfl
theorem fl_X4_11 : Cond.fieldLink RX4 11 "SquitterDesk$Frame" "words" "[I" ∈ gw := gw_at (k := 62) (by decide +kernel) rfl
theorem fl_X4_15 : Cond.fieldLink RX4 15 "SquitterDesk$Frame" "length" "I" ∈ gw := gw_at (k := 63) (by decide +kernel) rfl
theorem fl_X4_19 : Cond.fieldLink RX4 19 "SquitterDesk$Frame" "turned" "I" ∈ gw := gw_at (k := 64) (by decide +kernel) rfl
theorem ac_int : Cond.arrayClass .int ∈ gw := gw_at (k := 72) (by decide +kernel) rfl
theorem cl_X5_19 : Cond.classLink RX5 19 RX0 ∈ gw := gw_at (k := 73) (by decide +kernel) rfl
theorem it_X0 : Cond.instantiable RX0 2 ∈ gw := gw_at (k := 74) (by decide +kernel) rfl
theorem ml_X5_21 : Cond.methodLink RX5 21 yX0_init ∈ gw := gw_at (k := 75) (by decide +kernel) rfl
theorem im_X0_init : Cond.instanceMethod yX0_init ∈ gw := gw_at (k := 76) (by decide +kernel) rfl
theorem co_X0_init : Cond.code yX0_init cX0_init 2 none ∈ gw := gw_at (k := 77) (by decide +kernel) rfl
theorem ml_X0_3 : Cond.methodLink RX0 3 objectInit ∈ gw := gw_at (k := 78) (by decide +kernel) rfl
theorem cl_X0_11 : Cond.classLink RX0 11 RX3 ∈ gw := gw_at (k := 79) (by decide +kernel) rfl
theorem it_X3 : Cond.instantiable RX3 4 ∈ gw := gw_at (k := 81) (by decide +kernel) rfl
theorem ml_X0_17 : Cond.methodLink RX0 17 yX3_init ∈ gw := gw_at (k := 82) (by decide +kernel) rfl
theorem im_X3_init : Cond.instanceMethod yX3_init ∈ gw := gw_at (k := 83) (by decide +kernel) rfl
theorem co_X3_init : Cond.code yX3_init cX3_init 1 none ∈ gw := gw_at (k := 84) (by decide +kernel) rfl
theorem ml_X3_3 : Cond.methodLink RX3 3 objectInit ∈ gw := gw_at (k := 85) (by decide +kernel) rfl
theorem fl_X3_9 : Cond.fieldLink RX3 9 "SquitterDesk$Craft" "values" "[I" ∈ gw := gw_at (k := 86) (by decide +kernel) rfl
theorem fl_X3_15 : Cond.fieldLink RX3 15 "SquitterDesk$Craft" "letters" "[I" ∈ gw := gw_at (k := 87) (by decide +kernel) rfl
theorem fl_X3_18 : Cond.fieldLink RX3 18 "SquitterDesk$Craft" "codes" "[J" ∈ gw := gw_at (k := 88) (by decide +kernel) rfl
theorem fl_X3_22 : Cond.fieldLink RX3 22 "SquitterDesk$Craft" "codeTimes" "[I" ∈ gw := gw_at (k := 89) (by decide +kernel) rfl
theorem ac_long : Cond.arrayClass .long ∈ gw := gw_at (k := 99) (by decide +kernel) rfl
theorem fl_X0_13 : Cond.fieldLink RX0 13 "SquitterDesk$Book" "rows" "[LSquitterDesk$Craft;" ∈ gw := gw_at (k := 100) (by decide +kernel) rfl
theorem fl_X0_18 : Cond.fieldLink RX0 18 "SquitterDesk$Book" "size" "I" ∈ gw := gw_at (k := 101) (by decide +kernel) rfl
theorem ct_X5_26 : Cond.constantLong RX5 26 (-9223372036854775808) ∈ gw := gw_at (k := 107) (by decide +kernel) rfl
theorem fl_X5_10 : Cond.fieldLink RX5 10 "SquitterDesk" "draft" "LSquitterDesk$Frame;" ∈ gw := gw_at (k := 108) (by decide +kernel) rfl
theorem fl_X5_16 : Cond.fieldLink RX5 16 "SquitterDesk" "latest" "LSquitterDesk$Frame;" ∈ gw := gw_at (k := 109) (by decide +kernel) rfl
theorem fl_X5_22 : Cond.fieldLink RX5 22 "SquitterDesk" "book" "LSquitterDesk$Book;" ∈ gw := gw_at (k := 110) (by decide +kernel) rfl
theorem fl_X5_28 : Cond.fieldLink RX5 28 "SquitterDesk" "ownPlace" "J" ∈ gw := gw_at (k := 111) (by decide +kernel) rfl
theorem fl_X5_32 : Cond.fieldLink RX5 32 "SquitterDesk" "clock" "I" ∈ gw := gw_at (k := 112) (by decide +kernel) rfl
theorem ml_L_13 : Cond.methodLink RL 13 yX5_syndrome ∈ gw := gw_at (k := 124) (by decide +kernel) rfl
theorem im_X5_syndrome : Cond.instanceMethod yX5_syndrome ∈ gw := gw_at (k := 125) (by decide +kernel) rfl
theorem se_X5_syndrome : Cond.selects RX5 yX5_syndrome yX5_syndrome ∈ gw := gw_at (k := 126) (by decide +kernel) rfl
theorem co_X5_syndrome : Cond.code yX5_syndrome cX5_syndrome 5 (some .int) ∈ gw := gw_at (k := 127) (by decide +kernel) rfl
theorem ml_X5_36 : Cond.methodLink RX5 36 yX4_write ∈ gw := gw_at (k := 128) (by decide +kernel) rfl
theorem im_X4_write : Cond.instanceMethod yX4_write ∈ gw := gw_at (k := 129) (by decide +kernel) rfl
theorem se_X4_write : Cond.selects RX4 yX4_write yX4_write ∈ gw := gw_at (k := 130) (by decide +kernel) rfl
theorem co_X4_write : Cond.code yX4_write cX4_write 5 none ∈ gw := gw_at (k := 131) (by decide +kernel) rfl
theorem ml_X4_22 : Cond.methodLink RX4 22 yX4_format ∈ gw := gw_at (k := 132) (by decide +kernel) rfl
theorem im_X4_format : Cond.instanceMethod yX4_format ∈ gw := gw_at (k := 134) (by decide +kernel) rfl
theorem co_X4_format : Cond.code yX4_format cX4_format 1 (some .int) ∈ gw := gw_at (k := 135) (by decide +kernel) rfl
theorem ml_X5_40 : Cond.methodLink RX5 40 yX4_remainder ∈ gw := gw_at (k := 136) (by decide +kernel) rfl
theorem im_X4_remainder : Cond.instanceMethod yX4_remainder ∈ gw := gw_at (k := 137) (by decide +kernel) rfl
theorem se_X4_remainder : Cond.selects RX4 yX4_remainder yX4_remainder ∈ gw := gw_at (k := 138) (by decide +kernel) rfl
theorem co_X4_remainder : Cond.code yX4_remainder cX4_remainder 3 (some .int) ∈ gw := gw_at (k := 139) (by decide +kernel) rfl
theorem ml_X4_32 : Cond.methodLink RX4 32 yX4_bit ∈ gw := gw_at (k := 140) (by decide +kernel) rfl
theorem im_X4_bit : Cond.instanceMethod yX4_bit ∈ gw := gw_at (k := 142) (by decide +kernel) rfl
theorem co_X4_bit : Cond.code yX4_bit cX4_bit 3 (some .int) ∈ gw := gw_at (k := 143) (by decide +kernel) rfl
theorem ml_X4_40 : Cond.methodLink RX4 40 yX4_reduced ∈ gw := gw_at (k := 144) (by decide +kernel) rfl
theorem st_X4_reduced : Cond.static yX4_reduced ∈ gw := gw_at (k := 145) (by decide +kernel) rfl
theorem co_X4_reduced : Cond.code yX4_reduced cX4_reduced 1 (some .int) ∈ gw := gw_at (k := 146) (by decide +kernel) rfl
theorem ct_X4_73 : Cond.constant RX4 73 16777216 ∈ gw := gw_at (k := 147) (by decide +kernel) rfl
theorem ct_X4_74 : Cond.constant RX4 74 33551369 ∈ gw := gw_at (k := 148) (by decide +kernel) rfl
theorem ml_L_18 : Cond.methodLink RL 18 yX5_repair ∈ gw := gw_at (k := 149) (by decide +kernel) rfl
theorem im_X5_repair : Cond.instanceMethod yX5_repair ∈ gw := gw_at (k := 150) (by decide +kernel) rfl
theorem se_X5_repair : Cond.selects RX5 yX5_repair yX5_repair ∈ gw := gw_at (k := 151) (by decide +kernel) rfl
theorem co_X5_repair : Cond.code yX5_repair cX5_repair 5 (some .int) ∈ gw := gw_at (k := 152) (by decide +kernel) rfl
theorem ml_X5_44 : Cond.methodLink RX5 44 yX4_wrongBit ∈ gw := gw_at (k := 153) (by decide +kernel) rfl
theorem im_X4_wrongBit : Cond.instanceMethod yX4_wrongBit ∈ gw := gw_at (k := 154) (by decide +kernel) rfl
theorem se_X4_wrongBit : Cond.selects RX4 yX4_wrongBit yX4_wrongBit ∈ gw := gw_at (k := 155) (by decide +kernel) rfl
theorem co_X4_wrongBit : Cond.code yX4_wrongBit cX4_wrongBit 4 (some .int) ∈ gw := gw_at (k := 156) (by decide +kernel) rfl
theorem ml_X4_43 : Cond.methodLink RX4 43 yX4_remainder ∈ gw := gw_at (k := 157) (by decide +kernel) rfl
theorem ml_X4_46 : Cond.methodLink RX4 46 yX4_isSound ∈ gw := gw_at (k := 158) (by decide +kernel) rfl
theorem im_X4_isSound : Cond.instanceMethod yX4_isSound ∈ gw := gw_at (k := 160) (by decide +kernel) rfl
theorem co_X4_isSound : Cond.code yX4_isSound cX4_isSound 2 (some .boolean) ∈ gw := gw_at (k := 161) (by decide +kernel) rfl
theorem ct_X4_72 : Cond.constant RX4 72 393216 ∈ gw := gw_at (k := 162) (by decide +kernel) rfl
theorem ml_X4_58 : Cond.methodLink RX4 58 yX4_isOf ∈ gw := gw_at (k := 163) (by decide +kernel) rfl
theorem im_X4_isOf : Cond.instanceMethod yX4_isOf ∈ gw := gw_at (k := 164) (by decide +kernel) rfl
theorem se_X4_isOf : Cond.selects RX4 yX4_isOf yX4_isOf ∈ gw := gw_at (k := 165) (by decide +kernel) rfl
theorem co_X4_isOf : Cond.code yX4_isOf cX4_isOf 2 (some .boolean) ∈ gw := gw_at (k := 166) (by decide +kernel) rfl
theorem ml_L_22 : Cond.methodLink RL 22 yX5_seal ∈ gw := gw_at (k := 167) (by decide +kernel) rfl
theorem im_X5_seal : Cond.instanceMethod yX5_seal ∈ gw := gw_at (k := 168) (by decide +kernel) rfl
theorem se_X5_seal : Cond.selects RX5 yX5_seal yX5_seal ∈ gw := gw_at (k := 169) (by decide +kernel) rfl
theorem co_X5_seal : Cond.code yX5_seal cX5_seal 5 (some .int) ∈ gw := gw_at (k := 170) (by decide +kernel) rfl
theorem ml_X5_47 : Cond.methodLink RX5 47 yX4_parity ∈ gw := gw_at (k := 171) (by decide +kernel) rfl
theorem im_X4_parity : Cond.instanceMethod yX4_parity ∈ gw := gw_at (k := 172) (by decide +kernel) rfl
theorem se_X4_parity : Cond.selects RX4 yX4_parity yX4_parity ∈ gw := gw_at (k := 173) (by decide +kernel) rfl
theorem co_X4_parity : Cond.code yX4_parity cX4_parity 1 (some .int) ∈ gw := gw_at (k := 174) (by decide +kernel) rfl
theorem ml_X4_36 : Cond.methodLink RX4 36 yX4_number ∈ gw := gw_at (k := 175) (by decide +kernel) rfl
theorem im_X4_number : Cond.instanceMethod yX4_number ∈ gw := gw_at (k := 176) (by decide +kernel) rfl
theorem se_X4_number : Cond.selects RX4 yX4_number yX4_number ∈ gw := gw_at (k := 177) (by decide +kernel) rfl
theorem co_X4_number : Cond.code yX4_number cX4_number 5 (some .int) ∈ gw := gw_at (k := 178) (by decide +kernel) rfl
theorem ml_L_26 : Cond.methodLink RL 26 yX5_place ∈ gw := gw_at (k := 179) (by decide +kernel) rfl
theorem im_X5_place : Cond.instanceMethod yX5_place ∈ gw := gw_at (k := 180) (by decide +kernel) rfl
theorem se_X5_place : Cond.selects RX5 yX5_place yX5_place ∈ gw := gw_at (k := 181) (by decide +kernel) rfl
theorem co_X5_place : Cond.code yX5_place cX5_place 3 (some .boolean) ∈ gw := gw_at (k := 182) (by decide +kernel) rfl
theorem ml_X5_50 : Cond.methodLink RX5 50 yX2_isPlace ∈ gw := gw_at (k := 183) (by decide +kernel) rfl
theorem st_X2_isPlace : Cond.static yX2_isPlace ∈ gw := gw_at (k := 184) (by decide +kernel) rfl
theorem co_X2_isPlace : Cond.code yX2_isPlace cX2_isPlace 2 (some .boolean) ∈ gw := gw_at (k := 185) (by decide +kernel) rfl
theorem ct_X2_11 : Cond.constantLong RX2 11 (-90000000) ∈ gw := gw_at (k := 186) (by decide +kernel) rfl
theorem ct_X2_13 : Cond.constantLong RX2 13 90000000 ∈ gw := gw_at (k := 187) (by decide +kernel) rfl
theorem ct_X2_15 : Cond.constantLong RX2 15 (-180000000) ∈ gw := gw_at (k := 188) (by decide +kernel) rfl
theorem ct_X2_17 : Cond.constantLong RX2 17 180000000 ∈ gw := gw_at (k := 189) (by decide +kernel) rfl
theorem ml_X5_56 : Cond.methodLink RX5 56 yX2_pack ∈ gw := gw_at (k := 190) (by decide +kernel) rfl
theorem st_X2_pack : Cond.static yX2_pack ∈ gw := gw_at (k := 191) (by decide +kernel) rfl
theorem co_X2_pack : Cond.code yX2_pack cX2_pack 4 (some .long) ∈ gw := gw_at (k := 192) (by decide +kernel) rfl
theorem ct_X2_21 : Cond.constantLong RX2 21 4294967295 ∈ gw := gw_at (k := 193) (by decide +kernel) rfl
theorem ml_L_31 : Cond.methodLink RL 31 yX5_hear ∈ gw := gw_at (k := 194) (by decide +kernel) rfl
theorem im_X5_hear : Cond.instanceMethod yX5_hear ∈ gw := gw_at (k := 195) (by decide +kernel) rfl
theorem se_X5_hear : Cond.selects RX5 yX5_hear yX5_hear ∈ gw := gw_at (k := 196) (by decide +kernel) rfl
theorem co_X5_hear : Cond.code yX5_hear cX5_hear 8 (some .int) ∈ gw := gw_at (k := 197) (by decide +kernel) rfl
theorem ct_X5_60 : Cond.constant RX5 60 1000000000 ∈ gw := gw_at (k := 198) (by decide +kernel) rfl
theorem ml_X5_61 : Cond.methodLink RX5 61 yX0_forgetSilent ∈ gw := gw_at (k := 199) (by decide +kernel) rfl
theorem im_X0_forgetSilent : Cond.instanceMethod yX0_forgetSilent ∈ gw := gw_at (k := 200) (by decide +kernel) rfl
theorem se_X0_forgetSilent : Cond.selects RX0 yX0_forgetSilent yX0_forgetSilent ∈ gw := gw_at (k := 201) (by decide +kernel) rfl
theorem co_X0_forgetSilent : Cond.code yX0_forgetSilent cX0_forgetSilent 5 none ∈ gw := gw_at (k := 202) (by decide +kernel) rfl
theorem ml_X0_22 : Cond.methodLink RX0 22 yX3_value ∈ gw := gw_at (k := 203) (by decide +kernel) rfl
theorem im_X3_value : Cond.instanceMethod yX3_value ∈ gw := gw_at (k := 204) (by decide +kernel) rfl
theorem se_X3_value : Cond.selects RX3 yX3_value yX3_value ∈ gw := gw_at (k := 205) (by decide +kernel) rfl
theorem co_X3_value : Cond.code yX3_value cX3_value 2 (some .int) ∈ gw := gw_at (k := 206) (by decide +kernel) rfl
theorem ct_X5_65 : Cond.constant RX5 65 3606577 ∈ gw := gw_at (k := 207) (by decide +kernel) rfl
theorem ml_X5_66 : Cond.methodLink RX5 66 yX4_isOf ∈ gw := gw_at (k := 208) (by decide +kernel) rfl
theorem ml_X5_70 : Cond.methodLink RX5 70 yX4_putRight ∈ gw := gw_at (k := 209) (by decide +kernel) rfl
theorem im_X4_putRight : Cond.instanceMethod yX4_putRight ∈ gw := gw_at (k := 210) (by decide +kernel) rfl
theorem se_X4_putRight : Cond.selects RX4 yX4_putRight yX4_putRight ∈ gw := gw_at (k := 211) (by decide +kernel) rfl
theorem co_X4_putRight : Cond.code yX4_putRight cX4_putRight 2 (some .boolean) ∈ gw := gw_at (k := 212) (by decide +kernel) rfl
theorem ml_X4_50 : Cond.methodLink RX4 50 yX4_wrongBit ∈ gw := gw_at (k := 213) (by decide +kernel) rfl
theorem ml_X4_53 : Cond.methodLink RX4 53 yX4_turn ∈ gw := gw_at (k := 214) (by decide +kernel) rfl
theorem im_X4_turn : Cond.instanceMethod yX4_turn ∈ gw := gw_at (k := 216) (by decide +kernel) rfl
theorem co_X4_turn : Cond.code yX4_turn cX4_turn 3 none ∈ gw := gw_at (k := 217) (by decide +kernel) rfl
theorem ml_X5_74 : Cond.methodLink RX5 74 yX4_address ∈ gw := gw_at (k := 218) (by decide +kernel) rfl
theorem im_X4_address : Cond.instanceMethod yX4_address ∈ gw := gw_at (k := 219) (by decide +kernel) rfl
theorem se_X4_address : Cond.selects RX4 yX4_address yX4_address ∈ gw := gw_at (k := 220) (by decide +kernel) rfl
theorem co_X4_address : Cond.code yX4_address cX4_address 1 (some .int) ∈ gw := gw_at (k := 221) (by decide +kernel) rfl
theorem ct_X4_57 : Cond.constant RX4 57 395264 ∈ gw := gw_at (k := 222) (by decide +kernel) rfl
theorem ml_X5_77 : Cond.methodLink RX5 77 yX0_indexOf ∈ gw := gw_at (k := 223) (by decide +kernel) rfl
theorem im_X0_indexOf : Cond.instanceMethod yX0_indexOf ∈ gw := gw_at (k := 224) (by decide +kernel) rfl
theorem se_X0_indexOf : Cond.selects RX0 yX0_indexOf yX0_indexOf ∈ gw := gw_at (k := 225) (by decide +kernel) rfl
theorem co_X0_indexOf : Cond.code yX0_indexOf cX0_indexOf 3 (some .int) ∈ gw := gw_at (k := 226) (by decide +kernel) rfl
theorem ml_X5_81 : Cond.methodLink RX5 81 yX0_at ∈ gw := gw_at (k := 227) (by decide +kernel) rfl
theorem im_X0_at : Cond.instanceMethod yX0_at ∈ gw := gw_at (k := 228) (by decide +kernel) rfl
theorem se_X0_at : Cond.selects RX0 yX0_at yX0_at ∈ gw := gw_at (k := 229) (by decide +kernel) rfl
theorem co_X0_at : Cond.code yX0_at cX0_at 2 (some (.object "SquitterDesk$Craft")) ∈ gw := gw_at (k := 230) (by decide +kernel) rfl
theorem ct_X5_85 : Cond.constant RX5 85 395264 ∈ gw := gw_at (k := 231) (by decide +kernel) rfl
theorem ml_X5_86 : Cond.methodLink RX5 86 yX0_open ∈ gw := gw_at (k := 232) (by decide +kernel) rfl
theorem im_X0_open : Cond.instanceMethod yX0_open ∈ gw := gw_at (k := 233) (by decide +kernel) rfl
theorem se_X0_open : Cond.selects RX0 yX0_open yX0_open ∈ gw := gw_at (k := 234) (by decide +kernel) rfl
theorem co_X0_open : Cond.code yX0_open cX0_open 3 (some (.object "SquitterDesk$Craft")) ∈ gw := gw_at (k := 235) (by decide +kernel) rfl
theorem ml_X0_26 : Cond.methodLink RX0 26 yX3_begin ∈ gw := gw_at (k := 236) (by decide +kernel) rfl
theorem im_X3_begin : Cond.instanceMethod yX3_begin ∈ gw := gw_at (k := 237) (by decide +kernel) rfl
theorem se_X3_begin : Cond.selects RX3 yX3_begin yX3_begin ∈ gw := gw_at (k := 238) (by decide +kernel) rfl
theorem co_X3_begin : Cond.code yX3_begin cX3_begin 2 none ∈ gw := gw_at (k := 239) (by decide +kernel) rfl
theorem ct_X3_25 : Cond.constant RX3 25 (-2147483648) ∈ gw := gw_at (k := 240) (by decide +kernel) rfl
theorem ml_X3_26 : Cond.methodLink RX3 26 yJ7_fill_53178 ∈ gw := gw_at (k := 241) (by decide +kernel) rfl
theorem st_J7_fill_53178 : Cond.static yJ7_fill_53178 ∈ gw := gw_at (k := 242) (by decide +kernel) rfl
theorem co_J7_fill_53178 : Cond.code yJ7_fill_53178 cJ7_fill_53178 4 none ∈ gw := gw_at (k := 243) (by decide +kernel) rfl
theorem ct_X3_32 : Cond.constantLong RX3 32 (-1) ∈ gw := gw_at (k := 244) (by decide +kernel) rfl
theorem ml_X3_34 : Cond.methodLink RX3 34 yJ7_fill_d0a16 ∈ gw := gw_at (k := 245) (by decide +kernel) rfl
theorem st_J7_fill_d0a16 : Cond.static yJ7_fill_d0a16 ∈ gw := gw_at (k := 246) (by decide +kernel) rfl
theorem co_J7_fill_d0a16 : Cond.code yJ7_fill_d0a16 cJ7_fill_d0a16 5 none ∈ gw := gw_at (k := 247) (by decide +kernel) rfl
theorem ml_X5_89 : Cond.methodLink RX5 89 yX4_copy ∈ gw := gw_at (k := 248) (by decide +kernel) rfl
theorem im_X4_copy : Cond.instanceMethod yX4_copy ∈ gw := gw_at (k := 249) (by decide +kernel) rfl
theorem se_X4_copy : Cond.selects RX4 yX4_copy yX4_copy ∈ gw := gw_at (k := 250) (by decide +kernel) rfl
theorem co_X4_copy : Cond.code yX4_copy cX4_copy 2 none ∈ gw := gw_at (k := 251) (by decide +kernel) rfl
theorem ml_X4_26 : Cond.methodLink RX4 26 arraycopyName ∈ gw := gw_at (k := 252) (by decide +kernel) rfl
theorem st_arraycopyName : Cond.static arraycopyName ∈ gw := gw_at (k := 253) (by decide +kernel) rfl
theorem na_arraycopyName : Cond.native arraycopyName ∈ gw := gw_at (k := 254) (by decide +kernel) rfl
theorem ml_X5_93 : Cond.methodLink RX5 93 yX3_countFrame ∈ gw := gw_at (k := 255) (by decide +kernel) rfl
theorem im_X3_countFrame : Cond.instanceMethod yX3_countFrame ∈ gw := gw_at (k := 256) (by decide +kernel) rfl
theorem se_X3_countFrame : Cond.selects RX3 yX3_countFrame yX3_countFrame ∈ gw := gw_at (k := 257) (by decide +kernel) rfl
theorem co_X3_countFrame : Cond.code yX3_countFrame cX3_countFrame 3 none ∈ gw := gw_at (k := 258) (by decide +kernel) rfl
theorem ml_X3_37 : Cond.methodLink RX3 37 yX4_turnedBit ∈ gw := gw_at (k := 259) (by decide +kernel) rfl
theorem im_X4_turnedBit : Cond.instanceMethod yX4_turnedBit ∈ gw := gw_at (k := 260) (by decide +kernel) rfl
theorem se_X4_turnedBit : Cond.selects RX4 yX4_turnedBit yX4_turnedBit ∈ gw := gw_at (k := 261) (by decide +kernel) rfl
theorem co_X4_turnedBit : Cond.code yX4_turnedBit cX4_turnedBit 1 (some .int) ∈ gw := gw_at (k := 262) (by decide +kernel) rfl
theorem ml_X5_99 : Cond.methodLink RX5 99 yX3_learnReply ∈ gw := gw_at (k := 263) (by decide +kernel) rfl
theorem im_X3_learnReply : Cond.instanceMethod yX3_learnReply ∈ gw := gw_at (k := 264) (by decide +kernel) rfl
theorem se_X3_learnReply : Cond.selects RX3 yX3_learnReply yX3_learnReply ∈ gw := gw_at (k := 265) (by decide +kernel) rfl
theorem co_X3_learnReply : Cond.code yX3_learnReply cX3_learnReply 2 none ∈ gw := gw_at (k := 266) (by decide +kernel) rfl
theorem ct_X3_43 : Cond.constant RX3 43 1114129 ∈ gw := gw_at (k := 267) (by decide +kernel) rfl
theorem ml_X3_44 : Cond.methodLink RX3 44 yX4_isOf ∈ gw := gw_at (k := 268) (by decide +kernel) rfl
theorem ml_X3_48 : Cond.methodLink RX3 48 yX4_number ∈ gw := gw_at (k := 269) (by decide +kernel) rfl
theorem ml_X3_52 : Cond.methodLink RX3 52 yX1_altitude ∈ gw := gw_at (k := 270) (by decide +kernel) rfl
theorem st_X1_altitude : Cond.static yX1_altitude ∈ gw := gw_at (k := 271) (by decide +kernel) rfl
theorem co_X1_altitude : Cond.code yX1_altitude cX1_altitude 1 (some .int) ∈ gw := gw_at (k := 272) (by decide +kernel) rfl
theorem ct_X1_11 : Cond.constant RX1 11 (-2147483648) ∈ gw := gw_at (k := 273) (by decide +kernel) rfl
theorem ml_X1_12 : Cond.methodLink RX1 12 yX1_altitudeOfGray ∈ gw := gw_at (k := 274) (by decide +kernel) rfl
theorem st_X1_altitudeOfGray : Cond.static yX1_altitudeOfGray ∈ gw := gw_at (k := 275) (by decide +kernel) rfl
theorem co_X1_altitudeOfGray : Cond.code yX1_altitudeOfGray cX1_altitudeOfGray 4 (some .int) ∈ gw := gw_at (k := 276) (by decide +kernel) rfl
theorem ml_X1_16 : Cond.methodLink RX1 16 yX1_three ∈ gw := gw_at (k := 277) (by decide +kernel) rfl
theorem st_X1_three : Cond.static yX1_three ∈ gw := gw_at (k := 278) (by decide +kernel) rfl
theorem co_X1_three : Cond.code yX1_three cX1_three 4 (some .int) ∈ gw := gw_at (k := 279) (by decide +kernel) rfl
theorem ml_X1_20 : Cond.methodLink RX1 20 yX1_ofGray ∈ gw := gw_at (k := 280) (by decide +kernel) rfl
theorem st_X1_ofGray : Cond.static yX1_ofGray ∈ gw := gw_at (k := 281) (by decide +kernel) rfl
theorem co_X1_ofGray : Cond.code yX1_ofGray cX1_ofGray 2 (some .int) ∈ gw := gw_at (k := 282) (by decide +kernel) rfl
theorem ct_X3_58 : Cond.constant RX3 58 2097184 ∈ gw := gw_at (k := 283) (by decide +kernel) rfl
theorem ml_X3_59 : Cond.methodLink RX3 59 yX1_squawk ∈ gw := gw_at (k := 284) (by decide +kernel) rfl
theorem st_X1_squawk : Cond.static yX1_squawk ∈ gw := gw_at (k := 285) (by decide +kernel) rfl
theorem co_X1_squawk : Cond.code yX1_squawk cX1_squawk 5 (some .int) ∈ gw := gw_at (k := 286) (by decide +kernel) rfl
theorem ml_X5_102 : Cond.methodLink RX5 102 yX3_learnMessage ∈ gw := gw_at (k := 287) (by decide +kernel) rfl
theorem im_X3_learnMessage : Cond.instanceMethod yX3_learnMessage ∈ gw := gw_at (k := 288) (by decide +kernel) rfl
theorem se_X3_learnMessage : Cond.selects RX3 yX3_learnMessage yX3_learnMessage ∈ gw := gw_at (k := 289) (by decide +kernel) rfl
theorem co_X3_learnMessage : Cond.code yX3_learnMessage cX3_learnMessage 7 none ∈ gw := gw_at (k := 290) (by decide +kernel) rfl
theorem ct_X3_62 : Cond.constant RX3 62 393216 ∈ gw := gw_at (k := 291) (by decide +kernel) rfl
theorem ml_X3_63 : Cond.methodLink RX3 63 yX4_message ∈ gw := gw_at (k := 292) (by decide +kernel) rfl
theorem im_X4_message : Cond.instanceMethod yX4_message ∈ gw := gw_at (k := 293) (by decide +kernel) rfl
theorem se_X4_message : Cond.selects RX4 yX4_message yX4_message ∈ gw := gw_at (k := 294) (by decide +kernel) rfl
theorem co_X4_message : Cond.code yX4_message cX4_message 3 (some .int) ∈ gw := gw_at (k := 295) (by decide +kernel) rfl
theorem ml_X3_66 : Cond.methodLink RX3 66 yX3_learnName ∈ gw := gw_at (k := 296) (by decide +kernel) rfl
theorem im_X3_learnName : Cond.instanceMethod yX3_learnName ∈ gw := gw_at (k := 298) (by decide +kernel) rfl
theorem co_X3_learnName : Cond.code yX3_learnName cX3_learnName 4 none ∈ gw := gw_at (k := 299) (by decide +kernel) rfl
theorem ml_X3_81 : Cond.methodLink RX3 81 yX1_letter ∈ gw := gw_at (k := 300) (by decide +kernel) rfl
theorem st_X1_letter : Cond.static yX1_letter ∈ gw := gw_at (k := 301) (by decide +kernel) rfl
theorem co_X1_letter : Cond.code yX1_letter cX1_letter 2 (some .int) ∈ gw := gw_at (k := 302) (by decide +kernel) rfl
theorem ml_X3_70 : Cond.methodLink RX3 70 yX3_learnOnGround ∈ gw := gw_at (k := 303) (by decide +kernel) rfl
theorem im_X3_learnOnGround : Cond.instanceMethod yX3_learnOnGround ∈ gw := gw_at (k := 305) (by decide +kernel) rfl
theorem co_X3_learnOnGround : Cond.code yX3_learnOnGround cX3_learnOnGround 7 none ∈ gw := gw_at (k := 306) (by decide +kernel) rfl
theorem ml_X3_84 : Cond.methodLink RX3 84 yX1_groundSpeed ∈ gw := gw_at (k := 307) (by decide +kernel) rfl
theorem st_X1_groundSpeed : Cond.static yX1_groundSpeed ∈ gw := gw_at (k := 308) (by decide +kernel) rfl
theorem co_X1_groundSpeed : Cond.code yX1_groundSpeed cX1_groundSpeed 1 (some .int) ∈ gw := gw_at (k := 309) (by decide +kernel) rfl
theorem ct_X3_87 : Cond.constant RX3 87 360000 ∈ gw := gw_at (k := 310) (by decide +kernel) rfl
theorem ml_X3_88 : Cond.methodLink RX3 88 yX3_hasFreshPlace ∈ gw := gw_at (k := 311) (by decide +kernel) rfl
theorem im_X3_hasFreshPlace : Cond.instanceMethod yX3_hasFreshPlace ∈ gw := gw_at (k := 313) (by decide +kernel) rfl
theorem co_X3_hasFreshPlace : Cond.code yX3_hasFreshPlace cX3_hasFreshPlace 2 (some .boolean) ∈ gw := gw_at (k := 314) (by decide +kernel) rfl
theorem ml_X3_91 : Cond.methodLink RX3 91 yX3_lastPlace ∈ gw := gw_at (k := 315) (by decide +kernel) rfl
theorem im_X3_lastPlace : Cond.instanceMethod yX3_lastPlace ∈ gw := gw_at (k := 317) (by decide +kernel) rfl
theorem co_X3_lastPlace : Cond.code yX3_lastPlace cX3_lastPlace 1 (some .long) ∈ gw := gw_at (k := 318) (by decide +kernel) rfl
theorem ml_X3_129 : Cond.methodLink RX3 129 yX2_pack ∈ gw := gw_at (k := 319) (by decide +kernel) rfl
theorem ct_X3_95 : Cond.constantLong RX3 95 (-9223372036854775808) ∈ gw := gw_at (k := 320) (by decide +kernel) rfl
theorem ml_X3_97 : Cond.methodLink RX3 97 yX3_codeIn ∈ gw := gw_at (k := 321) (by decide +kernel) rfl
theorem st_X3_codeIn : Cond.static yX3_codeIn ∈ gw := gw_at (k := 322) (by decide +kernel) rfl
theorem co_X3_codeIn : Cond.code yX3_codeIn cX3_codeIn 1 (some .long) ∈ gw := gw_at (k := 323) (by decide +kernel) rfl
theorem ct_X3_140 : Cond.constantLong RX3 140 131072 ∈ gw := gw_at (k := 324) (by decide +kernel) rfl
theorem ml_X3_101 : Cond.methodLink RX3 101 yX3_isOdd ∈ gw := gw_at (k := 325) (by decide +kernel) rfl
theorem st_X3_isOdd : Cond.static yX3_isOdd ∈ gw := gw_at (k := 326) (by decide +kernel) rfl
theorem co_X3_isOdd : Cond.code yX3_isOdd cX3_isOdd 1 (some .boolean) ∈ gw := gw_at (k := 327) (by decide +kernel) rfl
theorem ml_X3_105 : Cond.methodLink RX3 105 yX2_placeNear ∈ gw := gw_at (k := 328) (by decide +kernel) rfl
theorem st_X2_placeNear : Cond.static yX2_placeNear ∈ gw := gw_at (k := 329) (by decide +kernel) rfl
theorem co_X2_placeNear : Cond.code yX2_placeNear cX2_placeNear 16 (some .long) ∈ gw := gw_at (k := 330) (by decide +kernel) rfl
theorem ml_X2_35 : Cond.methodLink RX2 35 yX2_turnOf ∈ gw := gw_at (k := 331) (by decide +kernel) rfl
theorem st_X2_turnOf : Cond.static yX2_turnOf ∈ gw := gw_at (k := 332) (by decide +kernel) rfl
theorem co_X2_turnOf : Cond.code yX2_turnOf cX2_turnOf 1 (some .long) ∈ gw := gw_at (k := 333) (by decide +kernel) rfl
theorem ct_X2_75 : Cond.constantLong RX2 75 360000000 ∈ gw := gw_at (k := 334) (by decide +kernel) rfl
theorem ml_X2_39 : Cond.methodLink RX2 39 yX2_bandsOf ∈ gw := gw_at (k := 335) (by decide +kernel) rfl
theorem st_X2_bandsOf : Cond.static yX2_bandsOf ∈ gw := gw_at (k := 336) (by decide +kernel) rfl
theorem co_X2_bandsOf : Cond.code yX2_bandsOf cX2_bandsOf 1 (some .long) ∈ gw := gw_at (k := 337) (by decide +kernel) rfl
theorem ct_X2_60 : Cond.constantLong RX2 60 59 ∈ gw := gw_at (k := 338) (by decide +kernel) rfl
theorem ct_X2_65 : Cond.constantLong RX2 65 60 ∈ gw := gw_at (k := 339) (by decide +kernel) rfl
theorem ml_X2_93 : Cond.methodLink RX2 93 yX2_latitudeOf ∈ gw := gw_at (k := 340) (by decide +kernel) rfl
theorem st_X2_latitudeOf : Cond.static yX2_latitudeOf ∈ gw := gw_at (k := 341) (by decide +kernel) rfl
theorem co_X2_latitudeOf : Cond.code yX2_latitudeOf cX2_latitudeOf 2 (some .int) ∈ gw := gw_at (k := 342) (by decide +kernel) rfl
theorem ml_X2_62 : Cond.methodLink RX2 62 yX2_yOf ∈ gw := gw_at (k := 343) (by decide +kernel) rfl
theorem st_X2_yOf : Cond.static yX2_yOf ∈ gw := gw_at (k := 344) (by decide +kernel) rfl
theorem co_X2_yOf : Cond.code yX2_yOf cX2_yOf 2 (some .long) ∈ gw := gw_at (k := 345) (by decide +kernel) rfl
theorem ct_X2_54 : Cond.constantLong RX2 54 131072 ∈ gw := gw_at (k := 346) (by decide +kernel) rfl
theorem ml_X2_97 : Cond.methodLink RX2 97 yX2_stepNear ∈ gw := gw_at (k := 347) (by decide +kernel) rfl
theorem st_X2_stepNear : Cond.static yX2_stepNear ∈ gw := gw_at (k := 348) (by decide +kernel) rfl
theorem co_X2_stepNear : Cond.code yX2_stepNear cX2_stepNear 10 (some .long) ∈ gw := gw_at (k := 349) (by decide +kernel) rfl
theorem ct_X2_67 : Cond.constantLong RX2 67 65536 ∈ gw := gw_at (k := 350) (by decide +kernel) rfl
theorem ml_X2_104 : Cond.methodLink RX2 104 yX2_quotient ∈ gw := gw_at (k := 351) (by decide +kernel) rfl
theorem st_X2_quotient : Cond.static yX2_quotient ∈ gw := gw_at (k := 352) (by decide +kernel) rfl
theorem co_X2_quotient : Cond.code yX2_quotient cX2_quotient 4 (some .long) ∈ gw := gw_at (k := 353) (by decide +kernel) rfl
theorem ml_X2_69 : Cond.methodLink RX2 69 yJ9_floorDiv_f86c9 ∈ gw := gw_at (k := 354) (by decide +kernel) rfl
theorem st_J9_floorDiv_f86c9 : Cond.static yJ9_floorDiv_f86c9 ∈ gw := gw_at (k := 355) (by decide +kernel) rfl
theorem co_J9_floorDiv_f86c9 : Cond.code yJ9_floorDiv_f86c9 cJ9_floorDiv_f86c9 6 (some .long) ∈ gw := gw_at (k := 356) (by decide +kernel) rfl
theorem ml_X2_77 : Cond.methodLink RX2 77 yX2_isBeyondPole ∈ gw := gw_at (k := 357) (by decide +kernel) rfl
theorem st_X2_isBeyondPole : Cond.static yX2_isBeyondPole ∈ gw := gw_at (k := 358) (by decide +kernel) rfl
theorem co_X2_isBeyondPole : Cond.code yX2_isBeyondPole cX2_isBeyondPole 6 (some .boolean) ∈ gw := gw_at (k := 359) (by decide +kernel) rfl
theorem ml_X2_23 : Cond.methodLink RX2 23 yJ9_abs_067f4 ∈ gw := gw_at (k := 360) (by decide +kernel) rfl
theorem st_J9_abs_067f4 : Cond.static yJ9_abs_067f4 ∈ gw := gw_at (k := 361) (by decide +kernel) rfl
theorem co_J9_abs_067f4 : Cond.code yJ9_abs_067f4 cJ9_abs_067f4 2 (some .long) ∈ gw := gw_at (k := 362) (by decide +kernel) rfl
theorem ct_X2_81 : Cond.constantLong RX2 81 (-9223372036854775808) ∈ gw := gw_at (k := 363) (by decide +kernel) rfl
theorem ml_X2_46 : Cond.methodLink RX2 46 yX2_zoneCountAt ∈ gw := gw_at (k := 364) (by decide +kernel) rfl
theorem st_X2_zoneCountAt : Cond.static yX2_zoneCountAt ∈ gw := gw_at (k := 365) (by decide +kernel) rfl
theorem co_X2_zoneCountAt : Cond.code yX2_zoneCountAt cX2_zoneCountAt 6 (some .int) ∈ gw := gw_at (k := 366) (by decide +kernel) rfl
theorem ct_X2_120 : Cond.constantLong RX2 120 100 ∈ gw := gw_at (k := 367) (by decide +kernel) rfl
theorem ml_X2_122 : Cond.methodLink RX2 122 yX2_zoneCount ∈ gw := gw_at (k := 368) (by decide +kernel) rfl
theorem st_X2_zoneCount : Cond.static yX2_zoneCount ∈ gw := gw_at (k := 369) (by decide +kernel) rfl
theorem co_X2_zoneCount : Cond.code yX2_zoneCount cX2_zoneCount 7 (some .int) ∈ gw := gw_at (k := 370) (by decide +kernel) rfl
theorem fl_X2_29 : Cond.fieldLink RX2 29 "SquitterDesk$Compact" "BOUNDS" "[J" ∈ gw := gw_at (k := 371) (by decide +kernel) rfl
theorem ct_X2_33 : Cond.constantLong RX2 33 8700000000 ∈ gw := gw_at (k := 373) (by decide +kernel) rfl
theorem ml_X2_50 : Cond.methodLink RX2 50 yX2_zonesOf ∈ gw := gw_at (k := 374) (by decide +kernel) rfl
theorem st_X2_zonesOf : Cond.static yX2_zonesOf ∈ gw := gw_at (k := 375) (by decide +kernel) rfl
theorem co_X2_zonesOf : Cond.code yX2_zonesOf cX2_zonesOf 2 (some .long) ∈ gw := gw_at (k := 376) (by decide +kernel) rfl
theorem ml_X2_110 : Cond.methodLink RX2 110 yJ9_max_7cf53 ∈ gw := gw_at (k := 377) (by decide +kernel) rfl
theorem st_J9_max_7cf53 : Cond.static yJ9_max_7cf53 ∈ gw := gw_at (k := 378) (by decide +kernel) rfl
theorem co_J9_max_7cf53 : Cond.code yJ9_max_7cf53 cJ9_max_7cf53 2 (some .int) ∈ gw := gw_at (k := 379) (by decide +kernel) rfl
theorem ml_X2_101 : Cond.methodLink RX2 101 yX2_longitudeOf ∈ gw := gw_at (k := 380) (by decide +kernel) rfl
theorem st_X2_longitudeOf : Cond.static yX2_longitudeOf ∈ gw := gw_at (k := 381) (by decide +kernel) rfl
theorem co_X2_longitudeOf : Cond.code yX2_longitudeOf cX2_longitudeOf 2 (some .int) ∈ gw := gw_at (k := 382) (by decide +kernel) rfl
theorem ml_X2_83 : Cond.methodLink RX2 83 yX2_xOf ∈ gw := gw_at (k := 383) (by decide +kernel) rfl
theorem st_X2_xOf : Cond.static yX2_xOf ∈ gw := gw_at (k := 384) (by decide +kernel) rfl
theorem co_X2_xOf : Cond.code yX2_xOf cX2_xOf 2 (some .long) ∈ gw := gw_at (k := 385) (by decide +kernel) rfl
theorem ml_X2_89 : Cond.methodLink RX2 89 yX2_placeAt ∈ gw := gw_at (k := 386) (by decide +kernel) rfl
theorem st_X2_placeAt : Cond.static yX2_placeAt ∈ gw := gw_at (k := 387) (by decide +kernel) rfl
theorem co_X2_placeAt : Cond.code yX2_placeAt cX2_placeAt 14 (some .long) ∈ gw := gw_at (k := 388) (by decide +kernel) rfl
theorem ml_X2_107 : Cond.methodLink RX2 107 yX2_pack ∈ gw := gw_at (k := 389) (by decide +kernel) rfl
theorem ml_X3_111 : Cond.methodLink RX3 111 yX3_keepPlace ∈ gw := gw_at (k := 390) (by decide +kernel) rfl
theorem im_X3_keepPlace : Cond.instanceMethod yX3_keepPlace ∈ gw := gw_at (k := 392) (by decide +kernel) rfl
theorem co_X3_keepPlace : Cond.code yX3_keepPlace cX3_keepPlace 4 none ∈ gw := gw_at (k := 393) (by decide +kernel) rfl
theorem ml_X3_133 : Cond.methodLink RX3 133 yX2_latitudeOf ∈ gw := gw_at (k := 394) (by decide +kernel) rfl
theorem ml_X3_137 : Cond.methodLink RX3 137 yX2_longitudeOf ∈ gw := gw_at (k := 395) (by decide +kernel) rfl
theorem ml_X3_74 : Cond.methodLink RX3 74 yX3_learnMotion ∈ gw := gw_at (k := 396) (by decide +kernel) rfl
theorem im_X3_learnMotion : Cond.instanceMethod yX3_learnMotion ∈ gw := gw_at (k := 398) (by decide +kernel) rfl
theorem co_X3_learnMotion : Cond.code yX3_learnMotion cX3_learnMotion 6 none ∈ gw := gw_at (k := 399) (by decide +kernel) rfl
theorem ml_X3_122 : Cond.methodLink RX3 122 yX1_lessOne ∈ gw := gw_at (k := 400) (by decide +kernel) rfl
theorem st_X1_lessOne : Cond.static yX1_lessOne ∈ gw := gw_at (k := 401) (by decide +kernel) rfl
theorem co_X1_lessOne : Cond.code yX1_lessOne cX1_lessOne 3 (some .int) ∈ gw := gw_at (k := 402) (by decide +kernel) rfl
theorem ml_X3_126 : Cond.methodLink RX3 126 yX1_speedOf ∈ gw := gw_at (k := 403) (by decide +kernel) rfl
theorem st_X1_speedOf : Cond.static yX1_speedOf ∈ gw := gw_at (k := 404) (by decide +kernel) rfl
theorem co_X1_speedOf : Cond.code yX1_speedOf cX1_speedOf 2 (some .int) ∈ gw := gw_at (k := 405) (by decide +kernel) rfl
theorem ct_X1_23 : Cond.constantLong RX1 23 64 ∈ gw := gw_at (k := 406) (by decide +kernel) rfl
theorem ml_X1_25 : Cond.methodLink RX1 25 yX1_root ∈ gw := gw_at (k := 407) (by decide +kernel) rfl
theorem st_X1_root : Cond.static yX1_root ∈ gw := gw_at (k := 408) (by decide +kernel) rfl
theorem co_X1_root : Cond.code yX1_root cX1_root 7 (some .int) ∈ gw := gw_at (k := 409) (by decide +kernel) rfl
theorem ml_X3_77 : Cond.methodLink RX3 77 yX3_learnInAir ∈ gw := gw_at (k := 410) (by decide +kernel) rfl
theorem im_X3_learnInAir : Cond.instanceMethod yX3_learnInAir ∈ gw := gw_at (k := 412) (by decide +kernel) rfl
theorem co_X3_learnInAir : Cond.code yX3_learnInAir cX3_learnInAir 9 none ∈ gw := gw_at (k := 413) (by decide +kernel) rfl
theorem ml_X3_115 : Cond.methodLink RX3 115 yX1_withM ∈ gw := gw_at (k := 414) (by decide +kernel) rfl
theorem st_X1_withM : Cond.static yX1_withM ∈ gw := gw_at (k := 415) (by decide +kernel) rfl
theorem co_X1_withM : Cond.code yX1_withM cX1_withM 1 (some .int) ∈ gw := gw_at (k := 416) (by decide +kernel) rfl
theorem ml_X3_118 : Cond.methodLink RX3 118 yX2_placeOfPair ∈ gw := gw_at (k := 417) (by decide +kernel) rfl
theorem st_X2_placeOfPair : Cond.static yX2_placeOfPair ∈ gw := gw_at (k := 418) (by decide +kernel) rfl
theorem co_X2_placeOfPair : Cond.code yX2_placeOfPair cX2_placeOfPair 18 (some .long) ∈ gw := gw_at (k := 419) (by decide +kernel) rfl
theorem ml_X2_72 : Cond.methodLink RX2 72 yX2_stepInBand ∈ gw := gw_at (k := 420) (by decide +kernel) rfl
theorem st_X2_stepInBand : Cond.static yX2_stepInBand ∈ gw := gw_at (k := 421) (by decide +kernel) rfl
theorem co_X2_stepInBand : Cond.code yX2_stepInBand cX2_stepInBand 8 (some .long) ∈ gw := gw_at (k := 422) (by decide +kernel) rfl
theorem ml_X2_86 : Cond.methodLink RX2 86 yX2_remainder ∈ gw := gw_at (k := 423) (by decide +kernel) rfl
theorem st_X2_remainder : Cond.static yX2_remainder ∈ gw := gw_at (k := 424) (by decide +kernel) rfl
theorem co_X2_remainder : Cond.code yX2_remainder cX2_remainder 4 (some .long) ∈ gw := gw_at (k := 425) (by decide +kernel) rfl
theorem ml_X2_56 : Cond.methodLink RX2 56 yJ9_floorMod_f86c9 ∈ gw := gw_at (k := 426) (by decide +kernel) rfl
theorem st_J9_floorMod_f86c9 : Cond.static yJ9_floorMod_f86c9 ∈ gw := gw_at (k := 427) (by decide +kernel) rfl
theorem co_J9_floorMod_f86c9 : Cond.code yJ9_floorMod_f86c9 cJ9_floorMod_f86c9 6 (some .long) ∈ gw := gw_at (k := 428) (by decide +kernel) rfl
theorem ct_X2_116 : Cond.constantLong RX2 116 4 ∈ gw := gw_at (k := 429) (by decide +kernel) rfl
theorem ct_X2_118 : Cond.constantLong RX2 118 3 ∈ gw := gw_at (k := 430) (by decide +kernel) rfl
theorem ml_X5_106 : Cond.methodLink RX5 106 yX4_turnedBit ∈ gw := gw_at (k := 431) (by decide +kernel) rfl
theorem ml_L_36 : Cond.methodLink RL 36 yX5_field ∈ gw := gw_at (k := 432) (by decide +kernel) rfl
theorem im_X5_field : Cond.instanceMethod yX5_field ∈ gw := gw_at (k := 433) (by decide +kernel) rfl
theorem se_X5_field : Cond.selects RX5 yX5_field yX5_field ∈ gw := gw_at (k := 434) (by decide +kernel) rfl
theorem co_X5_field : Cond.code yX5_field cX5_field 2 (some .int) ∈ gw := gw_at (k := 435) (by decide +kernel) rfl
theorem ml_X5_109 : Cond.methodLink RX5 109 yX4_told ∈ gw := gw_at (k := 436) (by decide +kernel) rfl
theorem im_X4_told : Cond.instanceMethod yX4_told ∈ gw := gw_at (k := 437) (by decide +kernel) rfl
theorem se_X4_told : Cond.selects RX4 yX4_told yX4_told ∈ gw := gw_at (k := 438) (by decide +kernel) rfl
theorem co_X4_told : Cond.code yX4_told cX4_told 2 (some .int) ∈ gw := gw_at (k := 439) (by decide +kernel) rfl
theorem ml_X4_61 : Cond.methodLink RX4 61 yX4_part ∈ gw := gw_at (k := 440) (by decide +kernel) rfl
theorem im_X4_part : Cond.instanceMethod yX4_part ∈ gw := gw_at (k := 442) (by decide +kernel) rfl
theorem co_X4_part : Cond.code yX4_part cX4_part 4 (some .int) ∈ gw := gw_at (k := 443) (by decide +kernel) rfl
theorem ct_X4_65 : Cond.constant RX4 65 3145776 ∈ gw := gw_at (k := 444) (by decide +kernel) rfl
theorem ct_X4_66 : Cond.constant RX4 66 65537 ∈ gw := gw_at (k := 445) (by decide +kernel) rfl
theorem ct_X4_67 : Cond.constant RX4 67 1114129 ∈ gw := gw_at (k := 446) (by decide +kernel) rfl
theorem ct_X4_68 : Cond.constant RX4 68 2097184 ∈ gw := gw_at (k := 447) (by decide +kernel) rfl
theorem ml_X4_69 : Cond.methodLink RX4 69 yX4_address ∈ gw := gw_at (k := 448) (by decide +kernel) rfl
theorem ml_L_41 : Cond.methodLink RL 41 yX5_bits ∈ gw := gw_at (k := 449) (by decide +kernel) rfl
theorem im_X5_bits : Cond.instanceMethod yX5_bits ∈ gw := gw_at (k := 450) (by decide +kernel) rfl
theorem se_X5_bits : Cond.selects RX5 yX5_bits yX5_bits ∈ gw := gw_at (k := 451) (by decide +kernel) rfl
theorem co_X5_bits : Cond.code yX5_bits cX5_bits 3 (some .int) ∈ gw := gw_at (k := 452) (by decide +kernel) rfl
theorem ml_X5_112 : Cond.methodLink RX5 112 yX4_number ∈ gw := gw_at (k := 453) (by decide +kernel) rfl
theorem ml_L_46 : Cond.methodLink RL 46 yX5_crafts ∈ gw := gw_at (k := 454) (by decide +kernel) rfl
theorem im_X5_crafts : Cond.instanceMethod yX5_crafts ∈ gw := gw_at (k := 455) (by decide +kernel) rfl
theorem se_X5_crafts : Cond.selects RX5 yX5_crafts yX5_crafts ∈ gw := gw_at (k := 456) (by decide +kernel) rfl
theorem co_X5_crafts : Cond.code yX5_crafts cX5_crafts 1 (some .int) ∈ gw := gw_at (k := 457) (by decide +kernel) rfl
theorem ml_X5_116 : Cond.methodLink RX5 116 yX0_size ∈ gw := gw_at (k := 458) (by decide +kernel) rfl
theorem im_X0_size : Cond.instanceMethod yX0_size ∈ gw := gw_at (k := 459) (by decide +kernel) rfl
theorem se_X0_size : Cond.selects RX0 yX0_size yX0_size ∈ gw := gw_at (k := 460) (by decide +kernel) rfl
theorem co_X0_size : Cond.code yX0_size cX0_size 1 (some .int) ∈ gw := gw_at (k := 461) (by decide +kernel) rfl
theorem ml_L_51 : Cond.methodLink RL 51 yX5_find ∈ gw := gw_at (k := 462) (by decide +kernel) rfl
theorem im_X5_find : Cond.instanceMethod yX5_find ∈ gw := gw_at (k := 463) (by decide +kernel) rfl
theorem se_X5_find : Cond.selects RX5 yX5_find yX5_find ∈ gw := gw_at (k := 464) (by decide +kernel) rfl
theorem co_X5_find : Cond.code yX5_find cX5_find 2 (some .int) ∈ gw := gw_at (k := 465) (by decide +kernel) rfl
theorem ml_L_55 : Cond.methodLink RL 55 yX5_craft ∈ gw := gw_at (k := 466) (by decide +kernel) rfl
theorem im_X5_craft : Cond.instanceMethod yX5_craft ∈ gw := gw_at (k := 467) (by decide +kernel) rfl
theorem se_X5_craft : Cond.selects RX5 yX5_craft yX5_craft ∈ gw := gw_at (k := 468) (by decide +kernel) rfl
theorem co_X5_craft : Cond.code yX5_craft cX5_craft 4 (some .int) ∈ gw := gw_at (k := 469) (by decide +kernel) rfl
theorem ml_X5_119 : Cond.methodLink RX5 119 yX3_value ∈ gw := gw_at (k := 470) (by decide +kernel) rfl
theorem ml_L_59 : Cond.methodLink RL 59 yX5_sign ∈ gw := gw_at (k := 471) (by decide +kernel) rfl
theorem im_X5_sign : Cond.instanceMethod yX5_sign ∈ gw := gw_at (k := 472) (by decide +kernel) rfl
theorem se_X5_sign : Cond.selects RX5 yX5_sign yX5_sign ∈ gw := gw_at (k := 473) (by decide +kernel) rfl
theorem co_X5_sign : Cond.code yX5_sign cX5_sign 4 (some .int) ∈ gw := gw_at (k := 474) (by decide +kernel) rfl
theorem ml_X5_122 : Cond.methodLink RX5 122 yX3_letter ∈ gw := gw_at (k := 475) (by decide +kernel) rfl
theorem im_X3_letter : Cond.instanceMethod yX3_letter ∈ gw := gw_at (k := 476) (by decide +kernel) rfl
theorem se_X3_letter : Cond.selects RX3 yX3_letter yX3_letter ∈ gw := gw_at (k := 477) (by decide +kernel) rfl
theorem co_X3_letter : Cond.code yX3_letter cX3_letter 2 (some .int) ∈ gw := gw_at (k := 478) (by decide +kernel) rfl
theorem ml_L_63 : Cond.methodLink RL 63 yX5_zones ∈ gw := gw_at (k := 479) (by decide +kernel) rfl
theorem im_X5_zones : Cond.instanceMethod yX5_zones ∈ gw := gw_at (k := 480) (by decide +kernel) rfl
theorem se_X5_zones : Cond.selects RX5 yX5_zones yX5_zones ∈ gw := gw_at (k := 481) (by decide +kernel) rfl
theorem co_X5_zones : Cond.code yX5_zones cX5_zones 2 (some .int) ∈ gw := gw_at (k := 482) (by decide +kernel) rfl
theorem ct_X5_125 : Cond.constantLong RX5 125 100 ∈ gw := gw_at (k := 483) (by decide +kernel) rfl
theorem ml_X5_127 : Cond.methodLink RX5 127 yX2_zoneCount ∈ gw := gw_at (k := 484) (by decide +kernel) rfl
theorem ml_L_67 : Cond.methodLink RL 67 yX5_encode ∈ gw := gw_at (k := 485) (by decide +kernel) rfl
theorem im_X5_encode : Cond.instanceMethod yX5_encode ∈ gw := gw_at (k := 486) (by decide +kernel) rfl
theorem se_X5_encode : Cond.selects RX5 yX5_encode yX5_encode ∈ gw := gw_at (k := 487) (by decide +kernel) rfl
theorem co_X5_encode : Cond.code yX5_encode cX5_encode 5 (some .long) ∈ gw := gw_at (k := 488) (by decide +kernel) rfl
theorem ct_X5_131 : Cond.constantLong RX5 131 (-1) ∈ gw := gw_at (k := 489) (by decide +kernel) rfl
theorem ml_X5_133 : Cond.methodLink RX5 133 yX2_code ∈ gw := gw_at (k := 490) (by decide +kernel) rfl
theorem st_X2_code : Cond.static yX2_code ∈ gw := gw_at (k := 491) (by decide +kernel) rfl
theorem co_X2_code : Cond.code yX2_code cX2_code 14 (some .long) ∈ gw := gw_at (k := 492) (by decide +kernel) rfl
theorem ml_X2_42 : Cond.methodLink RX2 42 yX2_nearestStep ∈ gw := gw_at (k := 493) (by decide +kernel) rfl
theorem st_X2_nearestStep : Cond.static yX2_nearestStep ∈ gw := gw_at (k := 494) (by decide +kernel) rfl
theorem co_X2_nearestStep : Cond.code yX2_nearestStep cX2_nearestStep 6 (some .long) ∈ gw := gw_at (k := 495) (by decide +kernel) rfl
theorem ct_X2_114 : Cond.constantLong RX2 114 2 ∈ gw := gw_at (k := 496) (by decide +kernel) rfl
theorem ml_L_74 : Cond.methodLink RL 74 yX5_global ∈ gw := gw_at (k := 497) (by decide +kernel) rfl
theorem im_X5_global : Cond.instanceMethod yX5_global ∈ gw := gw_at (k := 498) (by decide +kernel) rfl
theorem se_X5_global : Cond.selects RX5 yX5_global yX5_global ∈ gw := gw_at (k := 499) (by decide +kernel) rfl
theorem co_X5_global : Cond.code yX5_global cX5_global 6 (some .long) ∈ gw := gw_at (k := 500) (by decide +kernel) rfl
theorem ml_X5_137 : Cond.methodLink RX5 137 yX2_isCode ∈ gw := gw_at (k := 501) (by decide +kernel) rfl
theorem st_X2_isCode : Cond.static yX2_isCode ∈ gw := gw_at (k := 502) (by decide +kernel) rfl
theorem co_X2_isCode : Cond.code yX2_isCode cX2_isCode 2 (some .boolean) ∈ gw := gw_at (k := 503) (by decide +kernel) rfl
theorem ct_X2_19 : Cond.constantLong RX2 19 17179869184 ∈ gw := gw_at (k := 504) (by decide +kernel) rfl
theorem ml_X5_141 : Cond.methodLink RX5 141 yX2_placeOfPair ∈ gw := gw_at (k := 505) (by decide +kernel) rfl
theorem ml_L_79 : Cond.methodLink RL 79 yX5_local ∈ gw := gw_at (k := 506) (by decide +kernel) rfl
theorem im_X5_local : Cond.instanceMethod yX5_local ∈ gw := gw_at (k := 507) (by decide +kernel) rfl
theorem se_X5_local : Cond.selects RX5 yX5_local yX5_local ∈ gw := gw_at (k := 508) (by decide +kernel) rfl
theorem co_X5_local : Cond.code yX5_local cX5_local 7 (some .long) ∈ gw := gw_at (k := 509) (by decide +kernel) rfl
theorem ml_X5_145 : Cond.methodLink RX5 145 yX2_placeNear ∈ gw := gw_at (k := 510) (by decide +kernel) rfl
theorem cl_L_10 : Cond.classLink RL 10 RX6 ∈ gw := gw_at (k := 511) (by decide +kernel) rfl
theorem it_X6 : Cond.instantiable RX6 15 ∈ gw := gw_at (k := 512) (by decide +kernel) rfl
theorem ml_L_12 : Cond.methodLink RL 12 yX6_init ∈ gw := gw_at (k := 513) (by decide +kernel) rfl
theorem im_X6_init : Cond.instanceMethod yX6_init ∈ gw := gw_at (k := 514) (by decide +kernel) rfl
theorem co_X6_init : Cond.code yX6_init cX6_init 1 none ∈ gw := gw_at (k := 515) (by decide +kernel) rfl
theorem ml_X6_1 : Cond.methodLink RX6 1 objectInit ∈ gw := gw_at (k := 516) (by decide +kernel) rfl
theorem ct_X6_7 : Cond.constantLong RX6 7 1047047130 ∈ gw := gw_at (k := 517) (by decide +kernel) rfl
theorem ct_X6_9 : Cond.constantLong RX6 9 1482817437 ∈ gw := gw_at (k := 518) (by decide +kernel) rfl
theorem ct_X6_11 : Cond.constantLong RX6 11 1818626357 ∈ gw := gw_at (k := 519) (by decide +kernel) rfl
theorem ct_X6_13 : Cond.constantLong RX6 13 2102939493 ∈ gw := gw_at (k := 520) (by decide +kernel) rfl
theorem ct_X6_15 : Cond.constantLong RX6 15 2354504487 ∈ gw := gw_at (k := 521) (by decide +kernel) rfl
theorem ct_X6_17 : Cond.constantLong RX6 17 2582924707 ∈ gw := gw_at (k := 522) (by decide +kernel) rfl
theorem ct_X6_19 : Cond.constantLong RX6 19 2793898710 ∈ gw := gw_at (k := 523) (by decide +kernel) rfl
theorem ct_X6_21 : Cond.constantLong RX6 21 2991135686 ∈ gw := gw_at (k := 524) (by decide +kernel) rfl
theorem ct_X6_23 : Cond.constantLong RX6 23 3177209708 ∈ gw := gw_at (k := 525) (by decide +kernel) rfl
theorem ct_X6_25 : Cond.constantLong RX6 25 3353993436 ∈ gw := gw_at (k := 526) (by decide +kernel) rfl
theorem ct_X6_27 : Cond.constantLong RX6 27 3522899598 ∈ gw := gw_at (k := 527) (by decide +kernel) rfl
theorem ct_X6_29 : Cond.constantLong RX6 29 3685025108 ∈ gw := gw_at (k := 528) (by decide +kernel) rfl
theorem ct_X6_31 : Cond.constantLong RX6 31 3841241892 ∈ gw := gw_at (k := 529) (by decide +kernel) rfl
theorem ct_X6_33 : Cond.constantLong RX6 33 3992256684 ∈ gw := gw_at (k := 530) (by decide +kernel) rfl
theorem ct_X6_35 : Cond.constantLong RX6 35 4138651832 ∈ gw := gw_at (k := 531) (by decide +kernel) rfl
theorem ct_X6_37 : Cond.constantLong RX6 37 4280914012 ∈ gw := gw_at (k := 532) (by decide +kernel) rfl
theorem ct_X6_39 : Cond.constantLong RX6 39 4419454951 ∈ gw := gw_at (k := 533) (by decide +kernel) rfl
theorem ct_X6_41 : Cond.constantLong RX6 41 4554626723 ∈ gw := gw_at (k := 534) (by decide +kernel) rfl
theorem ct_X6_43 : Cond.constantLong RX6 43 4686733252 ∈ gw := gw_at (k := 535) (by decide +kernel) rfl
theorem ct_X6_45 : Cond.constantLong RX6 45 4816039128 ∈ gw := gw_at (k := 536) (by decide +kernel) rfl
theorem ct_X6_47 : Cond.constantLong RX6 47 4942776439 ∈ gw := gw_at (k := 537) (by decide +kernel) rfl
theorem ct_X6_49 : Cond.constantLong RX6 49 5067150166 ∈ gw := gw_at (k := 538) (by decide +kernel) rfl
theorem ct_X6_51 : Cond.constantLong RX6 51 5189342469 ∈ gw := gw_at (k := 539) (by decide +kernel) rfl
theorem ct_X6_53 : Cond.constantLong RX6 53 5309516153 ∈ gw := gw_at (k := 540) (by decide +kernel) rfl
theorem ct_X6_55 : Cond.constantLong RX6 55 5427817472 ∈ gw := gw_at (k := 541) (by decide +kernel) rfl
theorem ct_X6_57 : Cond.constantLong RX6 57 5544378444 ∈ gw := gw_at (k := 542) (by decide +kernel) rfl
theorem ct_X6_59 : Cond.constantLong RX6 59 5659318756 ∈ gw := gw_at (k := 543) (by decide +kernel) rfl
theorem ct_X6_61 : Cond.constantLong RX6 61 5772747354 ∈ gw := gw_at (k := 544) (by decide +kernel) rfl
theorem ct_X6_63 : Cond.constantLong RX6 63 5884763776 ∈ gw := gw_at (k := 545) (by decide +kernel) rfl
theorem ct_X6_65 : Cond.constantLong RX6 65 5995459277 ∈ gw := gw_at (k := 546) (by decide +kernel) rfl
theorem ct_X6_67 : Cond.constantLong RX6 67 6104917774 ∈ gw := gw_at (k := 547) (by decide +kernel) rfl
theorem ct_X6_69 : Cond.constantLong RX6 69 6213216659 ∈ gw := gw_at (k := 548) (by decide +kernel) rfl
theorem ct_X6_71 : Cond.constantLong RX6 71 6320427479 ∈ gw := gw_at (k := 549) (by decide +kernel) rfl
theorem ct_X6_73 : Cond.constantLong RX6 73 6426616523 ∈ gw := gw_at (k := 550) (by decide +kernel) rfl
theorem ct_X6_75 : Cond.constantLong RX6 75 6531845310 ∈ gw := gw_at (k := 551) (by decide +kernel) rfl
theorem ct_X6_77 : Cond.constantLong RX6 77 6636171008 ∈ gw := gw_at (k := 552) (by decide +kernel) rfl
theorem ct_X6_79 : Cond.constantLong RX6 79 6739646774 ∈ gw := gw_at (k := 553) (by decide +kernel) rfl
theorem ct_X6_81 : Cond.constantLong RX6 81 6842322022 ∈ gw := gw_at (k := 554) (by decide +kernel) rfl
theorem ct_X6_83 : Cond.constantLong RX6 83 6944242631 ∈ gw := gw_at (k := 555) (by decide +kernel) rfl
theorem ct_X6_85 : Cond.constantLong RX6 85 7045451075 ∈ gw := gw_at (k := 556) (by decide +kernel) rfl
theorem ct_X6_87 : Cond.constantLong RX6 87 7145986473 ∈ gw := gw_at (k := 557) (by decide +kernel) rfl
theorem ct_X6_89 : Cond.constantLong RX6 89 7245884545 ∈ gw := gw_at (k := 558) (by decide +kernel) rfl
theorem ct_X6_91 : Cond.constantLong RX6 91 7345177442 ∈ gw := gw_at (k := 559) (by decide +kernel) rfl
theorem ct_X6_93 : Cond.constantLong RX6 93 7443893416 ∈ gw := gw_at (k := 560) (by decide +kernel) rfl
theorem ct_X6_95 : Cond.constantLong RX6 95 7542056257 ∈ gw := gw_at (k := 561) (by decide +kernel) rfl
theorem ct_X6_97 : Cond.constantLong RX6 97 7639684391 ∈ gw := gw_at (k := 562) (by decide +kernel) rfl
theorem ct_X6_99 : Cond.constantLong RX6 99 7736789461 ∈ gw := gw_at (k := 563) (by decide +kernel) rfl
theorem ct_X6_101 : Cond.constantLong RX6 101 7833374083 ∈ gw := gw_at (k := 564) (by decide +kernel) rfl
theorem ct_X6_103 : Cond.constantLong RX6 103 7929428225 ∈ gw := gw_at (k := 565) (by decide +kernel) rfl
theorem ct_X6_105 : Cond.constantLong RX6 105 8024923213 ∈ gw := gw_at (k := 566) (by decide +kernel) rfl
theorem ct_X6_107 : Cond.constantLong RX6 107 8119801349 ∈ gw := gw_at (k := 567) (by decide +kernel) rfl
theorem ct_X6_109 : Cond.constantLong RX6 109 8213956981 ∈ gw := gw_at (k := 568) (by decide +kernel) rfl
theorem ct_X6_111 : Cond.constantLong RX6 111 8307199445 ∈ gw := gw_at (k := 569) (by decide +kernel) rfl
theorem ct_X6_113 : Cond.constantLong RX6 113 8399173563 ∈ gw := gw_at (k := 570) (by decide +kernel) rfl
theorem ct_X6_115 : Cond.constantLong RX6 115 8489166191 ∈ gw := gw_at (k := 571) (by decide +kernel) rfl
theorem ct_X6_117 : Cond.constantLong RX6 117 8575541621 ∈ gw := gw_at (k := 572) (by decide +kernel) rfl
theorem ct_X6_119 : Cond.constantLong RX6 119 8653536998 ∈ gw := gw_at (k := 573) (by decide +kernel) rfl
theorem ct_X6_121 : Cond.constantLong RX6 121 8700000000 ∈ gw := gw_at (k := 574) (by decide +kernel) rfl
theorem fl_X6_123 : Cond.fieldLink RX6 123 "SquitterDeskModel" "bounds" "[J" ∈ gw := gw_at (k := 575) (by decide +kernel) rfl
theorem fl_X6_129 : Cond.fieldLink RX6 129 "SquitterDeskModel" "rows" "[I" ∈ gw := gw_at (k := 576) (by decide +kernel) rfl
theorem fl_X6_281 : Cond.fieldLink RX6 281 "SquitterDeskModel" "many" "I" ∈ gw := gw_at (k := 577) (by decide +kernel) rfl
theorem fl_X6_287 : Cond.fieldLink RX6 287 "SquitterDeskModel" "latest" "I" ∈ gw := gw_at (k := 578) (by decide +kernel) rfl
theorem fl_X6_133 : Cond.fieldLink RX6 133 "SquitterDeskModel" "bit" "[I" ∈ gw := gw_at (k := 579) (by decide +kernel) rfl
theorem fl_X6_143 : Cond.fieldLink RX6 143 "SquitterDeskModel" "size" "I" ∈ gw := gw_at (k := 580) (by decide +kernel) rfl
theorem fl_X6_136 : Cond.fieldLink RX6 136 "SquitterDeskModel" "heard" "[I" ∈ gw := gw_at (k := 581) (by decide +kernel) rfl
theorem fl_X6_304 : Cond.fieldLink RX6 304 "SquitterDeskModel" "heardSize" "I" ∈ gw := gw_at (k := 582) (by decide +kernel) rfl
theorem fl_X6_307 : Cond.fieldLink RX6 307 "SquitterDeskModel" "heardSyndrome" "I" ∈ gw := gw_at (k := 583) (by decide +kernel) rfl
theorem fl_X6_139 : Cond.fieldLink RX6 139 "SquitterDeskModel" "heardRight" "I" ∈ gw := gw_at (k := 584) (by decide +kernel) rfl
theorem fl_X6_271 : Cond.fieldLink RX6 271 "SquitterDeskModel" "hasPlace" "Z" ∈ gw := gw_at (k := 585) (by decide +kernel) rfl
theorem fl_X6_275 : Cond.fieldLink RX6 275 "SquitterDeskModel" "ownLatitude" "I" ∈ gw := gw_at (k := 586) (by decide +kernel) rfl
theorem fl_X6_278 : Cond.fieldLink RX6 278 "SquitterDeskModel" "ownLongitude" "I" ∈ gw := gw_at (k := 587) (by decide +kernel) rfl
theorem fl_X6_243 : Cond.fieldLink RX6 243 "SquitterDeskModel" "latitude" "I" ∈ gw := gw_at (k := 588) (by decide +kernel) rfl
theorem fl_X6_246 : Cond.fieldLink RX6 246 "SquitterDeskModel" "longitude" "I" ∈ gw := gw_at (k := 589) (by decide +kernel) rfl
theorem ml_L_17 : Cond.methodLink RL 17 yX6_syndrome ∈ gw := gw_at (k := 621) (by decide +kernel) rfl
theorem im_X6_syndrome : Cond.instanceMethod yX6_syndrome ∈ gw := gw_at (k := 622) (by decide +kernel) rfl
theorem se_X6_syndrome : Cond.selects RX6 yX6_syndrome yX6_syndrome ∈ gw := gw_at (k := 623) (by decide +kernel) rfl
theorem co_X6_syndrome : Cond.code yX6_syndrome cX6_syndrome 5 (some .int) ∈ gw := gw_at (k := 624) (by decide +kernel) rfl
theorem ml_X6_148 : Cond.methodLink RX6 148 yX6_frame ∈ gw := gw_at (k := 625) (by decide +kernel) rfl
theorem im_X6_frame : Cond.instanceMethod yX6_frame ∈ gw := gw_at (k := 627) (by decide +kernel) rfl
theorem co_X6_frame : Cond.code yX6_frame cX6_frame 7 none ∈ gw := gw_at (k := 628) (by decide +kernel) rfl
theorem ml_X6_152 : Cond.methodLink RX6 152 yX6_remainder ∈ gw := gw_at (k := 629) (by decide +kernel) rfl
theorem im_X6_remainder : Cond.instanceMethod yX6_remainder ∈ gw := gw_at (k := 631) (by decide +kernel) rfl
theorem co_X6_remainder : Cond.code yX6_remainder cX6_remainder 3 (some .int) ∈ gw := gw_at (k := 632) (by decide +kernel) rfl
theorem ct_X6_146 : Cond.constant RX6 146 16777216 ∈ gw := gw_at (k := 633) (by decide +kernel) rfl
theorem ct_X6_147 : Cond.constant RX6 147 33551369 ∈ gw := gw_at (k := 634) (by decide +kernel) rfl
theorem ml_L_25 : Cond.methodLink RL 25 yX6_seal ∈ gw := gw_at (k := 635) (by decide +kernel) rfl
theorem im_X6_seal : Cond.instanceMethod yX6_seal ∈ gw := gw_at (k := 636) (by decide +kernel) rfl
theorem se_X6_seal : Cond.selects RX6 yX6_seal yX6_seal ∈ gw := gw_at (k := 637) (by decide +kernel) rfl
theorem co_X6_seal : Cond.code yX6_seal cX6_seal 6 (some .int) ∈ gw := gw_at (k := 638) (by decide +kernel) rfl
theorem ml_L_21 : Cond.methodLink RL 21 yX6_repair ∈ gw := gw_at (k := 639) (by decide +kernel) rfl
theorem im_X6_repair : Cond.instanceMethod yX6_repair ∈ gw := gw_at (k := 640) (by decide +kernel) rfl
theorem se_X6_repair : Cond.selects RX6 yX6_repair yX6_repair ∈ gw := gw_at (k := 641) (by decide +kernel) rfl
theorem co_X6_repair : Cond.code yX6_repair cX6_repair 5 (some .int) ∈ gw := gw_at (k := 642) (by decide +kernel) rfl
theorem ml_X6_156 : Cond.methodLink RX6 156 yX6_number ∈ gw := gw_at (k := 643) (by decide +kernel) rfl
theorem im_X6_number : Cond.instanceMethod yX6_number ∈ gw := gw_at (k := 645) (by decide +kernel) rfl
theorem co_X6_number : Cond.code yX6_number cX6_number 6 (some .int) ∈ gw := gw_at (k := 646) (by decide +kernel) rfl
theorem ml_X6_160 : Cond.methodLink RX6 160 yX6_isWrong ∈ gw := gw_at (k := 647) (by decide +kernel) rfl
theorem im_X6_isWrong : Cond.instanceMethod yX6_isWrong ∈ gw := gw_at (k := 649) (by decide +kernel) rfl
theorem co_X6_isWrong : Cond.code yX6_isWrong cX6_isWrong 3 (some .boolean) ∈ gw := gw_at (k := 650) (by decide +kernel) rfl
theorem ml_X6_164 : Cond.methodLink RX6 164 yX6_toTurn ∈ gw := gw_at (k := 651) (by decide +kernel) rfl
theorem im_X6_toTurn : Cond.instanceMethod yX6_toTurn ∈ gw := gw_at (k := 653) (by decide +kernel) rfl
theorem co_X6_toTurn : Cond.code yX6_toTurn cX6_toTurn 3 (some .int) ∈ gw := gw_at (k := 654) (by decide +kernel) rfl
theorem ml_L_66 : Cond.methodLink RL 66 yX6_zones ∈ gw := gw_at (k := 655) (by decide +kernel) rfl
theorem im_X6_zones : Cond.instanceMethod yX6_zones ∈ gw := gw_at (k := 656) (by decide +kernel) rfl
theorem se_X6_zones : Cond.selects RX6 yX6_zones yX6_zones ∈ gw := gw_at (k := 657) (by decide +kernel) rfl
theorem co_X6_zones : Cond.code yX6_zones cX6_zones 2 (some .int) ∈ gw := gw_at (k := 658) (by decide +kernel) rfl
theorem ml_X6_188 : Cond.methodLink RX6 188 yX6_isLatitude ∈ gw := gw_at (k := 659) (by decide +kernel) rfl
theorem st_X6_isLatitude : Cond.static yX6_isLatitude ∈ gw := gw_at (k := 660) (by decide +kernel) rfl
theorem co_X6_isLatitude : Cond.code yX6_isLatitude cX6_isLatitude 1 (some .boolean) ∈ gw := gw_at (k := 661) (by decide +kernel) rfl
theorem ct_X6_184 : Cond.constant RX6 184 (-90000000) ∈ gw := gw_at (k := 662) (by decide +kernel) rfl
theorem ct_X6_185 : Cond.constant RX6 185 90000000 ∈ gw := gw_at (k := 663) (by decide +kernel) rfl
theorem ct_X6_192 : Cond.constantLong RX6 192 100 ∈ gw := gw_at (k := 664) (by decide +kernel) rfl
theorem ml_X6_194 : Cond.methodLink RX6 194 yX6_zonesOf ∈ gw := gw_at (k := 665) (by decide +kernel) rfl
theorem im_X6_zonesOf : Cond.instanceMethod yX6_zonesOf ∈ gw := gw_at (k := 667) (by decide +kernel) rfl
theorem co_X6_zonesOf : Cond.code yX6_zonesOf cX6_zonesOf 10 (some .int) ∈ gw := gw_at (k := 668) (by decide +kernel) rfl
theorem ml_X6_180 : Cond.methodLink RX6 180 yX6_sizeOf ∈ gw := gw_at (k := 669) (by decide +kernel) rfl
theorem st_X6_sizeOf : Cond.static yX6_sizeOf ∈ gw := gw_at (k := 670) (by decide +kernel) rfl
theorem co_X6_sizeOf : Cond.code yX6_sizeOf cX6_sizeOf 2 (some .long) ∈ gw := gw_at (k := 671) (by decide +kernel) rfl
theorem ml_L_71 : Cond.methodLink RL 71 yX6_encode ∈ gw := gw_at (k := 672) (by decide +kernel) rfl
theorem im_X6_encode : Cond.instanceMethod yX6_encode ∈ gw := gw_at (k := 673) (by decide +kernel) rfl
theorem se_X6_encode : Cond.selects RX6 yX6_encode yX6_encode ∈ gw := gw_at (k := 674) (by decide +kernel) rfl
theorem co_X6_encode : Cond.code yX6_encode cX6_encode 17 (some .long) ∈ gw := gw_at (k := 675) (by decide +kernel) rfl
theorem ml_X6_205 : Cond.methodLink RX6 205 yX6_isLongitude ∈ gw := gw_at (k := 676) (by decide +kernel) rfl
theorem st_X6_isLongitude : Cond.static yX6_isLongitude ∈ gw := gw_at (k := 677) (by decide +kernel) rfl
theorem co_X6_isLongitude : Cond.code yX6_isLongitude cX6_isLongitude 1 (some .boolean) ∈ gw := gw_at (k := 678) (by decide +kernel) rfl
theorem ct_X6_186 : Cond.constant RX6 186 (-180000000) ∈ gw := gw_at (k := 679) (by decide +kernel) rfl
theorem ct_X6_187 : Cond.constant RX6 187 180000000 ∈ gw := gw_at (k := 680) (by decide +kernel) rfl
theorem ct_X6_208 : Cond.constantLong RX6 208 (-1) ∈ gw := gw_at (k := 681) (by decide +kernel) rfl
theorem ct_X6_210 : Cond.constantLong RX6 210 90000000 ∈ gw := gw_at (k := 682) (by decide +kernel) rfl
theorem ct_X6_212 : Cond.constantLong RX6 212 360000000 ∈ gw := gw_at (k := 683) (by decide +kernel) rfl
theorem ml_X6_202 : Cond.methodLink RX6 202 yX6_down ∈ gw := gw_at (k := 684) (by decide +kernel) rfl
theorem st_X6_down : Cond.static yX6_down ∈ gw := gw_at (k := 685) (by decide +kernel) rfl
theorem co_X6_down : Cond.code yX6_down cX6_down 4 (some .long) ∈ gw := gw_at (k := 686) (by decide +kernel) rfl
theorem ml_X6_176 : Cond.methodLink RX6 176 yX6_rest ∈ gw := gw_at (k := 687) (by decide +kernel) rfl
theorem st_X6_rest : Cond.static yX6_rest ∈ gw := gw_at (k := 688) (by decide +kernel) rfl
theorem co_X6_rest : Cond.code yX6_rest cX6_rest 6 (some .long) ∈ gw := gw_at (k := 689) (by decide +kernel) rfl
theorem ml_X6_214 : Cond.methodLink RX6 214 yX6_parts ∈ gw := gw_at (k := 690) (by decide +kernel) rfl
theorem st_X6_parts : Cond.static yX6_parts ∈ gw := gw_at (k := 691) (by decide +kernel) rfl
theorem co_X6_parts : Cond.code yX6_parts cX6_parts 4 (some .long) ∈ gw := gw_at (k := 692) (by decide +kernel) rfl
theorem ct_X6_198 : Cond.constantLong RX6 198 2 ∈ gw := gw_at (k := 693) (by decide +kernel) rfl
theorem ct_X6_200 : Cond.constantLong RX6 200 131072 ∈ gw := gw_at (k := 694) (by decide +kernel) rfl
theorem ml_X6_217 : Cond.methodLink RX6 217 yX6_atLeast1 ∈ gw := gw_at (k := 695) (by decide +kernel) rfl
theorem st_X6_atLeast1 : Cond.static yX6_atLeast1 ∈ gw := gw_at (k := 696) (by decide +kernel) rfl
theorem co_X6_atLeast1 : Cond.code yX6_atLeast1 cX6_atLeast1 1 (some .int) ∈ gw := gw_at (k := 697) (by decide +kernel) rfl
theorem ml_L_78 : Cond.methodLink RL 78 yX6_global ∈ gw := gw_at (k := 698) (by decide +kernel) rfl
theorem im_X6_global : Cond.instanceMethod yX6_global ∈ gw := gw_at (k := 699) (by decide +kernel) rfl
theorem se_X6_global : Cond.selects RX6 yX6_global yX6_global ∈ gw := gw_at (k := 700) (by decide +kernel) rfl
theorem co_X6_global : Cond.code yX6_global cX6_global 6 (some .long) ∈ gw := gw_at (k := 701) (by decide +kernel) rfl
theorem ml_X6_249 : Cond.methodLink RX6 249 yX6_isTold ∈ gw := gw_at (k := 702) (by decide +kernel) rfl
theorem im_X6_isTold : Cond.instanceMethod yX6_isTold ∈ gw := gw_at (k := 704) (by decide +kernel) rfl
theorem co_X6_isTold : Cond.code yX6_isTold cX6_isTold 3 (some .boolean) ∈ gw := gw_at (k := 705) (by decide +kernel) rfl
theorem ct_X6_221 : Cond.constantLong RX6 221 17179869184 ∈ gw := gw_at (k := 706) (by decide +kernel) rfl
theorem ml_X6_253 : Cond.methodLink RX6 253 yX6_globalOf ∈ gw := gw_at (k := 707) (by decide +kernel) rfl
theorem im_X6_globalOf : Cond.instanceMethod yX6_globalOf ∈ gw := gw_at (k := 709) (by decide +kernel) rfl
theorem co_X6_globalOf : Cond.code yX6_globalOf cX6_globalOf 26 (some .boolean) ∈ gw := gw_at (k := 710) (by decide +kernel) rfl
theorem ct_X6_225 : Cond.constantLong RX6 225 59 ∈ gw := gw_at (k := 711) (by decide +kernel) rfl
theorem ct_X6_227 : Cond.constantLong RX6 227 60 ∈ gw := gw_at (k := 712) (by decide +kernel) rfl
theorem ct_X6_229 : Cond.constantLong RX6 229 262144 ∈ gw := gw_at (k := 713) (by decide +kernel) rfl
theorem ct_X6_231 : Cond.constantLong RX6 231 4 ∈ gw := gw_at (k := 714) (by decide +kernel) rfl
theorem ct_X6_233 : Cond.constantLong RX6 233 23592960 ∈ gw := gw_at (k := 715) (by decide +kernel) rfl
theorem ct_X6_235 : Cond.constantLong RX6 235 7864320 ∈ gw := gw_at (k := 716) (by decide +kernel) rfl
theorem ct_X6_237 : Cond.constantLong RX6 237 23199744 ∈ gw := gw_at (k := 717) (by decide +kernel) rfl
theorem ct_X6_239 : Cond.constantLong RX6 239 7733248 ∈ gw := gw_at (k := 718) (by decide +kernel) rfl
theorem ct_X6_241 : Cond.constantLong RX6 241 36000000000 ∈ gw := gw_at (k := 719) (by decide +kernel) rfl
theorem ct_X6_257 : Cond.constantLong RX6 257 (-9223372036854775808) ∈ gw := gw_at (k := 720) (by decide +kernel) rfl
theorem ml_X6_259 : Cond.methodLink RX6 259 yX6_both ∈ gw := gw_at (k := 721) (by decide +kernel) rfl
theorem st_X6_both : Cond.static yX6_both ∈ gw := gw_at (k := 722) (by decide +kernel) rfl
theorem co_X6_both : Cond.code yX6_both cX6_both 2 (some .long) ∈ gw := gw_at (k := 723) (by decide +kernel) rfl
theorem ct_X6_223 : Cond.constantLong RX6 223 4294967295 ∈ gw := gw_at (k := 724) (by decide +kernel) rfl
theorem ml_L_83 : Cond.methodLink RL 83 yX6_local ∈ gw := gw_at (k := 725) (by decide +kernel) rfl
theorem im_X6_local : Cond.instanceMethod yX6_local ∈ gw := gw_at (k := 726) (by decide +kernel) rfl
theorem se_X6_local : Cond.selects RX6 yX6_local yX6_local ∈ gw := gw_at (k := 727) (by decide +kernel) rfl
theorem co_X6_local : Cond.code yX6_local cX6_local 7 (some .long) ∈ gw := gw_at (k := 728) (by decide +kernel) rfl
theorem ml_X6_267 : Cond.methodLink RX6 267 yX6_localOf ∈ gw := gw_at (k := 729) (by decide +kernel) rfl
theorem im_X6_localOf : Cond.instanceMethod yX6_localOf ∈ gw := gw_at (k := 731) (by decide +kernel) rfl
theorem co_X6_localOf : Cond.code yX6_localOf cX6_localOf 22 (some .boolean) ∈ gw := gw_at (k := 732) (by decide +kernel) rfl
theorem ml_X6_263 : Cond.methodLink RX6 263 yX6_nearest ∈ gw := gw_at (k := 733) (by decide +kernel) rfl
theorem st_X6_nearest : Cond.static yX6_nearest ∈ gw := gw_at (k := 734) (by decide +kernel) rfl
theorem co_X6_nearest : Cond.code yX6_nearest cX6_nearest 14 (some .long) ∈ gw := gw_at (k := 735) (by decide +kernel) rfl
theorem ml_L_30 : Cond.methodLink RL 30 yX6_place ∈ gw := gw_at (k := 736) (by decide +kernel) rfl
theorem im_X6_place : Cond.instanceMethod yX6_place ∈ gw := gw_at (k := 737) (by decide +kernel) rfl
theorem se_X6_place : Cond.selects RX6 yX6_place yX6_place ∈ gw := gw_at (k := 738) (by decide +kernel) rfl
theorem co_X6_place : Cond.code yX6_place cX6_place 3 (some .boolean) ∈ gw := gw_at (k := 739) (by decide +kernel) rfl
theorem ml_L_54 : Cond.methodLink RL 54 yX6_find ∈ gw := gw_at (k := 740) (by decide +kernel) rfl
theorem im_X6_find : Cond.instanceMethod yX6_find ∈ gw := gw_at (k := 741) (by decide +kernel) rfl
theorem se_X6_find : Cond.selects RX6 yX6_find yX6_find ∈ gw := gw_at (k := 742) (by decide +kernel) rfl
theorem co_X6_find : Cond.code yX6_find cX6_find 4 (some .int) ∈ gw := gw_at (k := 743) (by decide +kernel) rfl
theorem ml_X6_284 : Cond.methodLink RX6 284 yX6_at ∈ gw := gw_at (k := 744) (by decide +kernel) rfl
theorem im_X6_at : Cond.instanceMethod yX6_at ∈ gw := gw_at (k := 746) (by decide +kernel) rfl
theorem co_X6_at : Cond.code yX6_at cX6_at 3 (some .int) ∈ gw := gw_at (k := 747) (by decide +kernel) rfl
theorem ml_L_35 : Cond.methodLink RL 35 yX6_hear ∈ gw := gw_at (k := 748) (by decide +kernel) rfl
theorem im_X6_hear : Cond.instanceMethod yX6_hear ∈ gw := gw_at (k := 749) (by decide +kernel) rfl
theorem se_X6_hear : Cond.selects RX6 yX6_hear yX6_hear ∈ gw := gw_at (k := 750) (by decide +kernel) rfl
theorem co_X6_hear : Cond.code yX6_hear cX6_hear 12 (some .int) ∈ gw := gw_at (k := 751) (by decide +kernel) rfl
theorem ct_X6_290 : Cond.constant RX6 290 1000000000 ∈ gw := gw_at (k := 752) (by decide +kernel) rfl
theorem ml_X6_291 : Cond.methodLink RX6 291 yX6_ages ∈ gw := gw_at (k := 753) (by decide +kernel) rfl
theorem im_X6_ages : Cond.instanceMethod yX6_ages ∈ gw := gw_at (k := 755) (by decide +kernel) rfl
theorem co_X6_ages : Cond.code yX6_ages cX6_ages 5 none ∈ gw := gw_at (k := 756) (by decide +kernel) rfl
theorem ml_X6_295 : Cond.methodLink RX6 295 yX6_isKnown ∈ gw := gw_at (k := 757) (by decide +kernel) rfl
theorem st_X6_isKnown : Cond.static yX6_isKnown ∈ gw := gw_at (k := 758) (by decide +kernel) rfl
theorem co_X6_isKnown : Cond.code yX6_isKnown cX6_isKnown 1 (some .boolean) ∈ gw := gw_at (k := 759) (by decide +kernel) rfl
theorem ml_X6_298 : Cond.methodLink RX6 298 yX6_isSquitter ∈ gw := gw_at (k := 760) (by decide +kernel) rfl
theorem st_X6_isSquitter : Cond.static yX6_isSquitter ∈ gw := gw_at (k := 761) (by decide +kernel) rfl
theorem co_X6_isSquitter : Cond.code yX6_isSquitter cX6_isSquitter 1 (some .boolean) ∈ gw := gw_at (k := 762) (by decide +kernel) rfl
theorem ml_X6_301 : Cond.methodLink RX6 301 yX6_find ∈ gw := gw_at (k := 763) (by decide +kernel) rfl
theorem ct_X6_171 : Cond.constant RX6 171 (-2147483648) ∈ gw := gw_at (k := 764) (by decide +kernel) rfl
theorem ml_X6_310 : Cond.methodLink RX6 310 yX6_altitude ∈ gw := gw_at (k := 765) (by decide +kernel) rfl
theorem im_X6_altitude : Cond.instanceMethod yX6_altitude ∈ gw := gw_at (k := 767) (by decide +kernel) rfl
theorem co_X6_altitude : Cond.code yX6_altitude cX6_altitude 5 (some .int) ∈ gw := gw_at (k := 768) (by decide +kernel) rfl
theorem ml_X6_167 : Cond.methodLink RX6 167 yX6_of ∈ gw := gw_at (k := 769) (by decide +kernel) rfl
theorem im_X6_of : Cond.instanceMethod yX6_of ∈ gw := gw_at (k := 771) (by decide +kernel) rfl
theorem co_X6_of : Cond.code yX6_of cX6_of 3 (some .int) ∈ gw := gw_at (k := 772) (by decide +kernel) rfl
theorem ml_X6_172 : Cond.methodLink RX6 172 yX6_ungray ∈ gw := gw_at (k := 773) (by decide +kernel) rfl
theorem im_X6_ungray : Cond.instanceMethod yX6_ungray ∈ gw := gw_at (k := 775) (by decide +kernel) rfl
theorem co_X6_ungray : Cond.code yX6_ungray cX6_ungray 6 (some .int) ∈ gw := gw_at (k := 776) (by decide +kernel) rfl
theorem ml_X6_313 : Cond.methodLink RX6 313 yX6_squawk ∈ gw := gw_at (k := 777) (by decide +kernel) rfl
theorem im_X6_squawk : Cond.instanceMethod yX6_squawk ∈ gw := gw_at (k := 779) (by decide +kernel) rfl
theorem co_X6_squawk : Cond.code yX6_squawk cX6_squawk 6 (some .int) ∈ gw := gw_at (k := 780) (by decide +kernel) rfl
theorem ml_X6_316 : Cond.methodLink RX6 316 yX6_tells ∈ gw := gw_at (k := 781) (by decide +kernel) rfl
theorem im_X6_tells : Cond.instanceMethod yX6_tells ∈ gw := gw_at (k := 783) (by decide +kernel) rfl
theorem co_X6_tells : Cond.code yX6_tells cX6_tells 7 none ∈ gw := gw_at (k := 784) (by decide +kernel) rfl
theorem ml_X6_320 : Cond.methodLink RX6 320 yX6_part ∈ gw := gw_at (k := 785) (by decide +kernel) rfl
theorem im_X6_part : Cond.instanceMethod yX6_part ∈ gw := gw_at (k := 787) (by decide +kernel) rfl
theorem co_X6_part : Cond.code yX6_part cX6_part 3 (some .int) ∈ gw := gw_at (k := 788) (by decide +kernel) rfl
theorem ml_X6_323 : Cond.methodLink RX6 323 yX6_speed ∈ gw := gw_at (k := 789) (by decide +kernel) rfl
theorem im_X6_speed : Cond.instanceMethod yX6_speed ∈ gw := gw_at (k := 791) (by decide +kernel) rfl
theorem co_X6_speed : Cond.code yX6_speed cX6_speed 2 (some .int) ∈ gw := gw_at (k := 792) (by decide +kernel) rfl
theorem ct_X6_326 : Cond.constant RX6 326 360000 ∈ gw := gw_at (k := 793) (by decide +kernel) rfl
theorem ml_X6_327 : Cond.methodLink RX6 327 yX6_onGround ∈ gw := gw_at (k := 794) (by decide +kernel) rfl
theorem im_X6_onGround : Cond.instanceMethod yX6_onGround ∈ gw := gw_at (k := 796) (by decide +kernel) rfl
theorem co_X6_onGround : Cond.code yX6_onGround cX6_onGround 4 none ∈ gw := gw_at (k := 797) (by decide +kernel) rfl
theorem ml_X6_339 : Cond.methodLink RX6 339 yX6_isFresh ∈ gw := gw_at (k := 798) (by decide +kernel) rfl
theorem im_X6_isFresh : Cond.instanceMethod yX6_isFresh ∈ gw := gw_at (k := 800) (by decide +kernel) rfl
theorem co_X6_isFresh : Cond.code yX6_isFresh cX6_isFresh 3 (some .boolean) ∈ gw := gw_at (k := 801) (by decide +kernel) rfl
theorem ml_X6_342 : Cond.methodLink RX6 342 yX6_toldNow ∈ gw := gw_at (k := 802) (by decide +kernel) rfl
theorem im_X6_toldNow : Cond.instanceMethod yX6_toldNow ∈ gw := gw_at (k := 804) (by decide +kernel) rfl
theorem co_X6_toldNow : Cond.code yX6_toldNow cX6_toldNow 1 (some .long) ∈ gw := gw_at (k := 805) (by decide +kernel) rfl
theorem ml_X6_346 : Cond.methodLink RX6 346 yX6_comes ∈ gw := gw_at (k := 806) (by decide +kernel) rfl
theorem im_X6_comes : Cond.instanceMethod yX6_comes ∈ gw := gw_at (k := 808) (by decide +kernel) rfl
theorem co_X6_comes : Cond.code yX6_comes cX6_comes 4 none ∈ gw := gw_at (k := 809) (by decide +kernel) rfl
theorem ml_X6_330 : Cond.methodLink RX6 330 yX6_inAir ∈ gw := gw_at (k := 810) (by decide +kernel) rfl
theorem im_X6_inAir : Cond.instanceMethod yX6_inAir ∈ gw := gw_at (k := 812) (by decide +kernel) rfl
theorem co_X6_inAir : Cond.code yX6_inAir cX6_inAir 8 none ∈ gw := gw_at (k := 813) (by decide +kernel) rfl
theorem ml_X6_333 : Cond.methodLink RX6 333 yX6_moves ∈ gw := gw_at (k := 814) (by decide +kernel) rfl
theorem im_X6_moves : Cond.instanceMethod yX6_moves ∈ gw := gw_at (k := 816) (by decide +kernel) rfl
theorem co_X6_moves : Cond.code yX6_moves cX6_moves 8 none ∈ gw := gw_at (k := 817) (by decide +kernel) rfl
theorem ml_X6_336 : Cond.methodLink RX6 336 yX6_root ∈ gw := gw_at (k := 818) (by decide +kernel) rfl
theorem st_X6_root : Cond.static yX6_root ∈ gw := gw_at (k := 819) (by decide +kernel) rfl
theorem co_X6_root : Cond.code yX6_root cX6_root 3 (some .int) ∈ gw := gw_at (k := 820) (by decide +kernel) rfl
theorem ct_X6_175 : Cond.constant RX6 175 32768 ∈ gw := gw_at (k := 821) (by decide +kernel) rfl
theorem ml_L_40 : Cond.methodLink RL 40 yX6_field ∈ gw := gw_at (k := 822) (by decide +kernel) rfl
theorem im_X6_field : Cond.instanceMethod yX6_field ∈ gw := gw_at (k := 823) (by decide +kernel) rfl
theorem se_X6_field : Cond.selects RX6 yX6_field yX6_field ∈ gw := gw_at (k := 824) (by decide +kernel) rfl
theorem co_X6_field : Cond.code yX6_field cX6_field 7 (some .int) ∈ gw := gw_at (k := 825) (by decide +kernel) rfl
theorem ml_L_45 : Cond.methodLink RL 45 yX6_bits ∈ gw := gw_at (k := 826) (by decide +kernel) rfl
theorem im_X6_bits : Cond.instanceMethod yX6_bits ∈ gw := gw_at (k := 827) (by decide +kernel) rfl
theorem se_X6_bits : Cond.selects RX6 yX6_bits yX6_bits ∈ gw := gw_at (k := 828) (by decide +kernel) rfl
theorem co_X6_bits : Cond.code yX6_bits cX6_bits 3 (some .int) ∈ gw := gw_at (k := 829) (by decide +kernel) rfl
theorem ml_L_50 : Cond.methodLink RL 50 yX6_crafts ∈ gw := gw_at (k := 830) (by decide +kernel) rfl
theorem im_X6_crafts : Cond.instanceMethod yX6_crafts ∈ gw := gw_at (k := 831) (by decide +kernel) rfl
theorem se_X6_crafts : Cond.selects RX6 yX6_crafts yX6_crafts ∈ gw := gw_at (k := 832) (by decide +kernel) rfl
theorem co_X6_crafts : Cond.code yX6_crafts cX6_crafts 1 (some .int) ∈ gw := gw_at (k := 833) (by decide +kernel) rfl
theorem ml_L_58 : Cond.methodLink RL 58 yX6_craft ∈ gw := gw_at (k := 834) (by decide +kernel) rfl
theorem im_X6_craft : Cond.instanceMethod yX6_craft ∈ gw := gw_at (k := 835) (by decide +kernel) rfl
theorem se_X6_craft : Cond.selects RX6 yX6_craft yX6_craft ∈ gw := gw_at (k := 836) (by decide +kernel) rfl
theorem co_X6_craft : Cond.code yX6_craft cX6_craft 3 (some .int) ∈ gw := gw_at (k := 837) (by decide +kernel) rfl
theorem ml_X6_350 : Cond.methodLink RX6 350 yX6_isCraft ∈ gw := gw_at (k := 838) (by decide +kernel) rfl
theorem im_X6_isCraft : Cond.instanceMethod yX6_isCraft ∈ gw := gw_at (k := 840) (by decide +kernel) rfl
theorem co_X6_isCraft : Cond.code yX6_isCraft cX6_isCraft 2 (some .boolean) ∈ gw := gw_at (k := 841) (by decide +kernel) rfl
theorem ml_L_62 : Cond.methodLink RL 62 yX6_sign ∈ gw := gw_at (k := 842) (by decide +kernel) rfl
theorem im_X6_sign : Cond.instanceMethod yX6_sign ∈ gw := gw_at (k := 843) (by decide +kernel) rfl
theorem se_X6_sign : Cond.selects RX6 yX6_sign yX6_sign ∈ gw := gw_at (k := 844) (by decide +kernel) rfl
theorem co_X6_sign : Cond.code yX6_sign cX6_sign 3 (some .int) ∈ gw := gw_at (k := 845) (by decide +kernel) rfl
theorem ct_L_72 : Cond.constantLong RL 72 4294967295 ∈ gw := gw_at (k := 846) (by decide +kernel) rfl
theorem inX0 : ∀ w ∈ wsX00, w ∈ gw := fun w h => List.mem_filter.mpr ⟨(show ∀ w ∈ wsX00, w ∈ lw_tbl by decide +kernel) w h, List.all_eq_true.mp (show wsX00.all goodWord = true by decide +kernel) w h⟩
theorem inX3 : ∀ w ∈ wsX30, w ∈ gw := fun w h => List.mem_filter.mpr ⟨(show ∀ w ∈ wsX30, w ∈ lw_tbl by decide +kernel) w h, List.all_eq_true.mp (show wsX30.all goodWord = true by decide +kernel) w h⟩
theorem inX4 : ∀ w ∈ wsX40, w ∈ gw := fun w h => List.mem_filter.mpr ⟨(show ∀ w ∈ wsX40, w ∈ lw_tbl by decide +kernel) w h, List.all_eq_true.mp (show wsX40.all goodWord = true by decide +kernel) w h⟩
theorem inX5 : ∀ w ∈ wsX50, w ∈ gw := fun w h => List.mem_filter.mpr ⟨(show ∀ w ∈ wsX50, w ∈ lw_tbl by decide +kernel) w h, List.all_eq_true.mp (show wsX50.all goodWord = true by decide +kernel) w h⟩
theorem inX6 : ∀ w ∈ wsX60, w ∈ gw := fun w h => List.mem_filter.mpr ⟨(show ∀ w ∈ wsX60, w ∈ lw_tbl by decide +kernel) w h, List.all_eq_true.mp (show wsX60.all goodWord = true by decide +kernel) w h⟩
theorem dn_X0_init : yX0_init.cls ≠ "java/lang/invoke/MethodHandle" ∧ yX0_init.cls ≠ "java/lang/invoke/VarHandle" ∧ (parseMethodDescriptor yX0_init.desc).map (fun d => d.parameters.length) = some 0 := by decide +kernel
theorem dn_X0_size : yX0_size.cls ≠ "java/lang/invoke/MethodHandle" ∧ yX0_size.cls ≠ "java/lang/invoke/VarHandle" ∧ (parseMethodDescriptor yX0_size.desc).map (fun d => d.parameters.length) = some 0 := by decide +kernel
theorem dn_X0_at : yX0_at.cls ≠ "java/lang/invoke/MethodHandle" ∧ yX0_at.cls ≠ "java/lang/invoke/VarHandle" ∧ (parseMethodDescriptor yX0_at.desc).map (fun d => d.parameters.length) = some 1 := by decide +kernel
theorem dn_X0_indexOf : yX0_indexOf.cls ≠ "java/lang/invoke/MethodHandle" ∧ yX0_indexOf.cls ≠ "java/lang/invoke/VarHandle" ∧ (parseMethodDescriptor yX0_indexOf.desc).map (fun d => d.parameters.length) = some 1 := by decide +kernel
theorem dn_X0_open : yX0_open.cls ≠ "java/lang/invoke/MethodHandle" ∧ yX0_open.cls ≠ "java/lang/invoke/VarHandle" ∧ (parseMethodDescriptor yX0_open.desc).map (fun d => d.parameters.length) = some 1 := by decide +kernel
theorem dn_X0_forgetSilent : yX0_forgetSilent.cls ≠ "java/lang/invoke/MethodHandle" ∧ yX0_forgetSilent.cls ≠ "java/lang/invoke/VarHandle" ∧ (parseMethodDescriptor yX0_forgetSilent.desc).map (fun d => d.parameters.length) = some 1 := by decide +kernel
theorem dn_X1_altitude : yX1_altitude.cls ≠ "java/lang/invoke/MethodHandle" ∧ yX1_altitude.cls ≠ "java/lang/invoke/VarHandle" ∧ (parseMethodDescriptor yX1_altitude.desc).map (fun d => d.parameters.length) = some 1 := by decide +kernel
theorem dn_X1_withM : yX1_withM.cls ≠ "java/lang/invoke/MethodHandle" ∧ yX1_withM.cls ≠ "java/lang/invoke/VarHandle" ∧ (parseMethodDescriptor yX1_withM.desc).map (fun d => d.parameters.length) = some 1 := by decide +kernel
theorem dn_X1_altitudeOfGray : yX1_altitudeOfGray.cls ≠ "java/lang/invoke/MethodHandle" ∧ yX1_altitudeOfGray.cls ≠ "java/lang/invoke/VarHandle" ∧ (parseMethodDescriptor yX1_altitudeOfGray.desc).map (fun d => d.parameters.length) = some 1 := by decide +kernel
theorem dn_X1_ofGray : yX1_ofGray.cls ≠ "java/lang/invoke/MethodHandle" ∧ yX1_ofGray.cls ≠ "java/lang/invoke/VarHandle" ∧ (parseMethodDescriptor yX1_ofGray.desc).map (fun d => d.parameters.length) = some 1 := by decide +kernel
theorem dn_X1_squawk : yX1_squawk.cls ≠ "java/lang/invoke/MethodHandle" ∧ yX1_squawk.cls ≠ "java/lang/invoke/VarHandle" ∧ (parseMethodDescriptor yX1_squawk.desc).map (fun d => d.parameters.length) = some 1 := by decide +kernel
theorem dn_X1_three : yX1_three.cls ≠ "java/lang/invoke/MethodHandle" ∧ yX1_three.cls ≠ "java/lang/invoke/VarHandle" ∧ (parseMethodDescriptor yX1_three.desc).map (fun d => d.parameters.length) = some 4 := by decide +kernel
theorem dn_X1_letter : yX1_letter.cls ≠ "java/lang/invoke/MethodHandle" ∧ yX1_letter.cls ≠ "java/lang/invoke/VarHandle" ∧ (parseMethodDescriptor yX1_letter.desc).map (fun d => d.parameters.length) = some 1 := by decide +kernel
theorem dn_X1_groundSpeed : yX1_groundSpeed.cls ≠ "java/lang/invoke/MethodHandle" ∧ yX1_groundSpeed.cls ≠ "java/lang/invoke/VarHandle" ∧ (parseMethodDescriptor yX1_groundSpeed.desc).map (fun d => d.parameters.length) = some 1 := by decide +kernel
theorem dn_X1_lessOne : yX1_lessOne.cls ≠ "java/lang/invoke/MethodHandle" ∧ yX1_lessOne.cls ≠ "java/lang/invoke/VarHandle" ∧ (parseMethodDescriptor yX1_lessOne.desc).map (fun d => d.parameters.length) = some 3 := by decide +kernel
theorem dn_X1_speedOf : yX1_speedOf.cls ≠ "java/lang/invoke/MethodHandle" ∧ yX1_speedOf.cls ≠ "java/lang/invoke/VarHandle" ∧ (parseMethodDescriptor yX1_speedOf.desc).map (fun d => d.parameters.length) = some 2 := by decide +kernel
theorem dn_X1_root : yX1_root.cls ≠ "java/lang/invoke/MethodHandle" ∧ yX1_root.cls ≠ "java/lang/invoke/VarHandle" ∧ (parseMethodDescriptor yX1_root.desc).map (fun d => d.parameters.length) = some 1 := by decide +kernel
theorem dn_X2_isPlace : yX2_isPlace.cls ≠ "java/lang/invoke/MethodHandle" ∧ yX2_isPlace.cls ≠ "java/lang/invoke/VarHandle" ∧ (parseMethodDescriptor yX2_isPlace.desc).map (fun d => d.parameters.length) = some 2 := by decide +kernel
theorem dn_X2_isCode : yX2_isCode.cls ≠ "java/lang/invoke/MethodHandle" ∧ yX2_isCode.cls ≠ "java/lang/invoke/VarHandle" ∧ (parseMethodDescriptor yX2_isCode.desc).map (fun d => d.parameters.length) = some 1 := by decide +kernel
theorem dn_X2_pack : yX2_pack.cls ≠ "java/lang/invoke/MethodHandle" ∧ yX2_pack.cls ≠ "java/lang/invoke/VarHandle" ∧ (parseMethodDescriptor yX2_pack.desc).map (fun d => d.parameters.length) = some 2 := by decide +kernel
theorem dn_X2_latitudeOf : yX2_latitudeOf.cls ≠ "java/lang/invoke/MethodHandle" ∧ yX2_latitudeOf.cls ≠ "java/lang/invoke/VarHandle" ∧ (parseMethodDescriptor yX2_latitudeOf.desc).map (fun d => d.parameters.length) = some 1 := by decide +kernel
theorem dn_X2_longitudeOf : yX2_longitudeOf.cls ≠ "java/lang/invoke/MethodHandle" ∧ yX2_longitudeOf.cls ≠ "java/lang/invoke/VarHandle" ∧ (parseMethodDescriptor yX2_longitudeOf.desc).map (fun d => d.parameters.length) = some 1 := by decide +kernel
theorem dn_X2_zoneCount : yX2_zoneCount.cls ≠ "java/lang/invoke/MethodHandle" ∧ yX2_zoneCount.cls ≠ "java/lang/invoke/VarHandle" ∧ (parseMethodDescriptor yX2_zoneCount.desc).map (fun d => d.parameters.length) = some 2 := by decide +kernel
theorem dn_X2_code : yX2_code.cls ≠ "java/lang/invoke/MethodHandle" ∧ yX2_code.cls ≠ "java/lang/invoke/VarHandle" ∧ (parseMethodDescriptor yX2_code.desc).map (fun d => d.parameters.length) = some 4 := by decide +kernel
theorem dn_X2_placeOfPair : yX2_placeOfPair.cls ≠ "java/lang/invoke/MethodHandle" ∧ yX2_placeOfPair.cls ≠ "java/lang/invoke/VarHandle" ∧ (parseMethodDescriptor yX2_placeOfPair.desc).map (fun d => d.parameters.length) = some 3 := by decide +kernel
theorem dn_X2_placeNear : yX2_placeNear.cls ≠ "java/lang/invoke/MethodHandle" ∧ yX2_placeNear.cls ≠ "java/lang/invoke/VarHandle" ∧ (parseMethodDescriptor yX2_placeNear.desc).map (fun d => d.parameters.length) = some 4 := by decide +kernel
theorem dn_X2_placeAt : yX2_placeAt.cls ≠ "java/lang/invoke/MethodHandle" ∧ yX2_placeAt.cls ≠ "java/lang/invoke/VarHandle" ∧ (parseMethodDescriptor yX2_placeAt.desc).map (fun d => d.parameters.length) = some 5 := by decide +kernel
theorem dn_X2_turnOf : yX2_turnOf.cls ≠ "java/lang/invoke/MethodHandle" ∧ yX2_turnOf.cls ≠ "java/lang/invoke/VarHandle" ∧ (parseMethodDescriptor yX2_turnOf.desc).map (fun d => d.parameters.length) = some 1 := by decide +kernel
theorem dn_X2_bandsOf : yX2_bandsOf.cls ≠ "java/lang/invoke/MethodHandle" ∧ yX2_bandsOf.cls ≠ "java/lang/invoke/VarHandle" ∧ (parseMethodDescriptor yX2_bandsOf.desc).map (fun d => d.parameters.length) = some 1 := by decide +kernel
theorem dn_X2_zonesOf : yX2_zonesOf.cls ≠ "java/lang/invoke/MethodHandle" ∧ yX2_zonesOf.cls ≠ "java/lang/invoke/VarHandle" ∧ (parseMethodDescriptor yX2_zonesOf.desc).map (fun d => d.parameters.length) = some 2 := by decide +kernel
theorem dn_X2_yOf : yX2_yOf.cls ≠ "java/lang/invoke/MethodHandle" ∧ yX2_yOf.cls ≠ "java/lang/invoke/VarHandle" ∧ (parseMethodDescriptor yX2_yOf.desc).map (fun d => d.parameters.length) = some 1 := by decide +kernel
theorem dn_X2_xOf : yX2_xOf.cls ≠ "java/lang/invoke/MethodHandle" ∧ yX2_xOf.cls ≠ "java/lang/invoke/VarHandle" ∧ (parseMethodDescriptor yX2_xOf.desc).map (fun d => d.parameters.length) = some 1 := by decide +kernel
theorem dn_X2_nearestStep : yX2_nearestStep.cls ≠ "java/lang/invoke/MethodHandle" ∧ yX2_nearestStep.cls ≠ "java/lang/invoke/VarHandle" ∧ (parseMethodDescriptor yX2_nearestStep.desc).map (fun d => d.parameters.length) = some 3 := by decide +kernel
theorem dn_X2_stepNear : yX2_stepNear.cls ≠ "java/lang/invoke/MethodHandle" ∧ yX2_stepNear.cls ≠ "java/lang/invoke/VarHandle" ∧ (parseMethodDescriptor yX2_stepNear.desc).map (fun d => d.parameters.length) = some 4 := by decide +kernel
theorem dn_X2_stepInBand : yX2_stepInBand.cls ≠ "java/lang/invoke/MethodHandle" ∧ yX2_stepInBand.cls ≠ "java/lang/invoke/VarHandle" ∧ (parseMethodDescriptor yX2_stepInBand.desc).map (fun d => d.parameters.length) = some 3 := by decide +kernel
theorem dn_X2_isBeyondPole : yX2_isBeyondPole.cls ≠ "java/lang/invoke/MethodHandle" ∧ yX2_isBeyondPole.cls ≠ "java/lang/invoke/VarHandle" ∧ (parseMethodDescriptor yX2_isBeyondPole.desc).map (fun d => d.parameters.length) = some 3 := by decide +kernel
theorem dn_X2_zoneCountAt : yX2_zoneCountAt.cls ≠ "java/lang/invoke/MethodHandle" ∧ yX2_zoneCountAt.cls ≠ "java/lang/invoke/VarHandle" ∧ (parseMethodDescriptor yX2_zoneCountAt.desc).map (fun d => d.parameters.length) = some 3 := by decide +kernel
theorem dn_X2_quotient : yX2_quotient.cls ≠ "java/lang/invoke/MethodHandle" ∧ yX2_quotient.cls ≠ "java/lang/invoke/VarHandle" ∧ (parseMethodDescriptor yX2_quotient.desc).map (fun d => d.parameters.length) = some 2 := by decide +kernel
theorem dn_X2_remainder : yX2_remainder.cls ≠ "java/lang/invoke/MethodHandle" ∧ yX2_remainder.cls ≠ "java/lang/invoke/VarHandle" ∧ (parseMethodDescriptor yX2_remainder.desc).map (fun d => d.parameters.length) = some 2 := by decide +kernel
theorem dn_X3_init : yX3_init.cls ≠ "java/lang/invoke/MethodHandle" ∧ yX3_init.cls ≠ "java/lang/invoke/VarHandle" ∧ (parseMethodDescriptor yX3_init.desc).map (fun d => d.parameters.length) = some 0 := by decide +kernel
theorem dn_X3_begin : yX3_begin.cls ≠ "java/lang/invoke/MethodHandle" ∧ yX3_begin.cls ≠ "java/lang/invoke/VarHandle" ∧ (parseMethodDescriptor yX3_begin.desc).map (fun d => d.parameters.length) = some 1 := by decide +kernel
theorem dn_X3_value : yX3_value.cls ≠ "java/lang/invoke/MethodHandle" ∧ yX3_value.cls ≠ "java/lang/invoke/VarHandle" ∧ (parseMethodDescriptor yX3_value.desc).map (fun d => d.parameters.length) = some 1 := by decide +kernel
theorem dn_X3_letter : yX3_letter.cls ≠ "java/lang/invoke/MethodHandle" ∧ yX3_letter.cls ≠ "java/lang/invoke/VarHandle" ∧ (parseMethodDescriptor yX3_letter.desc).map (fun d => d.parameters.length) = some 1 := by decide +kernel
theorem dn_X3_countFrame : yX3_countFrame.cls ≠ "java/lang/invoke/MethodHandle" ∧ yX3_countFrame.cls ≠ "java/lang/invoke/VarHandle" ∧ (parseMethodDescriptor yX3_countFrame.desc).map (fun d => d.parameters.length) = some 2 := by decide +kernel
theorem dn_X3_learnReply : yX3_learnReply.cls ≠ "java/lang/invoke/MethodHandle" ∧ yX3_learnReply.cls ≠ "java/lang/invoke/VarHandle" ∧ (parseMethodDescriptor yX3_learnReply.desc).map (fun d => d.parameters.length) = some 1 := by decide +kernel
theorem dn_X3_learnMessage : yX3_learnMessage.cls ≠ "java/lang/invoke/MethodHandle" ∧ yX3_learnMessage.cls ≠ "java/lang/invoke/VarHandle" ∧ (parseMethodDescriptor yX3_learnMessage.desc).map (fun d => d.parameters.length) = some 3 := by decide +kernel
theorem dn_X3_learnName : yX3_learnName.cls ≠ "java/lang/invoke/MethodHandle" ∧ yX3_learnName.cls ≠ "java/lang/invoke/VarHandle" ∧ (parseMethodDescriptor yX3_learnName.desc).map (fun d => d.parameters.length) = some 2 := by decide +kernel
theorem dn_X3_learnOnGround : yX3_learnOnGround.cls ≠ "java/lang/invoke/MethodHandle" ∧ yX3_learnOnGround.cls ≠ "java/lang/invoke/VarHandle" ∧ (parseMethodDescriptor yX3_learnOnGround.desc).map (fun d => d.parameters.length) = some 3 := by decide +kernel
theorem dn_X3_learnInAir : yX3_learnInAir.cls ≠ "java/lang/invoke/MethodHandle" ∧ yX3_learnInAir.cls ≠ "java/lang/invoke/VarHandle" ∧ (parseMethodDescriptor yX3_learnInAir.desc).map (fun d => d.parameters.length) = some 3 := by decide +kernel
theorem dn_X3_learnMotion : yX3_learnMotion.cls ≠ "java/lang/invoke/MethodHandle" ∧ yX3_learnMotion.cls ≠ "java/lang/invoke/VarHandle" ∧ (parseMethodDescriptor yX3_learnMotion.desc).map (fun d => d.parameters.length) = some 2 := by decide +kernel
theorem dn_X3_hasFreshPlace : yX3_hasFreshPlace.cls ≠ "java/lang/invoke/MethodHandle" ∧ yX3_hasFreshPlace.cls ≠ "java/lang/invoke/VarHandle" ∧ (parseMethodDescriptor yX3_hasFreshPlace.desc).map (fun d => d.parameters.length) = some 1 := by decide +kernel
theorem dn_X3_lastPlace : yX3_lastPlace.cls ≠ "java/lang/invoke/MethodHandle" ∧ yX3_lastPlace.cls ≠ "java/lang/invoke/VarHandle" ∧ (parseMethodDescriptor yX3_lastPlace.desc).map (fun d => d.parameters.length) = some 0 := by decide +kernel
theorem dn_X3_keepPlace : yX3_keepPlace.cls ≠ "java/lang/invoke/MethodHandle" ∧ yX3_keepPlace.cls ≠ "java/lang/invoke/VarHandle" ∧ (parseMethodDescriptor yX3_keepPlace.desc).map (fun d => d.parameters.length) = some 2 := by decide +kernel
theorem dn_X3_isOdd : yX3_isOdd.cls ≠ "java/lang/invoke/MethodHandle" ∧ yX3_isOdd.cls ≠ "java/lang/invoke/VarHandle" ∧ (parseMethodDescriptor yX3_isOdd.desc).map (fun d => d.parameters.length) = some 1 := by decide +kernel
theorem dn_X3_codeIn : yX3_codeIn.cls ≠ "java/lang/invoke/MethodHandle" ∧ yX3_codeIn.cls ≠ "java/lang/invoke/VarHandle" ∧ (parseMethodDescriptor yX3_codeIn.desc).map (fun d => d.parameters.length) = some 1 := by decide +kernel
theorem dn_X4_init : yX4_init.cls ≠ "java/lang/invoke/MethodHandle" ∧ yX4_init.cls ≠ "java/lang/invoke/VarHandle" ∧ (parseMethodDescriptor yX4_init.desc).map (fun d => d.parameters.length) = some 0 := by decide +kernel
theorem dn_X4_write : yX4_write.cls ≠ "java/lang/invoke/MethodHandle" ∧ yX4_write.cls ≠ "java/lang/invoke/VarHandle" ∧ (parseMethodDescriptor yX4_write.desc).map (fun d => d.parameters.length) = some 4 := by decide +kernel
theorem dn_X4_copy : yX4_copy.cls ≠ "java/lang/invoke/MethodHandle" ∧ yX4_copy.cls ≠ "java/lang/invoke/VarHandle" ∧ (parseMethodDescriptor yX4_copy.desc).map (fun d => d.parameters.length) = some 1 := by decide +kernel
theorem dn_X4_turnedBit : yX4_turnedBit.cls ≠ "java/lang/invoke/MethodHandle" ∧ yX4_turnedBit.cls ≠ "java/lang/invoke/VarHandle" ∧ (parseMethodDescriptor yX4_turnedBit.desc).map (fun d => d.parameters.length) = some 0 := by decide +kernel
theorem dn_X4_number : yX4_number.cls ≠ "java/lang/invoke/MethodHandle" ∧ yX4_number.cls ≠ "java/lang/invoke/VarHandle" ∧ (parseMethodDescriptor yX4_number.desc).map (fun d => d.parameters.length) = some 2 := by decide +kernel
theorem dn_X4_message : yX4_message.cls ≠ "java/lang/invoke/MethodHandle" ∧ yX4_message.cls ≠ "java/lang/invoke/VarHandle" ∧ (parseMethodDescriptor yX4_message.desc).map (fun d => d.parameters.length) = some 2 := by decide +kernel
theorem dn_X4_parity : yX4_parity.cls ≠ "java/lang/invoke/MethodHandle" ∧ yX4_parity.cls ≠ "java/lang/invoke/VarHandle" ∧ (parseMethodDescriptor yX4_parity.desc).map (fun d => d.parameters.length) = some 0 := by decide +kernel
theorem dn_X4_remainder : yX4_remainder.cls ≠ "java/lang/invoke/MethodHandle" ∧ yX4_remainder.cls ≠ "java/lang/invoke/VarHandle" ∧ (parseMethodDescriptor yX4_remainder.desc).map (fun d => d.parameters.length) = some 0 := by decide +kernel
theorem dn_X4_wrongBit : yX4_wrongBit.cls ≠ "java/lang/invoke/MethodHandle" ∧ yX4_wrongBit.cls ≠ "java/lang/invoke/VarHandle" ∧ (parseMethodDescriptor yX4_wrongBit.desc).map (fun d => d.parameters.length) = some 0 := by decide +kernel
theorem dn_X4_putRight : yX4_putRight.cls ≠ "java/lang/invoke/MethodHandle" ∧ yX4_putRight.cls ≠ "java/lang/invoke/VarHandle" ∧ (parseMethodDescriptor yX4_putRight.desc).map (fun d => d.parameters.length) = some 0 := by decide +kernel
theorem dn_X4_address : yX4_address.cls ≠ "java/lang/invoke/MethodHandle" ∧ yX4_address.cls ≠ "java/lang/invoke/VarHandle" ∧ (parseMethodDescriptor yX4_address.desc).map (fun d => d.parameters.length) = some 0 := by decide +kernel
theorem dn_X4_isOf : yX4_isOf.cls ≠ "java/lang/invoke/MethodHandle" ∧ yX4_isOf.cls ≠ "java/lang/invoke/VarHandle" ∧ (parseMethodDescriptor yX4_isOf.desc).map (fun d => d.parameters.length) = some 1 := by decide +kernel
theorem dn_X4_told : yX4_told.cls ≠ "java/lang/invoke/MethodHandle" ∧ yX4_told.cls ≠ "java/lang/invoke/VarHandle" ∧ (parseMethodDescriptor yX4_told.desc).map (fun d => d.parameters.length) = some 1 := by decide +kernel
theorem dn_X4_part : yX4_part.cls ≠ "java/lang/invoke/MethodHandle" ∧ yX4_part.cls ≠ "java/lang/invoke/VarHandle" ∧ (parseMethodDescriptor yX4_part.desc).map (fun d => d.parameters.length) = some 3 := by decide +kernel
theorem dn_X4_format : yX4_format.cls ≠ "java/lang/invoke/MethodHandle" ∧ yX4_format.cls ≠ "java/lang/invoke/VarHandle" ∧ (parseMethodDescriptor yX4_format.desc).map (fun d => d.parameters.length) = some 0 := by decide +kernel
theorem dn_X4_isSound : yX4_isSound.cls ≠ "java/lang/invoke/MethodHandle" ∧ yX4_isSound.cls ≠ "java/lang/invoke/VarHandle" ∧ (parseMethodDescriptor yX4_isSound.desc).map (fun d => d.parameters.length) = some 1 := by decide +kernel
theorem dn_X4_bit : yX4_bit.cls ≠ "java/lang/invoke/MethodHandle" ∧ yX4_bit.cls ≠ "java/lang/invoke/VarHandle" ∧ (parseMethodDescriptor yX4_bit.desc).map (fun d => d.parameters.length) = some 1 := by decide +kernel
theorem dn_X4_turn : yX4_turn.cls ≠ "java/lang/invoke/MethodHandle" ∧ yX4_turn.cls ≠ "java/lang/invoke/VarHandle" ∧ (parseMethodDescriptor yX4_turn.desc).map (fun d => d.parameters.length) = some 1 := by decide +kernel
theorem dn_X4_reduced : yX4_reduced.cls ≠ "java/lang/invoke/MethodHandle" ∧ yX4_reduced.cls ≠ "java/lang/invoke/VarHandle" ∧ (parseMethodDescriptor yX4_reduced.desc).map (fun d => d.parameters.length) = some 1 := by decide +kernel
theorem dn_X5_init : yX5_init.cls ≠ "java/lang/invoke/MethodHandle" ∧ yX5_init.cls ≠ "java/lang/invoke/VarHandle" ∧ (parseMethodDescriptor yX5_init.desc).map (fun d => d.parameters.length) = some 0 := by decide +kernel
theorem dn_X5_syndrome : yX5_syndrome.cls ≠ "java/lang/invoke/MethodHandle" ∧ yX5_syndrome.cls ≠ "java/lang/invoke/VarHandle" ∧ (parseMethodDescriptor yX5_syndrome.desc).map (fun d => d.parameters.length) = some 4 := by decide +kernel
theorem dn_X5_repair : yX5_repair.cls ≠ "java/lang/invoke/MethodHandle" ∧ yX5_repair.cls ≠ "java/lang/invoke/VarHandle" ∧ (parseMethodDescriptor yX5_repair.desc).map (fun d => d.parameters.length) = some 4 := by decide +kernel
theorem dn_X5_seal : yX5_seal.cls ≠ "java/lang/invoke/MethodHandle" ∧ yX5_seal.cls ≠ "java/lang/invoke/VarHandle" ∧ (parseMethodDescriptor yX5_seal.desc).map (fun d => d.parameters.length) = some 4 := by decide +kernel
theorem dn_X5_place : yX5_place.cls ≠ "java/lang/invoke/MethodHandle" ∧ yX5_place.cls ≠ "java/lang/invoke/VarHandle" ∧ (parseMethodDescriptor yX5_place.desc).map (fun d => d.parameters.length) = some 2 := by decide +kernel
theorem dn_X5_hear : yX5_hear.cls ≠ "java/lang/invoke/MethodHandle" ∧ yX5_hear.cls ≠ "java/lang/invoke/VarHandle" ∧ (parseMethodDescriptor yX5_hear.desc).map (fun d => d.parameters.length) = some 5 := by decide +kernel
theorem dn_X5_field : yX5_field.cls ≠ "java/lang/invoke/MethodHandle" ∧ yX5_field.cls ≠ "java/lang/invoke/VarHandle" ∧ (parseMethodDescriptor yX5_field.desc).map (fun d => d.parameters.length) = some 1 := by decide +kernel
theorem dn_X5_bits : yX5_bits.cls ≠ "java/lang/invoke/MethodHandle" ∧ yX5_bits.cls ≠ "java/lang/invoke/VarHandle" ∧ (parseMethodDescriptor yX5_bits.desc).map (fun d => d.parameters.length) = some 2 := by decide +kernel
theorem dn_X5_crafts : yX5_crafts.cls ≠ "java/lang/invoke/MethodHandle" ∧ yX5_crafts.cls ≠ "java/lang/invoke/VarHandle" ∧ (parseMethodDescriptor yX5_crafts.desc).map (fun d => d.parameters.length) = some 0 := by decide +kernel
theorem dn_X5_find : yX5_find.cls ≠ "java/lang/invoke/MethodHandle" ∧ yX5_find.cls ≠ "java/lang/invoke/VarHandle" ∧ (parseMethodDescriptor yX5_find.desc).map (fun d => d.parameters.length) = some 1 := by decide +kernel
theorem dn_X5_craft : yX5_craft.cls ≠ "java/lang/invoke/MethodHandle" ∧ yX5_craft.cls ≠ "java/lang/invoke/VarHandle" ∧ (parseMethodDescriptor yX5_craft.desc).map (fun d => d.parameters.length) = some 2 := by decide +kernel
theorem dn_X5_sign : yX5_sign.cls ≠ "java/lang/invoke/MethodHandle" ∧ yX5_sign.cls ≠ "java/lang/invoke/VarHandle" ∧ (parseMethodDescriptor yX5_sign.desc).map (fun d => d.parameters.length) = some 2 := by decide +kernel
theorem dn_X5_zones : yX5_zones.cls ≠ "java/lang/invoke/MethodHandle" ∧ yX5_zones.cls ≠ "java/lang/invoke/VarHandle" ∧ (parseMethodDescriptor yX5_zones.desc).map (fun d => d.parameters.length) = some 1 := by decide +kernel
theorem dn_X5_encode : yX5_encode.cls ≠ "java/lang/invoke/MethodHandle" ∧ yX5_encode.cls ≠ "java/lang/invoke/VarHandle" ∧ (parseMethodDescriptor yX5_encode.desc).map (fun d => d.parameters.length) = some 4 := by decide +kernel
theorem dn_X5_global : yX5_global.cls ≠ "java/lang/invoke/MethodHandle" ∧ yX5_global.cls ≠ "java/lang/invoke/VarHandle" ∧ (parseMethodDescriptor yX5_global.desc).map (fun d => d.parameters.length) = some 3 := by decide +kernel
theorem dn_X5_local : yX5_local.cls ≠ "java/lang/invoke/MethodHandle" ∧ yX5_local.cls ≠ "java/lang/invoke/VarHandle" ∧ (parseMethodDescriptor yX5_local.desc).map (fun d => d.parameters.length) = some 5 := by decide +kernel
theorem dn_X6_init : yX6_init.cls ≠ "java/lang/invoke/MethodHandle" ∧ yX6_init.cls ≠ "java/lang/invoke/VarHandle" ∧ (parseMethodDescriptor yX6_init.desc).map (fun d => d.parameters.length) = some 0 := by decide +kernel
theorem dn_X6_frame : yX6_frame.cls ≠ "java/lang/invoke/MethodHandle" ∧ yX6_frame.cls ≠ "java/lang/invoke/VarHandle" ∧ (parseMethodDescriptor yX6_frame.desc).map (fun d => d.parameters.length) = some 4 := by decide +kernel
theorem dn_X6_number : yX6_number.cls ≠ "java/lang/invoke/MethodHandle" ∧ yX6_number.cls ≠ "java/lang/invoke/VarHandle" ∧ (parseMethodDescriptor yX6_number.desc).map (fun d => d.parameters.length) = some 3 := by decide +kernel
theorem dn_X6_remainder : yX6_remainder.cls ≠ "java/lang/invoke/MethodHandle" ∧ yX6_remainder.cls ≠ "java/lang/invoke/VarHandle" ∧ (parseMethodDescriptor yX6_remainder.desc).map (fun d => d.parameters.length) = some 0 := by decide +kernel
theorem dn_X6_syndrome : yX6_syndrome.cls ≠ "java/lang/invoke/MethodHandle" ∧ yX6_syndrome.cls ≠ "java/lang/invoke/VarHandle" ∧ (parseMethodDescriptor yX6_syndrome.desc).map (fun d => d.parameters.length) = some 4 := by decide +kernel
theorem dn_X6_seal : yX6_seal.cls ≠ "java/lang/invoke/MethodHandle" ∧ yX6_seal.cls ≠ "java/lang/invoke/VarHandle" ∧ (parseMethodDescriptor yX6_seal.desc).map (fun d => d.parameters.length) = some 4 := by decide +kernel
theorem dn_X6_isWrong : yX6_isWrong.cls ≠ "java/lang/invoke/MethodHandle" ∧ yX6_isWrong.cls ≠ "java/lang/invoke/VarHandle" ∧ (parseMethodDescriptor yX6_isWrong.desc).map (fun d => d.parameters.length) = some 2 := by decide +kernel
theorem dn_X6_toTurn : yX6_toTurn.cls ≠ "java/lang/invoke/MethodHandle" ∧ yX6_toTurn.cls ≠ "java/lang/invoke/VarHandle" ∧ (parseMethodDescriptor yX6_toTurn.desc).map (fun d => d.parameters.length) = some 0 := by decide +kernel
theorem dn_X6_repair : yX6_repair.cls ≠ "java/lang/invoke/MethodHandle" ∧ yX6_repair.cls ≠ "java/lang/invoke/VarHandle" ∧ (parseMethodDescriptor yX6_repair.desc).map (fun d => d.parameters.length) = some 4 := by decide +kernel
theorem dn_X6_ungray : yX6_ungray.cls ≠ "java/lang/invoke/MethodHandle" ∧ yX6_ungray.cls ≠ "java/lang/invoke/VarHandle" ∧ (parseMethodDescriptor yX6_ungray.desc).map (fun d => d.parameters.length) = some 2 := by decide +kernel
theorem dn_X6_of : yX6_of.cls ≠ "java/lang/invoke/MethodHandle" ∧ yX6_of.cls ≠ "java/lang/invoke/VarHandle" ∧ (parseMethodDescriptor yX6_of.desc).map (fun d => d.parameters.length) = some 2 := by decide +kernel
theorem dn_X6_altitude : yX6_altitude.cls ≠ "java/lang/invoke/MethodHandle" ∧ yX6_altitude.cls ≠ "java/lang/invoke/VarHandle" ∧ (parseMethodDescriptor yX6_altitude.desc).map (fun d => d.parameters.length) = some 1 := by decide +kernel
theorem dn_X6_squawk : yX6_squawk.cls ≠ "java/lang/invoke/MethodHandle" ∧ yX6_squawk.cls ≠ "java/lang/invoke/VarHandle" ∧ (parseMethodDescriptor yX6_squawk.desc).map (fun d => d.parameters.length) = some 1 := by decide +kernel
theorem dn_X6_speed : yX6_speed.cls ≠ "java/lang/invoke/MethodHandle" ∧ yX6_speed.cls ≠ "java/lang/invoke/VarHandle" ∧ (parseMethodDescriptor yX6_speed.desc).map (fun d => d.parameters.length) = some 1 := by decide +kernel
theorem dn_X6_root : yX6_root.cls ≠ "java/lang/invoke/MethodHandle" ∧ yX6_root.cls ≠ "java/lang/invoke/VarHandle" ∧ (parseMethodDescriptor yX6_root.desc).map (fun d => d.parameters.length) = some 1 := by decide +kernel
theorem dn_X6_part : yX6_part.cls ≠ "java/lang/invoke/MethodHandle" ∧ yX6_part.cls ≠ "java/lang/invoke/VarHandle" ∧ (parseMethodDescriptor yX6_part.desc).map (fun d => d.parameters.length) = some 2 := by decide +kernel
theorem dn_X6_rest : yX6_rest.cls ≠ "java/lang/invoke/MethodHandle" ∧ yX6_rest.cls ≠ "java/lang/invoke/VarHandle" ∧ (parseMethodDescriptor yX6_rest.desc).map (fun d => d.parameters.length) = some 2 := by decide +kernel
theorem dn_X6_down : yX6_down.cls ≠ "java/lang/invoke/MethodHandle" ∧ yX6_down.cls ≠ "java/lang/invoke/VarHandle" ∧ (parseMethodDescriptor yX6_down.desc).map (fun d => d.parameters.length) = some 2 := by decide +kernel
theorem dn_X6_sizeOf : yX6_sizeOf.cls ≠ "java/lang/invoke/MethodHandle" ∧ yX6_sizeOf.cls ≠ "java/lang/invoke/VarHandle" ∧ (parseMethodDescriptor yX6_sizeOf.desc).map (fun d => d.parameters.length) = some 1 := by decide +kernel
theorem dn_X6_atLeast1 : yX6_atLeast1.cls ≠ "java/lang/invoke/MethodHandle" ∧ yX6_atLeast1.cls ≠ "java/lang/invoke/VarHandle" ∧ (parseMethodDescriptor yX6_atLeast1.desc).map (fun d => d.parameters.length) = some 1 := by decide +kernel
theorem dn_X6_zonesOf : yX6_zonesOf.cls ≠ "java/lang/invoke/MethodHandle" ∧ yX6_zonesOf.cls ≠ "java/lang/invoke/VarHandle" ∧ (parseMethodDescriptor yX6_zonesOf.desc).map (fun d => d.parameters.length) = some 2 := by decide +kernel
theorem dn_X6_isLatitude : yX6_isLatitude.cls ≠ "java/lang/invoke/MethodHandle" ∧ yX6_isLatitude.cls ≠ "java/lang/invoke/VarHandle" ∧ (parseMethodDescriptor yX6_isLatitude.desc).map (fun d => d.parameters.length) = some 1 := by decide +kernel
theorem dn_X6_isLongitude : yX6_isLongitude.cls ≠ "java/lang/invoke/MethodHandle" ∧ yX6_isLongitude.cls ≠ "java/lang/invoke/VarHandle" ∧ (parseMethodDescriptor yX6_isLongitude.desc).map (fun d => d.parameters.length) = some 1 := by decide +kernel
theorem dn_X6_zones : yX6_zones.cls ≠ "java/lang/invoke/MethodHandle" ∧ yX6_zones.cls ≠ "java/lang/invoke/VarHandle" ∧ (parseMethodDescriptor yX6_zones.desc).map (fun d => d.parameters.length) = some 1 := by decide +kernel
theorem dn_X6_parts : yX6_parts.cls ≠ "java/lang/invoke/MethodHandle" ∧ yX6_parts.cls ≠ "java/lang/invoke/VarHandle" ∧ (parseMethodDescriptor yX6_parts.desc).map (fun d => d.parameters.length) = some 2 := by decide +kernel
theorem dn_X6_encode : yX6_encode.cls ≠ "java/lang/invoke/MethodHandle" ∧ yX6_encode.cls ≠ "java/lang/invoke/VarHandle" ∧ (parseMethodDescriptor yX6_encode.desc).map (fun d => d.parameters.length) = some 4 := by decide +kernel
theorem dn_X6_isTold : yX6_isTold.cls ≠ "java/lang/invoke/MethodHandle" ∧ yX6_isTold.cls ≠ "java/lang/invoke/VarHandle" ∧ (parseMethodDescriptor yX6_isTold.desc).map (fun d => d.parameters.length) = some 1 := by decide +kernel
theorem dn_X6_both : yX6_both.cls ≠ "java/lang/invoke/MethodHandle" ∧ yX6_both.cls ≠ "java/lang/invoke/VarHandle" ∧ (parseMethodDescriptor yX6_both.desc).map (fun d => d.parameters.length) = some 2 := by decide +kernel
theorem dn_X6_globalOf : yX6_globalOf.cls ≠ "java/lang/invoke/MethodHandle" ∧ yX6_globalOf.cls ≠ "java/lang/invoke/VarHandle" ∧ (parseMethodDescriptor yX6_globalOf.desc).map (fun d => d.parameters.length) = some 3 := by decide +kernel
theorem dn_X6_global : yX6_global.cls ≠ "java/lang/invoke/MethodHandle" ∧ yX6_global.cls ≠ "java/lang/invoke/VarHandle" ∧ (parseMethodDescriptor yX6_global.desc).map (fun d => d.parameters.length) = some 3 := by decide +kernel
theorem dn_X6_nearest : yX6_nearest.cls ≠ "java/lang/invoke/MethodHandle" ∧ yX6_nearest.cls ≠ "java/lang/invoke/VarHandle" ∧ (parseMethodDescriptor yX6_nearest.desc).map (fun d => d.parameters.length) = some 4 := by decide +kernel
theorem dn_X6_localOf : yX6_localOf.cls ≠ "java/lang/invoke/MethodHandle" ∧ yX6_localOf.cls ≠ "java/lang/invoke/VarHandle" ∧ (parseMethodDescriptor yX6_localOf.desc).map (fun d => d.parameters.length) = some 5 := by decide +kernel
theorem dn_X6_local : yX6_local.cls ≠ "java/lang/invoke/MethodHandle" ∧ yX6_local.cls ≠ "java/lang/invoke/VarHandle" ∧ (parseMethodDescriptor yX6_local.desc).map (fun d => d.parameters.length) = some 5 := by decide +kernel
theorem dn_X6_place : yX6_place.cls ≠ "java/lang/invoke/MethodHandle" ∧ yX6_place.cls ≠ "java/lang/invoke/VarHandle" ∧ (parseMethodDescriptor yX6_place.desc).map (fun d => d.parameters.length) = some 2 := by decide +kernel
theorem dn_X6_isKnown : yX6_isKnown.cls ≠ "java/lang/invoke/MethodHandle" ∧ yX6_isKnown.cls ≠ "java/lang/invoke/VarHandle" ∧ (parseMethodDescriptor yX6_isKnown.desc).map (fun d => d.parameters.length) = some 1 := by decide +kernel
theorem dn_X6_isSquitter : yX6_isSquitter.cls ≠ "java/lang/invoke/MethodHandle" ∧ yX6_isSquitter.cls ≠ "java/lang/invoke/VarHandle" ∧ (parseMethodDescriptor yX6_isSquitter.desc).map (fun d => d.parameters.length) = some 1 := by decide +kernel
theorem dn_X6_at : yX6_at.cls ≠ "java/lang/invoke/MethodHandle" ∧ yX6_at.cls ≠ "java/lang/invoke/VarHandle" ∧ (parseMethodDescriptor yX6_at.desc).map (fun d => d.parameters.length) = some 2 := by decide +kernel
theorem dn_X6_ages : yX6_ages.cls ≠ "java/lang/invoke/MethodHandle" ∧ yX6_ages.cls ≠ "java/lang/invoke/VarHandle" ∧ (parseMethodDescriptor yX6_ages.desc).map (fun d => d.parameters.length) = some 1 := by decide +kernel
theorem dn_X6_find : yX6_find.cls ≠ "java/lang/invoke/MethodHandle" ∧ yX6_find.cls ≠ "java/lang/invoke/VarHandle" ∧ (parseMethodDescriptor yX6_find.desc).map (fun d => d.parameters.length) = some 1 := by decide +kernel
theorem dn_X6_hear : yX6_hear.cls ≠ "java/lang/invoke/MethodHandle" ∧ yX6_hear.cls ≠ "java/lang/invoke/VarHandle" ∧ (parseMethodDescriptor yX6_hear.desc).map (fun d => d.parameters.length) = some 5 := by decide +kernel
theorem dn_X6_tells : yX6_tells.cls ≠ "java/lang/invoke/MethodHandle" ∧ yX6_tells.cls ≠ "java/lang/invoke/VarHandle" ∧ (parseMethodDescriptor yX6_tells.desc).map (fun d => d.parameters.length) = some 2 := by decide +kernel
theorem dn_X6_moves : yX6_moves.cls ≠ "java/lang/invoke/MethodHandle" ∧ yX6_moves.cls ≠ "java/lang/invoke/VarHandle" ∧ (parseMethodDescriptor yX6_moves.desc).map (fun d => d.parameters.length) = some 2 := by decide +kernel
theorem dn_X6_isFresh : yX6_isFresh.cls ≠ "java/lang/invoke/MethodHandle" ∧ yX6_isFresh.cls ≠ "java/lang/invoke/VarHandle" ∧ (parseMethodDescriptor yX6_isFresh.desc).map (fun d => d.parameters.length) = some 2 := by decide +kernel
theorem dn_X6_toldNow : yX6_toldNow.cls ≠ "java/lang/invoke/MethodHandle" ∧ yX6_toldNow.cls ≠ "java/lang/invoke/VarHandle" ∧ (parseMethodDescriptor yX6_toldNow.desc).map (fun d => d.parameters.length) = some 0 := by decide +kernel
theorem dn_X6_comes : yX6_comes.cls ≠ "java/lang/invoke/MethodHandle" ∧ yX6_comes.cls ≠ "java/lang/invoke/VarHandle" ∧ (parseMethodDescriptor yX6_comes.desc).map (fun d => d.parameters.length) = some 3 := by decide +kernel
theorem dn_X6_onGround : yX6_onGround.cls ≠ "java/lang/invoke/MethodHandle" ∧ yX6_onGround.cls ≠ "java/lang/invoke/VarHandle" ∧ (parseMethodDescriptor yX6_onGround.desc).map (fun d => d.parameters.length) = some 2 := by decide +kernel
theorem dn_X6_inAir : yX6_inAir.cls ≠ "java/lang/invoke/MethodHandle" ∧ yX6_inAir.cls ≠ "java/lang/invoke/VarHandle" ∧ (parseMethodDescriptor yX6_inAir.desc).map (fun d => d.parameters.length) = some 2 := by decide +kernel
theorem dn_X6_field : yX6_field.cls ≠ "java/lang/invoke/MethodHandle" ∧ yX6_field.cls ≠ "java/lang/invoke/VarHandle" ∧ (parseMethodDescriptor yX6_field.desc).map (fun d => d.parameters.length) = some 1 := by decide +kernel
theorem dn_X6_bits : yX6_bits.cls ≠ "java/lang/invoke/MethodHandle" ∧ yX6_bits.cls ≠ "java/lang/invoke/VarHandle" ∧ (parseMethodDescriptor yX6_bits.desc).map (fun d => d.parameters.length) = some 2 := by decide +kernel
theorem dn_X6_crafts : yX6_crafts.cls ≠ "java/lang/invoke/MethodHandle" ∧ yX6_crafts.cls ≠ "java/lang/invoke/VarHandle" ∧ (parseMethodDescriptor yX6_crafts.desc).map (fun d => d.parameters.length) = some 0 := by decide +kernel
theorem dn_X6_isCraft : yX6_isCraft.cls ≠ "java/lang/invoke/MethodHandle" ∧ yX6_isCraft.cls ≠ "java/lang/invoke/VarHandle" ∧ (parseMethodDescriptor yX6_isCraft.desc).map (fun d => d.parameters.length) = some 1 := by decide +kernel
theorem dn_X6_craft : yX6_craft.cls ≠ "java/lang/invoke/MethodHandle" ∧ yX6_craft.cls ≠ "java/lang/invoke/VarHandle" ∧ (parseMethodDescriptor yX6_craft.desc).map (fun d => d.parameters.length) = some 2 := by decide +kernel
theorem dn_X6_sign : yX6_sign.cls ≠ "java/lang/invoke/MethodHandle" ∧ yX6_sign.cls ≠ "java/lang/invoke/VarHandle" ∧ (parseMethodDescriptor yX6_sign.desc).map (fun d => d.parameters.length) = some 2 := by decide +kernel
theorem dn_J9_floorDiv_f86c9 : yJ9_floorDiv_f86c9.cls ≠ "java/lang/invoke/MethodHandle" ∧ yJ9_floorDiv_f86c9.cls ≠ "java/lang/invoke/VarHandle" ∧ (parseMethodDescriptor yJ9_floorDiv_f86c9.desc).map (fun d => d.parameters.length) = some 2 := by decide +kernel
theorem dn_J9_floorMod_f86c9 : yJ9_floorMod_f86c9.cls ≠ "java/lang/invoke/MethodHandle" ∧ yJ9_floorMod_f86c9.cls ≠ "java/lang/invoke/VarHandle" ∧ (parseMethodDescriptor yJ9_floorMod_f86c9.desc).map (fun d => d.parameters.length) = some 2 := by decide +kernel
theorem dn_J9_abs_067f4 : yJ9_abs_067f4.cls ≠ "java/lang/invoke/MethodHandle" ∧ yJ9_abs_067f4.cls ≠ "java/lang/invoke/VarHandle" ∧ (parseMethodDescriptor yJ9_abs_067f4.desc).map (fun d => d.parameters.length) = some 1 := by decide +kernel
theorem dn_J9_max_7cf53 : yJ9_max_7cf53.cls ≠ "java/lang/invoke/MethodHandle" ∧ yJ9_max_7cf53.cls ≠ "java/lang/invoke/VarHandle" ∧ (parseMethodDescriptor yJ9_max_7cf53.desc).map (fun d => d.parameters.length) = some 2 := by decide +kernel
theorem dn_J7_fill_d0a16 : yJ7_fill_d0a16.cls ≠ "java/lang/invoke/MethodHandle" ∧ yJ7_fill_d0a16.cls ≠ "java/lang/invoke/VarHandle" ∧ (parseMethodDescriptor yJ7_fill_d0a16.desc).map (fun d => d.parameters.length) = some 2 := by decide +kernel
theorem dn_J7_fill_53178 : yJ7_fill_53178.cls ≠ "java/lang/invoke/MethodHandle" ∧ yJ7_fill_53178.cls ≠ "java/lang/invoke/VarHandle" ∧ (parseMethodDescriptor yJ7_fill_53178.desc).map (fun d => d.parameters.length) = some 2 := by decide +kernel
