/-! decoded instructions -/
theorem dX0_init_0 : decode cX0_init 0 = .ok (.aload_n 0, 1) := by decide +kernel
theorem dX0_init_1 : decode cX0_init 1 = .ok (.invokespecial 3, 3) := by decide +kernel
theorem dX0_init_4 : decode cX0_init 4 = .ok (.aload_n 0, 1) := by decide +kernel
theorem dX0_init_5 : decode cX0_init 5 = .ok (.bipush 20, 2) := by decide +kernel
theorem dX0_init_7 : decode cX0_init 7 = .ok (.anewarray 11, 3) := by decide +kernel
theorem dX0_init_10 : decode cX0_init 10 = .ok (.putfield 13, 3) := by decide +kernel
theorem dX0_init_13 : decode cX0_init 13 = .ok (.iconst 0, 1) := by decide +kernel
theorem dX0_init_14 : decode cX0_init 14 = .ok (.istore_n 1, 1) := by decide +kernel
theorem dX0_init_15 : decode cX0_init 15 = .ok (.iload_n 1, 1) := by decide +kernel
theorem dX0_init_16 : decode cX0_init 16 = .ok (.aload_n 0, 1) := by decide +kernel
theorem dX0_init_17 : decode cX0_init 17 = .ok (.getfield 13, 3) := by decide +kernel
theorem dX0_init_20 : decode cX0_init 20 = .ok (.arraylength, 1) := by decide +kernel
theorem dX0_init_21 : decode cX0_init 21 = .ok (.if_icmp .ge 22, 3) := by decide +kernel
theorem dX0_init_24 : decode cX0_init 24 = .ok (.aload_n 0, 1) := by decide +kernel
theorem dX0_init_25 : decode cX0_init 25 = .ok (.getfield 13, 3) := by decide +kernel
theorem dX0_init_28 : decode cX0_init 28 = .ok (.iload_n 1, 1) := by decide +kernel
theorem dX0_init_29 : decode cX0_init 29 = .ok (.new 11, 3) := by decide +kernel
theorem dX0_init_32 : decode cX0_init 32 = .ok (.dup, 1) := by decide +kernel
theorem dX0_init_33 : decode cX0_init 33 = .ok (.invokespecial 17, 3) := by decide +kernel
theorem dX0_init_36 : decode cX0_init 36 = .ok (.aastore, 1) := by decide +kernel
theorem dX0_init_37 : decode cX0_init 37 = .ok (.iinc 1 1, 3) := by decide +kernel
theorem dX0_init_40 : decode cX0_init 40 = .ok (.goto (-25), 3) := by decide +kernel
theorem dX0_init_43 : decode cX0_init 43 = .ok (.aload_n 0, 1) := by decide +kernel
theorem dX0_init_44 : decode cX0_init 44 = .ok (.iconst 0, 1) := by decide +kernel
theorem dX0_init_45 : decode cX0_init 45 = .ok (.putfield 18, 3) := by decide +kernel
theorem dX0_init_48 : decode cX0_init 48 = .ok (.return_, 1) := by decide +kernel
theorem dX0_size_0 : decode cX0_size 0 = .ok (.aload_n 0, 1) := by decide +kernel
theorem dX0_size_1 : decode cX0_size 1 = .ok (.getfield 18, 3) := by decide +kernel
theorem dX0_size_4 : decode cX0_size 4 = .ok (.ireturn, 1) := by decide +kernel
theorem dX0_at_0 : decode cX0_at 0 = .ok (.iload_n 1, 1) := by decide +kernel
theorem dX0_at_1 : decode cX0_at 1 = .ok (.ifCond .lt 20, 3) := by decide +kernel
theorem dX0_at_4 : decode cX0_at 4 = .ok (.iload_n 1, 1) := by decide +kernel
theorem dX0_at_5 : decode cX0_at 5 = .ok (.aload_n 0, 1) := by decide +kernel
theorem dX0_at_6 : decode cX0_at 6 = .ok (.getfield 18, 3) := by decide +kernel
theorem dX0_at_9 : decode cX0_at 9 = .ok (.if_icmp .ge 12, 3) := by decide +kernel
theorem dX0_at_12 : decode cX0_at 12 = .ok (.iload_n 1, 1) := by decide +kernel
theorem dX0_at_13 : decode cX0_at 13 = .ok (.aload_n 0, 1) := by decide +kernel
theorem dX0_at_14 : decode cX0_at 14 = .ok (.getfield 13, 3) := by decide +kernel
theorem dX0_at_17 : decode cX0_at 17 = .ok (.arraylength, 1) := by decide +kernel
theorem dX0_at_18 : decode cX0_at 18 = .ok (.if_icmp .lt 7, 3) := by decide +kernel
theorem dX0_at_21 : decode cX0_at 21 = .ok (.aconst_null, 1) := by decide +kernel
theorem dX0_at_22 : decode cX0_at 22 = .ok (.goto 9, 3) := by decide +kernel
theorem dX0_at_25 : decode cX0_at 25 = .ok (.aload_n 0, 1) := by decide +kernel
theorem dX0_at_26 : decode cX0_at 26 = .ok (.getfield 13, 3) := by decide +kernel
theorem dX0_at_29 : decode cX0_at 29 = .ok (.iload_n 1, 1) := by decide +kernel
theorem dX0_at_30 : decode cX0_at 30 = .ok (.aaload, 1) := by decide +kernel
theorem dX0_at_31 : decode cX0_at 31 = .ok (.areturn, 1) := by decide +kernel
theorem dX0_indexOf_0 : decode cX0_indexOf 0 = .ok (.iconst 0, 1) := by decide +kernel
theorem dX0_indexOf_1 : decode cX0_indexOf 1 = .ok (.istore_n 2, 1) := by decide +kernel
theorem dX0_indexOf_2 : decode cX0_indexOf 2 = .ok (.iload_n 2, 1) := by decide +kernel
theorem dX0_indexOf_3 : decode cX0_indexOf 3 = .ok (.aload_n 0, 1) := by decide +kernel
theorem dX0_indexOf_4 : decode cX0_indexOf 4 = .ok (.getfield 18, 3) := by decide +kernel
theorem dX0_indexOf_7 : decode cX0_indexOf 7 = .ok (.if_icmp .ge 34, 3) := by decide +kernel
theorem dX0_indexOf_10 : decode cX0_indexOf 10 = .ok (.iload_n 2, 1) := by decide +kernel
theorem dX0_indexOf_11 : decode cX0_indexOf 11 = .ok (.aload_n 0, 1) := by decide +kernel
theorem dX0_indexOf_12 : decode cX0_indexOf 12 = .ok (.getfield 13, 3) := by decide +kernel
theorem dX0_indexOf_15 : decode cX0_indexOf 15 = .ok (.arraylength, 1) := by decide +kernel
theorem dX0_indexOf_16 : decode cX0_indexOf 16 = .ok (.if_icmp .ge 25, 3) := by decide +kernel
theorem dX0_indexOf_19 : decode cX0_indexOf 19 = .ok (.aload_n 0, 1) := by decide +kernel
theorem dX0_indexOf_20 : decode cX0_indexOf 20 = .ok (.getfield 13, 3) := by decide +kernel
theorem dX0_indexOf_23 : decode cX0_indexOf 23 = .ok (.iload_n 2, 1) := by decide +kernel
theorem dX0_indexOf_24 : decode cX0_indexOf 24 = .ok (.aaload, 1) := by decide +kernel
theorem dX0_indexOf_25 : decode cX0_indexOf 25 = .ok (.iconst 0, 1) := by decide +kernel
theorem dX0_indexOf_26 : decode cX0_indexOf 26 = .ok (.invokevirtual 22, 3) := by decide +kernel
theorem dX0_indexOf_29 : decode cX0_indexOf 29 = .ok (.iload_n 1, 1) := by decide +kernel
theorem dX0_indexOf_30 : decode cX0_indexOf 30 = .ok (.if_icmp .ne 5, 3) := by decide +kernel
theorem dX0_indexOf_33 : decode cX0_indexOf 33 = .ok (.iload_n 2, 1) := by decide +kernel
theorem dX0_indexOf_34 : decode cX0_indexOf 34 = .ok (.ireturn, 1) := by decide +kernel
theorem dX0_indexOf_35 : decode cX0_indexOf 35 = .ok (.iinc 2 1, 3) := by decide +kernel
theorem dX0_indexOf_38 : decode cX0_indexOf 38 = .ok (.goto (-36), 3) := by decide +kernel
theorem dX0_indexOf_41 : decode cX0_indexOf 41 = .ok (.iconst (-1), 1) := by decide +kernel
theorem dX0_indexOf_42 : decode cX0_indexOf 42 = .ok (.ireturn, 1) := by decide +kernel
theorem dX0_open_0 : decode cX0_open 0 = .ok (.aload_n 0, 1) := by decide +kernel
theorem dX0_open_1 : decode cX0_open 1 = .ok (.getfield 18, 3) := by decide +kernel
theorem dX0_open_4 : decode cX0_open 4 = .ok (.aload_n 0, 1) := by decide +kernel
theorem dX0_open_5 : decode cX0_open 5 = .ok (.getfield 13, 3) := by decide +kernel
theorem dX0_open_8 : decode cX0_open 8 = .ok (.arraylength, 1) := by decide +kernel
theorem dX0_open_9 : decode cX0_open 9 = .ok (.if_icmp .lt 5, 3) := by decide +kernel
theorem dX0_open_12 : decode cX0_open 12 = .ok (.aconst_null, 1) := by decide +kernel
theorem dX0_open_13 : decode cX0_open 13 = .ok (.areturn, 1) := by decide +kernel
theorem dX0_open_14 : decode cX0_open 14 = .ok (.aload_n 0, 1) := by decide +kernel
theorem dX0_open_15 : decode cX0_open 15 = .ok (.getfield 13, 3) := by decide +kernel
theorem dX0_open_18 : decode cX0_open 18 = .ok (.aload_n 0, 1) := by decide +kernel
theorem dX0_open_19 : decode cX0_open 19 = .ok (.getfield 18, 3) := by decide +kernel
theorem dX0_open_22 : decode cX0_open 22 = .ok (.aaload, 1) := by decide +kernel
theorem dX0_open_23 : decode cX0_open 23 = .ok (.astore_n 2, 1) := by decide +kernel
theorem dX0_open_24 : decode cX0_open 24 = .ok (.aload_n 2, 1) := by decide +kernel
theorem dX0_open_25 : decode cX0_open 25 = .ok (.iload_n 1, 1) := by decide +kernel
theorem dX0_open_26 : decode cX0_open 26 = .ok (.invokevirtual 26, 3) := by decide +kernel
theorem dX0_open_29 : decode cX0_open 29 = .ok (.aload_n 0, 1) := by decide +kernel
theorem dX0_open_30 : decode cX0_open 30 = .ok (.dup, 1) := by decide +kernel
theorem dX0_open_31 : decode cX0_open 31 = .ok (.getfield 18, 3) := by decide +kernel
theorem dX0_open_34 : decode cX0_open 34 = .ok (.iconst 1, 1) := by decide +kernel
theorem dX0_open_35 : decode cX0_open 35 = .ok (.iadd, 1) := by decide +kernel
theorem dX0_open_36 : decode cX0_open 36 = .ok (.putfield 18, 3) := by decide +kernel
theorem dX0_open_39 : decode cX0_open 39 = .ok (.aload_n 2, 1) := by decide +kernel
theorem dX0_open_40 : decode cX0_open 40 = .ok (.areturn, 1) := by decide +kernel
theorem dX0_forgetSilent_0 : decode cX0_forgetSilent 0 = .ok (.iconst 0, 1) := by decide +kernel
theorem dX0_forgetSilent_1 : decode cX0_forgetSilent 1 = .ok (.istore_n 2, 1) := by decide +kernel
theorem dX0_forgetSilent_2 : decode cX0_forgetSilent 2 = .ok (.iconst 0, 1) := by decide +kernel
theorem dX0_forgetSilent_3 : decode cX0_forgetSilent 3 = .ok (.istore_n 3, 1) := by decide +kernel
theorem dX0_forgetSilent_4 : decode cX0_forgetSilent 4 = .ok (.iload_n 3, 1) := by decide +kernel
theorem dX0_forgetSilent_5 : decode cX0_forgetSilent 5 = .ok (.aload_n 0, 1) := by decide +kernel
theorem dX0_forgetSilent_6 : decode cX0_forgetSilent 6 = .ok (.getfield 18, 3) := by decide +kernel
theorem dX0_forgetSilent_9 : decode cX0_forgetSilent 9 = .ok (.if_icmp .ge 63, 3) := by decide +kernel
theorem dX0_forgetSilent_12 : decode cX0_forgetSilent 12 = .ok (.iload_n 3, 1) := by decide +kernel
theorem dX0_forgetSilent_13 : decode cX0_forgetSilent 13 = .ok (.aload_n 0, 1) := by decide +kernel
theorem dX0_forgetSilent_14 : decode cX0_forgetSilent 14 = .ok (.getfield 13, 3) := by decide +kernel
theorem dX0_forgetSilent_17 : decode cX0_forgetSilent 17 = .ok (.arraylength, 1) := by decide +kernel
theorem dX0_forgetSilent_18 : decode cX0_forgetSilent 18 = .ok (.if_icmp .ge 54, 3) := by decide +kernel
theorem dX0_forgetSilent_21 : decode cX0_forgetSilent 21 = .ok (.aload_n 0, 1) := by decide +kernel
theorem dX0_forgetSilent_22 : decode cX0_forgetSilent 22 = .ok (.getfield 13, 3) := by decide +kernel
theorem dX0_forgetSilent_25 : decode cX0_forgetSilent 25 = .ok (.iload_n 3, 1) := by decide +kernel
theorem dX0_forgetSilent_26 : decode cX0_forgetSilent 26 = .ok (.aaload, 1) := by decide +kernel
theorem dX0_forgetSilent_27 : decode cX0_forgetSilent 27 = .ok (.astore 4, 2) := by decide +kernel
theorem dX0_forgetSilent_29 : decode cX0_forgetSilent 29 = .ok (.iload_n 1, 1) := by decide +kernel
theorem dX0_forgetSilent_30 : decode cX0_forgetSilent 30 = .ok (.aload 4, 2) := by decide +kernel
theorem dX0_forgetSilent_32 : decode cX0_forgetSilent 32 = .ok (.iconst 1, 1) := by decide +kernel
theorem dX0_forgetSilent_33 : decode cX0_forgetSilent 33 = .ok (.invokevirtual 22, 3) := by decide +kernel
theorem dX0_forgetSilent_36 : decode cX0_forgetSilent 36 = .ok (.isub, 1) := by decide +kernel
theorem dX0_forgetSilent_37 : decode cX0_forgetSilent 37 = .ok (.sipush 600, 3) := by decide +kernel
theorem dX0_forgetSilent_40 : decode cX0_forgetSilent 40 = .ok (.if_icmp .gt 26, 3) := by decide +kernel
theorem dX0_forgetSilent_43 : decode cX0_forgetSilent 43 = .ok (.aload_n 0, 1) := by decide +kernel
theorem dX0_forgetSilent_44 : decode cX0_forgetSilent 44 = .ok (.getfield 13, 3) := by decide +kernel
theorem dX0_forgetSilent_47 : decode cX0_forgetSilent 47 = .ok (.iload_n 3, 1) := by decide +kernel
theorem dX0_forgetSilent_48 : decode cX0_forgetSilent 48 = .ok (.aload_n 0, 1) := by decide +kernel
theorem dX0_forgetSilent_49 : decode cX0_forgetSilent 49 = .ok (.getfield 13, 3) := by decide +kernel
theorem dX0_forgetSilent_52 : decode cX0_forgetSilent 52 = .ok (.iload_n 2, 1) := by decide +kernel
theorem dX0_forgetSilent_53 : decode cX0_forgetSilent 53 = .ok (.aaload, 1) := by decide +kernel
theorem dX0_forgetSilent_54 : decode cX0_forgetSilent 54 = .ok (.aastore, 1) := by decide +kernel
theorem dX0_forgetSilent_55 : decode cX0_forgetSilent 55 = .ok (.aload_n 0, 1) := by decide +kernel
theorem dX0_forgetSilent_56 : decode cX0_forgetSilent 56 = .ok (.getfield 13, 3) := by decide +kernel
theorem dX0_forgetSilent_59 : decode cX0_forgetSilent 59 = .ok (.iload_n 2, 1) := by decide +kernel
theorem dX0_forgetSilent_60 : decode cX0_forgetSilent 60 = .ok (.aload 4, 2) := by decide +kernel
theorem dX0_forgetSilent_62 : decode cX0_forgetSilent 62 = .ok (.aastore, 1) := by decide +kernel
theorem dX0_forgetSilent_63 : decode cX0_forgetSilent 63 = .ok (.iinc 2 1, 3) := by decide +kernel
theorem dX0_forgetSilent_66 : decode cX0_forgetSilent 66 = .ok (.iinc 3 1, 3) := by decide +kernel
theorem dX0_forgetSilent_69 : decode cX0_forgetSilent 69 = .ok (.goto (-65), 3) := by decide +kernel
theorem dX0_forgetSilent_72 : decode cX0_forgetSilent 72 = .ok (.aload_n 0, 1) := by decide +kernel
theorem dX0_forgetSilent_73 : decode cX0_forgetSilent 73 = .ok (.iload_n 2, 1) := by decide +kernel
theorem dX0_forgetSilent_74 : decode cX0_forgetSilent 74 = .ok (.putfield 18, 3) := by decide +kernel
theorem dX0_forgetSilent_77 : decode cX0_forgetSilent 77 = .ok (.return_, 1) := by decide +kernel
theorem dX1_altitude_0 : decode cX1_altitude 0 = .ok (.iload_n 0, 1) := by decide +kernel
theorem dX1_altitude_1 : decode cX1_altitude 1 = .ok (.ifCond .eq 10, 3) := by decide +kernel
theorem dX1_altitude_4 : decode cX1_altitude 4 = .ok (.iload_n 0, 1) := by decide +kernel
theorem dX1_altitude_5 : decode cX1_altitude 5 = .ok (.bipush 64, 2) := by decide +kernel
theorem dX1_altitude_7 : decode cX1_altitude 7 = .ok (.iand, 1) := by decide +kernel
theorem dX1_altitude_8 : decode cX1_altitude 8 = .ok (.ifCond .eq 6, 3) := by decide +kernel
theorem dX1_altitude_11 : decode cX1_altitude 11 = .ok (.ldc 11, 2) := by decide +kernel
theorem dX1_altitude_13 : decode cX1_altitude 13 = .ok (.ireturn, 1) := by decide +kernel
theorem dX1_altitude_14 : decode cX1_altitude 14 = .ok (.iload_n 0, 1) := by decide +kernel
theorem dX1_altitude_15 : decode cX1_altitude 15 = .ok (.bipush 16, 2) := by decide +kernel
theorem dX1_altitude_17 : decode cX1_altitude 17 = .ok (.iand, 1) := by decide +kernel
theorem dX1_altitude_18 : decode cX1_altitude 18 = .ok (.ifCond .eq 30, 3) := by decide +kernel
theorem dX1_altitude_21 : decode cX1_altitude 21 = .ok (.bipush 25, 2) := by decide +kernel
theorem dX1_altitude_23 : decode cX1_altitude 23 = .ok (.iload_n 0, 1) := by decide +kernel
theorem dX1_altitude_24 : decode cX1_altitude 24 = .ok (.iconst 2, 1) := by decide +kernel
theorem dX1_altitude_25 : decode cX1_altitude 25 = .ok (.ishr, 1) := by decide +kernel
theorem dX1_altitude_26 : decode cX1_altitude 26 = .ok (.sipush 2016, 3) := by decide +kernel
theorem dX1_altitude_29 : decode cX1_altitude 29 = .ok (.iand, 1) := by decide +kernel
theorem dX1_altitude_30 : decode cX1_altitude 30 = .ok (.iload_n 0, 1) := by decide +kernel
theorem dX1_altitude_31 : decode cX1_altitude 31 = .ok (.iconst 1, 1) := by decide +kernel
theorem dX1_altitude_32 : decode cX1_altitude 32 = .ok (.ishr, 1) := by decide +kernel
theorem dX1_altitude_33 : decode cX1_altitude 33 = .ok (.bipush 16, 2) := by decide +kernel
theorem dX1_altitude_35 : decode cX1_altitude 35 = .ok (.iand, 1) := by decide +kernel
theorem dX1_altitude_36 : decode cX1_altitude 36 = .ok (.ior, 1) := by decide +kernel
theorem dX1_altitude_37 : decode cX1_altitude 37 = .ok (.iload_n 0, 1) := by decide +kernel
theorem dX1_altitude_38 : decode cX1_altitude 38 = .ok (.bipush 15, 2) := by decide +kernel
theorem dX1_altitude_40 : decode cX1_altitude 40 = .ok (.iand, 1) := by decide +kernel
theorem dX1_altitude_41 : decode cX1_altitude 41 = .ok (.ior, 1) := by decide +kernel
theorem dX1_altitude_42 : decode cX1_altitude 42 = .ok (.imul, 1) := by decide +kernel
theorem dX1_altitude_43 : decode cX1_altitude 43 = .ok (.sipush 1000, 3) := by decide +kernel
theorem dX1_altitude_46 : decode cX1_altitude 46 = .ok (.isub, 1) := by decide +kernel
theorem dX1_altitude_47 : decode cX1_altitude 47 = .ok (.ireturn, 1) := by decide +kernel
theorem dX1_altitude_48 : decode cX1_altitude 48 = .ok (.iload_n 0, 1) := by decide +kernel
theorem dX1_altitude_49 : decode cX1_altitude 49 = .ok (.invokestatic 12, 3) := by decide +kernel
theorem dX1_altitude_52 : decode cX1_altitude 52 = .ok (.ireturn, 1) := by decide +kernel
theorem dX1_withM_0 : decode cX1_withM 0 = .ok (.iload_n 0, 1) := by decide +kernel
theorem dX1_withM_1 : decode cX1_withM 1 = .ok (.sipush 4032, 3) := by decide +kernel
theorem dX1_withM_4 : decode cX1_withM 4 = .ok (.iand, 1) := by decide +kernel
theorem dX1_withM_5 : decode cX1_withM 5 = .ok (.iconst 1, 1) := by decide +kernel
theorem dX1_withM_6 : decode cX1_withM 6 = .ok (.ishl, 1) := by decide +kernel
theorem dX1_withM_7 : decode cX1_withM 7 = .ok (.iload_n 0, 1) := by decide +kernel
theorem dX1_withM_8 : decode cX1_withM 8 = .ok (.bipush 63, 2) := by decide +kernel
theorem dX1_withM_10 : decode cX1_withM 10 = .ok (.iand, 1) := by decide +kernel
theorem dX1_withM_11 : decode cX1_withM 11 = .ok (.ior, 1) := by decide +kernel
theorem dX1_withM_12 : decode cX1_withM 12 = .ok (.ireturn, 1) := by decide +kernel
theorem dX1_altitudeOfGray_0 : decode cX1_altitudeOfGray 0 = .ok (.iload_n 0, 1) := by decide +kernel
theorem dX1_altitudeOfGray_1 : decode cX1_altitudeOfGray 1 = .ok (.iconst 2, 1) := by decide +kernel
theorem dX1_altitudeOfGray_2 : decode cX1_altitudeOfGray 2 = .ok (.ishr, 1) := by decide +kernel
theorem dX1_altitudeOfGray_3 : decode cX1_altitudeOfGray 3 = .ok (.iconst 1, 1) := by decide +kernel
theorem dX1_altitudeOfGray_4 : decode cX1_altitudeOfGray 4 = .ok (.iand, 1) := by decide +kernel
theorem dX1_altitudeOfGray_5 : decode cX1_altitudeOfGray 5 = .ok (.iconst 1, 1) := by decide +kernel
theorem dX1_altitudeOfGray_6 : decode cX1_altitudeOfGray 6 = .ok (.ishl, 1) := by decide +kernel
theorem dX1_altitudeOfGray_7 : decode cX1_altitudeOfGray 7 = .ok (.iload_n 0, 1) := by decide +kernel
theorem dX1_altitudeOfGray_8 : decode cX1_altitudeOfGray 8 = .ok (.iconst 1, 1) := by decide +kernel
theorem dX1_altitudeOfGray_9 : decode cX1_altitudeOfGray 9 = .ok (.iand, 1) := by decide +kernel
theorem dX1_altitudeOfGray_10 : decode cX1_altitudeOfGray 10 = .ok (.ior, 1) := by decide +kernel
theorem dX1_altitudeOfGray_11 : decode cX1_altitudeOfGray 11 = .ok (.istore_n 1, 1) := by decide +kernel
theorem dX1_altitudeOfGray_12 : decode cX1_altitudeOfGray 12 = .ok (.iload_n 1, 1) := by decide +kernel
theorem dX1_altitudeOfGray_13 : decode cX1_altitudeOfGray 13 = .ok (.bipush 6, 2) := by decide +kernel
theorem dX1_altitudeOfGray_15 : decode cX1_altitudeOfGray 15 = .ok (.ishl, 1) := by decide +kernel
theorem dX1_altitudeOfGray_16 : decode cX1_altitudeOfGray 16 = .ok (.iload_n 0, 1) := by decide +kernel
theorem dX1_altitudeOfGray_17 : decode cX1_altitudeOfGray 17 = .ok (.bipush 11, 2) := by decide +kernel
theorem dX1_altitudeOfGray_19 : decode cX1_altitudeOfGray 19 = .ok (.bipush 9, 2) := by decide +kernel
theorem dX1_altitudeOfGray_21 : decode cX1_altitudeOfGray 21 = .ok (.bipush 7, 2) := by decide +kernel
theorem dX1_altitudeOfGray_23 : decode cX1_altitudeOfGray 23 = .ok (.invokestatic 16, 3) := by decide +kernel
theorem dX1_altitudeOfGray_26 : decode cX1_altitudeOfGray 26 = .ok (.iconst 3, 1) := by decide +kernel
theorem dX1_altitudeOfGray_27 : decode cX1_altitudeOfGray 27 = .ok (.ishl, 1) := by decide +kernel
theorem dX1_altitudeOfGray_28 : decode cX1_altitudeOfGray 28 = .ok (.ior, 1) := by decide +kernel
theorem dX1_altitudeOfGray_29 : decode cX1_altitudeOfGray 29 = .ok (.iload_n 0, 1) := by decide +kernel
theorem dX1_altitudeOfGray_30 : decode cX1_altitudeOfGray 30 = .ok (.iconst 5, 1) := by decide +kernel
theorem dX1_altitudeOfGray_31 : decode cX1_altitudeOfGray 31 = .ok (.iconst 3, 1) := by decide +kernel
theorem dX1_altitudeOfGray_32 : decode cX1_altitudeOfGray 32 = .ok (.iconst 1, 1) := by decide +kernel
theorem dX1_altitudeOfGray_33 : decode cX1_altitudeOfGray 33 = .ok (.invokestatic 16, 3) := by decide +kernel
theorem dX1_altitudeOfGray_36 : decode cX1_altitudeOfGray 36 = .ok (.ior, 1) := by decide +kernel
theorem dX1_altitudeOfGray_37 : decode cX1_altitudeOfGray 37 = .ok (.invokestatic 20, 3) := by decide +kernel
theorem dX1_altitudeOfGray_40 : decode cX1_altitudeOfGray 40 = .ok (.istore_n 2, 1) := by decide +kernel
theorem dX1_altitudeOfGray_41 : decode cX1_altitudeOfGray 41 = .ok (.iload_n 0, 1) := by decide +kernel
theorem dX1_altitudeOfGray_42 : decode cX1_altitudeOfGray 42 = .ok (.bipush 12, 2) := by decide +kernel
theorem dX1_altitudeOfGray_44 : decode cX1_altitudeOfGray 44 = .ok (.bipush 10, 2) := by decide +kernel
theorem dX1_altitudeOfGray_46 : decode cX1_altitudeOfGray 46 = .ok (.bipush 8, 2) := by decide +kernel
theorem dX1_altitudeOfGray_48 : decode cX1_altitudeOfGray 48 = .ok (.invokestatic 16, 3) := by decide +kernel
theorem dX1_altitudeOfGray_51 : decode cX1_altitudeOfGray 51 = .ok (.invokestatic 20, 3) := by decide +kernel
theorem dX1_altitudeOfGray_54 : decode cX1_altitudeOfGray 54 = .ok (.istore_n 3, 1) := by decide +kernel
theorem dX1_altitudeOfGray_55 : decode cX1_altitudeOfGray 55 = .ok (.iload_n 3, 1) := by decide +kernel
theorem dX1_altitudeOfGray_56 : decode cX1_altitudeOfGray 56 = .ok (.ifCond .eq 14, 3) := by decide +kernel
theorem dX1_altitudeOfGray_59 : decode cX1_altitudeOfGray 59 = .ok (.iload_n 3, 1) := by decide +kernel
theorem dX1_altitudeOfGray_60 : decode cX1_altitudeOfGray 60 = .ok (.iconst 5, 1) := by decide +kernel
theorem dX1_altitudeOfGray_61 : decode cX1_altitudeOfGray 61 = .ok (.if_icmp .eq 9, 3) := by decide +kernel
theorem dX1_altitudeOfGray_64 : decode cX1_altitudeOfGray 64 = .ok (.iload_n 3, 1) := by decide +kernel
theorem dX1_altitudeOfGray_65 : decode cX1_altitudeOfGray 65 = .ok (.bipush 6, 2) := by decide +kernel
theorem dX1_altitudeOfGray_67 : decode cX1_altitudeOfGray 67 = .ok (.if_icmp .ne 6, 3) := by decide +kernel
theorem dX1_altitudeOfGray_70 : decode cX1_altitudeOfGray 70 = .ok (.ldc 11, 2) := by decide +kernel
theorem dX1_altitudeOfGray_72 : decode cX1_altitudeOfGray 72 = .ok (.ireturn, 1) := by decide +kernel
theorem dX1_altitudeOfGray_73 : decode cX1_altitudeOfGray 73 = .ok (.iload_n 3, 1) := by decide +kernel
theorem dX1_altitudeOfGray_74 : decode cX1_altitudeOfGray 74 = .ok (.bipush 7, 2) := by decide +kernel
theorem dX1_altitudeOfGray_76 : decode cX1_altitudeOfGray 76 = .ok (.if_icmp .ne 5, 3) := by decide +kernel
theorem dX1_altitudeOfGray_79 : decode cX1_altitudeOfGray 79 = .ok (.iconst 5, 1) := by decide +kernel
theorem dX1_altitudeOfGray_80 : decode cX1_altitudeOfGray 80 = .ok (.istore_n 3, 1) := by decide +kernel
theorem dX1_altitudeOfGray_81 : decode cX1_altitudeOfGray 81 = .ok (.iload_n 2, 1) := by decide +kernel
theorem dX1_altitudeOfGray_82 : decode cX1_altitudeOfGray 82 = .ok (.iconst 1, 1) := by decide +kernel
theorem dX1_altitudeOfGray_83 : decode cX1_altitudeOfGray 83 = .ok (.iand, 1) := by decide +kernel
theorem dX1_altitudeOfGray_84 : decode cX1_altitudeOfGray 84 = .ok (.iconst 1, 1) := by decide +kernel
theorem dX1_altitudeOfGray_85 : decode cX1_altitudeOfGray 85 = .ok (.if_icmp .ne 8, 3) := by decide +kernel
theorem dX1_altitudeOfGray_88 : decode cX1_altitudeOfGray 88 = .ok (.bipush 6, 2) := by decide +kernel
theorem dX1_altitudeOfGray_90 : decode cX1_altitudeOfGray 90 = .ok (.iload_n 3, 1) := by decide +kernel
theorem dX1_altitudeOfGray_91 : decode cX1_altitudeOfGray 91 = .ok (.isub, 1) := by decide +kernel
theorem dX1_altitudeOfGray_92 : decode cX1_altitudeOfGray 92 = .ok (.istore_n 3, 1) := by decide +kernel
theorem dX1_altitudeOfGray_93 : decode cX1_altitudeOfGray 93 = .ok (.sipush 500, 3) := by decide +kernel
theorem dX1_altitudeOfGray_96 : decode cX1_altitudeOfGray 96 = .ok (.iload_n 2, 1) := by decide +kernel
theorem dX1_altitudeOfGray_97 : decode cX1_altitudeOfGray 97 = .ok (.imul, 1) := by decide +kernel
theorem dX1_altitudeOfGray_98 : decode cX1_altitudeOfGray 98 = .ok (.bipush 100, 2) := by decide +kernel
theorem dX1_altitudeOfGray_100 : decode cX1_altitudeOfGray 100 = .ok (.iload_n 3, 1) := by decide +kernel
theorem dX1_altitudeOfGray_101 : decode cX1_altitudeOfGray 101 = .ok (.imul, 1) := by decide +kernel
theorem dX1_altitudeOfGray_102 : decode cX1_altitudeOfGray 102 = .ok (.iadd, 1) := by decide +kernel
theorem dX1_altitudeOfGray_103 : decode cX1_altitudeOfGray 103 = .ok (.sipush 1300, 3) := by decide +kernel
theorem dX1_altitudeOfGray_106 : decode cX1_altitudeOfGray 106 = .ok (.isub, 1) := by decide +kernel
theorem dX1_altitudeOfGray_107 : decode cX1_altitudeOfGray 107 = .ok (.ireturn, 1) := by decide +kernel
theorem dX1_ofGray_0 : decode cX1_ofGray 0 = .ok (.iload_n 0, 1) := by decide +kernel
theorem dX1_ofGray_1 : decode cX1_ofGray 1 = .ok (.iload_n 0, 1) := by decide +kernel
theorem dX1_ofGray_2 : decode cX1_ofGray 2 = .ok (.iconst 4, 1) := by decide +kernel
theorem dX1_ofGray_3 : decode cX1_ofGray 3 = .ok (.ishr, 1) := by decide +kernel
theorem dX1_ofGray_4 : decode cX1_ofGray 4 = .ok (.ixor, 1) := by decide +kernel
theorem dX1_ofGray_5 : decode cX1_ofGray 5 = .ok (.istore_n 1, 1) := by decide +kernel
theorem dX1_ofGray_6 : decode cX1_ofGray 6 = .ok (.iload_n 1, 1) := by decide +kernel
theorem dX1_ofGray_7 : decode cX1_ofGray 7 = .ok (.iload_n 1, 1) := by decide +kernel
theorem dX1_ofGray_8 : decode cX1_ofGray 8 = .ok (.iconst 2, 1) := by decide +kernel
theorem dX1_ofGray_9 : decode cX1_ofGray 9 = .ok (.ishr, 1) := by decide +kernel
theorem dX1_ofGray_10 : decode cX1_ofGray 10 = .ok (.ixor, 1) := by decide +kernel
theorem dX1_ofGray_11 : decode cX1_ofGray 11 = .ok (.istore_n 1, 1) := by decide +kernel
theorem dX1_ofGray_12 : decode cX1_ofGray 12 = .ok (.iload_n 1, 1) := by decide +kernel
theorem dX1_ofGray_13 : decode cX1_ofGray 13 = .ok (.iload_n 1, 1) := by decide +kernel
theorem dX1_ofGray_14 : decode cX1_ofGray 14 = .ok (.iconst 1, 1) := by decide +kernel
theorem dX1_ofGray_15 : decode cX1_ofGray 15 = .ok (.ishr, 1) := by decide +kernel
theorem dX1_ofGray_16 : decode cX1_ofGray 16 = .ok (.ixor, 1) := by decide +kernel
theorem dX1_ofGray_17 : decode cX1_ofGray 17 = .ok (.ireturn, 1) := by decide +kernel
theorem dX1_squawk_0 : decode cX1_squawk 0 = .ok (.iload_n 0, 1) := by decide +kernel
theorem dX1_squawk_1 : decode cX1_squawk 1 = .ok (.bipush 7, 2) := by decide +kernel
theorem dX1_squawk_3 : decode cX1_squawk 3 = .ok (.bipush 9, 2) := by decide +kernel
theorem dX1_squawk_5 : decode cX1_squawk 5 = .ok (.bipush 11, 2) := by decide +kernel
theorem dX1_squawk_7 : decode cX1_squawk 7 = .ok (.invokestatic 16, 3) := by decide +kernel
theorem dX1_squawk_10 : decode cX1_squawk 10 = .ok (.istore_n 1, 1) := by decide +kernel
theorem dX1_squawk_11 : decode cX1_squawk 11 = .ok (.iload_n 0, 1) := by decide +kernel
theorem dX1_squawk_12 : decode cX1_squawk 12 = .ok (.iconst 1, 1) := by decide +kernel
theorem dX1_squawk_13 : decode cX1_squawk 13 = .ok (.iconst 3, 1) := by decide +kernel
theorem dX1_squawk_14 : decode cX1_squawk 14 = .ok (.iconst 5, 1) := by decide +kernel
theorem dX1_squawk_15 : decode cX1_squawk 15 = .ok (.invokestatic 16, 3) := by decide +kernel
theorem dX1_squawk_18 : decode cX1_squawk 18 = .ok (.istore_n 2, 1) := by decide +kernel
theorem dX1_squawk_19 : decode cX1_squawk 19 = .ok (.iload_n 0, 1) := by decide +kernel
theorem dX1_squawk_20 : decode cX1_squawk 20 = .ok (.bipush 8, 2) := by decide +kernel
theorem dX1_squawk_22 : decode cX1_squawk 22 = .ok (.bipush 10, 2) := by decide +kernel
theorem dX1_squawk_24 : decode cX1_squawk 24 = .ok (.bipush 12, 2) := by decide +kernel
theorem dX1_squawk_26 : decode cX1_squawk 26 = .ok (.invokestatic 16, 3) := by decide +kernel
theorem dX1_squawk_29 : decode cX1_squawk 29 = .ok (.istore_n 3, 1) := by decide +kernel
theorem dX1_squawk_30 : decode cX1_squawk 30 = .ok (.iload_n 0, 1) := by decide +kernel
theorem dX1_squawk_31 : decode cX1_squawk 31 = .ok (.iconst 0, 1) := by decide +kernel
theorem dX1_squawk_32 : decode cX1_squawk 32 = .ok (.iconst 2, 1) := by decide +kernel
theorem dX1_squawk_33 : decode cX1_squawk 33 = .ok (.iconst 4, 1) := by decide +kernel
theorem dX1_squawk_34 : decode cX1_squawk 34 = .ok (.invokestatic 16, 3) := by decide +kernel
theorem dX1_squawk_37 : decode cX1_squawk 37 = .ok (.istore 4, 2) := by decide +kernel
theorem dX1_squawk_39 : decode cX1_squawk 39 = .ok (.sipush 1000, 3) := by decide +kernel
theorem dX1_squawk_42 : decode cX1_squawk 42 = .ok (.iload_n 1, 1) := by decide +kernel
theorem dX1_squawk_43 : decode cX1_squawk 43 = .ok (.imul, 1) := by decide +kernel
theorem dX1_squawk_44 : decode cX1_squawk 44 = .ok (.bipush 100, 2) := by decide +kernel
theorem dX1_squawk_46 : decode cX1_squawk 46 = .ok (.iload_n 2, 1) := by decide +kernel
theorem dX1_squawk_47 : decode cX1_squawk 47 = .ok (.imul, 1) := by decide +kernel
theorem dX1_squawk_48 : decode cX1_squawk 48 = .ok (.iadd, 1) := by decide +kernel
theorem dX1_squawk_49 : decode cX1_squawk 49 = .ok (.bipush 10, 2) := by decide +kernel
theorem dX1_squawk_51 : decode cX1_squawk 51 = .ok (.iload_n 3, 1) := by decide +kernel
theorem dX1_squawk_52 : decode cX1_squawk 52 = .ok (.imul, 1) := by decide +kernel
theorem dX1_squawk_53 : decode cX1_squawk 53 = .ok (.iadd, 1) := by decide +kernel
theorem dX1_squawk_54 : decode cX1_squawk 54 = .ok (.iload 4, 2) := by decide +kernel
theorem dX1_squawk_56 : decode cX1_squawk 56 = .ok (.iadd, 1) := by decide +kernel
theorem dX1_squawk_57 : decode cX1_squawk 57 = .ok (.ireturn, 1) := by decide +kernel
theorem dX1_three_0 : decode cX1_three 0 = .ok (.iload_n 0, 1) := by decide +kernel
theorem dX1_three_1 : decode cX1_three 1 = .ok (.iload_n 1, 1) := by decide +kernel
theorem dX1_three_2 : decode cX1_three 2 = .ok (.ishr, 1) := by decide +kernel
theorem dX1_three_3 : decode cX1_three 3 = .ok (.iconst 1, 1) := by decide +kernel
theorem dX1_three_4 : decode cX1_three 4 = .ok (.iand, 1) := by decide +kernel
theorem dX1_three_5 : decode cX1_three 5 = .ok (.iconst 2, 1) := by decide +kernel
theorem dX1_three_6 : decode cX1_three 6 = .ok (.ishl, 1) := by decide +kernel
theorem dX1_three_7 : decode cX1_three 7 = .ok (.iload_n 0, 1) := by decide +kernel
theorem dX1_three_8 : decode cX1_three 8 = .ok (.iload_n 2, 1) := by decide +kernel
theorem dX1_three_9 : decode cX1_three 9 = .ok (.ishr, 1) := by decide +kernel
theorem dX1_three_10 : decode cX1_three 10 = .ok (.iconst 1, 1) := by decide +kernel
theorem dX1_three_11 : decode cX1_three 11 = .ok (.iand, 1) := by decide +kernel
theorem dX1_three_12 : decode cX1_three 12 = .ok (.iconst 1, 1) := by decide +kernel
theorem dX1_three_13 : decode cX1_three 13 = .ok (.ishl, 1) := by decide +kernel
theorem dX1_three_14 : decode cX1_three 14 = .ok (.ior, 1) := by decide +kernel
theorem dX1_three_15 : decode cX1_three 15 = .ok (.iload_n 0, 1) := by decide +kernel
theorem dX1_three_16 : decode cX1_three 16 = .ok (.iload_n 3, 1) := by decide +kernel
theorem dX1_three_17 : decode cX1_three 17 = .ok (.ishr, 1) := by decide +kernel
theorem dX1_three_18 : decode cX1_three 18 = .ok (.iconst 1, 1) := by decide +kernel
theorem dX1_three_19 : decode cX1_three 19 = .ok (.iand, 1) := by decide +kernel
theorem dX1_three_20 : decode cX1_three 20 = .ok (.ior, 1) := by decide +kernel
theorem dX1_three_21 : decode cX1_three 21 = .ok (.ireturn, 1) := by decide +kernel
theorem dX1_letter_0 : decode cX1_letter 0 = .ok (.iload_n 0, 1) := by decide +kernel
theorem dX1_letter_1 : decode cX1_letter 1 = .ok (.iconst 1, 1) := by decide +kernel
theorem dX1_letter_2 : decode cX1_letter 2 = .ok (.if_icmp .lt 16, 3) := by decide +kernel
theorem dX1_letter_5 : decode cX1_letter 5 = .ok (.iload_n 0, 1) := by decide +kernel
theorem dX1_letter_6 : decode cX1_letter 6 = .ok (.bipush 26, 2) := by decide +kernel
theorem dX1_letter_8 : decode cX1_letter 8 = .ok (.if_icmp .gt 10, 3) := by decide +kernel
theorem dX1_letter_11 : decode cX1_letter 11 = .ok (.bipush 65, 2) := by decide +kernel
theorem dX1_letter_13 : decode cX1_letter 13 = .ok (.iload_n 0, 1) := by decide +kernel
theorem dX1_letter_14 : decode cX1_letter 14 = .ok (.iadd, 1) := by decide +kernel
theorem dX1_letter_15 : decode cX1_letter 15 = .ok (.iconst 1, 1) := by decide +kernel
theorem dX1_letter_16 : decode cX1_letter 16 = .ok (.isub, 1) := by decide +kernel
theorem dX1_letter_17 : decode cX1_letter 17 = .ok (.ireturn, 1) := by decide +kernel
theorem dX1_letter_18 : decode cX1_letter 18 = .ok (.iload_n 0, 1) := by decide +kernel
theorem dX1_letter_19 : decode cX1_letter 19 = .ok (.bipush 32, 2) := by decide +kernel
theorem dX1_letter_21 : decode cX1_letter 21 = .ok (.if_icmp .eq 15, 3) := by decide +kernel
theorem dX1_letter_24 : decode cX1_letter 24 = .ok (.iload_n 0, 1) := by decide +kernel
theorem dX1_letter_25 : decode cX1_letter 25 = .ok (.bipush 48, 2) := by decide +kernel
theorem dX1_letter_27 : decode cX1_letter 27 = .ok (.if_icmp .lt 13, 3) := by decide +kernel
theorem dX1_letter_30 : decode cX1_letter 30 = .ok (.iload_n 0, 1) := by decide +kernel
theorem dX1_letter_31 : decode cX1_letter 31 = .ok (.bipush 57, 2) := by decide +kernel
theorem dX1_letter_33 : decode cX1_letter 33 = .ok (.if_icmp .gt 7, 3) := by decide +kernel
theorem dX1_letter_36 : decode cX1_letter 36 = .ok (.iconst 1, 1) := by decide +kernel
theorem dX1_letter_37 : decode cX1_letter 37 = .ok (.goto 4, 3) := by decide +kernel
theorem dX1_letter_40 : decode cX1_letter 40 = .ok (.iconst 0, 1) := by decide +kernel
theorem dX1_letter_41 : decode cX1_letter 41 = .ok (.istore_n 1, 1) := by decide +kernel
theorem dX1_letter_42 : decode cX1_letter 42 = .ok (.iload_n 1, 1) := by decide +kernel
theorem dX1_letter_43 : decode cX1_letter 43 = .ok (.ifCond .eq 7, 3) := by decide +kernel
theorem dX1_letter_46 : decode cX1_letter 46 = .ok (.iload_n 0, 1) := by decide +kernel
theorem dX1_letter_47 : decode cX1_letter 47 = .ok (.goto 5, 3) := by decide +kernel
theorem dX1_letter_50 : decode cX1_letter 50 = .ok (.bipush 63, 2) := by decide +kernel
theorem dX1_letter_52 : decode cX1_letter 52 = .ok (.ireturn, 1) := by decide +kernel
theorem dX1_groundSpeed_0 : decode cX1_groundSpeed 0 = .ok (.iload_n 0, 1) := by decide +kernel
theorem dX1_groundSpeed_1 : decode cX1_groundSpeed 1 = .ok (.iconst 1, 1) := by decide +kernel
theorem dX1_groundSpeed_2 : decode cX1_groundSpeed 2 = .ok (.if_icmp .lt 9, 3) := by decide +kernel
theorem dX1_groundSpeed_5 : decode cX1_groundSpeed 5 = .ok (.iload_n 0, 1) := by decide +kernel
theorem dX1_groundSpeed_6 : decode cX1_groundSpeed 6 = .ok (.bipush 124, 2) := by decide +kernel
theorem dX1_groundSpeed_8 : decode cX1_groundSpeed 8 = .ok (.if_icmp .le 6, 3) := by decide +kernel
theorem dX1_groundSpeed_11 : decode cX1_groundSpeed 11 = .ok (.ldc 11, 2) := by decide +kernel
theorem dX1_groundSpeed_13 : decode cX1_groundSpeed 13 = .ok (.ireturn, 1) := by decide +kernel
theorem dX1_groundSpeed_14 : decode cX1_groundSpeed 14 = .ok (.iload_n 0, 1) := by decide +kernel
theorem dX1_groundSpeed_15 : decode cX1_groundSpeed 15 = .ok (.bipush 9, 2) := by decide +kernel
theorem dX1_groundSpeed_17 : decode cX1_groundSpeed 17 = .ok (.if_icmp .ge 7, 3) := by decide +kernel
theorem dX1_groundSpeed_20 : decode cX1_groundSpeed 20 = .ok (.iload_n 0, 1) := by decide +kernel
theorem dX1_groundSpeed_21 : decode cX1_groundSpeed 21 = .ok (.iconst 1, 1) := by decide +kernel
theorem dX1_groundSpeed_22 : decode cX1_groundSpeed 22 = .ok (.isub, 1) := by decide +kernel
theorem dX1_groundSpeed_23 : decode cX1_groundSpeed 23 = .ok (.ireturn, 1) := by decide +kernel
theorem dX1_groundSpeed_24 : decode cX1_groundSpeed 24 = .ok (.iload_n 0, 1) := by decide +kernel
theorem dX1_groundSpeed_25 : decode cX1_groundSpeed 25 = .ok (.bipush 13, 2) := by decide +kernel
theorem dX1_groundSpeed_27 : decode cX1_groundSpeed 27 = .ok (.if_icmp .ge 13, 3) := by decide +kernel
theorem dX1_groundSpeed_30 : decode cX1_groundSpeed 30 = .ok (.bipush 8, 2) := by decide +kernel
theorem dX1_groundSpeed_32 : decode cX1_groundSpeed 32 = .ok (.iconst 2, 1) := by decide +kernel
theorem dX1_groundSpeed_33 : decode cX1_groundSpeed 33 = .ok (.iload_n 0, 1) := by decide +kernel
theorem dX1_groundSpeed_34 : decode cX1_groundSpeed 34 = .ok (.bipush 9, 2) := by decide +kernel
theorem dX1_groundSpeed_36 : decode cX1_groundSpeed 36 = .ok (.isub, 1) := by decide +kernel
theorem dX1_groundSpeed_37 : decode cX1_groundSpeed 37 = .ok (.imul, 1) := by decide +kernel
theorem dX1_groundSpeed_38 : decode cX1_groundSpeed 38 = .ok (.iadd, 1) := by decide +kernel
theorem dX1_groundSpeed_39 : decode cX1_groundSpeed 39 = .ok (.ireturn, 1) := by decide +kernel
theorem dX1_groundSpeed_40 : decode cX1_groundSpeed 40 = .ok (.iload_n 0, 1) := by decide +kernel
theorem dX1_groundSpeed_41 : decode cX1_groundSpeed 41 = .ok (.bipush 39, 2) := by decide +kernel
theorem dX1_groundSpeed_43 : decode cX1_groundSpeed 43 = .ok (.if_icmp .ge 13, 3) := by decide +kernel
theorem dX1_groundSpeed_46 : decode cX1_groundSpeed 46 = .ok (.bipush 16, 2) := by decide +kernel
theorem dX1_groundSpeed_48 : decode cX1_groundSpeed 48 = .ok (.iconst 4, 1) := by decide +kernel
theorem dX1_groundSpeed_49 : decode cX1_groundSpeed 49 = .ok (.iload_n 0, 1) := by decide +kernel
theorem dX1_groundSpeed_50 : decode cX1_groundSpeed 50 = .ok (.bipush 13, 2) := by decide +kernel
theorem dX1_groundSpeed_52 : decode cX1_groundSpeed 52 = .ok (.isub, 1) := by decide +kernel
theorem dX1_groundSpeed_53 : decode cX1_groundSpeed 53 = .ok (.imul, 1) := by decide +kernel
theorem dX1_groundSpeed_54 : decode cX1_groundSpeed 54 = .ok (.iadd, 1) := by decide +kernel
theorem dX1_groundSpeed_55 : decode cX1_groundSpeed 55 = .ok (.ireturn, 1) := by decide +kernel
theorem dX1_groundSpeed_56 : decode cX1_groundSpeed 56 = .ok (.iload_n 0, 1) := by decide +kernel
theorem dX1_groundSpeed_57 : decode cX1_groundSpeed 57 = .ok (.bipush 94, 2) := by decide +kernel
theorem dX1_groundSpeed_59 : decode cX1_groundSpeed 59 = .ok (.if_icmp .ge 14, 3) := by decide +kernel
theorem dX1_groundSpeed_62 : decode cX1_groundSpeed 62 = .ok (.bipush 120, 2) := by decide +kernel
theorem dX1_groundSpeed_64 : decode cX1_groundSpeed 64 = .ok (.bipush 8, 2) := by decide +kernel
theorem dX1_groundSpeed_66 : decode cX1_groundSpeed 66 = .ok (.iload_n 0, 1) := by decide +kernel
theorem dX1_groundSpeed_67 : decode cX1_groundSpeed 67 = .ok (.bipush 39, 2) := by decide +kernel
theorem dX1_groundSpeed_69 : decode cX1_groundSpeed 69 = .ok (.isub, 1) := by decide +kernel
theorem dX1_groundSpeed_70 : decode cX1_groundSpeed 70 = .ok (.imul, 1) := by decide +kernel
theorem dX1_groundSpeed_71 : decode cX1_groundSpeed 71 = .ok (.iadd, 1) := by decide +kernel
theorem dX1_groundSpeed_72 : decode cX1_groundSpeed 72 = .ok (.ireturn, 1) := by decide +kernel
theorem dX1_groundSpeed_73 : decode cX1_groundSpeed 73 = .ok (.iload_n 0, 1) := by decide +kernel
theorem dX1_groundSpeed_74 : decode cX1_groundSpeed 74 = .ok (.bipush 109, 2) := by decide +kernel
theorem dX1_groundSpeed_76 : decode cX1_groundSpeed 76 = .ok (.if_icmp .ge 15, 3) := by decide +kernel
theorem dX1_groundSpeed_79 : decode cX1_groundSpeed 79 = .ok (.sipush 560, 3) := by decide +kernel
theorem dX1_groundSpeed_82 : decode cX1_groundSpeed 82 = .ok (.bipush 16, 2) := by decide +kernel
theorem dX1_groundSpeed_84 : decode cX1_groundSpeed 84 = .ok (.iload_n 0, 1) := by decide +kernel
theorem dX1_groundSpeed_85 : decode cX1_groundSpeed 85 = .ok (.bipush 94, 2) := by decide +kernel
theorem dX1_groundSpeed_87 : decode cX1_groundSpeed 87 = .ok (.isub, 1) := by decide +kernel
theorem dX1_groundSpeed_88 : decode cX1_groundSpeed 88 = .ok (.imul, 1) := by decide +kernel
theorem dX1_groundSpeed_89 : decode cX1_groundSpeed 89 = .ok (.iadd, 1) := by decide +kernel
theorem dX1_groundSpeed_90 : decode cX1_groundSpeed 90 = .ok (.ireturn, 1) := by decide +kernel
theorem dX1_groundSpeed_91 : decode cX1_groundSpeed 91 = .ok (.sipush 800, 3) := by decide +kernel
theorem dX1_groundSpeed_94 : decode cX1_groundSpeed 94 = .ok (.bipush 40, 2) := by decide +kernel
theorem dX1_groundSpeed_96 : decode cX1_groundSpeed 96 = .ok (.iload_n 0, 1) := by decide +kernel
theorem dX1_groundSpeed_97 : decode cX1_groundSpeed 97 = .ok (.bipush 109, 2) := by decide +kernel
theorem dX1_groundSpeed_99 : decode cX1_groundSpeed 99 = .ok (.isub, 1) := by decide +kernel
theorem dX1_groundSpeed_100 : decode cX1_groundSpeed 100 = .ok (.imul, 1) := by decide +kernel
theorem dX1_groundSpeed_101 : decode cX1_groundSpeed 101 = .ok (.iadd, 1) := by decide +kernel
theorem dX1_groundSpeed_102 : decode cX1_groundSpeed 102 = .ok (.ireturn, 1) := by decide +kernel
theorem dX1_lessOne_0 : decode cX1_lessOne 0 = .ok (.iload_n 0, 1) := by decide +kernel
theorem dX1_lessOne_1 : decode cX1_lessOne 1 = .ok (.ifCond .ne 6, 3) := by decide +kernel
theorem dX1_lessOne_4 : decode cX1_lessOne 4 = .ok (.ldc 11, 2) := by decide +kernel
theorem dX1_lessOne_6 : decode cX1_lessOne 6 = .ok (.ireturn, 1) := by decide +kernel
theorem dX1_lessOne_7 : decode cX1_lessOne 7 = .ok (.iload_n 2, 1) := by decide +kernel
theorem dX1_lessOne_8 : decode cX1_lessOne 8 = .ok (.iconst 1, 1) := by decide +kernel
theorem dX1_lessOne_9 : decode cX1_lessOne 9 = .ok (.if_icmp .ne 12, 3) := by decide +kernel
theorem dX1_lessOne_12 : decode cX1_lessOne 12 = .ok (.iload_n 1, 1) := by decide +kernel
theorem dX1_lessOne_13 : decode cX1_lessOne 13 = .ok (.ineg, 1) := by decide +kernel
theorem dX1_lessOne_14 : decode cX1_lessOne 14 = .ok (.iload_n 0, 1) := by decide +kernel
theorem dX1_lessOne_15 : decode cX1_lessOne 15 = .ok (.iconst 1, 1) := by decide +kernel
theorem dX1_lessOne_16 : decode cX1_lessOne 16 = .ok (.isub, 1) := by decide +kernel
theorem dX1_lessOne_17 : decode cX1_lessOne 17 = .ok (.imul, 1) := by decide +kernel
theorem dX1_lessOne_18 : decode cX1_lessOne 18 = .ok (.goto 8, 3) := by decide +kernel
theorem dX1_lessOne_21 : decode cX1_lessOne 21 = .ok (.iload_n 1, 1) := by decide +kernel
theorem dX1_lessOne_22 : decode cX1_lessOne 22 = .ok (.iload_n 0, 1) := by decide +kernel
theorem dX1_lessOne_23 : decode cX1_lessOne 23 = .ok (.iconst 1, 1) := by decide +kernel
theorem dX1_lessOne_24 : decode cX1_lessOne 24 = .ok (.isub, 1) := by decide +kernel
theorem dX1_lessOne_25 : decode cX1_lessOne 25 = .ok (.imul, 1) := by decide +kernel
theorem dX1_lessOne_26 : decode cX1_lessOne 26 = .ok (.ireturn, 1) := by decide +kernel
theorem dX1_speedOf_0 : decode cX1_speedOf 0 = .ok (.iload_n 0, 1) := by decide +kernel
theorem dX1_speedOf_1 : decode cX1_speedOf 1 = .ok (.ldc 11, 2) := by decide +kernel
theorem dX1_speedOf_3 : decode cX1_speedOf 3 = .ok (.if_icmp .eq 9, 3) := by decide +kernel
theorem dX1_speedOf_6 : decode cX1_speedOf 6 = .ok (.iload_n 1, 1) := by decide +kernel
theorem dX1_speedOf_7 : decode cX1_speedOf 7 = .ok (.ldc 11, 2) := by decide +kernel
theorem dX1_speedOf_9 : decode cX1_speedOf 9 = .ok (.if_icmp .ne 6, 3) := by decide +kernel
theorem dX1_speedOf_12 : decode cX1_speedOf 12 = .ok (.ldc 11, 2) := by decide +kernel
theorem dX1_speedOf_14 : decode cX1_speedOf 14 = .ok (.ireturn, 1) := by decide +kernel
theorem dX1_speedOf_15 : decode cX1_speedOf 15 = .ok (.ldc2_w 23, 3) := by decide +kernel
theorem dX1_speedOf_18 : decode cX1_speedOf 18 = .ok (.iload_n 0, 1) := by decide +kernel
theorem dX1_speedOf_19 : decode cX1_speedOf 19 = .ok (.i2l, 1) := by decide +kernel
theorem dX1_speedOf_20 : decode cX1_speedOf 20 = .ok (.iload_n 0, 1) := by decide +kernel
theorem dX1_speedOf_21 : decode cX1_speedOf 21 = .ok (.i2l, 1) := by decide +kernel
theorem dX1_speedOf_22 : decode cX1_speedOf 22 = .ok (.lmul, 1) := by decide +kernel
theorem dX1_speedOf_23 : decode cX1_speedOf 23 = .ok (.iload_n 1, 1) := by decide +kernel
theorem dX1_speedOf_24 : decode cX1_speedOf 24 = .ok (.i2l, 1) := by decide +kernel
theorem dX1_speedOf_25 : decode cX1_speedOf 25 = .ok (.iload_n 1, 1) := by decide +kernel
theorem dX1_speedOf_26 : decode cX1_speedOf 26 = .ok (.i2l, 1) := by decide +kernel
theorem dX1_speedOf_27 : decode cX1_speedOf 27 = .ok (.lmul, 1) := by decide +kernel
theorem dX1_speedOf_28 : decode cX1_speedOf 28 = .ok (.ladd, 1) := by decide +kernel
theorem dX1_speedOf_29 : decode cX1_speedOf 29 = .ok (.lmul, 1) := by decide +kernel
theorem dX1_speedOf_30 : decode cX1_speedOf 30 = .ok (.invokestatic 25, 3) := by decide +kernel
theorem dX1_speedOf_33 : decode cX1_speedOf 33 = .ok (.ireturn, 1) := by decide +kernel
theorem dX1_root_0 : decode cX1_root 0 = .ok (.lconst 0, 1) := by decide +kernel
theorem dX1_root_1 : decode cX1_root 1 = .ok (.lstore_n 2, 1) := by decide +kernel
theorem dX1_root_2 : decode cX1_root 2 = .ok (.bipush 15, 2) := by decide +kernel
theorem dX1_root_4 : decode cX1_root 4 = .ok (.istore 4, 2) := by decide +kernel
theorem dX1_root_6 : decode cX1_root 6 = .ok (.iload 4, 2) := by decide +kernel
theorem dX1_root_8 : decode cX1_root 8 = .ok (.ifCond .lt 30, 3) := by decide +kernel
theorem dX1_root_11 : decode cX1_root 11 = .ok (.lload_n 2, 1) := by decide +kernel
theorem dX1_root_12 : decode cX1_root 12 = .ok (.lconst 1, 1) := by decide +kernel
theorem dX1_root_13 : decode cX1_root 13 = .ok (.iload 4, 2) := by decide +kernel
theorem dX1_root_15 : decode cX1_root 15 = .ok (.lshl, 1) := by decide +kernel
theorem dX1_root_16 : decode cX1_root 16 = .ok (.ladd, 1) := by decide +kernel
theorem dX1_root_17 : decode cX1_root 17 = .ok (.lstore 5, 2) := by decide +kernel
theorem dX1_root_19 : decode cX1_root 19 = .ok (.lload 5, 2) := by decide +kernel
theorem dX1_root_21 : decode cX1_root 21 = .ok (.lload 5, 2) := by decide +kernel
theorem dX1_root_23 : decode cX1_root 23 = .ok (.lmul, 1) := by decide +kernel
theorem dX1_root_24 : decode cX1_root 24 = .ok (.lload_n 0, 1) := by decide +kernel
theorem dX1_root_25 : decode cX1_root 25 = .ok (.lcmp, 1) := by decide +kernel
theorem dX1_root_26 : decode cX1_root 26 = .ok (.ifCond .gt 6, 3) := by decide +kernel
theorem dX1_root_29 : decode cX1_root 29 = .ok (.lload 5, 2) := by decide +kernel
theorem dX1_root_31 : decode cX1_root 31 = .ok (.lstore_n 2, 1) := by decide +kernel
theorem dX1_root_32 : decode cX1_root 32 = .ok (.iinc 4 (-1), 3) := by decide +kernel
theorem dX1_root_35 : decode cX1_root 35 = .ok (.goto (-29), 3) := by decide +kernel
theorem dX1_root_38 : decode cX1_root 38 = .ok (.lload_n 2, 1) := by decide +kernel
theorem dX1_root_39 : decode cX1_root 39 = .ok (.l2i, 1) := by decide +kernel
theorem dX1_root_40 : decode cX1_root 40 = .ok (.ireturn, 1) := by decide +kernel
theorem dX2_isPlace_0 : decode cX2_isPlace 0 = .ok (.iload_n 0, 1) := by decide +kernel
theorem dX2_isPlace_1 : decode cX2_isPlace 1 = .ok (.i2l, 1) := by decide +kernel
theorem dX2_isPlace_2 : decode cX2_isPlace 2 = .ok (.ldc2_w 11, 3) := by decide +kernel
theorem dX2_isPlace_5 : decode cX2_isPlace 5 = .ok (.lcmp, 1) := by decide +kernel
theorem dX2_isPlace_6 : decode cX2_isPlace 6 = .ok (.ifCond .lt 34, 3) := by decide +kernel
theorem dX2_isPlace_9 : decode cX2_isPlace 9 = .ok (.iload_n 0, 1) := by decide +kernel
theorem dX2_isPlace_10 : decode cX2_isPlace 10 = .ok (.i2l, 1) := by decide +kernel
theorem dX2_isPlace_11 : decode cX2_isPlace 11 = .ok (.ldc2_w 13, 3) := by decide +kernel
theorem dX2_isPlace_14 : decode cX2_isPlace 14 = .ok (.lcmp, 1) := by decide +kernel
theorem dX2_isPlace_15 : decode cX2_isPlace 15 = .ok (.ifCond .gt 25, 3) := by decide +kernel
theorem dX2_isPlace_18 : decode cX2_isPlace 18 = .ok (.iload_n 1, 1) := by decide +kernel
theorem dX2_isPlace_19 : decode cX2_isPlace 19 = .ok (.i2l, 1) := by decide +kernel
theorem dX2_isPlace_20 : decode cX2_isPlace 20 = .ok (.ldc2_w 15, 3) := by decide +kernel
theorem dX2_isPlace_23 : decode cX2_isPlace 23 = .ok (.lcmp, 1) := by decide +kernel
theorem dX2_isPlace_24 : decode cX2_isPlace 24 = .ok (.ifCond .lt 16, 3) := by decide +kernel
theorem dX2_isPlace_27 : decode cX2_isPlace 27 = .ok (.iload_n 1, 1) := by decide +kernel
theorem dX2_isPlace_28 : decode cX2_isPlace 28 = .ok (.i2l, 1) := by decide +kernel
theorem dX2_isPlace_29 : decode cX2_isPlace 29 = .ok (.ldc2_w 17, 3) := by decide +kernel
theorem dX2_isPlace_32 : decode cX2_isPlace 32 = .ok (.lcmp, 1) := by decide +kernel
theorem dX2_isPlace_33 : decode cX2_isPlace 33 = .ok (.ifCond .ge 7, 3) := by decide +kernel
theorem dX2_isPlace_36 : decode cX2_isPlace 36 = .ok (.iconst 1, 1) := by decide +kernel
theorem dX2_isPlace_37 : decode cX2_isPlace 37 = .ok (.goto 4, 3) := by decide +kernel
theorem dX2_isPlace_40 : decode cX2_isPlace 40 = .ok (.iconst 0, 1) := by decide +kernel
theorem dX2_isPlace_41 : decode cX2_isPlace 41 = .ok (.ireturn, 1) := by decide +kernel
theorem dX2_isCode_0 : decode cX2_isCode 0 = .ok (.lload_n 0, 1) := by decide +kernel
theorem dX2_isCode_1 : decode cX2_isCode 1 = .ok (.lconst 0, 1) := by decide +kernel
theorem dX2_isCode_2 : decode cX2_isCode 2 = .ok (.lcmp, 1) := by decide +kernel
theorem dX2_isCode_3 : decode cX2_isCode 3 = .ok (.ifCond .lt 15, 3) := by decide +kernel
theorem dX2_isCode_6 : decode cX2_isCode 6 = .ok (.lload_n 0, 1) := by decide +kernel
theorem dX2_isCode_7 : decode cX2_isCode 7 = .ok (.ldc2_w 19, 3) := by decide +kernel
theorem dX2_isCode_10 : decode cX2_isCode 10 = .ok (.lcmp, 1) := by decide +kernel
theorem dX2_isCode_11 : decode cX2_isCode 11 = .ok (.ifCond .ge 7, 3) := by decide +kernel
theorem dX2_isCode_14 : decode cX2_isCode 14 = .ok (.iconst 1, 1) := by decide +kernel
theorem dX2_isCode_15 : decode cX2_isCode 15 = .ok (.goto 4, 3) := by decide +kernel
theorem dX2_isCode_18 : decode cX2_isCode 18 = .ok (.iconst 0, 1) := by decide +kernel
theorem dX2_isCode_19 : decode cX2_isCode 19 = .ok (.ireturn, 1) := by decide +kernel
theorem dX2_pack_0 : decode cX2_pack 0 = .ok (.lload_n 0, 1) := by decide +kernel
theorem dX2_pack_1 : decode cX2_pack 1 = .ok (.bipush 32, 2) := by decide +kernel
theorem dX2_pack_3 : decode cX2_pack 3 = .ok (.lshl, 1) := by decide +kernel
theorem dX2_pack_4 : decode cX2_pack 4 = .ok (.lload_n 2, 1) := by decide +kernel
theorem dX2_pack_5 : decode cX2_pack 5 = .ok (.ldc2_w 21, 3) := by decide +kernel
theorem dX2_pack_8 : decode cX2_pack 8 = .ok (.land, 1) := by decide +kernel
theorem dX2_pack_9 : decode cX2_pack 9 = .ok (.lor, 1) := by decide +kernel
theorem dX2_pack_10 : decode cX2_pack 10 = .ok (.lreturn, 1) := by decide +kernel
theorem dX2_latitudeOf_0 : decode cX2_latitudeOf 0 = .ok (.lload_n 0, 1) := by decide +kernel
theorem dX2_latitudeOf_1 : decode cX2_latitudeOf 1 = .ok (.bipush 32, 2) := by decide +kernel
theorem dX2_latitudeOf_3 : decode cX2_latitudeOf 3 = .ok (.lshr, 1) := by decide +kernel
theorem dX2_latitudeOf_4 : decode cX2_latitudeOf 4 = .ok (.l2i, 1) := by decide +kernel
theorem dX2_latitudeOf_5 : decode cX2_latitudeOf 5 = .ok (.ireturn, 1) := by decide +kernel
theorem dX2_longitudeOf_0 : decode cX2_longitudeOf 0 = .ok (.lload_n 0, 1) := by decide +kernel
theorem dX2_longitudeOf_1 : decode cX2_longitudeOf 1 = .ok (.l2i, 1) := by decide +kernel
theorem dX2_longitudeOf_2 : decode cX2_longitudeOf 2 = .ok (.ireturn, 1) := by decide +kernel
theorem dX2_zoneCount_0 : decode cX2_zoneCount 0 = .ok (.lload_n 0, 1) := by decide +kernel
theorem dX2_zoneCount_1 : decode cX2_zoneCount 1 = .ok (.invokestatic 23, 3) := by decide +kernel
theorem dX2_zoneCount_4 : decode cX2_zoneCount 4 = .ok (.lstore 4, 2) := by decide +kernel
theorem dX2_zoneCount_6 : decode cX2_zoneCount 6 = .ok (.iconst 0, 1) := by decide +kernel
theorem dX2_zoneCount_7 : decode cX2_zoneCount 7 = .ok (.istore 6, 2) := by decide +kernel
theorem dX2_zoneCount_9 : decode cX2_zoneCount 9 = .ok (.iload 6, 2) := by decide +kernel
theorem dX2_zoneCount_11 : decode cX2_zoneCount 11 = .ok (.getstatic 29, 3) := by decide +kernel
theorem dX2_zoneCount_14 : decode cX2_zoneCount 14 = .ok (.arraylength, 1) := by decide +kernel
theorem dX2_zoneCount_15 : decode cX2_zoneCount 15 = .ok (.if_icmp .ge 29, 3) := by decide +kernel
theorem dX2_zoneCount_18 : decode cX2_zoneCount 18 = .ok (.lload 4, 2) := by decide +kernel
theorem dX2_zoneCount_20 : decode cX2_zoneCount 20 = .ok (.getstatic 29, 3) := by decide +kernel
theorem dX2_zoneCount_23 : decode cX2_zoneCount 23 = .ok (.iload 6, 2) := by decide +kernel
theorem dX2_zoneCount_25 : decode cX2_zoneCount 25 = .ok (.laload, 1) := by decide +kernel
theorem dX2_zoneCount_26 : decode cX2_zoneCount 26 = .ok (.lload_n 2, 1) := by decide +kernel
theorem dX2_zoneCount_27 : decode cX2_zoneCount 27 = .ok (.lmul, 1) := by decide +kernel
theorem dX2_zoneCount_28 : decode cX2_zoneCount 28 = .ok (.lcmp, 1) := by decide +kernel
theorem dX2_zoneCount_29 : decode cX2_zoneCount 29 = .ok (.ifCond .ge 9, 3) := by decide +kernel
theorem dX2_zoneCount_32 : decode cX2_zoneCount 32 = .ok (.bipush 59, 2) := by decide +kernel
theorem dX2_zoneCount_34 : decode cX2_zoneCount 34 = .ok (.iload 6, 2) := by decide +kernel
theorem dX2_zoneCount_36 : decode cX2_zoneCount 36 = .ok (.isub, 1) := by decide +kernel
theorem dX2_zoneCount_37 : decode cX2_zoneCount 37 = .ok (.ireturn, 1) := by decide +kernel
theorem dX2_zoneCount_38 : decode cX2_zoneCount 38 = .ok (.iinc 6 1, 3) := by decide +kernel
theorem dX2_zoneCount_41 : decode cX2_zoneCount 41 = .ok (.goto (-32), 3) := by decide +kernel
theorem dX2_zoneCount_44 : decode cX2_zoneCount 44 = .ok (.lload 4, 2) := by decide +kernel
theorem dX2_zoneCount_46 : decode cX2_zoneCount 46 = .ok (.ldc2_w 33, 3) := by decide +kernel
theorem dX2_zoneCount_49 : decode cX2_zoneCount 49 = .ok (.lload_n 2, 1) := by decide +kernel
theorem dX2_zoneCount_50 : decode cX2_zoneCount 50 = .ok (.lmul, 1) := by decide +kernel
theorem dX2_zoneCount_51 : decode cX2_zoneCount 51 = .ok (.lcmp, 1) := by decide +kernel
theorem dX2_zoneCount_52 : decode cX2_zoneCount 52 = .ok (.ifCond .gt 7, 3) := by decide +kernel
theorem dX2_zoneCount_55 : decode cX2_zoneCount 55 = .ok (.iconst 2, 1) := by decide +kernel
theorem dX2_zoneCount_56 : decode cX2_zoneCount 56 = .ok (.goto 4, 3) := by decide +kernel
theorem dX2_zoneCount_59 : decode cX2_zoneCount 59 = .ok (.iconst 1, 1) := by decide +kernel
theorem dX2_zoneCount_60 : decode cX2_zoneCount 60 = .ok (.ireturn, 1) := by decide +kernel
theorem dX2_code_0 : decode cX2_code 0 = .ok (.iload_n 2, 1) := by decide +kernel
theorem dX2_code_1 : decode cX2_code 1 = .ok (.invokestatic 35, 3) := by decide +kernel
theorem dX2_code_4 : decode cX2_code 4 = .ok (.lstore 4, 2) := by decide +kernel
theorem dX2_code_6 : decode cX2_code 6 = .ok (.iload_n 3, 1) := by decide +kernel
theorem dX2_code_7 : decode cX2_code 7 = .ok (.invokestatic 39, 3) := by decide +kernel
theorem dX2_code_10 : decode cX2_code 10 = .ok (.lstore 6, 2) := by decide +kernel
theorem dX2_code_12 : decode cX2_code 12 = .ok (.iload_n 0, 1) := by decide +kernel
theorem dX2_code_13 : decode cX2_code 13 = .ok (.i2l, 1) := by decide +kernel
theorem dX2_code_14 : decode cX2_code 14 = .ok (.lload 6, 2) := by decide +kernel
theorem dX2_code_16 : decode cX2_code 16 = .ok (.lload 4, 2) := by decide +kernel
theorem dX2_code_18 : decode cX2_code 18 = .ok (.invokestatic 42, 3) := by decide +kernel
theorem dX2_code_21 : decode cX2_code 21 = .ok (.lstore 8, 2) := by decide +kernel
theorem dX2_code_23 : decode cX2_code 23 = .ok (.lload 8, 2) := by decide +kernel
theorem dX2_code_25 : decode cX2_code 25 = .ok (.lload 6, 2) := by decide +kernel
theorem dX2_code_27 : decode cX2_code 27 = .ok (.lload 4, 2) := by decide +kernel
theorem dX2_code_29 : decode cX2_code 29 = .ok (.invokestatic 46, 3) := by decide +kernel
theorem dX2_code_32 : decode cX2_code 32 = .ok (.iload_n 3, 1) := by decide +kernel
theorem dX2_code_33 : decode cX2_code 33 = .ok (.invokestatic 50, 3) := by decide +kernel
theorem dX2_code_36 : decode cX2_code 36 = .ok (.lstore 10, 2) := by decide +kernel
theorem dX2_code_38 : decode cX2_code 38 = .ok (.iload_n 1, 1) := by decide +kernel
theorem dX2_code_39 : decode cX2_code 39 = .ok (.i2l, 1) := by decide +kernel
theorem dX2_code_40 : decode cX2_code 40 = .ok (.lload 10, 2) := by decide +kernel
theorem dX2_code_42 : decode cX2_code 42 = .ok (.lload 4, 2) := by decide +kernel
theorem dX2_code_44 : decode cX2_code 44 = .ok (.invokestatic 42, 3) := by decide +kernel
theorem dX2_code_47 : decode cX2_code 47 = .ok (.lstore 12, 2) := by decide +kernel
theorem dX2_code_49 : decode cX2_code 49 = .ok (.ldc2_w 54, 3) := by decide +kernel
theorem dX2_code_52 : decode cX2_code 52 = .ok (.lload 8, 2) := by decide +kernel
theorem dX2_code_54 : decode cX2_code 54 = .ok (.ldc2_w 54, 3) := by decide +kernel
theorem dX2_code_57 : decode cX2_code 57 = .ok (.invokestatic 56, 3) := by decide +kernel
theorem dX2_code_60 : decode cX2_code 60 = .ok (.lmul, 1) := by decide +kernel
theorem dX2_code_61 : decode cX2_code 61 = .ok (.lload 12, 2) := by decide +kernel
theorem dX2_code_63 : decode cX2_code 63 = .ok (.ldc2_w 54, 3) := by decide +kernel
theorem dX2_code_66 : decode cX2_code 66 = .ok (.invokestatic 56, 3) := by decide +kernel
theorem dX2_code_69 : decode cX2_code 69 = .ok (.ladd, 1) := by decide +kernel
theorem dX2_code_70 : decode cX2_code 70 = .ok (.lreturn, 1) := by decide +kernel
theorem dX2_placeOfPair_0 : decode cX2_placeOfPair 0 = .ok (.ldc2_w 60, 3) := by decide +kernel
theorem dX2_placeOfPair_3 : decode cX2_placeOfPair 3 = .ok (.lload_n 0, 1) := by decide +kernel
theorem dX2_placeOfPair_4 : decode cX2_placeOfPair 4 = .ok (.invokestatic 62, 3) := by decide +kernel
theorem dX2_placeOfPair_7 : decode cX2_placeOfPair 7 = .ok (.lmul, 1) := by decide +kernel
theorem dX2_placeOfPair_8 : decode cX2_placeOfPair 8 = .ok (.ldc2_w 65, 3) := by decide +kernel
theorem dX2_placeOfPair_11 : decode cX2_placeOfPair 11 = .ok (.lload_n 2, 1) := by decide +kernel
theorem dX2_placeOfPair_12 : decode cX2_placeOfPair 12 = .ok (.invokestatic 62, 3) := by decide +kernel
theorem dX2_placeOfPair_15 : decode cX2_placeOfPair 15 = .ok (.lmul, 1) := by decide +kernel
theorem dX2_placeOfPair_16 : decode cX2_placeOfPair 16 = .ok (.lsub, 1) := by decide +kernel
theorem dX2_placeOfPair_17 : decode cX2_placeOfPair 17 = .ok (.ldc2_w 67, 3) := by decide +kernel
theorem dX2_placeOfPair_20 : decode cX2_placeOfPair 20 = .ok (.ladd, 1) := by decide +kernel
theorem dX2_placeOfPair_21 : decode cX2_placeOfPair 21 = .ok (.ldc2_w 54, 3) := by decide +kernel
theorem dX2_placeOfPair_24 : decode cX2_placeOfPair 24 = .ok (.invokestatic 69, 3) := by decide +kernel
theorem dX2_placeOfPair_27 : decode cX2_placeOfPair 27 = .ok (.lstore 5, 2) := by decide +kernel
theorem dX2_placeOfPair_29 : decode cX2_placeOfPair 29 = .ok (.lload 5, 2) := by decide +kernel
theorem dX2_placeOfPair_31 : decode cX2_placeOfPair 31 = .ok (.lload_n 0, 1) := by decide +kernel
theorem dX2_placeOfPair_32 : decode cX2_placeOfPair 32 = .ok (.invokestatic 62, 3) := by decide +kernel
theorem dX2_placeOfPair_35 : decode cX2_placeOfPair 35 = .ok (.ldc2_w 65, 3) := by decide +kernel
theorem dX2_placeOfPair_38 : decode cX2_placeOfPair 38 = .ok (.invokestatic 72, 3) := by decide +kernel
theorem dX2_placeOfPair_41 : decode cX2_placeOfPair 41 = .ok (.lstore 7, 2) := by decide +kernel
theorem dX2_placeOfPair_43 : decode cX2_placeOfPair 43 = .ok (.lload 5, 2) := by decide +kernel
theorem dX2_placeOfPair_45 : decode cX2_placeOfPair 45 = .ok (.lload_n 2, 1) := by decide +kernel
theorem dX2_placeOfPair_46 : decode cX2_placeOfPair 46 = .ok (.invokestatic 62, 3) := by decide +kernel
theorem dX2_placeOfPair_49 : decode cX2_placeOfPair 49 = .ok (.ldc2_w 60, 3) := by decide +kernel
theorem dX2_placeOfPair_52 : decode cX2_placeOfPair 52 = .ok (.invokestatic 72, 3) := by decide +kernel
theorem dX2_placeOfPair_55 : decode cX2_placeOfPair 55 = .ok (.lstore 9, 2) := by decide +kernel
theorem dX2_placeOfPair_57 : decode cX2_placeOfPair 57 = .ok (.lload 7, 2) := by decide +kernel
theorem dX2_placeOfPair_59 : decode cX2_placeOfPair 59 = .ok (.ldc2_w 65, 3) := by decide +kernel
theorem dX2_placeOfPair_62 : decode cX2_placeOfPair 62 = .ok (.ldc2_w 75, 3) := by decide +kernel
theorem dX2_placeOfPair_65 : decode cX2_placeOfPair 65 = .ok (.invokestatic 77, 3) := by decide +kernel
theorem dX2_placeOfPair_68 : decode cX2_placeOfPair 68 = .ok (.ifCond .ne 17, 3) := by decide +kernel
theorem dX2_placeOfPair_71 : decode cX2_placeOfPair 71 = .ok (.lload 9, 2) := by decide +kernel
theorem dX2_placeOfPair_73 : decode cX2_placeOfPair 73 = .ok (.ldc2_w 60, 3) := by decide +kernel
theorem dX2_placeOfPair_76 : decode cX2_placeOfPair 76 = .ok (.ldc2_w 75, 3) := by decide +kernel
theorem dX2_placeOfPair_79 : decode cX2_placeOfPair 79 = .ok (.invokestatic 77, 3) := by decide +kernel
theorem dX2_placeOfPair_82 : decode cX2_placeOfPair 82 = .ok (.ifCond .eq 7, 3) := by decide +kernel
theorem dX2_placeOfPair_85 : decode cX2_placeOfPair 85 = .ok (.ldc2_w 81, 3) := by decide +kernel
theorem dX2_placeOfPair_88 : decode cX2_placeOfPair 88 = .ok (.lreturn, 1) := by decide +kernel
theorem dX2_placeOfPair_89 : decode cX2_placeOfPair 89 = .ok (.lload 7, 2) := by decide +kernel
theorem dX2_placeOfPair_91 : decode cX2_placeOfPair 91 = .ok (.ldc2_w 65, 3) := by decide +kernel
theorem dX2_placeOfPair_94 : decode cX2_placeOfPair 94 = .ok (.ldc2_w 75, 3) := by decide +kernel
theorem dX2_placeOfPair_97 : decode cX2_placeOfPair 97 = .ok (.invokestatic 46, 3) := by decide +kernel
theorem dX2_placeOfPair_100 : decode cX2_placeOfPair 100 = .ok (.istore 11, 2) := by decide +kernel
theorem dX2_placeOfPair_102 : decode cX2_placeOfPair 102 = .ok (.iload 11, 2) := by decide +kernel
theorem dX2_placeOfPair_104 : decode cX2_placeOfPair 104 = .ok (.lload 9, 2) := by decide +kernel
theorem dX2_placeOfPair_106 : decode cX2_placeOfPair 106 = .ok (.ldc2_w 60, 3) := by decide +kernel
theorem dX2_placeOfPair_109 : decode cX2_placeOfPair 109 = .ok (.ldc2_w 75, 3) := by decide +kernel
theorem dX2_placeOfPair_112 : decode cX2_placeOfPair 112 = .ok (.invokestatic 46, 3) := by decide +kernel
theorem dX2_placeOfPair_115 : decode cX2_placeOfPair 115 = .ok (.if_icmp .eq 7, 3) := by decide +kernel
theorem dX2_placeOfPair_118 : decode cX2_placeOfPair 118 = .ok (.ldc2_w 81, 3) := by decide +kernel
theorem dX2_placeOfPair_121 : decode cX2_placeOfPair 121 = .ok (.lreturn, 1) := by decide +kernel
theorem dX2_placeOfPair_122 : decode cX2_placeOfPair 122 = .ok (.iload 11, 2) := by decide +kernel
theorem dX2_placeOfPair_124 : decode cX2_placeOfPair 124 = .ok (.iload 4, 2) := by decide +kernel
theorem dX2_placeOfPair_126 : decode cX2_placeOfPair 126 = .ok (.invokestatic 50, 3) := by decide +kernel
theorem dX2_placeOfPair_129 : decode cX2_placeOfPair 129 = .ok (.lstore 12, 2) := by decide +kernel
theorem dX2_placeOfPair_131 : decode cX2_placeOfPair 131 = .ok (.lload_n 0, 1) := by decide +kernel
theorem dX2_placeOfPair_132 : decode cX2_placeOfPair 132 = .ok (.invokestatic 83, 3) := by decide +kernel
theorem dX2_placeOfPair_135 : decode cX2_placeOfPair 135 = .ok (.iload 11, 2) := by decide +kernel
theorem dX2_placeOfPair_137 : decode cX2_placeOfPair 137 = .ok (.iconst 1, 1) := by decide +kernel
theorem dX2_placeOfPair_138 : decode cX2_placeOfPair 138 = .ok (.isub, 1) := by decide +kernel
theorem dX2_placeOfPair_139 : decode cX2_placeOfPair 139 = .ok (.i2l, 1) := by decide +kernel
theorem dX2_placeOfPair_140 : decode cX2_placeOfPair 140 = .ok (.lmul, 1) := by decide +kernel
theorem dX2_placeOfPair_141 : decode cX2_placeOfPair 141 = .ok (.lload_n 2, 1) := by decide +kernel
theorem dX2_placeOfPair_142 : decode cX2_placeOfPair 142 = .ok (.invokestatic 83, 3) := by decide +kernel
theorem dX2_placeOfPair_145 : decode cX2_placeOfPair 145 = .ok (.iload 11, 2) := by decide +kernel
theorem dX2_placeOfPair_147 : decode cX2_placeOfPair 147 = .ok (.i2l, 1) := by decide +kernel
theorem dX2_placeOfPair_148 : decode cX2_placeOfPair 148 = .ok (.lmul, 1) := by decide +kernel
theorem dX2_placeOfPair_149 : decode cX2_placeOfPair 149 = .ok (.lsub, 1) := by decide +kernel
theorem dX2_placeOfPair_150 : decode cX2_placeOfPair 150 = .ok (.ldc2_w 67, 3) := by decide +kernel
theorem dX2_placeOfPair_153 : decode cX2_placeOfPair 153 = .ok (.ladd, 1) := by decide +kernel
theorem dX2_placeOfPair_154 : decode cX2_placeOfPair 154 = .ok (.ldc2_w 54, 3) := by decide +kernel
theorem dX2_placeOfPair_157 : decode cX2_placeOfPair 157 = .ok (.invokestatic 69, 3) := by decide +kernel
theorem dX2_placeOfPair_160 : decode cX2_placeOfPair 160 = .ok (.lstore 14, 2) := by decide +kernel
theorem dX2_placeOfPair_162 : decode cX2_placeOfPair 162 = .ok (.ldc2_w 54, 3) := by decide +kernel
theorem dX2_placeOfPair_165 : decode cX2_placeOfPair 165 = .ok (.lload 14, 2) := by decide +kernel
theorem dX2_placeOfPair_167 : decode cX2_placeOfPair 167 = .ok (.lload 12, 2) := by decide +kernel
theorem dX2_placeOfPair_169 : decode cX2_placeOfPair 169 = .ok (.invokestatic 86, 3) := by decide +kernel
theorem dX2_placeOfPair_172 : decode cX2_placeOfPair 172 = .ok (.lmul, 1) := by decide +kernel
theorem dX2_placeOfPair_173 : decode cX2_placeOfPair 173 = .ok (.iload 4, 2) := by decide +kernel
theorem dX2_placeOfPair_175 : decode cX2_placeOfPair 175 = .ok (.ifCond .eq 7, 3) := by decide +kernel
theorem dX2_placeOfPair_178 : decode cX2_placeOfPair 178 = .ok (.lload_n 2, 1) := by decide +kernel
theorem dX2_placeOfPair_179 : decode cX2_placeOfPair 179 = .ok (.goto 4, 3) := by decide +kernel
theorem dX2_placeOfPair_182 : decode cX2_placeOfPair 182 = .ok (.lload_n 0, 1) := by decide +kernel
theorem dX2_placeOfPair_183 : decode cX2_placeOfPair 183 = .ok (.invokestatic 83, 3) := by decide +kernel
theorem dX2_placeOfPair_186 : decode cX2_placeOfPair 186 = .ok (.ladd, 1) := by decide +kernel
theorem dX2_placeOfPair_187 : decode cX2_placeOfPair 187 = .ok (.lstore 16, 2) := by decide +kernel
theorem dX2_placeOfPair_189 : decode cX2_placeOfPair 189 = .ok (.iload 4, 2) := by decide +kernel
theorem dX2_placeOfPair_191 : decode cX2_placeOfPair 191 = .ok (.ifCond .eq 8, 3) := by decide +kernel
theorem dX2_placeOfPair_194 : decode cX2_placeOfPair 194 = .ok (.lload 9, 2) := by decide +kernel
theorem dX2_placeOfPair_196 : decode cX2_placeOfPair 196 = .ok (.goto 5, 3) := by decide +kernel
theorem dX2_placeOfPair_199 : decode cX2_placeOfPair 199 = .ok (.lload 7, 2) := by decide +kernel
theorem dX2_placeOfPair_201 : decode cX2_placeOfPair 201 = .ok (.lload 16, 2) := by decide +kernel
theorem dX2_placeOfPair_203 : decode cX2_placeOfPair 203 = .ok (.lload 12, 2) := by decide +kernel
theorem dX2_placeOfPair_205 : decode cX2_placeOfPair 205 = .ok (.iconst 0, 1) := by decide +kernel
theorem dX2_placeOfPair_206 : decode cX2_placeOfPair 206 = .ok (.iload 4, 2) := by decide +kernel
theorem dX2_placeOfPair_208 : decode cX2_placeOfPair 208 = .ok (.invokestatic 89, 3) := by decide +kernel
theorem dX2_placeOfPair_211 : decode cX2_placeOfPair 211 = .ok (.lreturn, 1) := by decide +kernel
theorem dX2_placeNear_0 : decode cX2_placeNear 0 = .ok (.iload_n 2, 1) := by decide +kernel
theorem dX2_placeNear_1 : decode cX2_placeNear 1 = .ok (.invokestatic 35, 3) := by decide +kernel
theorem dX2_placeNear_4 : decode cX2_placeNear 4 = .ok (.lstore 6, 2) := by decide +kernel
theorem dX2_placeNear_6 : decode cX2_placeNear 6 = .ok (.iload_n 3, 1) := by decide +kernel
theorem dX2_placeNear_7 : decode cX2_placeNear 7 = .ok (.invokestatic 39, 3) := by decide +kernel
theorem dX2_placeNear_10 : decode cX2_placeNear 10 = .ok (.lstore 8, 2) := by decide +kernel
theorem dX2_placeNear_12 : decode cX2_placeNear 12 = .ok (.lload 4, 2) := by decide +kernel
theorem dX2_placeNear_14 : decode cX2_placeNear 14 = .ok (.invokestatic 93, 3) := by decide +kernel
theorem dX2_placeNear_17 : decode cX2_placeNear 17 = .ok (.i2l, 1) := by decide +kernel
theorem dX2_placeNear_18 : decode cX2_placeNear 18 = .ok (.lload_n 0, 1) := by decide +kernel
theorem dX2_placeNear_19 : decode cX2_placeNear 19 = .ok (.invokestatic 62, 3) := by decide +kernel
theorem dX2_placeNear_22 : decode cX2_placeNear 22 = .ok (.lload 8, 2) := by decide +kernel
theorem dX2_placeNear_24 : decode cX2_placeNear 24 = .ok (.lload 6, 2) := by decide +kernel
theorem dX2_placeNear_26 : decode cX2_placeNear 26 = .ok (.invokestatic 97, 3) := by decide +kernel
theorem dX2_placeNear_29 : decode cX2_placeNear 29 = .ok (.lstore 10, 2) := by decide +kernel
theorem dX2_placeNear_31 : decode cX2_placeNear 31 = .ok (.lload 10, 2) := by decide +kernel
theorem dX2_placeNear_33 : decode cX2_placeNear 33 = .ok (.lload 8, 2) := by decide +kernel
theorem dX2_placeNear_35 : decode cX2_placeNear 35 = .ok (.lload 6, 2) := by decide +kernel
theorem dX2_placeNear_37 : decode cX2_placeNear 37 = .ok (.invokestatic 77, 3) := by decide +kernel
theorem dX2_placeNear_40 : decode cX2_placeNear 40 = .ok (.ifCond .eq 7, 3) := by decide +kernel
theorem dX2_placeNear_43 : decode cX2_placeNear 43 = .ok (.ldc2_w 81, 3) := by decide +kernel
theorem dX2_placeNear_46 : decode cX2_placeNear 46 = .ok (.lreturn, 1) := by decide +kernel
theorem dX2_placeNear_47 : decode cX2_placeNear 47 = .ok (.lload 10, 2) := by decide +kernel
theorem dX2_placeNear_49 : decode cX2_placeNear 49 = .ok (.lload 8, 2) := by decide +kernel
theorem dX2_placeNear_51 : decode cX2_placeNear 51 = .ok (.lload 6, 2) := by decide +kernel
theorem dX2_placeNear_53 : decode cX2_placeNear 53 = .ok (.invokestatic 46, 3) := by decide +kernel
theorem dX2_placeNear_56 : decode cX2_placeNear 56 = .ok (.iload_n 3, 1) := by decide +kernel
theorem dX2_placeNear_57 : decode cX2_placeNear 57 = .ok (.invokestatic 50, 3) := by decide +kernel
theorem dX2_placeNear_60 : decode cX2_placeNear 60 = .ok (.lstore 12, 2) := by decide +kernel
theorem dX2_placeNear_62 : decode cX2_placeNear 62 = .ok (.lload 4, 2) := by decide +kernel
theorem dX2_placeNear_64 : decode cX2_placeNear 64 = .ok (.invokestatic 101, 3) := by decide +kernel
theorem dX2_placeNear_67 : decode cX2_placeNear 67 = .ok (.i2l, 1) := by decide +kernel
theorem dX2_placeNear_68 : decode cX2_placeNear 68 = .ok (.lload_n 0, 1) := by decide +kernel
theorem dX2_placeNear_69 : decode cX2_placeNear 69 = .ok (.invokestatic 83, 3) := by decide +kernel
theorem dX2_placeNear_72 : decode cX2_placeNear 72 = .ok (.lload 12, 2) := by decide +kernel
theorem dX2_placeNear_74 : decode cX2_placeNear 74 = .ok (.lload 6, 2) := by decide +kernel
theorem dX2_placeNear_76 : decode cX2_placeNear 76 = .ok (.invokestatic 97, 3) := by decide +kernel
theorem dX2_placeNear_79 : decode cX2_placeNear 79 = .ok (.lstore 14, 2) := by decide +kernel
theorem dX2_placeNear_81 : decode cX2_placeNear 81 = .ok (.lload 10, 2) := by decide +kernel
theorem dX2_placeNear_83 : decode cX2_placeNear 83 = .ok (.lload 14, 2) := by decide +kernel
theorem dX2_placeNear_85 : decode cX2_placeNear 85 = .ok (.lload 12, 2) := by decide +kernel
theorem dX2_placeNear_87 : decode cX2_placeNear 87 = .ok (.iload_n 2, 1) := by decide +kernel
theorem dX2_placeNear_88 : decode cX2_placeNear 88 = .ok (.iload_n 3, 1) := by decide +kernel
theorem dX2_placeNear_89 : decode cX2_placeNear 89 = .ok (.invokestatic 89, 3) := by decide +kernel
theorem dX2_placeNear_92 : decode cX2_placeNear 92 = .ok (.lreturn, 1) := by decide +kernel
theorem dX2_placeAt_0 : decode cX2_placeAt 0 = .ok (.iload 6, 2) := by decide +kernel
theorem dX2_placeAt_2 : decode cX2_placeAt 2 = .ok (.invokestatic 35, 3) := by decide +kernel
theorem dX2_placeAt_5 : decode cX2_placeAt 5 = .ok (.lstore 8, 2) := by decide +kernel
theorem dX2_placeAt_7 : decode cX2_placeAt 7 = .ok (.lload 8, 2) := by decide +kernel
theorem dX2_placeAt_9 : decode cX2_placeAt 9 = .ok (.lload_n 0, 1) := by decide +kernel
theorem dX2_placeAt_10 : decode cX2_placeAt 10 = .ok (.lmul, 1) := by decide +kernel
theorem dX2_placeAt_11 : decode cX2_placeAt 11 = .ok (.iload 7, 2) := by decide +kernel
theorem dX2_placeAt_13 : decode cX2_placeAt 13 = .ok (.invokestatic 39, 3) := by decide +kernel
theorem dX2_placeAt_16 : decode cX2_placeAt 16 = .ok (.ldc2_w 54, 3) := by decide +kernel
theorem dX2_placeAt_19 : decode cX2_placeAt 19 = .ok (.lmul, 1) := by decide +kernel
theorem dX2_placeAt_20 : decode cX2_placeAt 20 = .ok (.invokestatic 104, 3) := by decide +kernel
theorem dX2_placeAt_23 : decode cX2_placeAt 23 = .ok (.lstore 10, 2) := by decide +kernel
theorem dX2_placeAt_25 : decode cX2_placeAt 25 = .ok (.lload 8, 2) := by decide +kernel
theorem dX2_placeAt_27 : decode cX2_placeAt 27 = .ok (.lload_n 2, 1) := by decide +kernel
theorem dX2_placeAt_28 : decode cX2_placeAt 28 = .ok (.lmul, 1) := by decide +kernel
theorem dX2_placeAt_29 : decode cX2_placeAt 29 = .ok (.lload 4, 2) := by decide +kernel
theorem dX2_placeAt_31 : decode cX2_placeAt 31 = .ok (.ldc2_w 54, 3) := by decide +kernel
theorem dX2_placeAt_34 : decode cX2_placeAt 34 = .ok (.lmul, 1) := by decide +kernel
theorem dX2_placeAt_35 : decode cX2_placeAt 35 = .ok (.invokestatic 104, 3) := by decide +kernel
theorem dX2_placeAt_38 : decode cX2_placeAt 38 = .ok (.lstore 12, 2) := by decide +kernel
theorem dX2_placeAt_40 : decode cX2_placeAt 40 = .ok (.lload 12, 2) := by decide +kernel
theorem dX2_placeAt_42 : decode cX2_placeAt 42 = .ok (.ldc2_w 17, 3) := by decide +kernel
theorem dX2_placeAt_45 : decode cX2_placeAt 45 = .ok (.lcmp, 1) := by decide +kernel
theorem dX2_placeAt_46 : decode cX2_placeAt 46 = .ok (.ifCond .lt 14, 3) := by decide +kernel
theorem dX2_placeAt_49 : decode cX2_placeAt 49 = .ok (.lload 12, 2) := by decide +kernel
theorem dX2_placeAt_51 : decode cX2_placeAt 51 = .ok (.ldc2_w 75, 3) := by decide +kernel
theorem dX2_placeAt_54 : decode cX2_placeAt 54 = .ok (.lsub, 1) := by decide +kernel
theorem dX2_placeAt_55 : decode cX2_placeAt 55 = .ok (.lstore 12, 2) := by decide +kernel
theorem dX2_placeAt_57 : decode cX2_placeAt 57 = .ok (.goto 20, 3) := by decide +kernel
theorem dX2_placeAt_60 : decode cX2_placeAt 60 = .ok (.lload 12, 2) := by decide +kernel
theorem dX2_placeAt_62 : decode cX2_placeAt 62 = .ok (.ldc2_w 15, 3) := by decide +kernel
theorem dX2_placeAt_65 : decode cX2_placeAt 65 = .ok (.lcmp, 1) := by decide +kernel
theorem dX2_placeAt_66 : decode cX2_placeAt 66 = .ok (.ifCond .ge 11, 3) := by decide +kernel
theorem dX2_placeAt_69 : decode cX2_placeAt 69 = .ok (.lload 12, 2) := by decide +kernel
theorem dX2_placeAt_71 : decode cX2_placeAt 71 = .ok (.ldc2_w 75, 3) := by decide +kernel
theorem dX2_placeAt_74 : decode cX2_placeAt 74 = .ok (.ladd, 1) := by decide +kernel
theorem dX2_placeAt_75 : decode cX2_placeAt 75 = .ok (.lstore 12, 2) := by decide +kernel
theorem dX2_placeAt_77 : decode cX2_placeAt 77 = .ok (.lload 10, 2) := by decide +kernel
theorem dX2_placeAt_79 : decode cX2_placeAt 79 = .ok (.lload 12, 2) := by decide +kernel
theorem dX2_placeAt_81 : decode cX2_placeAt 81 = .ok (.invokestatic 107, 3) := by decide +kernel
theorem dX2_placeAt_84 : decode cX2_placeAt 84 = .ok (.lreturn, 1) := by decide +kernel
theorem dX2_turnOf_0 : decode cX2_turnOf 0 = .ok (.iload_n 0, 1) := by decide +kernel
theorem dX2_turnOf_1 : decode cX2_turnOf 1 = .ok (.ifCond .eq 9, 3) := by decide +kernel
theorem dX2_turnOf_4 : decode cX2_turnOf 4 = .ok (.ldc2_w 13, 3) := by decide +kernel
theorem dX2_turnOf_7 : decode cX2_turnOf 7 = .ok (.goto 6, 3) := by decide +kernel
theorem dX2_turnOf_10 : decode cX2_turnOf 10 = .ok (.ldc2_w 75, 3) := by decide +kernel
theorem dX2_turnOf_13 : decode cX2_turnOf 13 = .ok (.lreturn, 1) := by decide +kernel
theorem dX2_bandsOf_0 : decode cX2_bandsOf 0 = .ok (.iload_n 0, 1) := by decide +kernel
theorem dX2_bandsOf_1 : decode cX2_bandsOf 1 = .ok (.ifCond .eq 9, 3) := by decide +kernel
theorem dX2_bandsOf_4 : decode cX2_bandsOf 4 = .ok (.ldc2_w 60, 3) := by decide +kernel
theorem dX2_bandsOf_7 : decode cX2_bandsOf 7 = .ok (.goto 6, 3) := by decide +kernel
theorem dX2_bandsOf_10 : decode cX2_bandsOf 10 = .ok (.ldc2_w 65, 3) := by decide +kernel
theorem dX2_bandsOf_13 : decode cX2_bandsOf 13 = .ok (.lreturn, 1) := by decide +kernel
theorem dX2_zonesOf_0 : decode cX2_zonesOf 0 = .ok (.iconst 1, 1) := by decide +kernel
theorem dX2_zonesOf_1 : decode cX2_zonesOf 1 = .ok (.iload_n 1, 1) := by decide +kernel
theorem dX2_zonesOf_2 : decode cX2_zonesOf 2 = .ok (.ifCond .eq 9, 3) := by decide +kernel
theorem dX2_zonesOf_5 : decode cX2_zonesOf 5 = .ok (.iload_n 0, 1) := by decide +kernel
theorem dX2_zonesOf_6 : decode cX2_zonesOf 6 = .ok (.iconst 1, 1) := by decide +kernel
theorem dX2_zonesOf_7 : decode cX2_zonesOf 7 = .ok (.isub, 1) := by decide +kernel
theorem dX2_zonesOf_8 : decode cX2_zonesOf 8 = .ok (.goto 4, 3) := by decide +kernel
theorem dX2_zonesOf_11 : decode cX2_zonesOf 11 = .ok (.iload_n 0, 1) := by decide +kernel
theorem dX2_zonesOf_12 : decode cX2_zonesOf 12 = .ok (.invokestatic 110, 3) := by decide +kernel
theorem dX2_zonesOf_15 : decode cX2_zonesOf 15 = .ok (.i2l, 1) := by decide +kernel
theorem dX2_zonesOf_16 : decode cX2_zonesOf 16 = .ok (.lreturn, 1) := by decide +kernel
theorem dX2_yOf_0 : decode cX2_yOf 0 = .ok (.lload_n 0, 1) := by decide +kernel
theorem dX2_yOf_1 : decode cX2_yOf 1 = .ok (.ldc2_w 54, 3) := by decide +kernel
theorem dX2_yOf_4 : decode cX2_yOf 4 = .ok (.ldiv, 1) := by decide +kernel
theorem dX2_yOf_5 : decode cX2_yOf 5 = .ok (.lreturn, 1) := by decide +kernel
theorem dX2_xOf_0 : decode cX2_xOf 0 = .ok (.lload_n 0, 1) := by decide +kernel
theorem dX2_xOf_1 : decode cX2_xOf 1 = .ok (.ldc2_w 54, 3) := by decide +kernel
theorem dX2_xOf_4 : decode cX2_xOf 4 = .ok (.lrem, 1) := by decide +kernel
theorem dX2_xOf_5 : decode cX2_xOf 5 = .ok (.lreturn, 1) := by decide +kernel
theorem dX2_nearestStep_0 : decode cX2_nearestStep 0 = .ok (.ldc2_w 114, 3) := by decide +kernel
theorem dX2_nearestStep_3 : decode cX2_nearestStep 3 = .ok (.lload_n 0, 1) := by decide +kernel
theorem dX2_nearestStep_4 : decode cX2_nearestStep 4 = .ok (.lmul, 1) := by decide +kernel
theorem dX2_nearestStep_5 : decode cX2_nearestStep 5 = .ok (.lload_n 2, 1) := by decide +kernel
theorem dX2_nearestStep_6 : decode cX2_nearestStep 6 = .ok (.lmul, 1) := by decide +kernel
theorem dX2_nearestStep_7 : decode cX2_nearestStep 7 = .ok (.ldc2_w 54, 3) := by decide +kernel
theorem dX2_nearestStep_10 : decode cX2_nearestStep 10 = .ok (.lmul, 1) := by decide +kernel
theorem dX2_nearestStep_11 : decode cX2_nearestStep 11 = .ok (.lload 4, 2) := by decide +kernel
theorem dX2_nearestStep_13 : decode cX2_nearestStep 13 = .ok (.ladd, 1) := by decide +kernel
theorem dX2_nearestStep_14 : decode cX2_nearestStep 14 = .ok (.ldc2_w 114, 3) := by decide +kernel
theorem dX2_nearestStep_17 : decode cX2_nearestStep 17 = .ok (.lload 4, 2) := by decide +kernel
theorem dX2_nearestStep_19 : decode cX2_nearestStep 19 = .ok (.lmul, 1) := by decide +kernel
theorem dX2_nearestStep_20 : decode cX2_nearestStep 20 = .ok (.invokestatic 104, 3) := by decide +kernel
theorem dX2_nearestStep_23 : decode cX2_nearestStep 23 = .ok (.lreturn, 1) := by decide +kernel
theorem dX2_stepNear_0 : decode cX2_stepNear 0 = .ok (.lload_n 0, 1) := by decide +kernel
theorem dX2_stepNear_1 : decode cX2_stepNear 1 = .ok (.lload 4, 2) := by decide +kernel
theorem dX2_stepNear_3 : decode cX2_stepNear 3 = .ok (.lmul, 1) := by decide +kernel
theorem dX2_stepNear_4 : decode cX2_stepNear 4 = .ok (.ldc2_w 54, 3) := by decide +kernel
theorem dX2_stepNear_7 : decode cX2_stepNear 7 = .ok (.lmul, 1) := by decide +kernel
theorem dX2_stepNear_8 : decode cX2_stepNear 8 = .ok (.lload 6, 2) := by decide +kernel
theorem dX2_stepNear_10 : decode cX2_stepNear 10 = .ok (.ldc2_w 67, 3) := by decide +kernel
theorem dX2_stepNear_13 : decode cX2_stepNear 13 = .ok (.lload_n 2, 1) := by decide +kernel
theorem dX2_stepNear_14 : decode cX2_stepNear 14 = .ok (.lsub, 1) := by decide +kernel
theorem dX2_stepNear_15 : decode cX2_stepNear 15 = .ok (.lmul, 1) := by decide +kernel
theorem dX2_stepNear_16 : decode cX2_stepNear 16 = .ok (.ladd, 1) := by decide +kernel
theorem dX2_stepNear_17 : decode cX2_stepNear 17 = .ok (.lload 6, 2) := by decide +kernel
theorem dX2_stepNear_19 : decode cX2_stepNear 19 = .ok (.ldc2_w 54, 3) := by decide +kernel
theorem dX2_stepNear_22 : decode cX2_stepNear 22 = .ok (.lmul, 1) := by decide +kernel
theorem dX2_stepNear_23 : decode cX2_stepNear 23 = .ok (.invokestatic 104, 3) := by decide +kernel
theorem dX2_stepNear_26 : decode cX2_stepNear 26 = .ok (.lstore 8, 2) := by decide +kernel
theorem dX2_stepNear_28 : decode cX2_stepNear 28 = .ok (.ldc2_w 54, 3) := by decide +kernel
theorem dX2_stepNear_31 : decode cX2_stepNear 31 = .ok (.lload 8, 2) := by decide +kernel
theorem dX2_stepNear_33 : decode cX2_stepNear 33 = .ok (.lmul, 1) := by decide +kernel
theorem dX2_stepNear_34 : decode cX2_stepNear 34 = .ok (.lload_n 2, 1) := by decide +kernel
theorem dX2_stepNear_35 : decode cX2_stepNear 35 = .ok (.ladd, 1) := by decide +kernel
theorem dX2_stepNear_36 : decode cX2_stepNear 36 = .ok (.lreturn, 1) := by decide +kernel
theorem dX2_stepInBand_0 : decode cX2_stepInBand 0 = .ok (.ldc2_w 54, 3) := by decide +kernel
theorem dX2_stepInBand_3 : decode cX2_stepInBand 3 = .ok (.lload_n 0, 1) := by decide +kernel
theorem dX2_stepInBand_4 : decode cX2_stepInBand 4 = .ok (.lload 4, 2) := by decide +kernel
theorem dX2_stepInBand_6 : decode cX2_stepInBand 6 = .ok (.invokestatic 86, 3) := by decide +kernel
theorem dX2_stepInBand_9 : decode cX2_stepInBand 9 = .ok (.lmul, 1) := by decide +kernel
theorem dX2_stepInBand_10 : decode cX2_stepInBand 10 = .ok (.lload_n 2, 1) := by decide +kernel
theorem dX2_stepInBand_11 : decode cX2_stepInBand 11 = .ok (.ladd, 1) := by decide +kernel
theorem dX2_stepInBand_12 : decode cX2_stepInBand 12 = .ok (.lstore 6, 2) := by decide +kernel
theorem dX2_stepInBand_14 : decode cX2_stepInBand 14 = .ok (.ldc2_w 116, 3) := by decide +kernel
theorem dX2_stepInBand_17 : decode cX2_stepInBand 17 = .ok (.lload 6, 2) := by decide +kernel
theorem dX2_stepInBand_19 : decode cX2_stepInBand 19 = .ok (.lmul, 1) := by decide +kernel
theorem dX2_stepInBand_20 : decode cX2_stepInBand 20 = .ok (.ldc2_w 118, 3) := by decide +kernel
theorem dX2_stepInBand_23 : decode cX2_stepInBand 23 = .ok (.lload 4, 2) := by decide +kernel
theorem dX2_stepInBand_25 : decode cX2_stepInBand 25 = .ok (.lmul, 1) := by decide +kernel
theorem dX2_stepInBand_26 : decode cX2_stepInBand 26 = .ok (.ldc2_w 54, 3) := by decide +kernel
theorem dX2_stepInBand_29 : decode cX2_stepInBand 29 = .ok (.lmul, 1) := by decide +kernel
theorem dX2_stepInBand_30 : decode cX2_stepInBand 30 = .ok (.lcmp, 1) := by decide +kernel
theorem dX2_stepInBand_31 : decode cX2_stepInBand 31 = .ok (.ifCond .lt 15, 3) := by decide +kernel
theorem dX2_stepInBand_34 : decode cX2_stepInBand 34 = .ok (.lload 6, 2) := by decide +kernel
theorem dX2_stepInBand_36 : decode cX2_stepInBand 36 = .ok (.lload 4, 2) := by decide +kernel
theorem dX2_stepInBand_38 : decode cX2_stepInBand 38 = .ok (.ldc2_w 54, 3) := by decide +kernel
theorem dX2_stepInBand_41 : decode cX2_stepInBand 41 = .ok (.lmul, 1) := by decide +kernel
theorem dX2_stepInBand_42 : decode cX2_stepInBand 42 = .ok (.lsub, 1) := by decide +kernel
theorem dX2_stepInBand_43 : decode cX2_stepInBand 43 = .ok (.goto 5, 3) := by decide +kernel
theorem dX2_stepInBand_46 : decode cX2_stepInBand 46 = .ok (.lload 6, 2) := by decide +kernel
theorem dX2_stepInBand_48 : decode cX2_stepInBand 48 = .ok (.lreturn, 1) := by decide +kernel
theorem dX2_isBeyondPole_0 : decode cX2_isBeyondPole 0 = .ok (.lload 4, 2) := by decide +kernel
theorem dX2_isBeyondPole_2 : decode cX2_isBeyondPole 2 = .ok (.lload_n 0, 1) := by decide +kernel
theorem dX2_isBeyondPole_3 : decode cX2_isBeyondPole 3 = .ok (.invokestatic 23, 3) := by decide +kernel
theorem dX2_isBeyondPole_6 : decode cX2_isBeyondPole 6 = .ok (.lmul, 1) := by decide +kernel
theorem dX2_isBeyondPole_7 : decode cX2_isBeyondPole 7 = .ok (.ldc2_w 13, 3) := by decide +kernel
theorem dX2_isBeyondPole_10 : decode cX2_isBeyondPole 10 = .ok (.lload_n 2, 1) := by decide +kernel
theorem dX2_isBeyondPole_11 : decode cX2_isBeyondPole 11 = .ok (.lmul, 1) := by decide +kernel
theorem dX2_isBeyondPole_12 : decode cX2_isBeyondPole 12 = .ok (.ldc2_w 54, 3) := by decide +kernel
theorem dX2_isBeyondPole_15 : decode cX2_isBeyondPole 15 = .ok (.lmul, 1) := by decide +kernel
theorem dX2_isBeyondPole_16 : decode cX2_isBeyondPole 16 = .ok (.lcmp, 1) := by decide +kernel
theorem dX2_isBeyondPole_17 : decode cX2_isBeyondPole 17 = .ok (.ifCond .le 7, 3) := by decide +kernel
theorem dX2_isBeyondPole_20 : decode cX2_isBeyondPole 20 = .ok (.iconst 1, 1) := by decide +kernel
theorem dX2_isBeyondPole_21 : decode cX2_isBeyondPole 21 = .ok (.goto 4, 3) := by decide +kernel
theorem dX2_isBeyondPole_24 : decode cX2_isBeyondPole 24 = .ok (.iconst 0, 1) := by decide +kernel
theorem dX2_isBeyondPole_25 : decode cX2_isBeyondPole 25 = .ok (.ireturn, 1) := by decide +kernel
theorem dX2_zoneCountAt_0 : decode cX2_zoneCountAt 0 = .ok (.ldc2_w 120, 3) := by decide +kernel
theorem dX2_zoneCountAt_3 : decode cX2_zoneCountAt 3 = .ok (.lload 4, 2) := by decide +kernel
theorem dX2_zoneCountAt_5 : decode cX2_zoneCountAt 5 = .ok (.lmul, 1) := by decide +kernel
theorem dX2_zoneCountAt_6 : decode cX2_zoneCountAt 6 = .ok (.lload_n 0, 1) := by decide +kernel
theorem dX2_zoneCountAt_7 : decode cX2_zoneCountAt 7 = .ok (.lmul, 1) := by decide +kernel
theorem dX2_zoneCountAt_8 : decode cX2_zoneCountAt 8 = .ok (.lload_n 2, 1) := by decide +kernel
theorem dX2_zoneCountAt_9 : decode cX2_zoneCountAt 9 = .ok (.ldc2_w 54, 3) := by decide +kernel
theorem dX2_zoneCountAt_12 : decode cX2_zoneCountAt 12 = .ok (.lmul, 1) := by decide +kernel
theorem dX2_zoneCountAt_13 : decode cX2_zoneCountAt 13 = .ok (.invokestatic 122, 3) := by decide +kernel
theorem dX2_zoneCountAt_16 : decode cX2_zoneCountAt 16 = .ok (.ireturn, 1) := by decide +kernel
theorem dX2_quotient_0 : decode cX2_quotient 0 = .ok (.lload_n 2, 1) := by decide +kernel
theorem dX2_quotient_1 : decode cX2_quotient 1 = .ok (.lconst 0, 1) := by decide +kernel
theorem dX2_quotient_2 : decode cX2_quotient 2 = .ok (.lcmp, 1) := by decide +kernel
theorem dX2_quotient_3 : decode cX2_quotient 3 = .ok (.ifCond .gt 7, 3) := by decide +kernel
theorem dX2_quotient_6 : decode cX2_quotient 6 = .ok (.lconst 0, 1) := by decide +kernel
theorem dX2_quotient_7 : decode cX2_quotient 7 = .ok (.goto 8, 3) := by decide +kernel
theorem dX2_quotient_10 : decode cX2_quotient 10 = .ok (.lload_n 0, 1) := by decide +kernel
theorem dX2_quotient_11 : decode cX2_quotient 11 = .ok (.lload_n 2, 1) := by decide +kernel
theorem dX2_quotient_12 : decode cX2_quotient 12 = .ok (.invokestatic 69, 3) := by decide +kernel
theorem dX2_quotient_15 : decode cX2_quotient 15 = .ok (.lreturn, 1) := by decide +kernel
theorem dX2_remainder_0 : decode cX2_remainder 0 = .ok (.lload_n 2, 1) := by decide +kernel
theorem dX2_remainder_1 : decode cX2_remainder 1 = .ok (.lconst 0, 1) := by decide +kernel
theorem dX2_remainder_2 : decode cX2_remainder 2 = .ok (.lcmp, 1) := by decide +kernel
theorem dX2_remainder_3 : decode cX2_remainder 3 = .ok (.ifCond .gt 7, 3) := by decide +kernel
theorem dX2_remainder_6 : decode cX2_remainder 6 = .ok (.lconst 0, 1) := by decide +kernel
theorem dX2_remainder_7 : decode cX2_remainder 7 = .ok (.goto 8, 3) := by decide +kernel
theorem dX2_remainder_10 : decode cX2_remainder 10 = .ok (.lload_n 0, 1) := by decide +kernel
theorem dX2_remainder_11 : decode cX2_remainder 11 = .ok (.lload_n 2, 1) := by decide +kernel
theorem dX2_remainder_12 : decode cX2_remainder 12 = .ok (.invokestatic 56, 3) := by decide +kernel
theorem dX2_remainder_15 : decode cX2_remainder 15 = .ok (.lreturn, 1) := by decide +kernel
theorem dJ9_floorDiv_f86c9_0 : decode cJ9_floorDiv_f86c9 0 = .ok (.lload_n 0, 1) := by decide +kernel
theorem dJ9_floorDiv_f86c9_1 : decode cJ9_floorDiv_f86c9 1 = .ok (.lload_n 2, 1) := by decide +kernel
theorem dJ9_floorDiv_f86c9_2 : decode cJ9_floorDiv_f86c9 2 = .ok (.ldiv, 1) := by decide +kernel
theorem dJ9_floorDiv_f86c9_3 : decode cJ9_floorDiv_f86c9 3 = .ok (.lstore 4, 2) := by decide +kernel
theorem dJ9_floorDiv_f86c9_5 : decode cJ9_floorDiv_f86c9 5 = .ok (.lload_n 0, 1) := by decide +kernel
theorem dJ9_floorDiv_f86c9_6 : decode cJ9_floorDiv_f86c9 6 = .ok (.lload_n 2, 1) := by decide +kernel
theorem dJ9_floorDiv_f86c9_7 : decode cJ9_floorDiv_f86c9 7 = .ok (.lxor, 1) := by decide +kernel
theorem dJ9_floorDiv_f86c9_8 : decode cJ9_floorDiv_f86c9 8 = .ok (.lconst 0, 1) := by decide +kernel
theorem dJ9_floorDiv_f86c9_9 : decode cJ9_floorDiv_f86c9 9 = .ok (.lcmp, 1) := by decide +kernel
theorem dJ9_floorDiv_f86c9_10 : decode cJ9_floorDiv_f86c9 10 = .ok (.ifCond .ge 17, 3) := by decide +kernel
theorem dJ9_floorDiv_f86c9_13 : decode cJ9_floorDiv_f86c9 13 = .ok (.lload 4, 2) := by decide +kernel
theorem dJ9_floorDiv_f86c9_15 : decode cJ9_floorDiv_f86c9 15 = .ok (.lload_n 2, 1) := by decide +kernel
theorem dJ9_floorDiv_f86c9_16 : decode cJ9_floorDiv_f86c9 16 = .ok (.lmul, 1) := by decide +kernel
theorem dJ9_floorDiv_f86c9_17 : decode cJ9_floorDiv_f86c9 17 = .ok (.lload_n 0, 1) := by decide +kernel
theorem dJ9_floorDiv_f86c9_18 : decode cJ9_floorDiv_f86c9 18 = .ok (.lcmp, 1) := by decide +kernel
theorem dJ9_floorDiv_f86c9_19 : decode cJ9_floorDiv_f86c9 19 = .ok (.ifCond .eq 8, 3) := by decide +kernel
theorem dJ9_floorDiv_f86c9_22 : decode cJ9_floorDiv_f86c9 22 = .ok (.lload 4, 2) := by decide +kernel
theorem dJ9_floorDiv_f86c9_24 : decode cJ9_floorDiv_f86c9 24 = .ok (.lconst 1, 1) := by decide +kernel
theorem dJ9_floorDiv_f86c9_25 : decode cJ9_floorDiv_f86c9 25 = .ok (.lsub, 1) := by decide +kernel
theorem dJ9_floorDiv_f86c9_26 : decode cJ9_floorDiv_f86c9 26 = .ok (.lreturn, 1) := by decide +kernel
theorem dJ9_floorDiv_f86c9_27 : decode cJ9_floorDiv_f86c9 27 = .ok (.lload 4, 2) := by decide +kernel
theorem dJ9_floorDiv_f86c9_29 : decode cJ9_floorDiv_f86c9 29 = .ok (.lreturn, 1) := by decide +kernel
theorem dJ9_floorMod_f86c9_0 : decode cJ9_floorMod_f86c9 0 = .ok (.lload_n 0, 1) := by decide +kernel
theorem dJ9_floorMod_f86c9_1 : decode cJ9_floorMod_f86c9 1 = .ok (.lload_n 2, 1) := by decide +kernel
theorem dJ9_floorMod_f86c9_2 : decode cJ9_floorMod_f86c9 2 = .ok (.lrem, 1) := by decide +kernel
theorem dJ9_floorMod_f86c9_3 : decode cJ9_floorMod_f86c9 3 = .ok (.lstore 4, 2) := by decide +kernel
theorem dJ9_floorMod_f86c9_5 : decode cJ9_floorMod_f86c9 5 = .ok (.lload_n 0, 1) := by decide +kernel
theorem dJ9_floorMod_f86c9_6 : decode cJ9_floorMod_f86c9 6 = .ok (.lload_n 2, 1) := by decide +kernel
theorem dJ9_floorMod_f86c9_7 : decode cJ9_floorMod_f86c9 7 = .ok (.lxor, 1) := by decide +kernel
theorem dJ9_floorMod_f86c9_8 : decode cJ9_floorMod_f86c9 8 = .ok (.lconst 0, 1) := by decide +kernel
theorem dJ9_floorMod_f86c9_9 : decode cJ9_floorMod_f86c9 9 = .ok (.lcmp, 1) := by decide +kernel
theorem dJ9_floorMod_f86c9_10 : decode cJ9_floorMod_f86c9 10 = .ok (.ifCond .ge 15, 3) := by decide +kernel
theorem dJ9_floorMod_f86c9_13 : decode cJ9_floorMod_f86c9 13 = .ok (.lload 4, 2) := by decide +kernel
theorem dJ9_floorMod_f86c9_15 : decode cJ9_floorMod_f86c9 15 = .ok (.lconst 0, 1) := by decide +kernel
theorem dJ9_floorMod_f86c9_16 : decode cJ9_floorMod_f86c9 16 = .ok (.lcmp, 1) := by decide +kernel
theorem dJ9_floorMod_f86c9_17 : decode cJ9_floorMod_f86c9 17 = .ok (.ifCond .eq 8, 3) := by decide +kernel
theorem dJ9_floorMod_f86c9_20 : decode cJ9_floorMod_f86c9 20 = .ok (.lload 4, 2) := by decide +kernel
theorem dJ9_floorMod_f86c9_22 : decode cJ9_floorMod_f86c9 22 = .ok (.lload_n 2, 1) := by decide +kernel
theorem dJ9_floorMod_f86c9_23 : decode cJ9_floorMod_f86c9 23 = .ok (.ladd, 1) := by decide +kernel
theorem dJ9_floorMod_f86c9_24 : decode cJ9_floorMod_f86c9 24 = .ok (.lreturn, 1) := by decide +kernel
theorem dJ9_floorMod_f86c9_25 : decode cJ9_floorMod_f86c9 25 = .ok (.lload 4, 2) := by decide +kernel
theorem dJ9_floorMod_f86c9_27 : decode cJ9_floorMod_f86c9 27 = .ok (.lreturn, 1) := by decide +kernel
theorem dJ9_abs_067f4_0 : decode cJ9_abs_067f4 0 = .ok (.lload_n 0, 1) := by decide +kernel
theorem dJ9_abs_067f4_1 : decode cJ9_abs_067f4 1 = .ok (.lconst 0, 1) := by decide +kernel
theorem dJ9_abs_067f4_2 : decode cJ9_abs_067f4 2 = .ok (.lcmp, 1) := by decide +kernel
theorem dJ9_abs_067f4_3 : decode cJ9_abs_067f4 3 = .ok (.ifCond .ge 8, 3) := by decide +kernel
theorem dJ9_abs_067f4_6 : decode cJ9_abs_067f4 6 = .ok (.lload_n 0, 1) := by decide +kernel
theorem dJ9_abs_067f4_7 : decode cJ9_abs_067f4 7 = .ok (.lneg, 1) := by decide +kernel
theorem dJ9_abs_067f4_8 : decode cJ9_abs_067f4 8 = .ok (.goto 4, 3) := by decide +kernel
theorem dJ9_abs_067f4_11 : decode cJ9_abs_067f4 11 = .ok (.lload_n 0, 1) := by decide +kernel
theorem dJ9_abs_067f4_12 : decode cJ9_abs_067f4 12 = .ok (.lreturn, 1) := by decide +kernel
theorem dJ9_max_7cf53_0 : decode cJ9_max_7cf53 0 = .ok (.iload_n 0, 1) := by decide +kernel
theorem dJ9_max_7cf53_1 : decode cJ9_max_7cf53 1 = .ok (.iload_n 1, 1) := by decide +kernel
theorem dJ9_max_7cf53_2 : decode cJ9_max_7cf53 2 = .ok (.if_icmp .lt 7, 3) := by decide +kernel
theorem dJ9_max_7cf53_5 : decode cJ9_max_7cf53 5 = .ok (.iload_n 0, 1) := by decide +kernel
theorem dJ9_max_7cf53_6 : decode cJ9_max_7cf53 6 = .ok (.goto 4, 3) := by decide +kernel
theorem dJ9_max_7cf53_9 : decode cJ9_max_7cf53 9 = .ok (.iload_n 1, 1) := by decide +kernel
theorem dJ9_max_7cf53_10 : decode cJ9_max_7cf53 10 = .ok (.ireturn, 1) := by decide +kernel
theorem dJ7_fill_d0a16_0 : decode cJ7_fill_d0a16 0 = .ok (.iconst 0, 1) := by decide +kernel
theorem dJ7_fill_d0a16_1 : decode cJ7_fill_d0a16 1 = .ok (.istore_n 3, 1) := by decide +kernel
theorem dJ7_fill_d0a16_2 : decode cJ7_fill_d0a16 2 = .ok (.aload_n 0, 1) := by decide +kernel
theorem dJ7_fill_d0a16_3 : decode cJ7_fill_d0a16 3 = .ok (.arraylength, 1) := by decide +kernel
theorem dJ7_fill_d0a16_4 : decode cJ7_fill_d0a16 4 = .ok (.istore 4, 2) := by decide +kernel
theorem dJ7_fill_d0a16_6 : decode cJ7_fill_d0a16 6 = .ok (.iload_n 3, 1) := by decide +kernel
theorem dJ7_fill_d0a16_7 : decode cJ7_fill_d0a16 7 = .ok (.iload 4, 2) := by decide +kernel
theorem dJ7_fill_d0a16_9 : decode cJ7_fill_d0a16 9 = .ok (.if_icmp .ge 13, 3) := by decide +kernel
theorem dJ7_fill_d0a16_12 : decode cJ7_fill_d0a16 12 = .ok (.aload_n 0, 1) := by decide +kernel
theorem dJ7_fill_d0a16_13 : decode cJ7_fill_d0a16 13 = .ok (.iload_n 3, 1) := by decide +kernel
theorem dJ7_fill_d0a16_14 : decode cJ7_fill_d0a16 14 = .ok (.lload_n 1, 1) := by decide +kernel
theorem dJ7_fill_d0a16_15 : decode cJ7_fill_d0a16 15 = .ok (.lastore, 1) := by decide +kernel
theorem dJ7_fill_d0a16_16 : decode cJ7_fill_d0a16 16 = .ok (.iinc 3 1, 3) := by decide +kernel
theorem dJ7_fill_d0a16_19 : decode cJ7_fill_d0a16 19 = .ok (.goto (-13), 3) := by decide +kernel
theorem dJ7_fill_d0a16_22 : decode cJ7_fill_d0a16 22 = .ok (.return_, 1) := by decide +kernel
theorem dJ7_fill_53178_0 : decode cJ7_fill_53178 0 = .ok (.iconst 0, 1) := by decide +kernel
theorem dJ7_fill_53178_1 : decode cJ7_fill_53178 1 = .ok (.istore_n 2, 1) := by decide +kernel
theorem dJ7_fill_53178_2 : decode cJ7_fill_53178 2 = .ok (.aload_n 0, 1) := by decide +kernel
theorem dJ7_fill_53178_3 : decode cJ7_fill_53178 3 = .ok (.arraylength, 1) := by decide +kernel
theorem dJ7_fill_53178_4 : decode cJ7_fill_53178 4 = .ok (.istore_n 3, 1) := by decide +kernel
theorem dJ7_fill_53178_5 : decode cJ7_fill_53178 5 = .ok (.iload_n 2, 1) := by decide +kernel
theorem dJ7_fill_53178_6 : decode cJ7_fill_53178 6 = .ok (.iload_n 3, 1) := by decide +kernel
theorem dJ7_fill_53178_7 : decode cJ7_fill_53178 7 = .ok (.if_icmp .ge 13, 3) := by decide +kernel
theorem dJ7_fill_53178_10 : decode cJ7_fill_53178 10 = .ok (.aload_n 0, 1) := by decide +kernel
theorem dJ7_fill_53178_11 : decode cJ7_fill_53178 11 = .ok (.iload_n 2, 1) := by decide +kernel
theorem dJ7_fill_53178_12 : decode cJ7_fill_53178 12 = .ok (.iload_n 1, 1) := by decide +kernel
theorem dJ7_fill_53178_13 : decode cJ7_fill_53178 13 = .ok (.iastore, 1) := by decide +kernel
theorem dJ7_fill_53178_14 : decode cJ7_fill_53178 14 = .ok (.iinc 2 1, 3) := by decide +kernel
theorem dJ7_fill_53178_17 : decode cJ7_fill_53178 17 = .ok (.goto (-12), 3) := by decide +kernel
theorem dJ7_fill_53178_20 : decode cJ7_fill_53178 20 = .ok (.return_, 1) := by decide +kernel
