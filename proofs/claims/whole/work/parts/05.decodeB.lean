/-! decoded instructions -/
theorem dX3_init_0 : decode cX3_init 0 = .ok (.aload_n 0, 1) := by decide +kernel
theorem dX3_init_1 : decode cX3_init 1 = .ok (.invokespecial 3, 3) := by decide +kernel
theorem dX3_init_4 : decode cX3_init 4 = .ok (.aload_n 0, 1) := by decide +kernel
theorem dX3_init_5 : decode cX3_init 5 = .ok (.bipush 18, 2) := by decide +kernel
theorem dX3_init_7 : decode cX3_init 7 = .ok (.newarray .int, 2) := by decide +kernel
theorem dX3_init_9 : decode cX3_init 9 = .ok (.putfield 9, 3) := by decide +kernel
theorem dX3_init_12 : decode cX3_init 12 = .ok (.aload_n 0, 1) := by decide +kernel
theorem dX3_init_13 : decode cX3_init 13 = .ok (.bipush 8, 2) := by decide +kernel
theorem dX3_init_15 : decode cX3_init 15 = .ok (.newarray .int, 2) := by decide +kernel
theorem dX3_init_17 : decode cX3_init 17 = .ok (.putfield 15, 3) := by decide +kernel
theorem dX3_init_20 : decode cX3_init 20 = .ok (.aload_n 0, 1) := by decide +kernel
theorem dX3_init_21 : decode cX3_init 21 = .ok (.iconst 2, 1) := by decide +kernel
theorem dX3_init_22 : decode cX3_init 22 = .ok (.newarray .long, 2) := by decide +kernel
theorem dX3_init_24 : decode cX3_init 24 = .ok (.putfield 18, 3) := by decide +kernel
theorem dX3_init_27 : decode cX3_init 27 = .ok (.aload_n 0, 1) := by decide +kernel
theorem dX3_init_28 : decode cX3_init 28 = .ok (.iconst 2, 1) := by decide +kernel
theorem dX3_init_29 : decode cX3_init 29 = .ok (.newarray .int, 2) := by decide +kernel
theorem dX3_init_31 : decode cX3_init 31 = .ok (.putfield 22, 3) := by decide +kernel
theorem dX3_init_34 : decode cX3_init 34 = .ok (.return_, 1) := by decide +kernel
theorem dX3_begin_0 : decode cX3_begin 0 = .ok (.aload_n 0, 1) := by decide +kernel
theorem dX3_begin_1 : decode cX3_begin 1 = .ok (.getfield 9, 3) := by decide +kernel
theorem dX3_begin_4 : decode cX3_begin 4 = .ok (.ldc 25, 2) := by decide +kernel
theorem dX3_begin_6 : decode cX3_begin 6 = .ok (.invokestatic 26, 3) := by decide +kernel
theorem dX3_begin_9 : decode cX3_begin 9 = .ok (.aload_n 0, 1) := by decide +kernel
theorem dX3_begin_10 : decode cX3_begin 10 = .ok (.getfield 15, 3) := by decide +kernel
theorem dX3_begin_13 : decode cX3_begin 13 = .ok (.iconst (-1), 1) := by decide +kernel
theorem dX3_begin_14 : decode cX3_begin 14 = .ok (.invokestatic 26, 3) := by decide +kernel
theorem dX3_begin_17 : decode cX3_begin 17 = .ok (.aload_n 0, 1) := by decide +kernel
theorem dX3_begin_18 : decode cX3_begin 18 = .ok (.getfield 18, 3) := by decide +kernel
theorem dX3_begin_21 : decode cX3_begin 21 = .ok (.ldc2_w 32, 3) := by decide +kernel
theorem dX3_begin_24 : decode cX3_begin 24 = .ok (.invokestatic 34, 3) := by decide +kernel
theorem dX3_begin_27 : decode cX3_begin 27 = .ok (.aload_n 0, 1) := by decide +kernel
theorem dX3_begin_28 : decode cX3_begin 28 = .ok (.getfield 9, 3) := by decide +kernel
theorem dX3_begin_31 : decode cX3_begin 31 = .ok (.iconst 0, 1) := by decide +kernel
theorem dX3_begin_32 : decode cX3_begin 32 = .ok (.iload_n 1, 1) := by decide +kernel
theorem dX3_begin_33 : decode cX3_begin 33 = .ok (.iastore, 1) := by decide +kernel
theorem dX3_begin_34 : decode cX3_begin 34 = .ok (.aload_n 0, 1) := by decide +kernel
theorem dX3_begin_35 : decode cX3_begin 35 = .ok (.getfield 9, 3) := by decide +kernel
theorem dX3_begin_38 : decode cX3_begin 38 = .ok (.iconst 2, 1) := by decide +kernel
theorem dX3_begin_39 : decode cX3_begin 39 = .ok (.iconst 0, 1) := by decide +kernel
theorem dX3_begin_40 : decode cX3_begin 40 = .ok (.iastore, 1) := by decide +kernel
theorem dX3_begin_41 : decode cX3_begin 41 = .ok (.aload_n 0, 1) := by decide +kernel
theorem dX3_begin_42 : decode cX3_begin 42 = .ok (.getfield 9, 3) := by decide +kernel
theorem dX3_begin_45 : decode cX3_begin 45 = .ok (.iconst 3, 1) := by decide +kernel
theorem dX3_begin_46 : decode cX3_begin 46 = .ok (.iconst 0, 1) := by decide +kernel
theorem dX3_begin_47 : decode cX3_begin 47 = .ok (.iastore, 1) := by decide +kernel
theorem dX3_begin_48 : decode cX3_begin 48 = .ok (.return_, 1) := by decide +kernel
theorem dX3_value_0 : decode cX3_value 0 = .ok (.iload_n 1, 1) := by decide +kernel
theorem dX3_value_1 : decode cX3_value 1 = .ok (.ifCond .lt 12, 3) := by decide +kernel
theorem dX3_value_4 : decode cX3_value 4 = .ok (.iload_n 1, 1) := by decide +kernel
theorem dX3_value_5 : decode cX3_value 5 = .ok (.aload_n 0, 1) := by decide +kernel
theorem dX3_value_6 : decode cX3_value 6 = .ok (.getfield 9, 3) := by decide +kernel
theorem dX3_value_9 : decode cX3_value 9 = .ok (.arraylength, 1) := by decide +kernel
theorem dX3_value_10 : decode cX3_value 10 = .ok (.if_icmp .lt 7, 3) := by decide +kernel
theorem dX3_value_13 : decode cX3_value 13 = .ok (.iconst (-1), 1) := by decide +kernel
theorem dX3_value_14 : decode cX3_value 14 = .ok (.goto 9, 3) := by decide +kernel
theorem dX3_value_17 : decode cX3_value 17 = .ok (.aload_n 0, 1) := by decide +kernel
theorem dX3_value_18 : decode cX3_value 18 = .ok (.getfield 9, 3) := by decide +kernel
theorem dX3_value_21 : decode cX3_value 21 = .ok (.iload_n 1, 1) := by decide +kernel
theorem dX3_value_22 : decode cX3_value 22 = .ok (.iaload, 1) := by decide +kernel
theorem dX3_value_23 : decode cX3_value 23 = .ok (.ireturn, 1) := by decide +kernel
theorem dX3_letter_0 : decode cX3_letter 0 = .ok (.iload_n 1, 1) := by decide +kernel
theorem dX3_letter_1 : decode cX3_letter 1 = .ok (.ifCond .lt 12, 3) := by decide +kernel
theorem dX3_letter_4 : decode cX3_letter 4 = .ok (.iload_n 1, 1) := by decide +kernel
theorem dX3_letter_5 : decode cX3_letter 5 = .ok (.aload_n 0, 1) := by decide +kernel
theorem dX3_letter_6 : decode cX3_letter 6 = .ok (.getfield 15, 3) := by decide +kernel
theorem dX3_letter_9 : decode cX3_letter 9 = .ok (.arraylength, 1) := by decide +kernel
theorem dX3_letter_10 : decode cX3_letter 10 = .ok (.if_icmp .lt 7, 3) := by decide +kernel
theorem dX3_letter_13 : decode cX3_letter 13 = .ok (.iconst (-1), 1) := by decide +kernel
theorem dX3_letter_14 : decode cX3_letter 14 = .ok (.goto 9, 3) := by decide +kernel
theorem dX3_letter_17 : decode cX3_letter 17 = .ok (.aload_n 0, 1) := by decide +kernel
theorem dX3_letter_18 : decode cX3_letter 18 = .ok (.getfield 15, 3) := by decide +kernel
theorem dX3_letter_21 : decode cX3_letter 21 = .ok (.iload_n 1, 1) := by decide +kernel
theorem dX3_letter_22 : decode cX3_letter 22 = .ok (.iaload, 1) := by decide +kernel
theorem dX3_letter_23 : decode cX3_letter 23 = .ok (.ireturn, 1) := by decide +kernel
theorem dX3_countFrame_0 : decode cX3_countFrame 0 = .ok (.aload_n 0, 1) := by decide +kernel
theorem dX3_countFrame_1 : decode cX3_countFrame 1 = .ok (.getfield 9, 3) := by decide +kernel
theorem dX3_countFrame_4 : decode cX3_countFrame 4 = .ok (.iconst 1, 1) := by decide +kernel
theorem dX3_countFrame_5 : decode cX3_countFrame 5 = .ok (.iload_n 2, 1) := by decide +kernel
theorem dX3_countFrame_6 : decode cX3_countFrame 6 = .ok (.iastore, 1) := by decide +kernel
theorem dX3_countFrame_7 : decode cX3_countFrame 7 = .ok (.aload_n 0, 1) := by decide +kernel
theorem dX3_countFrame_8 : decode cX3_countFrame 8 = .ok (.getfield 9, 3) := by decide +kernel
theorem dX3_countFrame_11 : decode cX3_countFrame 11 = .ok (.iconst 2, 1) := by decide +kernel
theorem dX3_countFrame_12 : decode cX3_countFrame 12 = .ok (.dup2, 1) := by decide +kernel
theorem dX3_countFrame_13 : decode cX3_countFrame 13 = .ok (.iaload, 1) := by decide +kernel
theorem dX3_countFrame_14 : decode cX3_countFrame 14 = .ok (.iconst 1, 1) := by decide +kernel
theorem dX3_countFrame_15 : decode cX3_countFrame 15 = .ok (.iadd, 1) := by decide +kernel
theorem dX3_countFrame_16 : decode cX3_countFrame 16 = .ok (.iastore, 1) := by decide +kernel
theorem dX3_countFrame_17 : decode cX3_countFrame 17 = .ok (.aload_n 1, 1) := by decide +kernel
theorem dX3_countFrame_18 : decode cX3_countFrame 18 = .ok (.invokevirtual 37, 3) := by decide +kernel
theorem dX3_countFrame_21 : decode cX3_countFrame 21 = .ok (.iconst (-1), 1) := by decide +kernel
theorem dX3_countFrame_22 : decode cX3_countFrame 22 = .ok (.if_icmp .eq 13, 3) := by decide +kernel
theorem dX3_countFrame_25 : decode cX3_countFrame 25 = .ok (.aload_n 0, 1) := by decide +kernel
theorem dX3_countFrame_26 : decode cX3_countFrame 26 = .ok (.getfield 9, 3) := by decide +kernel
theorem dX3_countFrame_29 : decode cX3_countFrame 29 = .ok (.iconst 3, 1) := by decide +kernel
theorem dX3_countFrame_30 : decode cX3_countFrame 30 = .ok (.dup2, 1) := by decide +kernel
theorem dX3_countFrame_31 : decode cX3_countFrame 31 = .ok (.iaload, 1) := by decide +kernel
theorem dX3_countFrame_32 : decode cX3_countFrame 32 = .ok (.iconst 1, 1) := by decide +kernel
theorem dX3_countFrame_33 : decode cX3_countFrame 33 = .ok (.iadd, 1) := by decide +kernel
theorem dX3_countFrame_34 : decode cX3_countFrame 34 = .ok (.iastore, 1) := by decide +kernel
theorem dX3_countFrame_35 : decode cX3_countFrame 35 = .ok (.return_, 1) := by decide +kernel
theorem dX3_learnReply_0 : decode cX3_learnReply 0 = .ok (.aload_n 1, 1) := by decide +kernel
theorem dX3_learnReply_1 : decode cX3_learnReply 1 = .ok (.ldc 43, 2) := by decide +kernel
theorem dX3_learnReply_3 : decode cX3_learnReply 3 = .ok (.invokevirtual 44, 3) := by decide +kernel
theorem dX3_learnReply_6 : decode cX3_learnReply 6 = .ok (.ifCond .eq 20, 3) := by decide +kernel
theorem dX3_learnReply_9 : decode cX3_learnReply 9 = .ok (.aload_n 0, 1) := by decide +kernel
theorem dX3_learnReply_10 : decode cX3_learnReply 10 = .ok (.getfield 9, 3) := by decide +kernel
theorem dX3_learnReply_13 : decode cX3_learnReply 13 = .ok (.iconst 4, 1) := by decide +kernel
theorem dX3_learnReply_14 : decode cX3_learnReply 14 = .ok (.aload_n 1, 1) := by decide +kernel
theorem dX3_learnReply_15 : decode cX3_learnReply 15 = .ok (.bipush 20, 2) := by decide +kernel
theorem dX3_learnReply_17 : decode cX3_learnReply 17 = .ok (.bipush 13, 2) := by decide +kernel
theorem dX3_learnReply_19 : decode cX3_learnReply 19 = .ok (.invokevirtual 48, 3) := by decide +kernel
theorem dX3_learnReply_22 : decode cX3_learnReply 22 = .ok (.invokestatic 52, 3) := by decide +kernel
theorem dX3_learnReply_25 : decode cX3_learnReply 25 = .ok (.iastore, 1) := by decide +kernel
theorem dX3_learnReply_26 : decode cX3_learnReply 26 = .ok (.aload_n 1, 1) := by decide +kernel
theorem dX3_learnReply_27 : decode cX3_learnReply 27 = .ok (.ldc 58, 2) := by decide +kernel
theorem dX3_learnReply_29 : decode cX3_learnReply 29 = .ok (.invokevirtual 44, 3) := by decide +kernel
theorem dX3_learnReply_32 : decode cX3_learnReply 32 = .ok (.ifCond .eq 20, 3) := by decide +kernel
theorem dX3_learnReply_35 : decode cX3_learnReply 35 = .ok (.aload_n 0, 1) := by decide +kernel
theorem dX3_learnReply_36 : decode cX3_learnReply 36 = .ok (.getfield 9, 3) := by decide +kernel
theorem dX3_learnReply_39 : decode cX3_learnReply 39 = .ok (.iconst 5, 1) := by decide +kernel
theorem dX3_learnReply_40 : decode cX3_learnReply 40 = .ok (.aload_n 1, 1) := by decide +kernel
theorem dX3_learnReply_41 : decode cX3_learnReply 41 = .ok (.bipush 20, 2) := by decide +kernel
theorem dX3_learnReply_43 : decode cX3_learnReply 43 = .ok (.bipush 13, 2) := by decide +kernel
theorem dX3_learnReply_45 : decode cX3_learnReply 45 = .ok (.invokevirtual 48, 3) := by decide +kernel
theorem dX3_learnReply_48 : decode cX3_learnReply 48 = .ok (.invokestatic 59, 3) := by decide +kernel
theorem dX3_learnReply_51 : decode cX3_learnReply 51 = .ok (.iastore, 1) := by decide +kernel
theorem dX3_learnReply_52 : decode cX3_learnReply 52 = .ok (.return_, 1) := by decide +kernel
theorem dX3_learnMessage_0 : decode cX3_learnMessage 0 = .ok (.aload_n 1, 1) := by decide +kernel
theorem dX3_learnMessage_1 : decode cX3_learnMessage 1 = .ok (.ldc 62, 2) := by decide +kernel
theorem dX3_learnMessage_3 : decode cX3_learnMessage 3 = .ok (.invokevirtual 44, 3) := by decide +kernel
theorem dX3_learnMessage_6 : decode cX3_learnMessage 6 = .ok (.ifCond .ne 4, 3) := by decide +kernel
theorem dX3_learnMessage_9 : decode cX3_learnMessage 9 = .ok (.return_, 1) := by decide +kernel
theorem dX3_learnMessage_10 : decode cX3_learnMessage 10 = .ok (.aload_n 1, 1) := by decide +kernel
theorem dX3_learnMessage_11 : decode cX3_learnMessage 11 = .ok (.iconst 1, 1) := by decide +kernel
theorem dX3_learnMessage_12 : decode cX3_learnMessage 12 = .ok (.iconst 5, 1) := by decide +kernel
theorem dX3_learnMessage_13 : decode cX3_learnMessage 13 = .ok (.invokevirtual 63, 3) := by decide +kernel
theorem dX3_learnMessage_16 : decode cX3_learnMessage 16 = .ok (.istore 5, 2) := by decide +kernel
theorem dX3_learnMessage_18 : decode cX3_learnMessage 18 = .ok (.aload_n 1, 1) := by decide +kernel
theorem dX3_learnMessage_19 : decode cX3_learnMessage 19 = .ok (.bipush 6, 2) := by decide +kernel
theorem dX3_learnMessage_21 : decode cX3_learnMessage 21 = .ok (.bipush 8, 2) := by decide +kernel
theorem dX3_learnMessage_23 : decode cX3_learnMessage 23 = .ok (.invokevirtual 63, 3) := by decide +kernel
theorem dX3_learnMessage_26 : decode cX3_learnMessage 26 = .ok (.istore 6, 2) := by decide +kernel
theorem dX3_learnMessage_28 : decode cX3_learnMessage 28 = .ok (.iload 5, 2) := by decide +kernel
theorem dX3_learnMessage_30 : decode cX3_learnMessage 30 = .ok (.iconst 1, 1) := by decide +kernel
theorem dX3_learnMessage_31 : decode cX3_learnMessage 31 = .ok (.if_icmp .lt 27, 3) := by decide +kernel
theorem dX3_learnMessage_34 : decode cX3_learnMessage 34 = .ok (.iload 5, 2) := by decide +kernel
theorem dX3_learnMessage_36 : decode cX3_learnMessage 36 = .ok (.iconst 4, 1) := by decide +kernel
theorem dX3_learnMessage_37 : decode cX3_learnMessage 37 = .ok (.if_icmp .gt 21, 3) := by decide +kernel
theorem dX3_learnMessage_40 : decode cX3_learnMessage 40 = .ok (.aload_n 0, 1) := by decide +kernel
theorem dX3_learnMessage_41 : decode cX3_learnMessage 41 = .ok (.aload_n 1, 1) := by decide +kernel
theorem dX3_learnMessage_42 : decode cX3_learnMessage 42 = .ok (.bipush 10, 2) := by decide +kernel
theorem dX3_learnMessage_44 : decode cX3_learnMessage 44 = .ok (.iconst 5, 1) := by decide +kernel
theorem dX3_learnMessage_45 : decode cX3_learnMessage 45 = .ok (.iload 5, 2) := by decide +kernel
theorem dX3_learnMessage_47 : decode cX3_learnMessage 47 = .ok (.isub, 1) := by decide +kernel
theorem dX3_learnMessage_48 : decode cX3_learnMessage 48 = .ok (.imul, 1) := by decide +kernel
theorem dX3_learnMessage_49 : decode cX3_learnMessage 49 = .ok (.iload 6, 2) := by decide +kernel
theorem dX3_learnMessage_51 : decode cX3_learnMessage 51 = .ok (.iadd, 1) := by decide +kernel
theorem dX3_learnMessage_52 : decode cX3_learnMessage 52 = .ok (.invokevirtual 66, 3) := by decide +kernel
theorem dX3_learnMessage_55 : decode cX3_learnMessage 55 = .ok (.goto 138, 3) := by decide +kernel
theorem dX3_learnMessage_58 : decode cX3_learnMessage 58 = .ok (.iload 5, 2) := by decide +kernel
theorem dX3_learnMessage_60 : decode cX3_learnMessage 60 = .ok (.iconst 5, 1) := by decide +kernel
theorem dX3_learnMessage_61 : decode cX3_learnMessage 61 = .ok (.if_icmp .lt 20, 3) := by decide +kernel
theorem dX3_learnMessage_64 : decode cX3_learnMessage 64 = .ok (.iload 5, 2) := by decide +kernel
theorem dX3_learnMessage_66 : decode cX3_learnMessage 66 = .ok (.bipush 8, 2) := by decide +kernel
theorem dX3_learnMessage_68 : decode cX3_learnMessage 68 = .ok (.if_icmp .gt 13, 3) := by decide +kernel
theorem dX3_learnMessage_71 : decode cX3_learnMessage 71 = .ok (.aload_n 0, 1) := by decide +kernel
theorem dX3_learnMessage_72 : decode cX3_learnMessage 72 = .ok (.aload_n 1, 1) := by decide +kernel
theorem dX3_learnMessage_73 : decode cX3_learnMessage 73 = .ok (.iload_n 2, 1) := by decide +kernel
theorem dX3_learnMessage_74 : decode cX3_learnMessage 74 = .ok (.lload_n 3, 1) := by decide +kernel
theorem dX3_learnMessage_75 : decode cX3_learnMessage 75 = .ok (.invokevirtual 70, 3) := by decide +kernel
theorem dX3_learnMessage_78 : decode cX3_learnMessage 78 = .ok (.goto 115, 3) := by decide +kernel
theorem dX3_learnMessage_81 : decode cX3_learnMessage 81 = .ok (.iload 5, 2) := by decide +kernel
theorem dX3_learnMessage_83 : decode cX3_learnMessage 83 = .ok (.bipush 19, 2) := by decide +kernel
theorem dX3_learnMessage_85 : decode cX3_learnMessage 85 = .ok (.if_icmp .ne 13, 3) := by decide +kernel
theorem dX3_learnMessage_88 : decode cX3_learnMessage 88 = .ok (.aload_n 0, 1) := by decide +kernel
theorem dX3_learnMessage_89 : decode cX3_learnMessage 89 = .ok (.aload_n 1, 1) := by decide +kernel
theorem dX3_learnMessage_90 : decode cX3_learnMessage 90 = .ok (.iload 6, 2) := by decide +kernel
theorem dX3_learnMessage_92 : decode cX3_learnMessage 92 = .ok (.invokevirtual 74, 3) := by decide +kernel
theorem dX3_learnMessage_95 : decode cX3_learnMessage 95 = .ok (.goto 98, 3) := by decide +kernel
theorem dX3_learnMessage_98 : decode cX3_learnMessage 98 = .ok (.iload 5, 2) := by decide +kernel
theorem dX3_learnMessage_100 : decode cX3_learnMessage 100 = .ok (.bipush 9, 2) := by decide +kernel
theorem dX3_learnMessage_102 : decode cX3_learnMessage 102 = .ok (.if_icmp .lt 21, 3) := by decide +kernel
theorem dX3_learnMessage_105 : decode cX3_learnMessage 105 = .ok (.iload 5, 2) := by decide +kernel
theorem dX3_learnMessage_107 : decode cX3_learnMessage 107 = .ok (.bipush 22, 2) := by decide +kernel
theorem dX3_learnMessage_109 : decode cX3_learnMessage 109 = .ok (.if_icmp .gt 14, 3) := by decide +kernel
theorem dX3_learnMessage_112 : decode cX3_learnMessage 112 = .ok (.aload_n 0, 1) := by decide +kernel
theorem dX3_learnMessage_113 : decode cX3_learnMessage 113 = .ok (.aload_n 1, 1) := by decide +kernel
theorem dX3_learnMessage_114 : decode cX3_learnMessage 114 = .ok (.iload 5, 2) := by decide +kernel
theorem dX3_learnMessage_116 : decode cX3_learnMessage 116 = .ok (.iload_n 2, 1) := by decide +kernel
theorem dX3_learnMessage_117 : decode cX3_learnMessage 117 = .ok (.invokevirtual 77, 3) := by decide +kernel
theorem dX3_learnMessage_120 : decode cX3_learnMessage 120 = .ok (.goto 73, 3) := by decide +kernel
theorem dX3_learnMessage_123 : decode cX3_learnMessage 123 = .ok (.iload 5, 2) := by decide +kernel
theorem dX3_learnMessage_125 : decode cX3_learnMessage 125 = .ok (.bipush 28, 2) := by decide +kernel
theorem dX3_learnMessage_127 : decode cX3_learnMessage 127 = .ok (.if_icmp .ne 44, 3) := by decide +kernel
theorem dX3_learnMessage_130 : decode cX3_learnMessage 130 = .ok (.iload 6, 2) := by decide +kernel
theorem dX3_learnMessage_132 : decode cX3_learnMessage 132 = .ok (.iconst 1, 1) := by decide +kernel
theorem dX3_learnMessage_133 : decode cX3_learnMessage 133 = .ok (.if_icmp .ne 38, 3) := by decide +kernel
theorem dX3_learnMessage_136 : decode cX3_learnMessage 136 = .ok (.aload_n 0, 1) := by decide +kernel
theorem dX3_learnMessage_137 : decode cX3_learnMessage 137 = .ok (.getfield 9, 3) := by decide +kernel
theorem dX3_learnMessage_140 : decode cX3_learnMessage 140 = .ok (.bipush 12, 2) := by decide +kernel
theorem dX3_learnMessage_142 : decode cX3_learnMessage 142 = .ok (.aload_n 1, 1) := by decide +kernel
theorem dX3_learnMessage_143 : decode cX3_learnMessage 143 = .ok (.bipush 9, 2) := by decide +kernel
theorem dX3_learnMessage_145 : decode cX3_learnMessage 145 = .ok (.bipush 11, 2) := by decide +kernel
theorem dX3_learnMessage_147 : decode cX3_learnMessage 147 = .ok (.invokevirtual 63, 3) := by decide +kernel
theorem dX3_learnMessage_150 : decode cX3_learnMessage 150 = .ok (.iastore, 1) := by decide +kernel
theorem dX3_learnMessage_151 : decode cX3_learnMessage 151 = .ok (.aload_n 0, 1) := by decide +kernel
theorem dX3_learnMessage_152 : decode cX3_learnMessage 152 = .ok (.getfield 9, 3) := by decide +kernel
theorem dX3_learnMessage_155 : decode cX3_learnMessage 155 = .ok (.iconst 5, 1) := by decide +kernel
theorem dX3_learnMessage_156 : decode cX3_learnMessage 156 = .ok (.aload_n 1, 1) := by decide +kernel
theorem dX3_learnMessage_157 : decode cX3_learnMessage 157 = .ok (.bipush 12, 2) := by decide +kernel
theorem dX3_learnMessage_159 : decode cX3_learnMessage 159 = .ok (.bipush 24, 2) := by decide +kernel
theorem dX3_learnMessage_161 : decode cX3_learnMessage 161 = .ok (.invokevirtual 63, 3) := by decide +kernel
theorem dX3_learnMessage_164 : decode cX3_learnMessage 164 = .ok (.invokestatic 59, 3) := by decide +kernel
theorem dX3_learnMessage_167 : decode cX3_learnMessage 167 = .ok (.iastore, 1) := by decide +kernel
theorem dX3_learnMessage_168 : decode cX3_learnMessage 168 = .ok (.goto 25, 3) := by decide +kernel
theorem dX3_learnMessage_171 : decode cX3_learnMessage 171 = .ok (.iload 5, 2) := by decide +kernel
theorem dX3_learnMessage_173 : decode cX3_learnMessage 173 = .ok (.bipush 31, 2) := by decide +kernel
theorem dX3_learnMessage_175 : decode cX3_learnMessage 175 = .ok (.if_icmp .ne 18, 3) := by decide +kernel
theorem dX3_learnMessage_178 : decode cX3_learnMessage 178 = .ok (.aload_n 0, 1) := by decide +kernel
theorem dX3_learnMessage_179 : decode cX3_learnMessage 179 = .ok (.getfield 9, 3) := by decide +kernel
theorem dX3_learnMessage_182 : decode cX3_learnMessage 182 = .ok (.bipush 13, 2) := by decide +kernel
theorem dX3_learnMessage_184 : decode cX3_learnMessage 184 = .ok (.aload_n 1, 1) := by decide +kernel
theorem dX3_learnMessage_185 : decode cX3_learnMessage 185 = .ok (.bipush 41, 2) := by decide +kernel
theorem dX3_learnMessage_187 : decode cX3_learnMessage 187 = .ok (.bipush 43, 2) := by decide +kernel
theorem dX3_learnMessage_189 : decode cX3_learnMessage 189 = .ok (.invokevirtual 63, 3) := by decide +kernel
theorem dX3_learnMessage_192 : decode cX3_learnMessage 192 = .ok (.iastore, 1) := by decide +kernel
theorem dX3_learnMessage_193 : decode cX3_learnMessage 193 = .ok (.return_, 1) := by decide +kernel
theorem dX3_learnName_0 : decode cX3_learnName 0 = .ok (.aload_n 0, 1) := by decide +kernel
theorem dX3_learnName_1 : decode cX3_learnName 1 = .ok (.getfield 9, 3) := by decide +kernel
theorem dX3_learnName_4 : decode cX3_learnName 4 = .ok (.bipush 6, 2) := by decide +kernel
theorem dX3_learnName_6 : decode cX3_learnName 6 = .ok (.iload_n 2, 1) := by decide +kernel
theorem dX3_learnName_7 : decode cX3_learnName 7 = .ok (.iastore, 1) := by decide +kernel
theorem dX3_learnName_8 : decode cX3_learnName 8 = .ok (.iconst 0, 1) := by decide +kernel
theorem dX3_learnName_9 : decode cX3_learnName 9 = .ok (.istore_n 3, 1) := by decide +kernel
theorem dX3_learnName_10 : decode cX3_learnName 10 = .ok (.iload_n 3, 1) := by decide +kernel
theorem dX3_learnName_11 : decode cX3_learnName 11 = .ok (.aload_n 0, 1) := by decide +kernel
theorem dX3_learnName_12 : decode cX3_learnName 12 = .ok (.getfield 15, 3) := by decide +kernel
theorem dX3_learnName_15 : decode cX3_learnName 15 = .ok (.arraylength, 1) := by decide +kernel
theorem dX3_learnName_16 : decode cX3_learnName 16 = .ok (.if_icmp .ge 36, 3) := by decide +kernel
theorem dX3_learnName_19 : decode cX3_learnName 19 = .ok (.aload_n 0, 1) := by decide +kernel
theorem dX3_learnName_20 : decode cX3_learnName 20 = .ok (.getfield 15, 3) := by decide +kernel
theorem dX3_learnName_23 : decode cX3_learnName 23 = .ok (.iload_n 3, 1) := by decide +kernel
theorem dX3_learnName_24 : decode cX3_learnName 24 = .ok (.aload_n 1, 1) := by decide +kernel
theorem dX3_learnName_25 : decode cX3_learnName 25 = .ok (.bipush 9, 2) := by decide +kernel
theorem dX3_learnName_27 : decode cX3_learnName 27 = .ok (.bipush 6, 2) := by decide +kernel
theorem dX3_learnName_29 : decode cX3_learnName 29 = .ok (.iload_n 3, 1) := by decide +kernel
theorem dX3_learnName_30 : decode cX3_learnName 30 = .ok (.imul, 1) := by decide +kernel
theorem dX3_learnName_31 : decode cX3_learnName 31 = .ok (.iadd, 1) := by decide +kernel
theorem dX3_learnName_32 : decode cX3_learnName 32 = .ok (.bipush 14, 2) := by decide +kernel
theorem dX3_learnName_34 : decode cX3_learnName 34 = .ok (.bipush 6, 2) := by decide +kernel
theorem dX3_learnName_36 : decode cX3_learnName 36 = .ok (.iload_n 3, 1) := by decide +kernel
theorem dX3_learnName_37 : decode cX3_learnName 37 = .ok (.imul, 1) := by decide +kernel
theorem dX3_learnName_38 : decode cX3_learnName 38 = .ok (.iadd, 1) := by decide +kernel
theorem dX3_learnName_39 : decode cX3_learnName 39 = .ok (.invokevirtual 63, 3) := by decide +kernel
theorem dX3_learnName_42 : decode cX3_learnName 42 = .ok (.invokestatic 81, 3) := by decide +kernel
theorem dX3_learnName_45 : decode cX3_learnName 45 = .ok (.iastore, 1) := by decide +kernel
theorem dX3_learnName_46 : decode cX3_learnName 46 = .ok (.iinc 3 1, 3) := by decide +kernel
theorem dX3_learnName_49 : decode cX3_learnName 49 = .ok (.goto (-39), 3) := by decide +kernel
theorem dX3_learnName_52 : decode cX3_learnName 52 = .ok (.return_, 1) := by decide +kernel
theorem dX3_learnOnGround_0 : decode cX3_learnOnGround 0 = .ok (.aload_n 0, 1) := by decide +kernel
theorem dX3_learnOnGround_1 : decode cX3_learnOnGround 1 = .ok (.getfield 9, 3) := by decide +kernel
theorem dX3_learnOnGround_4 : decode cX3_learnOnGround 4 = .ok (.bipush 14, 2) := by decide +kernel
theorem dX3_learnOnGround_6 : decode cX3_learnOnGround 6 = .ok (.iconst 1, 1) := by decide +kernel
theorem dX3_learnOnGround_7 : decode cX3_learnOnGround 7 = .ok (.iastore, 1) := by decide +kernel
theorem dX3_learnOnGround_8 : decode cX3_learnOnGround 8 = .ok (.aload_n 0, 1) := by decide +kernel
theorem dX3_learnOnGround_9 : decode cX3_learnOnGround 9 = .ok (.getfield 9, 3) := by decide +kernel
theorem dX3_learnOnGround_12 : decode cX3_learnOnGround 12 = .ok (.bipush 9, 2) := by decide +kernel
theorem dX3_learnOnGround_14 : decode cX3_learnOnGround 14 = .ok (.aload_n 1, 1) := by decide +kernel
theorem dX3_learnOnGround_15 : decode cX3_learnOnGround 15 = .ok (.bipush 6, 2) := by decide +kernel
theorem dX3_learnOnGround_17 : decode cX3_learnOnGround 17 = .ok (.bipush 12, 2) := by decide +kernel
theorem dX3_learnOnGround_19 : decode cX3_learnOnGround 19 = .ok (.invokevirtual 63, 3) := by decide +kernel
theorem dX3_learnOnGround_22 : decode cX3_learnOnGround 22 = .ok (.invokestatic 84, 3) := by decide +kernel
theorem dX3_learnOnGround_25 : decode cX3_learnOnGround 25 = .ok (.iastore, 1) := by decide +kernel
theorem dX3_learnOnGround_26 : decode cX3_learnOnGround 26 = .ok (.aload_n 0, 1) := by decide +kernel
theorem dX3_learnOnGround_27 : decode cX3_learnOnGround 27 = .ok (.getfield 9, 3) := by decide +kernel
theorem dX3_learnOnGround_30 : decode cX3_learnOnGround 30 = .ok (.bipush 10, 2) := by decide +kernel
theorem dX3_learnOnGround_32 : decode cX3_learnOnGround 32 = .ok (.aload_n 1, 1) := by decide +kernel
theorem dX3_learnOnGround_33 : decode cX3_learnOnGround 33 = .ok (.bipush 13, 2) := by decide +kernel
theorem dX3_learnOnGround_35 : decode cX3_learnOnGround 35 = .ok (.bipush 13, 2) := by decide +kernel
theorem dX3_learnOnGround_37 : decode cX3_learnOnGround 37 = .ok (.invokevirtual 63, 3) := by decide +kernel
theorem dX3_learnOnGround_40 : decode cX3_learnOnGround 40 = .ok (.ifCond .ne 8, 3) := by decide +kernel
theorem dX3_learnOnGround_43 : decode cX3_learnOnGround 43 = .ok (.ldc 25, 2) := by decide +kernel
theorem dX3_learnOnGround_45 : decode cX3_learnOnGround 45 = .ok (.goto 18, 3) := by decide +kernel
theorem dX3_learnOnGround_48 : decode cX3_learnOnGround 48 = .ok (.ldc 87, 2) := by decide +kernel
theorem dX3_learnOnGround_50 : decode cX3_learnOnGround 50 = .ok (.aload_n 1, 1) := by decide +kernel
theorem dX3_learnOnGround_51 : decode cX3_learnOnGround 51 = .ok (.bipush 14, 2) := by decide +kernel
theorem dX3_learnOnGround_53 : decode cX3_learnOnGround 53 = .ok (.bipush 20, 2) := by decide +kernel
theorem dX3_learnOnGround_55 : decode cX3_learnOnGround 55 = .ok (.invokevirtual 63, 3) := by decide +kernel
theorem dX3_learnOnGround_58 : decode cX3_learnOnGround 58 = .ok (.imul, 1) := by decide +kernel
theorem dX3_learnOnGround_59 : decode cX3_learnOnGround 59 = .ok (.sipush 128, 3) := by decide +kernel
theorem dX3_learnOnGround_62 : decode cX3_learnOnGround 62 = .ok (.idiv, 1) := by decide +kernel
theorem dX3_learnOnGround_63 : decode cX3_learnOnGround 63 = .ok (.iastore, 1) := by decide +kernel
theorem dX3_learnOnGround_64 : decode cX3_learnOnGround 64 = .ok (.aload_n 0, 1) := by decide +kernel
theorem dX3_learnOnGround_65 : decode cX3_learnOnGround 65 = .ok (.getfield 18, 3) := by decide +kernel
theorem dX3_learnOnGround_68 : decode cX3_learnOnGround 68 = .ok (.ldc2_w 32, 3) := by decide +kernel
theorem dX3_learnOnGround_71 : decode cX3_learnOnGround 71 = .ok (.invokestatic 34, 3) := by decide +kernel
theorem dX3_learnOnGround_74 : decode cX3_learnOnGround 74 = .ok (.aload_n 0, 1) := by decide +kernel
theorem dX3_learnOnGround_75 : decode cX3_learnOnGround 75 = .ok (.iload_n 2, 1) := by decide +kernel
theorem dX3_learnOnGround_76 : decode cX3_learnOnGround 76 = .ok (.invokevirtual 88, 3) := by decide +kernel
theorem dX3_learnOnGround_79 : decode cX3_learnOnGround 79 = .ok (.ifCond .eq 10, 3) := by decide +kernel
theorem dX3_learnOnGround_82 : decode cX3_learnOnGround 82 = .ok (.aload_n 0, 1) := by decide +kernel
theorem dX3_learnOnGround_83 : decode cX3_learnOnGround 83 = .ok (.invokevirtual 91, 3) := by decide +kernel
theorem dX3_learnOnGround_86 : decode cX3_learnOnGround 86 = .ok (.goto 4, 3) := by decide +kernel
theorem dX3_learnOnGround_89 : decode cX3_learnOnGround 89 = .ok (.lload_n 3, 1) := by decide +kernel
theorem dX3_learnOnGround_90 : decode cX3_learnOnGround 90 = .ok (.lstore 5, 2) := by decide +kernel
theorem dX3_learnOnGround_92 : decode cX3_learnOnGround 92 = .ok (.lload 5, 2) := by decide +kernel
theorem dX3_learnOnGround_94 : decode cX3_learnOnGround 94 = .ok (.ldc2_w 95, 3) := by decide +kernel
theorem dX3_learnOnGround_97 : decode cX3_learnOnGround 97 = .ok (.lcmp, 1) := by decide +kernel
theorem dX3_learnOnGround_98 : decode cX3_learnOnGround 98 = .ok (.ifCond .eq 22, 3) := by decide +kernel
theorem dX3_learnOnGround_101 : decode cX3_learnOnGround 101 = .ok (.aload_n 0, 1) := by decide +kernel
theorem dX3_learnOnGround_102 : decode cX3_learnOnGround 102 = .ok (.aload_n 1, 1) := by decide +kernel
theorem dX3_learnOnGround_103 : decode cX3_learnOnGround 103 = .ok (.invokestatic 97, 3) := by decide +kernel
theorem dX3_learnOnGround_106 : decode cX3_learnOnGround 106 = .ok (.iconst 1, 1) := by decide +kernel
theorem dX3_learnOnGround_107 : decode cX3_learnOnGround 107 = .ok (.aload_n 1, 1) := by decide +kernel
theorem dX3_learnOnGround_108 : decode cX3_learnOnGround 108 = .ok (.invokestatic 101, 3) := by decide +kernel
theorem dX3_learnOnGround_111 : decode cX3_learnOnGround 111 = .ok (.lload 5, 2) := by decide +kernel
theorem dX3_learnOnGround_113 : decode cX3_learnOnGround 113 = .ok (.invokestatic 105, 3) := by decide +kernel
theorem dX3_learnOnGround_116 : decode cX3_learnOnGround 116 = .ok (.iload_n 2, 1) := by decide +kernel
theorem dX3_learnOnGround_117 : decode cX3_learnOnGround 117 = .ok (.invokevirtual 111, 3) := by decide +kernel
theorem dX3_learnOnGround_120 : decode cX3_learnOnGround 120 = .ok (.return_, 1) := by decide +kernel
theorem dX3_learnInAir_0 : decode cX3_learnInAir 0 = .ok (.aload_n 0, 1) := by decide +kernel
theorem dX3_learnInAir_1 : decode cX3_learnInAir 1 = .ok (.getfield 9, 3) := by decide +kernel
theorem dX3_learnInAir_4 : decode cX3_learnInAir 4 = .ok (.bipush 14, 2) := by decide +kernel
theorem dX3_learnInAir_6 : decode cX3_learnInAir 6 = .ok (.iconst 0, 1) := by decide +kernel
theorem dX3_learnInAir_7 : decode cX3_learnInAir 7 = .ok (.iastore, 1) := by decide +kernel
theorem dX3_learnInAir_8 : decode cX3_learnInAir 8 = .ok (.iload_n 2, 1) := by decide +kernel
theorem dX3_learnInAir_9 : decode cX3_learnInAir 9 = .ok (.bipush 18, 2) := by decide +kernel
theorem dX3_learnInAir_11 : decode cX3_learnInAir 11 = .ok (.if_icmp .gt 23, 3) := by decide +kernel
theorem dX3_learnInAir_14 : decode cX3_learnInAir 14 = .ok (.aload_n 0, 1) := by decide +kernel
theorem dX3_learnInAir_15 : decode cX3_learnInAir 15 = .ok (.getfield 9, 3) := by decide +kernel
theorem dX3_learnInAir_18 : decode cX3_learnInAir 18 = .ok (.iconst 4, 1) := by decide +kernel
theorem dX3_learnInAir_19 : decode cX3_learnInAir 19 = .ok (.aload_n 1, 1) := by decide +kernel
theorem dX3_learnInAir_20 : decode cX3_learnInAir 20 = .ok (.bipush 9, 2) := by decide +kernel
theorem dX3_learnInAir_22 : decode cX3_learnInAir 22 = .ok (.bipush 20, 2) := by decide +kernel
theorem dX3_learnInAir_24 : decode cX3_learnInAir 24 = .ok (.invokevirtual 63, 3) := by decide +kernel
theorem dX3_learnInAir_27 : decode cX3_learnInAir 27 = .ok (.invokestatic 115, 3) := by decide +kernel
theorem dX3_learnInAir_30 : decode cX3_learnInAir 30 = .ok (.invokestatic 52, 3) := by decide +kernel
theorem dX3_learnInAir_33 : decode cX3_learnInAir 33 = .ok (.iastore, 1) := by decide +kernel
theorem dX3_learnInAir_34 : decode cX3_learnInAir 34 = .ok (.aload_n 1, 1) := by decide +kernel
theorem dX3_learnInAir_35 : decode cX3_learnInAir 35 = .ok (.invokestatic 101, 3) := by decide +kernel
theorem dX3_learnInAir_38 : decode cX3_learnInAir 38 = .ok (.istore 4, 2) := by decide +kernel
theorem dX3_learnInAir_40 : decode cX3_learnInAir 40 = .ok (.aload_n 1, 1) := by decide +kernel
theorem dX3_learnInAir_41 : decode cX3_learnInAir 41 = .ok (.invokestatic 97, 3) := by decide +kernel
theorem dX3_learnInAir_44 : decode cX3_learnInAir 44 = .ok (.lstore 5, 2) := by decide +kernel
theorem dX3_learnInAir_46 : decode cX3_learnInAir 46 = .ok (.iload 4, 2) := by decide +kernel
theorem dX3_learnInAir_48 : decode cX3_learnInAir 48 = .ok (.ifCond .eq 7, 3) := by decide +kernel
theorem dX3_learnInAir_51 : decode cX3_learnInAir 51 = .ok (.iconst 1, 1) := by decide +kernel
theorem dX3_learnInAir_52 : decode cX3_learnInAir 52 = .ok (.goto 4, 3) := by decide +kernel
theorem dX3_learnInAir_55 : decode cX3_learnInAir 55 = .ok (.iconst 0, 1) := by decide +kernel
theorem dX3_learnInAir_56 : decode cX3_learnInAir 56 = .ok (.istore 7, 2) := by decide +kernel
theorem dX3_learnInAir_58 : decode cX3_learnInAir 58 = .ok (.iconst 1, 1) := by decide +kernel
theorem dX3_learnInAir_59 : decode cX3_learnInAir 59 = .ok (.iload 7, 2) := by decide +kernel
theorem dX3_learnInAir_61 : decode cX3_learnInAir 61 = .ok (.isub, 1) := by decide +kernel
theorem dX3_learnInAir_62 : decode cX3_learnInAir 62 = .ok (.istore 8, 2) := by decide +kernel
theorem dX3_learnInAir_64 : decode cX3_learnInAir 64 = .ok (.aload_n 0, 1) := by decide +kernel
theorem dX3_learnInAir_65 : decode cX3_learnInAir 65 = .ok (.getfield 18, 3) := by decide +kernel
theorem dX3_learnInAir_68 : decode cX3_learnInAir 68 = .ok (.iload 7, 2) := by decide +kernel
theorem dX3_learnInAir_70 : decode cX3_learnInAir 70 = .ok (.lload 5, 2) := by decide +kernel
theorem dX3_learnInAir_72 : decode cX3_learnInAir 72 = .ok (.lastore, 1) := by decide +kernel
theorem dX3_learnInAir_73 : decode cX3_learnInAir 73 = .ok (.aload_n 0, 1) := by decide +kernel
theorem dX3_learnInAir_74 : decode cX3_learnInAir 74 = .ok (.getfield 22, 3) := by decide +kernel
theorem dX3_learnInAir_77 : decode cX3_learnInAir 77 = .ok (.iload 7, 2) := by decide +kernel
theorem dX3_learnInAir_79 : decode cX3_learnInAir 79 = .ok (.iload_n 3, 1) := by decide +kernel
theorem dX3_learnInAir_80 : decode cX3_learnInAir 80 = .ok (.iastore, 1) := by decide +kernel
theorem dX3_learnInAir_81 : decode cX3_learnInAir 81 = .ok (.aload_n 0, 1) := by decide +kernel
theorem dX3_learnInAir_82 : decode cX3_learnInAir 82 = .ok (.iload_n 3, 1) := by decide +kernel
theorem dX3_learnInAir_83 : decode cX3_learnInAir 83 = .ok (.invokevirtual 88, 3) := by decide +kernel
theorem dX3_learnInAir_86 : decode cX3_learnInAir 86 = .ok (.ifCond .eq 23, 3) := by decide +kernel
theorem dX3_learnInAir_89 : decode cX3_learnInAir 89 = .ok (.aload_n 0, 1) := by decide +kernel
theorem dX3_learnInAir_90 : decode cX3_learnInAir 90 = .ok (.lload 5, 2) := by decide +kernel
theorem dX3_learnInAir_92 : decode cX3_learnInAir 92 = .ok (.iconst 0, 1) := by decide +kernel
theorem dX3_learnInAir_93 : decode cX3_learnInAir 93 = .ok (.iload 4, 2) := by decide +kernel
theorem dX3_learnInAir_95 : decode cX3_learnInAir 95 = .ok (.aload_n 0, 1) := by decide +kernel
theorem dX3_learnInAir_96 : decode cX3_learnInAir 96 = .ok (.invokevirtual 91, 3) := by decide +kernel
theorem dX3_learnInAir_99 : decode cX3_learnInAir 99 = .ok (.invokestatic 105, 3) := by decide +kernel
theorem dX3_learnInAir_102 : decode cX3_learnInAir 102 = .ok (.iload_n 3, 1) := by decide +kernel
theorem dX3_learnInAir_103 : decode cX3_learnInAir 103 = .ok (.invokevirtual 111, 3) := by decide +kernel
theorem dX3_learnInAir_106 : decode cX3_learnInAir 106 = .ok (.goto 53, 3) := by decide +kernel
theorem dX3_learnInAir_109 : decode cX3_learnInAir 109 = .ok (.aload_n 0, 1) := by decide +kernel
theorem dX3_learnInAir_110 : decode cX3_learnInAir 110 = .ok (.getfield 18, 3) := by decide +kernel
theorem dX3_learnInAir_113 : decode cX3_learnInAir 113 = .ok (.iload 8, 2) := by decide +kernel
theorem dX3_learnInAir_115 : decode cX3_learnInAir 115 = .ok (.laload, 1) := by decide +kernel
theorem dX3_learnInAir_116 : decode cX3_learnInAir 116 = .ok (.ldc2_w 32, 3) := by decide +kernel
theorem dX3_learnInAir_119 : decode cX3_learnInAir 119 = .ok (.lcmp, 1) := by decide +kernel
theorem dX3_learnInAir_120 : decode cX3_learnInAir 120 = .ok (.ifCond .eq 39, 3) := by decide +kernel
theorem dX3_learnInAir_123 : decode cX3_learnInAir 123 = .ok (.iload_n 3, 1) := by decide +kernel
theorem dX3_learnInAir_124 : decode cX3_learnInAir 124 = .ok (.aload_n 0, 1) := by decide +kernel
theorem dX3_learnInAir_125 : decode cX3_learnInAir 125 = .ok (.getfield 22, 3) := by decide +kernel
theorem dX3_learnInAir_128 : decode cX3_learnInAir 128 = .ok (.iload 8, 2) := by decide +kernel
theorem dX3_learnInAir_130 : decode cX3_learnInAir 130 = .ok (.iaload, 1) := by decide +kernel
theorem dX3_learnInAir_131 : decode cX3_learnInAir 131 = .ok (.isub, 1) := by decide +kernel
theorem dX3_learnInAir_132 : decode cX3_learnInAir 132 = .ok (.bipush 100, 2) := by decide +kernel
theorem dX3_learnInAir_134 : decode cX3_learnInAir 134 = .ok (.if_icmp .gt 25, 3) := by decide +kernel
theorem dX3_learnInAir_137 : decode cX3_learnInAir 137 = .ok (.aload_n 0, 1) := by decide +kernel
theorem dX3_learnInAir_138 : decode cX3_learnInAir 138 = .ok (.aload_n 0, 1) := by decide +kernel
theorem dX3_learnInAir_139 : decode cX3_learnInAir 139 = .ok (.getfield 18, 3) := by decide +kernel
theorem dX3_learnInAir_142 : decode cX3_learnInAir 142 = .ok (.iconst 0, 1) := by decide +kernel
theorem dX3_learnInAir_143 : decode cX3_learnInAir 143 = .ok (.laload, 1) := by decide +kernel
theorem dX3_learnInAir_144 : decode cX3_learnInAir 144 = .ok (.aload_n 0, 1) := by decide +kernel
theorem dX3_learnInAir_145 : decode cX3_learnInAir 145 = .ok (.getfield 18, 3) := by decide +kernel
theorem dX3_learnInAir_148 : decode cX3_learnInAir 148 = .ok (.iconst 1, 1) := by decide +kernel
theorem dX3_learnInAir_149 : decode cX3_learnInAir 149 = .ok (.laload, 1) := by decide +kernel
theorem dX3_learnInAir_150 : decode cX3_learnInAir 150 = .ok (.iload 4, 2) := by decide +kernel
theorem dX3_learnInAir_152 : decode cX3_learnInAir 152 = .ok (.invokestatic 118, 3) := by decide +kernel
theorem dX3_learnInAir_155 : decode cX3_learnInAir 155 = .ok (.iload_n 3, 1) := by decide +kernel
theorem dX3_learnInAir_156 : decode cX3_learnInAir 156 = .ok (.invokevirtual 111, 3) := by decide +kernel
theorem dX3_learnInAir_159 : decode cX3_learnInAir 159 = .ok (.return_, 1) := by decide +kernel
theorem dX3_learnMotion_0 : decode cX3_learnMotion 0 = .ok (.iload_n 2, 1) := by decide +kernel
theorem dX3_learnMotion_1 : decode cX3_learnMotion 1 = .ok (.iconst 1, 1) := by decide +kernel
theorem dX3_learnMotion_2 : decode cX3_learnMotion 2 = .ok (.if_icmp .lt 8, 3) := by decide +kernel
theorem dX3_learnMotion_5 : decode cX3_learnMotion 5 = .ok (.iload_n 2, 1) := by decide +kernel
theorem dX3_learnMotion_6 : decode cX3_learnMotion 6 = .ok (.iconst 4, 1) := by decide +kernel
theorem dX3_learnMotion_7 : decode cX3_learnMotion 7 = .ok (.if_icmp .le 4, 3) := by decide +kernel
theorem dX3_learnMotion_10 : decode cX3_learnMotion 10 = .ok (.return_, 1) := by decide +kernel
theorem dX3_learnMotion_11 : decode cX3_learnMotion 11 = .ok (.iload_n 2, 1) := by decide +kernel
theorem dX3_learnMotion_12 : decode cX3_learnMotion 12 = .ok (.iconst 2, 1) := by decide +kernel
theorem dX3_learnMotion_13 : decode cX3_learnMotion 13 = .ok (.if_icmp .eq 8, 3) := by decide +kernel
theorem dX3_learnMotion_16 : decode cX3_learnMotion 16 = .ok (.iload_n 2, 1) := by decide +kernel
theorem dX3_learnMotion_17 : decode cX3_learnMotion 17 = .ok (.iconst 4, 1) := by decide +kernel
theorem dX3_learnMotion_18 : decode cX3_learnMotion 18 = .ok (.if_icmp .ne 7, 3) := by decide +kernel
theorem dX3_learnMotion_21 : decode cX3_learnMotion 21 = .ok (.iconst 4, 1) := by decide +kernel
theorem dX3_learnMotion_22 : decode cX3_learnMotion 22 = .ok (.goto 4, 3) := by decide +kernel
theorem dX3_learnMotion_25 : decode cX3_learnMotion 25 = .ok (.iconst 1, 1) := by decide +kernel
theorem dX3_learnMotion_26 : decode cX3_learnMotion 26 = .ok (.istore_n 3, 1) := by decide +kernel
theorem dX3_learnMotion_27 : decode cX3_learnMotion 27 = .ok (.iload_n 2, 1) := by decide +kernel
theorem dX3_learnMotion_28 : decode cX3_learnMotion 28 = .ok (.iconst 2, 1) := by decide +kernel
theorem dX3_learnMotion_29 : decode cX3_learnMotion 29 = .ok (.if_icmp .gt 82, 3) := by decide +kernel
theorem dX3_learnMotion_32 : decode cX3_learnMotion 32 = .ok (.aload_n 1, 1) := by decide +kernel
theorem dX3_learnMotion_33 : decode cX3_learnMotion 33 = .ok (.bipush 15, 2) := by decide +kernel
theorem dX3_learnMotion_35 : decode cX3_learnMotion 35 = .ok (.bipush 24, 2) := by decide +kernel
theorem dX3_learnMotion_37 : decode cX3_learnMotion 37 = .ok (.invokevirtual 63, 3) := by decide +kernel
theorem dX3_learnMotion_40 : decode cX3_learnMotion 40 = .ok (.iload_n 3, 1) := by decide +kernel
theorem dX3_learnMotion_41 : decode cX3_learnMotion 41 = .ok (.aload_n 1, 1) := by decide +kernel
theorem dX3_learnMotion_42 : decode cX3_learnMotion 42 = .ok (.bipush 14, 2) := by decide +kernel
theorem dX3_learnMotion_44 : decode cX3_learnMotion 44 = .ok (.bipush 14, 2) := by decide +kernel
theorem dX3_learnMotion_46 : decode cX3_learnMotion 46 = .ok (.invokevirtual 63, 3) := by decide +kernel
theorem dX3_learnMotion_49 : decode cX3_learnMotion 49 = .ok (.invokestatic 122, 3) := by decide +kernel
theorem dX3_learnMotion_52 : decode cX3_learnMotion 52 = .ok (.istore 4, 2) := by decide +kernel
theorem dX3_learnMotion_54 : decode cX3_learnMotion 54 = .ok (.aload_n 1, 1) := by decide +kernel
theorem dX3_learnMotion_55 : decode cX3_learnMotion 55 = .ok (.bipush 26, 2) := by decide +kernel
theorem dX3_learnMotion_57 : decode cX3_learnMotion 57 = .ok (.bipush 35, 2) := by decide +kernel
theorem dX3_learnMotion_59 : decode cX3_learnMotion 59 = .ok (.invokevirtual 63, 3) := by decide +kernel
theorem dX3_learnMotion_62 : decode cX3_learnMotion 62 = .ok (.iload_n 3, 1) := by decide +kernel
theorem dX3_learnMotion_63 : decode cX3_learnMotion 63 = .ok (.aload_n 1, 1) := by decide +kernel
theorem dX3_learnMotion_64 : decode cX3_learnMotion 64 = .ok (.bipush 25, 2) := by decide +kernel
theorem dX3_learnMotion_66 : decode cX3_learnMotion 66 = .ok (.bipush 25, 2) := by decide +kernel
theorem dX3_learnMotion_68 : decode cX3_learnMotion 68 = .ok (.invokevirtual 63, 3) := by decide +kernel
theorem dX3_learnMotion_71 : decode cX3_learnMotion 71 = .ok (.invokestatic 122, 3) := by decide +kernel
theorem dX3_learnMotion_74 : decode cX3_learnMotion 74 = .ok (.istore 5, 2) := by decide +kernel
theorem dX3_learnMotion_76 : decode cX3_learnMotion 76 = .ok (.aload_n 0, 1) := by decide +kernel
theorem dX3_learnMotion_77 : decode cX3_learnMotion 77 = .ok (.getfield 9, 3) := by decide +kernel
theorem dX3_learnMotion_80 : decode cX3_learnMotion 80 = .ok (.bipush 7, 2) := by decide +kernel
theorem dX3_learnMotion_82 : decode cX3_learnMotion 82 = .ok (.iload 4, 2) := by decide +kernel
theorem dX3_learnMotion_84 : decode cX3_learnMotion 84 = .ok (.iastore, 1) := by decide +kernel
theorem dX3_learnMotion_85 : decode cX3_learnMotion 85 = .ok (.aload_n 0, 1) := by decide +kernel
theorem dX3_learnMotion_86 : decode cX3_learnMotion 86 = .ok (.getfield 9, 3) := by decide +kernel
theorem dX3_learnMotion_89 : decode cX3_learnMotion 89 = .ok (.bipush 8, 2) := by decide +kernel
theorem dX3_learnMotion_91 : decode cX3_learnMotion 91 = .ok (.iload 5, 2) := by decide +kernel
theorem dX3_learnMotion_93 : decode cX3_learnMotion 93 = .ok (.iastore, 1) := by decide +kernel
theorem dX3_learnMotion_94 : decode cX3_learnMotion 94 = .ok (.aload_n 0, 1) := by decide +kernel
theorem dX3_learnMotion_95 : decode cX3_learnMotion 95 = .ok (.getfield 9, 3) := by decide +kernel
theorem dX3_learnMotion_98 : decode cX3_learnMotion 98 = .ok (.bipush 9, 2) := by decide +kernel
theorem dX3_learnMotion_100 : decode cX3_learnMotion 100 = .ok (.iload 4, 2) := by decide +kernel
theorem dX3_learnMotion_102 : decode cX3_learnMotion 102 = .ok (.iload 5, 2) := by decide +kernel
theorem dX3_learnMotion_104 : decode cX3_learnMotion 104 = .ok (.invokestatic 126, 3) := by decide +kernel
theorem dX3_learnMotion_107 : decode cX3_learnMotion 107 = .ok (.iastore, 1) := by decide +kernel
theorem dX3_learnMotion_108 : decode cX3_learnMotion 108 = .ok (.goto 64, 3) := by decide +kernel
theorem dX3_learnMotion_111 : decode cX3_learnMotion 111 = .ok (.aload_n 0, 1) := by decide +kernel
theorem dX3_learnMotion_112 : decode cX3_learnMotion 112 = .ok (.getfield 9, 3) := by decide +kernel
theorem dX3_learnMotion_115 : decode cX3_learnMotion 115 = .ok (.bipush 10, 2) := by decide +kernel
theorem dX3_learnMotion_117 : decode cX3_learnMotion 117 = .ok (.aload_n 1, 1) := by decide +kernel
theorem dX3_learnMotion_118 : decode cX3_learnMotion 118 = .ok (.bipush 14, 2) := by decide +kernel
theorem dX3_learnMotion_120 : decode cX3_learnMotion 120 = .ok (.bipush 14, 2) := by decide +kernel
theorem dX3_learnMotion_122 : decode cX3_learnMotion 122 = .ok (.invokevirtual 63, 3) := by decide +kernel
theorem dX3_learnMotion_125 : decode cX3_learnMotion 125 = .ok (.ifCond .ne 8, 3) := by decide +kernel
theorem dX3_learnMotion_128 : decode cX3_learnMotion 128 = .ok (.ldc 25, 2) := by decide +kernel
theorem dX3_learnMotion_130 : decode cX3_learnMotion 130 = .ok (.goto 18, 3) := by decide +kernel
theorem dX3_learnMotion_133 : decode cX3_learnMotion 133 = .ok (.ldc 87, 2) := by decide +kernel
theorem dX3_learnMotion_135 : decode cX3_learnMotion 135 = .ok (.aload_n 1, 1) := by decide +kernel
theorem dX3_learnMotion_136 : decode cX3_learnMotion 136 = .ok (.bipush 15, 2) := by decide +kernel
theorem dX3_learnMotion_138 : decode cX3_learnMotion 138 = .ok (.bipush 24, 2) := by decide +kernel
theorem dX3_learnMotion_140 : decode cX3_learnMotion 140 = .ok (.invokevirtual 63, 3) := by decide +kernel
theorem dX3_learnMotion_143 : decode cX3_learnMotion 143 = .ok (.imul, 1) := by decide +kernel
theorem dX3_learnMotion_144 : decode cX3_learnMotion 144 = .ok (.sipush 1024, 3) := by decide +kernel
theorem dX3_learnMotion_147 : decode cX3_learnMotion 147 = .ok (.idiv, 1) := by decide +kernel
theorem dX3_learnMotion_148 : decode cX3_learnMotion 148 = .ok (.iastore, 1) := by decide +kernel
theorem dX3_learnMotion_149 : decode cX3_learnMotion 149 = .ok (.aload_n 0, 1) := by decide +kernel
theorem dX3_learnMotion_150 : decode cX3_learnMotion 150 = .ok (.getfield 9, 3) := by decide +kernel
theorem dX3_learnMotion_153 : decode cX3_learnMotion 153 = .ok (.bipush 9, 2) := by decide +kernel
theorem dX3_learnMotion_155 : decode cX3_learnMotion 155 = .ok (.aload_n 1, 1) := by decide +kernel
theorem dX3_learnMotion_156 : decode cX3_learnMotion 156 = .ok (.bipush 26, 2) := by decide +kernel
theorem dX3_learnMotion_158 : decode cX3_learnMotion 158 = .ok (.bipush 35, 2) := by decide +kernel
theorem dX3_learnMotion_160 : decode cX3_learnMotion 160 = .ok (.invokevirtual 63, 3) := by decide +kernel
theorem dX3_learnMotion_163 : decode cX3_learnMotion 163 = .ok (.bipush 8, 2) := by decide +kernel
theorem dX3_learnMotion_165 : decode cX3_learnMotion 165 = .ok (.iload_n 3, 1) := by decide +kernel
theorem dX3_learnMotion_166 : decode cX3_learnMotion 166 = .ok (.imul, 1) := by decide +kernel
theorem dX3_learnMotion_167 : decode cX3_learnMotion 167 = .ok (.iconst 0, 1) := by decide +kernel
theorem dX3_learnMotion_168 : decode cX3_learnMotion 168 = .ok (.invokestatic 122, 3) := by decide +kernel
theorem dX3_learnMotion_171 : decode cX3_learnMotion 171 = .ok (.iastore, 1) := by decide +kernel
theorem dX3_learnMotion_172 : decode cX3_learnMotion 172 = .ok (.aload_n 0, 1) := by decide +kernel
theorem dX3_learnMotion_173 : decode cX3_learnMotion 173 = .ok (.getfield 9, 3) := by decide +kernel
theorem dX3_learnMotion_176 : decode cX3_learnMotion 176 = .ok (.bipush 11, 2) := by decide +kernel
theorem dX3_learnMotion_178 : decode cX3_learnMotion 178 = .ok (.aload_n 1, 1) := by decide +kernel
theorem dX3_learnMotion_179 : decode cX3_learnMotion 179 = .ok (.bipush 38, 2) := by decide +kernel
theorem dX3_learnMotion_181 : decode cX3_learnMotion 181 = .ok (.bipush 46, 2) := by decide +kernel
theorem dX3_learnMotion_183 : decode cX3_learnMotion 183 = .ok (.invokevirtual 63, 3) := by decide +kernel
theorem dX3_learnMotion_186 : decode cX3_learnMotion 186 = .ok (.bipush 64, 2) := by decide +kernel
theorem dX3_learnMotion_188 : decode cX3_learnMotion 188 = .ok (.aload_n 1, 1) := by decide +kernel
theorem dX3_learnMotion_189 : decode cX3_learnMotion 189 = .ok (.bipush 37, 2) := by decide +kernel
theorem dX3_learnMotion_191 : decode cX3_learnMotion 191 = .ok (.bipush 37, 2) := by decide +kernel
theorem dX3_learnMotion_193 : decode cX3_learnMotion 193 = .ok (.invokevirtual 63, 3) := by decide +kernel
theorem dX3_learnMotion_196 : decode cX3_learnMotion 196 = .ok (.invokestatic 122, 3) := by decide +kernel
theorem dX3_learnMotion_199 : decode cX3_learnMotion 199 = .ok (.iastore, 1) := by decide +kernel
theorem dX3_learnMotion_200 : decode cX3_learnMotion 200 = .ok (.return_, 1) := by decide +kernel
theorem dX3_hasFreshPlace_0 : decode cX3_hasFreshPlace 0 = .ok (.aload_n 0, 1) := by decide +kernel
theorem dX3_hasFreshPlace_1 : decode cX3_hasFreshPlace 1 = .ok (.getfield 9, 3) := by decide +kernel
theorem dX3_hasFreshPlace_4 : decode cX3_hasFreshPlace 4 = .ok (.bipush 17, 2) := by decide +kernel
theorem dX3_hasFreshPlace_6 : decode cX3_hasFreshPlace 6 = .ok (.iaload, 1) := by decide +kernel
theorem dX3_hasFreshPlace_7 : decode cX3_hasFreshPlace 7 = .ok (.ldc 25, 2) := by decide +kernel
theorem dX3_hasFreshPlace_9 : decode cX3_hasFreshPlace 9 = .ok (.if_icmp .eq 22, 3) := by decide +kernel
theorem dX3_hasFreshPlace_12 : decode cX3_hasFreshPlace 12 = .ok (.iload_n 1, 1) := by decide +kernel
theorem dX3_hasFreshPlace_13 : decode cX3_hasFreshPlace 13 = .ok (.aload_n 0, 1) := by decide +kernel
theorem dX3_hasFreshPlace_14 : decode cX3_hasFreshPlace 14 = .ok (.getfield 9, 3) := by decide +kernel
theorem dX3_hasFreshPlace_17 : decode cX3_hasFreshPlace 17 = .ok (.bipush 17, 2) := by decide +kernel
theorem dX3_hasFreshPlace_19 : decode cX3_hasFreshPlace 19 = .ok (.iaload, 1) := by decide +kernel
theorem dX3_hasFreshPlace_20 : decode cX3_hasFreshPlace 20 = .ok (.isub, 1) := by decide +kernel
theorem dX3_hasFreshPlace_21 : decode cX3_hasFreshPlace 21 = .ok (.sipush 300, 3) := by decide +kernel
theorem dX3_hasFreshPlace_24 : decode cX3_hasFreshPlace 24 = .ok (.if_icmp .gt 7, 3) := by decide +kernel
theorem dX3_hasFreshPlace_27 : decode cX3_hasFreshPlace 27 = .ok (.iconst 1, 1) := by decide +kernel
theorem dX3_hasFreshPlace_28 : decode cX3_hasFreshPlace 28 = .ok (.goto 4, 3) := by decide +kernel
theorem dX3_hasFreshPlace_31 : decode cX3_hasFreshPlace 31 = .ok (.iconst 0, 1) := by decide +kernel
theorem dX3_hasFreshPlace_32 : decode cX3_hasFreshPlace 32 = .ok (.ireturn, 1) := by decide +kernel
theorem dX3_lastPlace_0 : decode cX3_lastPlace 0 = .ok (.aload_n 0, 1) := by decide +kernel
theorem dX3_lastPlace_1 : decode cX3_lastPlace 1 = .ok (.getfield 9, 3) := by decide +kernel
theorem dX3_lastPlace_4 : decode cX3_lastPlace 4 = .ok (.bipush 15, 2) := by decide +kernel
theorem dX3_lastPlace_6 : decode cX3_lastPlace 6 = .ok (.iaload, 1) := by decide +kernel
theorem dX3_lastPlace_7 : decode cX3_lastPlace 7 = .ok (.i2l, 1) := by decide +kernel
theorem dX3_lastPlace_8 : decode cX3_lastPlace 8 = .ok (.aload_n 0, 1) := by decide +kernel
theorem dX3_lastPlace_9 : decode cX3_lastPlace 9 = .ok (.getfield 9, 3) := by decide +kernel
theorem dX3_lastPlace_12 : decode cX3_lastPlace 12 = .ok (.bipush 16, 2) := by decide +kernel
theorem dX3_lastPlace_14 : decode cX3_lastPlace 14 = .ok (.iaload, 1) := by decide +kernel
theorem dX3_lastPlace_15 : decode cX3_lastPlace 15 = .ok (.i2l, 1) := by decide +kernel
theorem dX3_lastPlace_16 : decode cX3_lastPlace 16 = .ok (.invokestatic 129, 3) := by decide +kernel
theorem dX3_lastPlace_19 : decode cX3_lastPlace 19 = .ok (.lreturn, 1) := by decide +kernel
theorem dX3_keepPlace_0 : decode cX3_keepPlace 0 = .ok (.lload_n 1, 1) := by decide +kernel
theorem dX3_keepPlace_1 : decode cX3_keepPlace 1 = .ok (.ldc2_w 95, 3) := by decide +kernel
theorem dX3_keepPlace_4 : decode cX3_keepPlace 4 = .ok (.lcmp, 1) := by decide +kernel
theorem dX3_keepPlace_5 : decode cX3_keepPlace 5 = .ok (.ifCond .ne 4, 3) := by decide +kernel
theorem dX3_keepPlace_8 : decode cX3_keepPlace 8 = .ok (.return_, 1) := by decide +kernel
theorem dX3_keepPlace_9 : decode cX3_keepPlace 9 = .ok (.aload_n 0, 1) := by decide +kernel
theorem dX3_keepPlace_10 : decode cX3_keepPlace 10 = .ok (.getfield 9, 3) := by decide +kernel
theorem dX3_keepPlace_13 : decode cX3_keepPlace 13 = .ok (.bipush 15, 2) := by decide +kernel
theorem dX3_keepPlace_15 : decode cX3_keepPlace 15 = .ok (.lload_n 1, 1) := by decide +kernel
theorem dX3_keepPlace_16 : decode cX3_keepPlace 16 = .ok (.invokestatic 133, 3) := by decide +kernel
theorem dX3_keepPlace_19 : decode cX3_keepPlace 19 = .ok (.iastore, 1) := by decide +kernel
theorem dX3_keepPlace_20 : decode cX3_keepPlace 20 = .ok (.aload_n 0, 1) := by decide +kernel
theorem dX3_keepPlace_21 : decode cX3_keepPlace 21 = .ok (.getfield 9, 3) := by decide +kernel
theorem dX3_keepPlace_24 : decode cX3_keepPlace 24 = .ok (.bipush 16, 2) := by decide +kernel
theorem dX3_keepPlace_26 : decode cX3_keepPlace 26 = .ok (.lload_n 1, 1) := by decide +kernel
theorem dX3_keepPlace_27 : decode cX3_keepPlace 27 = .ok (.invokestatic 137, 3) := by decide +kernel
theorem dX3_keepPlace_30 : decode cX3_keepPlace 30 = .ok (.iastore, 1) := by decide +kernel
theorem dX3_keepPlace_31 : decode cX3_keepPlace 31 = .ok (.aload_n 0, 1) := by decide +kernel
theorem dX3_keepPlace_32 : decode cX3_keepPlace 32 = .ok (.getfield 9, 3) := by decide +kernel
theorem dX3_keepPlace_35 : decode cX3_keepPlace 35 = .ok (.bipush 17, 2) := by decide +kernel
theorem dX3_keepPlace_37 : decode cX3_keepPlace 37 = .ok (.iload_n 3, 1) := by decide +kernel
theorem dX3_keepPlace_38 : decode cX3_keepPlace 38 = .ok (.iastore, 1) := by decide +kernel
theorem dX3_keepPlace_39 : decode cX3_keepPlace 39 = .ok (.return_, 1) := by decide +kernel
theorem dX3_isOdd_0 : decode cX3_isOdd 0 = .ok (.aload_n 0, 1) := by decide +kernel
theorem dX3_isOdd_1 : decode cX3_isOdd 1 = .ok (.bipush 22, 2) := by decide +kernel
theorem dX3_isOdd_3 : decode cX3_isOdd 3 = .ok (.bipush 22, 2) := by decide +kernel
theorem dX3_isOdd_5 : decode cX3_isOdd 5 = .ok (.invokevirtual 63, 3) := by decide +kernel
theorem dX3_isOdd_8 : decode cX3_isOdd 8 = .ok (.iconst 1, 1) := by decide +kernel
theorem dX3_isOdd_9 : decode cX3_isOdd 9 = .ok (.if_icmp .ne 7, 3) := by decide +kernel
theorem dX3_isOdd_12 : decode cX3_isOdd 12 = .ok (.iconst 1, 1) := by decide +kernel
theorem dX3_isOdd_13 : decode cX3_isOdd 13 = .ok (.goto 4, 3) := by decide +kernel
theorem dX3_isOdd_16 : decode cX3_isOdd 16 = .ok (.iconst 0, 1) := by decide +kernel
theorem dX3_isOdd_17 : decode cX3_isOdd 17 = .ok (.ireturn, 1) := by decide +kernel
theorem dX3_codeIn_0 : decode cX3_codeIn 0 = .ok (.ldc2_w 140, 3) := by decide +kernel
theorem dX3_codeIn_3 : decode cX3_codeIn 3 = .ok (.aload_n 0, 1) := by decide +kernel
theorem dX3_codeIn_4 : decode cX3_codeIn 4 = .ok (.bipush 23, 2) := by decide +kernel
theorem dX3_codeIn_6 : decode cX3_codeIn 6 = .ok (.bipush 39, 2) := by decide +kernel
theorem dX3_codeIn_8 : decode cX3_codeIn 8 = .ok (.invokevirtual 63, 3) := by decide +kernel
theorem dX3_codeIn_11 : decode cX3_codeIn 11 = .ok (.i2l, 1) := by decide +kernel
theorem dX3_codeIn_12 : decode cX3_codeIn 12 = .ok (.lmul, 1) := by decide +kernel
theorem dX3_codeIn_13 : decode cX3_codeIn 13 = .ok (.aload_n 0, 1) := by decide +kernel
theorem dX3_codeIn_14 : decode cX3_codeIn 14 = .ok (.bipush 40, 2) := by decide +kernel
theorem dX3_codeIn_16 : decode cX3_codeIn 16 = .ok (.bipush 56, 2) := by decide +kernel
theorem dX3_codeIn_18 : decode cX3_codeIn 18 = .ok (.invokevirtual 63, 3) := by decide +kernel
theorem dX3_codeIn_21 : decode cX3_codeIn 21 = .ok (.i2l, 1) := by decide +kernel
theorem dX3_codeIn_22 : decode cX3_codeIn 22 = .ok (.ladd, 1) := by decide +kernel
theorem dX3_codeIn_23 : decode cX3_codeIn 23 = .ok (.lreturn, 1) := by decide +kernel
theorem dX4_init_0 : decode cX4_init 0 = .ok (.aload_n 0, 1) := by decide +kernel
theorem dX4_init_1 : decode cX4_init 1 = .ok (.invokespecial 5, 3) := by decide +kernel
theorem dX4_init_4 : decode cX4_init 4 = .ok (.aload_n 0, 1) := by decide +kernel
theorem dX4_init_5 : decode cX4_init 5 = .ok (.iconst 4, 1) := by decide +kernel
theorem dX4_init_6 : decode cX4_init 6 = .ok (.newarray .int, 2) := by decide +kernel
theorem dX4_init_8 : decode cX4_init 8 = .ok (.putfield 11, 3) := by decide +kernel
theorem dX4_init_11 : decode cX4_init 11 = .ok (.aload_n 0, 1) := by decide +kernel
theorem dX4_init_12 : decode cX4_init 12 = .ok (.iconst 0, 1) := by decide +kernel
theorem dX4_init_13 : decode cX4_init 13 = .ok (.putfield 15, 3) := by decide +kernel
theorem dX4_init_16 : decode cX4_init 16 = .ok (.aload_n 0, 1) := by decide +kernel
theorem dX4_init_17 : decode cX4_init 17 = .ok (.iconst (-1), 1) := by decide +kernel
theorem dX4_init_18 : decode cX4_init 18 = .ok (.putfield 19, 3) := by decide +kernel
theorem dX4_init_21 : decode cX4_init 21 = .ok (.return_, 1) := by decide +kernel
theorem dX4_write_0 : decode cX4_write 0 = .ok (.aload_n 0, 1) := by decide +kernel
theorem dX4_write_1 : decode cX4_write 1 = .ok (.getfield 11, 3) := by decide +kernel
theorem dX4_write_4 : decode cX4_write 4 = .ok (.iconst 0, 1) := by decide +kernel
theorem dX4_write_5 : decode cX4_write 5 = .ok (.iload_n 1, 1) := by decide +kernel
theorem dX4_write_6 : decode cX4_write 6 = .ok (.iastore, 1) := by decide +kernel
theorem dX4_write_7 : decode cX4_write 7 = .ok (.aload_n 0, 1) := by decide +kernel
theorem dX4_write_8 : decode cX4_write 8 = .ok (.getfield 11, 3) := by decide +kernel
theorem dX4_write_11 : decode cX4_write 11 = .ok (.iconst 1, 1) := by decide +kernel
theorem dX4_write_12 : decode cX4_write 12 = .ok (.iload_n 2, 1) := by decide +kernel
theorem dX4_write_13 : decode cX4_write 13 = .ok (.iastore, 1) := by decide +kernel
theorem dX4_write_14 : decode cX4_write 14 = .ok (.aload_n 0, 1) := by decide +kernel
theorem dX4_write_15 : decode cX4_write 15 = .ok (.getfield 11, 3) := by decide +kernel
theorem dX4_write_18 : decode cX4_write 18 = .ok (.iconst 2, 1) := by decide +kernel
theorem dX4_write_19 : decode cX4_write 19 = .ok (.iload_n 3, 1) := by decide +kernel
theorem dX4_write_20 : decode cX4_write 20 = .ok (.iastore, 1) := by decide +kernel
theorem dX4_write_21 : decode cX4_write 21 = .ok (.aload_n 0, 1) := by decide +kernel
theorem dX4_write_22 : decode cX4_write 22 = .ok (.getfield 11, 3) := by decide +kernel
theorem dX4_write_25 : decode cX4_write 25 = .ok (.iconst 3, 1) := by decide +kernel
theorem dX4_write_26 : decode cX4_write 26 = .ok (.iload 4, 2) := by decide +kernel
theorem dX4_write_28 : decode cX4_write 28 = .ok (.iastore, 1) := by decide +kernel
theorem dX4_write_29 : decode cX4_write 29 = .ok (.aload_n 0, 1) := by decide +kernel
theorem dX4_write_30 : decode cX4_write 30 = .ok (.aload_n 0, 1) := by decide +kernel
theorem dX4_write_31 : decode cX4_write 31 = .ok (.invokevirtual 22, 3) := by decide +kernel
theorem dX4_write_34 : decode cX4_write 34 = .ok (.bipush 16, 2) := by decide +kernel
theorem dX4_write_36 : decode cX4_write 36 = .ok (.if_icmp .ge 8, 3) := by decide +kernel
theorem dX4_write_39 : decode cX4_write 39 = .ok (.bipush 56, 2) := by decide +kernel
theorem dX4_write_41 : decode cX4_write 41 = .ok (.goto 5, 3) := by decide +kernel
theorem dX4_write_44 : decode cX4_write 44 = .ok (.bipush 112, 2) := by decide +kernel
theorem dX4_write_46 : decode cX4_write 46 = .ok (.putfield 15, 3) := by decide +kernel
theorem dX4_write_49 : decode cX4_write 49 = .ok (.aload_n 0, 1) := by decide +kernel
theorem dX4_write_50 : decode cX4_write 50 = .ok (.iconst (-1), 1) := by decide +kernel
theorem dX4_write_51 : decode cX4_write 51 = .ok (.putfield 19, 3) := by decide +kernel
theorem dX4_write_54 : decode cX4_write 54 = .ok (.return_, 1) := by decide +kernel
theorem dX4_copy_0 : decode cX4_copy 0 = .ok (.aload_n 1, 1) := by decide +kernel
theorem dX4_copy_1 : decode cX4_copy 1 = .ok (.getfield 11, 3) := by decide +kernel
theorem dX4_copy_4 : decode cX4_copy 4 = .ok (.iconst 0, 1) := by decide +kernel
theorem dX4_copy_5 : decode cX4_copy 5 = .ok (.aload_n 0, 1) := by decide +kernel
theorem dX4_copy_6 : decode cX4_copy 6 = .ok (.getfield 11, 3) := by decide +kernel
theorem dX4_copy_9 : decode cX4_copy 9 = .ok (.iconst 0, 1) := by decide +kernel
theorem dX4_copy_10 : decode cX4_copy 10 = .ok (.aload_n 0, 1) := by decide +kernel
theorem dX4_copy_11 : decode cX4_copy 11 = .ok (.getfield 11, 3) := by decide +kernel
theorem dX4_copy_14 : decode cX4_copy 14 = .ok (.arraylength, 1) := by decide +kernel
theorem dX4_copy_15 : decode cX4_copy 15 = .ok (.invokestatic 26, 3) := by decide +kernel
theorem dX4_copy_18 : decode cX4_copy 18 = .ok (.aload_n 0, 1) := by decide +kernel
theorem dX4_copy_19 : decode cX4_copy 19 = .ok (.aload_n 1, 1) := by decide +kernel
theorem dX4_copy_20 : decode cX4_copy 20 = .ok (.getfield 15, 3) := by decide +kernel
theorem dX4_copy_23 : decode cX4_copy 23 = .ok (.putfield 15, 3) := by decide +kernel
theorem dX4_copy_26 : decode cX4_copy 26 = .ok (.aload_n 0, 1) := by decide +kernel
theorem dX4_copy_27 : decode cX4_copy 27 = .ok (.aload_n 1, 1) := by decide +kernel
theorem dX4_copy_28 : decode cX4_copy 28 = .ok (.getfield 19, 3) := by decide +kernel
theorem dX4_copy_31 : decode cX4_copy 31 = .ok (.putfield 19, 3) := by decide +kernel
theorem dX4_copy_34 : decode cX4_copy 34 = .ok (.return_, 1) := by decide +kernel
theorem dX4_turnedBit_0 : decode cX4_turnedBit 0 = .ok (.aload_n 0, 1) := by decide +kernel
theorem dX4_turnedBit_1 : decode cX4_turnedBit 1 = .ok (.getfield 19, 3) := by decide +kernel
theorem dX4_turnedBit_4 : decode cX4_turnedBit 4 = .ok (.ireturn, 1) := by decide +kernel
theorem dX4_number_0 : decode cX4_number 0 = .ok (.iload_n 2, 1) := by decide +kernel
theorem dX4_number_1 : decode cX4_number 1 = .ok (.iconst 1, 1) := by decide +kernel
theorem dX4_number_2 : decode cX4_number 2 = .ok (.if_icmp .lt 26, 3) := by decide +kernel
theorem dX4_number_5 : decode cX4_number 5 = .ok (.iload_n 2, 1) := by decide +kernel
theorem dX4_number_6 : decode cX4_number 6 = .ok (.bipush 32, 2) := by decide +kernel
theorem dX4_number_8 : decode cX4_number 8 = .ok (.if_icmp .gt 20, 3) := by decide +kernel
theorem dX4_number_11 : decode cX4_number 11 = .ok (.iload_n 1, 1) := by decide +kernel
theorem dX4_number_12 : decode cX4_number 12 = .ok (.iconst 1, 1) := by decide +kernel
theorem dX4_number_13 : decode cX4_number 13 = .ok (.if_icmp .lt 15, 3) := by decide +kernel
theorem dX4_number_16 : decode cX4_number 16 = .ok (.iload_n 1, 1) := by decide +kernel
theorem dX4_number_17 : decode cX4_number 17 = .ok (.aload_n 0, 1) := by decide +kernel
theorem dX4_number_18 : decode cX4_number 18 = .ok (.getfield 15, 3) := by decide +kernel
theorem dX4_number_21 : decode cX4_number 21 = .ok (.iload_n 2, 1) := by decide +kernel
theorem dX4_number_22 : decode cX4_number 22 = .ok (.isub, 1) := by decide +kernel
theorem dX4_number_23 : decode cX4_number 23 = .ok (.iconst 1, 1) := by decide +kernel
theorem dX4_number_24 : decode cX4_number 24 = .ok (.iadd, 1) := by decide +kernel
theorem dX4_number_25 : decode cX4_number 25 = .ok (.if_icmp .le 5, 3) := by decide +kernel
theorem dX4_number_28 : decode cX4_number 28 = .ok (.iconst 0, 1) := by decide +kernel
theorem dX4_number_29 : decode cX4_number 29 = .ok (.ireturn, 1) := by decide +kernel
theorem dX4_number_30 : decode cX4_number 30 = .ok (.iconst 0, 1) := by decide +kernel
theorem dX4_number_31 : decode cX4_number 31 = .ok (.istore_n 3, 1) := by decide +kernel
theorem dX4_number_32 : decode cX4_number 32 = .ok (.iload_n 1, 1) := by decide +kernel
theorem dX4_number_33 : decode cX4_number 33 = .ok (.istore 4, 2) := by decide +kernel
theorem dX4_number_35 : decode cX4_number 35 = .ok (.iload 4, 2) := by decide +kernel
theorem dX4_number_37 : decode cX4_number 37 = .ok (.iload_n 1, 1) := by decide +kernel
theorem dX4_number_38 : decode cX4_number 38 = .ok (.iload_n 2, 1) := by decide +kernel
theorem dX4_number_39 : decode cX4_number 39 = .ok (.iadd, 1) := by decide +kernel
theorem dX4_number_40 : decode cX4_number 40 = .ok (.if_icmp .ge 20, 3) := by decide +kernel
theorem dX4_number_43 : decode cX4_number 43 = .ok (.iload_n 3, 1) := by decide +kernel
theorem dX4_number_44 : decode cX4_number 44 = .ok (.iconst 1, 1) := by decide +kernel
theorem dX4_number_45 : decode cX4_number 45 = .ok (.ishl, 1) := by decide +kernel
theorem dX4_number_46 : decode cX4_number 46 = .ok (.aload_n 0, 1) := by decide +kernel
theorem dX4_number_47 : decode cX4_number 47 = .ok (.iload 4, 2) := by decide +kernel
theorem dX4_number_49 : decode cX4_number 49 = .ok (.invokevirtual 32, 3) := by decide +kernel
theorem dX4_number_52 : decode cX4_number 52 = .ok (.ior, 1) := by decide +kernel
theorem dX4_number_53 : decode cX4_number 53 = .ok (.istore_n 3, 1) := by decide +kernel
theorem dX4_number_54 : decode cX4_number 54 = .ok (.iinc 4 1, 3) := by decide +kernel
theorem dX4_number_57 : decode cX4_number 57 = .ok (.goto (-22), 3) := by decide +kernel
theorem dX4_number_60 : decode cX4_number 60 = .ok (.iload_n 3, 1) := by decide +kernel
theorem dX4_number_61 : decode cX4_number 61 = .ok (.ireturn, 1) := by decide +kernel
theorem dX4_message_0 : decode cX4_message 0 = .ok (.aload_n 0, 1) := by decide +kernel
theorem dX4_message_1 : decode cX4_message 1 = .ok (.bipush 32, 2) := by decide +kernel
theorem dX4_message_3 : decode cX4_message 3 = .ok (.iload_n 1, 1) := by decide +kernel
theorem dX4_message_4 : decode cX4_message 4 = .ok (.iadd, 1) := by decide +kernel
theorem dX4_message_5 : decode cX4_message 5 = .ok (.iload_n 2, 1) := by decide +kernel
theorem dX4_message_6 : decode cX4_message 6 = .ok (.iload_n 1, 1) := by decide +kernel
theorem dX4_message_7 : decode cX4_message 7 = .ok (.isub, 1) := by decide +kernel
theorem dX4_message_8 : decode cX4_message 8 = .ok (.iconst 1, 1) := by decide +kernel
theorem dX4_message_9 : decode cX4_message 9 = .ok (.iadd, 1) := by decide +kernel
theorem dX4_message_10 : decode cX4_message 10 = .ok (.invokevirtual 36, 3) := by decide +kernel
theorem dX4_message_13 : decode cX4_message 13 = .ok (.ireturn, 1) := by decide +kernel
theorem dX4_parity_0 : decode cX4_parity 0 = .ok (.aload_n 0, 1) := by decide +kernel
theorem dX4_parity_1 : decode cX4_parity 1 = .ok (.aload_n 0, 1) := by decide +kernel
theorem dX4_parity_2 : decode cX4_parity 2 = .ok (.getfield 15, 3) := by decide +kernel
theorem dX4_parity_5 : decode cX4_parity 5 = .ok (.bipush 23, 2) := by decide +kernel
theorem dX4_parity_7 : decode cX4_parity 7 = .ok (.isub, 1) := by decide +kernel
theorem dX4_parity_8 : decode cX4_parity 8 = .ok (.bipush 24, 2) := by decide +kernel
theorem dX4_parity_10 : decode cX4_parity 10 = .ok (.invokevirtual 36, 3) := by decide +kernel
theorem dX4_parity_13 : decode cX4_parity 13 = .ok (.ireturn, 1) := by decide +kernel
theorem dX4_remainder_0 : decode cX4_remainder 0 = .ok (.iconst 0, 1) := by decide +kernel
theorem dX4_remainder_1 : decode cX4_remainder 1 = .ok (.istore_n 1, 1) := by decide +kernel
theorem dX4_remainder_2 : decode cX4_remainder 2 = .ok (.iconst 1, 1) := by decide +kernel
theorem dX4_remainder_3 : decode cX4_remainder 3 = .ok (.istore_n 2, 1) := by decide +kernel
theorem dX4_remainder_4 : decode cX4_remainder 4 = .ok (.iload_n 2, 1) := by decide +kernel
theorem dX4_remainder_5 : decode cX4_remainder 5 = .ok (.aload_n 0, 1) := by decide +kernel
theorem dX4_remainder_6 : decode cX4_remainder 6 = .ok (.getfield 15, 3) := by decide +kernel
theorem dX4_remainder_9 : decode cX4_remainder 9 = .ok (.if_icmp .gt 22, 3) := by decide +kernel
theorem dX4_remainder_12 : decode cX4_remainder 12 = .ok (.iload_n 1, 1) := by decide +kernel
theorem dX4_remainder_13 : decode cX4_remainder 13 = .ok (.iconst 1, 1) := by decide +kernel
theorem dX4_remainder_14 : decode cX4_remainder 14 = .ok (.ishl, 1) := by decide +kernel
theorem dX4_remainder_15 : decode cX4_remainder 15 = .ok (.aload_n 0, 1) := by decide +kernel
theorem dX4_remainder_16 : decode cX4_remainder 16 = .ok (.iload_n 2, 1) := by decide +kernel
theorem dX4_remainder_17 : decode cX4_remainder 17 = .ok (.invokevirtual 32, 3) := by decide +kernel
theorem dX4_remainder_20 : decode cX4_remainder 20 = .ok (.ior, 1) := by decide +kernel
theorem dX4_remainder_21 : decode cX4_remainder 21 = .ok (.invokestatic 40, 3) := by decide +kernel
theorem dX4_remainder_24 : decode cX4_remainder 24 = .ok (.istore_n 1, 1) := by decide +kernel
theorem dX4_remainder_25 : decode cX4_remainder 25 = .ok (.iinc 2 1, 3) := by decide +kernel
theorem dX4_remainder_28 : decode cX4_remainder 28 = .ok (.goto (-24), 3) := by decide +kernel
theorem dX4_remainder_31 : decode cX4_remainder 31 = .ok (.iload_n 1, 1) := by decide +kernel
theorem dX4_remainder_32 : decode cX4_remainder 32 = .ok (.ireturn, 1) := by decide +kernel
theorem dX4_wrongBit_0 : decode cX4_wrongBit 0 = .ok (.aload_n 0, 1) := by decide +kernel
theorem dX4_wrongBit_1 : decode cX4_wrongBit 1 = .ok (.invokevirtual 43, 3) := by decide +kernel
theorem dX4_wrongBit_4 : decode cX4_wrongBit 4 = .ok (.istore_n 1, 1) := by decide +kernel
theorem dX4_wrongBit_5 : decode cX4_wrongBit 5 = .ok (.aload_n 0, 1) := by decide +kernel
theorem dX4_wrongBit_6 : decode cX4_wrongBit 6 = .ok (.iload_n 1, 1) := by decide +kernel
theorem dX4_wrongBit_7 : decode cX4_wrongBit 7 = .ok (.invokevirtual 46, 3) := by decide +kernel
theorem dX4_wrongBit_10 : decode cX4_wrongBit 10 = .ok (.ifCond .eq 5, 3) := by decide +kernel
theorem dX4_wrongBit_13 : decode cX4_wrongBit 13 = .ok (.iconst (-1), 1) := by decide +kernel
theorem dX4_wrongBit_14 : decode cX4_wrongBit 14 = .ok (.ireturn, 1) := by decide +kernel
theorem dX4_wrongBit_15 : decode cX4_wrongBit 15 = .ok (.iconst 1, 1) := by decide +kernel
theorem dX4_wrongBit_16 : decode cX4_wrongBit 16 = .ok (.istore_n 2, 1) := by decide +kernel
theorem dX4_wrongBit_17 : decode cX4_wrongBit 17 = .ok (.aload_n 0, 1) := by decide +kernel
theorem dX4_wrongBit_18 : decode cX4_wrongBit 18 = .ok (.getfield 15, 3) := by decide +kernel
theorem dX4_wrongBit_21 : decode cX4_wrongBit 21 = .ok (.istore_n 3, 1) := by decide +kernel
theorem dX4_wrongBit_22 : decode cX4_wrongBit 22 = .ok (.iload_n 3, 1) := by decide +kernel
theorem dX4_wrongBit_23 : decode cX4_wrongBit 23 = .ok (.bipush 6, 2) := by decide +kernel
theorem dX4_wrongBit_25 : decode cX4_wrongBit 25 = .ok (.if_icmp .lt 23, 3) := by decide +kernel
theorem dX4_wrongBit_28 : decode cX4_wrongBit 28 = .ok (.iload_n 2, 1) := by decide +kernel
theorem dX4_wrongBit_29 : decode cX4_wrongBit 29 = .ok (.iload_n 1, 1) := by decide +kernel
theorem dX4_wrongBit_30 : decode cX4_wrongBit 30 = .ok (.if_icmp .ne 5, 3) := by decide +kernel
theorem dX4_wrongBit_33 : decode cX4_wrongBit 33 = .ok (.iload_n 3, 1) := by decide +kernel
theorem dX4_wrongBit_34 : decode cX4_wrongBit 34 = .ok (.ireturn, 1) := by decide +kernel
theorem dX4_wrongBit_35 : decode cX4_wrongBit 35 = .ok (.iload_n 2, 1) := by decide +kernel
theorem dX4_wrongBit_36 : decode cX4_wrongBit 36 = .ok (.iconst 1, 1) := by decide +kernel
theorem dX4_wrongBit_37 : decode cX4_wrongBit 37 = .ok (.ishl, 1) := by decide +kernel
theorem dX4_wrongBit_38 : decode cX4_wrongBit 38 = .ok (.invokestatic 40, 3) := by decide +kernel
theorem dX4_wrongBit_41 : decode cX4_wrongBit 41 = .ok (.istore_n 2, 1) := by decide +kernel
theorem dX4_wrongBit_42 : decode cX4_wrongBit 42 = .ok (.iinc 3 (-1), 3) := by decide +kernel
theorem dX4_wrongBit_45 : decode cX4_wrongBit 45 = .ok (.goto (-23), 3) := by decide +kernel
theorem dX4_wrongBit_48 : decode cX4_wrongBit 48 = .ok (.iconst (-1), 1) := by decide +kernel
theorem dX4_wrongBit_49 : decode cX4_wrongBit 49 = .ok (.ireturn, 1) := by decide +kernel
theorem dX4_putRight_0 : decode cX4_putRight 0 = .ok (.aload_n 0, 1) := by decide +kernel
theorem dX4_putRight_1 : decode cX4_putRight 1 = .ok (.aload_n 0, 1) := by decide +kernel
theorem dX4_putRight_2 : decode cX4_putRight 2 = .ok (.invokevirtual 43, 3) := by decide +kernel
theorem dX4_putRight_5 : decode cX4_putRight 5 = .ok (.invokevirtual 46, 3) := by decide +kernel
theorem dX4_putRight_8 : decode cX4_putRight 8 = .ok (.ifCond .eq 5, 3) := by decide +kernel
theorem dX4_putRight_11 : decode cX4_putRight 11 = .ok (.iconst 1, 1) := by decide +kernel
theorem dX4_putRight_12 : decode cX4_putRight 12 = .ok (.ireturn, 1) := by decide +kernel
theorem dX4_putRight_13 : decode cX4_putRight 13 = .ok (.aload_n 0, 1) := by decide +kernel
theorem dX4_putRight_14 : decode cX4_putRight 14 = .ok (.invokevirtual 50, 3) := by decide +kernel
theorem dX4_putRight_17 : decode cX4_putRight 17 = .ok (.istore_n 1, 1) := by decide +kernel
theorem dX4_putRight_18 : decode cX4_putRight 18 = .ok (.iload_n 1, 1) := by decide +kernel
theorem dX4_putRight_19 : decode cX4_putRight 19 = .ok (.iconst (-1), 1) := by decide +kernel
theorem dX4_putRight_20 : decode cX4_putRight 20 = .ok (.if_icmp .ne 5, 3) := by decide +kernel
theorem dX4_putRight_23 : decode cX4_putRight 23 = .ok (.iconst 0, 1) := by decide +kernel
theorem dX4_putRight_24 : decode cX4_putRight 24 = .ok (.ireturn, 1) := by decide +kernel
theorem dX4_putRight_25 : decode cX4_putRight 25 = .ok (.aload_n 0, 1) := by decide +kernel
theorem dX4_putRight_26 : decode cX4_putRight 26 = .ok (.iload_n 1, 1) := by decide +kernel
theorem dX4_putRight_27 : decode cX4_putRight 27 = .ok (.invokevirtual 53, 3) := by decide +kernel
theorem dX4_putRight_30 : decode cX4_putRight 30 = .ok (.aload_n 0, 1) := by decide +kernel
theorem dX4_putRight_31 : decode cX4_putRight 31 = .ok (.iload_n 1, 1) := by decide +kernel
theorem dX4_putRight_32 : decode cX4_putRight 32 = .ok (.putfield 19, 3) := by decide +kernel
theorem dX4_putRight_35 : decode cX4_putRight 35 = .ok (.iconst 1, 1) := by decide +kernel
theorem dX4_putRight_36 : decode cX4_putRight 36 = .ok (.ireturn, 1) := by decide +kernel
theorem dX4_address_0 : decode cX4_address 0 = .ok (.aload_n 0, 1) := by decide +kernel
theorem dX4_address_1 : decode cX4_address 1 = .ok (.ldc 57, 2) := by decide +kernel
theorem dX4_address_3 : decode cX4_address 3 = .ok (.invokevirtual 58, 3) := by decide +kernel
theorem dX4_address_6 : decode cX4_address 6 = .ok (.ifCond .eq 14, 3) := by decide +kernel
theorem dX4_address_9 : decode cX4_address 9 = .ok (.aload_n 0, 1) := by decide +kernel
theorem dX4_address_10 : decode cX4_address 10 = .ok (.bipush 9, 2) := by decide +kernel
theorem dX4_address_12 : decode cX4_address 12 = .ok (.bipush 24, 2) := by decide +kernel
theorem dX4_address_14 : decode cX4_address 14 = .ok (.invokevirtual 36, 3) := by decide +kernel
theorem dX4_address_17 : decode cX4_address 17 = .ok (.goto 7, 3) := by decide +kernel
theorem dX4_address_20 : decode cX4_address 20 = .ok (.aload_n 0, 1) := by decide +kernel
theorem dX4_address_21 : decode cX4_address 21 = .ok (.invokevirtual 43, 3) := by decide +kernel
theorem dX4_address_24 : decode cX4_address 24 = .ok (.ireturn, 1) := by decide +kernel
theorem dX4_isOf_0 : decode cX4_isOf 0 = .ok (.aload_n 0, 1) := by decide +kernel
theorem dX4_isOf_1 : decode cX4_isOf 1 = .ok (.getfield 15, 3) := by decide +kernel
theorem dX4_isOf_4 : decode cX4_isOf 4 = .ok (.ifCond .eq 18, 3) := by decide +kernel
theorem dX4_isOf_7 : decode cX4_isOf 7 = .ok (.iload_n 1, 1) := by decide +kernel
theorem dX4_isOf_8 : decode cX4_isOf 8 = .ok (.aload_n 0, 1) := by decide +kernel
theorem dX4_isOf_9 : decode cX4_isOf 9 = .ok (.invokevirtual 22, 3) := by decide +kernel
theorem dX4_isOf_12 : decode cX4_isOf 12 = .ok (.iushr, 1) := by decide +kernel
theorem dX4_isOf_13 : decode cX4_isOf 13 = .ok (.iconst 1, 1) := by decide +kernel
theorem dX4_isOf_14 : decode cX4_isOf 14 = .ok (.iand, 1) := by decide +kernel
theorem dX4_isOf_15 : decode cX4_isOf 15 = .ok (.ifCond .eq 7, 3) := by decide +kernel
theorem dX4_isOf_18 : decode cX4_isOf 18 = .ok (.iconst 1, 1) := by decide +kernel
theorem dX4_isOf_19 : decode cX4_isOf 19 = .ok (.goto 4, 3) := by decide +kernel
theorem dX4_isOf_22 : decode cX4_isOf 22 = .ok (.iconst 0, 1) := by decide +kernel
theorem dX4_isOf_23 : decode cX4_isOf 23 = .ok (.ireturn, 1) := by decide +kernel
theorem dX4_told_0 : decode cX4_told 0 = .ok (.iload_n 1, 1) := by decide +kernel
theorem dX4_told_1 : decode cX4_told 1 = .ok (.tableswitch 266 0 15 #[79, 95, 106, 117, 128, 139, 150, 160, 171, 182, 193, 204, 220, 239, 250, 261], 79) := by decide +kernel
theorem dX4_told_80 : decode cX4_told 80 = .ok (.aload_n 0, 1) := by decide +kernel
theorem dX4_told_81 : decode cX4_told 81 = .ok (.getfield 15, 3) := by decide +kernel
theorem dX4_told_84 : decode cX4_told 84 = .ok (.ifCond .ne 7, 3) := by decide +kernel
theorem dX4_told_87 : decode cX4_told 87 = .ok (.iconst (-1), 1) := by decide +kernel
theorem dX4_told_88 : decode cX4_told 88 = .ok (.goto 7, 3) := by decide +kernel
theorem dX4_told_91 : decode cX4_told 91 = .ok (.aload_n 0, 1) := by decide +kernel
theorem dX4_told_92 : decode cX4_told 92 = .ok (.invokevirtual 22, 3) := by decide +kernel
theorem dX4_told_95 : decode cX4_told 95 = .ok (.ireturn, 1) := by decide +kernel
theorem dX4_told_96 : decode cX4_told 96 = .ok (.aload_n 0, 1) := by decide +kernel
theorem dX4_told_97 : decode cX4_told 97 = .ok (.bipush 6, 2) := by decide +kernel
theorem dX4_told_99 : decode cX4_told 99 = .ok (.bipush 8, 2) := by decide +kernel
theorem dX4_told_101 : decode cX4_told 101 = .ok (.ldc 57, 2) := by decide +kernel
theorem dX4_told_103 : decode cX4_told 103 = .ok (.invokevirtual 61, 3) := by decide +kernel
theorem dX4_told_106 : decode cX4_told 106 = .ok (.ireturn, 1) := by decide +kernel
theorem dX4_told_107 : decode cX4_told 107 = .ok (.aload_n 0, 1) := by decide +kernel
theorem dX4_told_108 : decode cX4_told 108 = .ok (.bipush 6, 2) := by decide +kernel
theorem dX4_told_110 : decode cX4_told 110 = .ok (.bipush 8, 2) := by decide +kernel
theorem dX4_told_112 : decode cX4_told 112 = .ok (.ldc 65, 2) := by decide +kernel
theorem dX4_told_114 : decode cX4_told 114 = .ok (.invokevirtual 61, 3) := by decide +kernel
theorem dX4_told_117 : decode cX4_told 117 = .ok (.ireturn, 1) := by decide +kernel
theorem dX4_told_118 : decode cX4_told 118 = .ok (.aload_n 0, 1) := by decide +kernel
theorem dX4_told_119 : decode cX4_told 119 = .ok (.bipush 9, 2) := by decide +kernel
theorem dX4_told_121 : decode cX4_told 121 = .ok (.bipush 13, 2) := by decide +kernel
theorem dX4_told_123 : decode cX4_told 123 = .ok (.ldc 65, 2) := by decide +kernel
theorem dX4_told_125 : decode cX4_told 125 = .ok (.invokevirtual 61, 3) := by decide +kernel
theorem dX4_told_128 : decode cX4_told 128 = .ok (.ireturn, 1) := by decide +kernel
theorem dX4_told_129 : decode cX4_told 129 = .ok (.aload_n 0, 1) := by decide +kernel
theorem dX4_told_130 : decode cX4_told 130 = .ok (.bipush 14, 2) := by decide +kernel
theorem dX4_told_132 : decode cX4_told 132 = .ok (.bipush 19, 2) := by decide +kernel
theorem dX4_told_134 : decode cX4_told 134 = .ok (.ldc 65, 2) := by decide +kernel
theorem dX4_told_136 : decode cX4_told 136 = .ok (.invokevirtual 61, 3) := by decide +kernel
theorem dX4_told_139 : decode cX4_told 139 = .ok (.ireturn, 1) := by decide +kernel
theorem dX4_told_140 : decode cX4_told 140 = .ok (.aload_n 0, 1) := by decide +kernel
theorem dX4_told_141 : decode cX4_told 141 = .ok (.bipush 6, 2) := by decide +kernel
theorem dX4_told_143 : decode cX4_told 143 = .ok (.bipush 6, 2) := by decide +kernel
theorem dX4_told_145 : decode cX4_told 145 = .ok (.ldc 66, 2) := by decide +kernel
theorem dX4_told_147 : decode cX4_told 147 = .ok (.invokevirtual 61, 3) := by decide +kernel
theorem dX4_told_150 : decode cX4_told 150 = .ok (.ireturn, 1) := by decide +kernel
theorem dX4_told_151 : decode cX4_told 151 = .ok (.aload_n 0, 1) := by decide +kernel
theorem dX4_told_152 : decode cX4_told 152 = .ok (.bipush 7, 2) := by decide +kernel
theorem dX4_told_154 : decode cX4_told 154 = .ok (.bipush 7, 2) := by decide +kernel
theorem dX4_told_156 : decode cX4_told 156 = .ok (.iconst 1, 1) := by decide +kernel
theorem dX4_told_157 : decode cX4_told 157 = .ok (.invokevirtual 61, 3) := by decide +kernel
theorem dX4_told_160 : decode cX4_told 160 = .ok (.ireturn, 1) := by decide +kernel
theorem dX4_told_161 : decode cX4_told 161 = .ok (.aload_n 0, 1) := by decide +kernel
theorem dX4_told_162 : decode cX4_told 162 = .ok (.bipush 9, 2) := by decide +kernel
theorem dX4_told_164 : decode cX4_told 164 = .ok (.bipush 11, 2) := by decide +kernel
theorem dX4_told_166 : decode cX4_told 166 = .ok (.ldc 66, 2) := by decide +kernel
theorem dX4_told_168 : decode cX4_told 168 = .ok (.invokevirtual 61, 3) := by decide +kernel
theorem dX4_told_171 : decode cX4_told 171 = .ok (.ireturn, 1) := by decide +kernel
theorem dX4_told_172 : decode cX4_told 172 = .ok (.aload_n 0, 1) := by decide +kernel
theorem dX4_told_173 : decode cX4_told 173 = .ok (.bipush 14, 2) := by decide +kernel
theorem dX4_told_175 : decode cX4_told 175 = .ok (.bipush 17, 2) := by decide +kernel
theorem dX4_told_177 : decode cX4_told 177 = .ok (.ldc 66, 2) := by decide +kernel
theorem dX4_told_179 : decode cX4_told 179 = .ok (.invokevirtual 61, 3) := by decide +kernel
theorem dX4_told_182 : decode cX4_told 182 = .ok (.ireturn, 1) := by decide +kernel
theorem dX4_told_183 : decode cX4_told 183 = .ok (.aload_n 0, 1) := by decide +kernel
theorem dX4_told_184 : decode cX4_told 184 = .ok (.bipush 20, 2) := by decide +kernel
theorem dX4_told_186 : decode cX4_told 186 = .ok (.bipush 32, 2) := by decide +kernel
theorem dX4_told_188 : decode cX4_told 188 = .ok (.ldc 67, 2) := by decide +kernel
theorem dX4_told_190 : decode cX4_told 190 = .ok (.invokevirtual 61, 3) := by decide +kernel
theorem dX4_told_193 : decode cX4_told 193 = .ok (.ireturn, 1) := by decide +kernel
theorem dX4_told_194 : decode cX4_told 194 = .ok (.aload_n 0, 1) := by decide +kernel
theorem dX4_told_195 : decode cX4_told 195 = .ok (.bipush 20, 2) := by decide +kernel
theorem dX4_told_197 : decode cX4_told 197 = .ok (.bipush 32, 2) := by decide +kernel
theorem dX4_told_199 : decode cX4_told 199 = .ok (.ldc 68, 2) := by decide +kernel
theorem dX4_told_201 : decode cX4_told 201 = .ok (.invokevirtual 61, 3) := by decide +kernel
theorem dX4_told_204 : decode cX4_told 204 = .ok (.ireturn, 1) := by decide +kernel
theorem dX4_told_205 : decode cX4_told 205 = .ok (.aload_n 0, 1) := by decide +kernel
theorem dX4_told_206 : decode cX4_told 206 = .ok (.getfield 15, 3) := by decide +kernel
theorem dX4_told_209 : decode cX4_told 209 = .ok (.ifCond .ne 7, 3) := by decide +kernel
theorem dX4_told_212 : decode cX4_told 212 = .ok (.iconst (-1), 1) := by decide +kernel
theorem dX4_told_213 : decode cX4_told 213 = .ok (.goto 7, 3) := by decide +kernel
theorem dX4_told_216 : decode cX4_told 216 = .ok (.aload_n 0, 1) := by decide +kernel
theorem dX4_told_217 : decode cX4_told 217 = .ok (.invokevirtual 69, 3) := by decide +kernel
theorem dX4_told_220 : decode cX4_told 220 = .ok (.ireturn, 1) := by decide +kernel
theorem dX4_told_221 : decode cX4_told 221 = .ok (.aload_n 0, 1) := by decide +kernel
theorem dX4_told_222 : decode cX4_told 222 = .ok (.sipush 2048, 3) := by decide +kernel
theorem dX4_told_225 : decode cX4_told 225 = .ok (.invokevirtual 58, 3) := by decide +kernel
theorem dX4_told_228 : decode cX4_told 228 = .ok (.ifCond .eq 10, 3) := by decide +kernel
theorem dX4_told_231 : decode cX4_told 231 = .ok (.aload_n 0, 1) := by decide +kernel
theorem dX4_told_232 : decode cX4_told 232 = .ok (.invokevirtual 43, 3) := by decide +kernel
theorem dX4_told_235 : decode cX4_told 235 = .ok (.goto 4, 3) := by decide +kernel
theorem dX4_told_238 : decode cX4_told 238 = .ok (.iconst (-1), 1) := by decide +kernel
theorem dX4_told_239 : decode cX4_told 239 = .ok (.ireturn, 1) := by decide +kernel
theorem dX4_told_240 : decode cX4_told 240 = .ok (.aload_n 0, 1) := by decide +kernel
theorem dX4_told_241 : decode cX4_told 241 = .ok (.bipush 33, 2) := by decide +kernel
theorem dX4_told_243 : decode cX4_told 243 = .ok (.bipush 37, 2) := by decide +kernel
theorem dX4_told_245 : decode cX4_told 245 = .ok (.ldc 72, 2) := by decide +kernel
theorem dX4_told_247 : decode cX4_told 247 = .ok (.invokevirtual 61, 3) := by decide +kernel
theorem dX4_told_250 : decode cX4_told 250 = .ok (.ireturn, 1) := by decide +kernel
theorem dX4_told_251 : decode cX4_told 251 = .ok (.aload_n 0, 1) := by decide +kernel
theorem dX4_told_252 : decode cX4_told 252 = .ok (.bipush 38, 2) := by decide +kernel
theorem dX4_told_254 : decode cX4_told 254 = .ok (.bipush 40, 2) := by decide +kernel
theorem dX4_told_256 : decode cX4_told 256 = .ok (.ldc 72, 2) := by decide +kernel
theorem dX4_told_258 : decode cX4_told 258 = .ok (.invokevirtual 61, 3) := by decide +kernel
theorem dX4_told_261 : decode cX4_told 261 = .ok (.ireturn, 1) := by decide +kernel
theorem dX4_told_262 : decode cX4_told 262 = .ok (.aload_n 0, 1) := by decide +kernel
theorem dX4_told_263 : decode cX4_told 263 = .ok (.getfield 19, 3) := by decide +kernel
theorem dX4_told_266 : decode cX4_told 266 = .ok (.ireturn, 1) := by decide +kernel
theorem dX4_told_267 : decode cX4_told 267 = .ok (.iconst (-1), 1) := by decide +kernel
theorem dX4_told_268 : decode cX4_told 268 = .ok (.ireturn, 1) := by decide +kernel
theorem dX4_part_0 : decode cX4_part 0 = .ok (.aload_n 0, 1) := by decide +kernel
theorem dX4_part_1 : decode cX4_part 1 = .ok (.iload_n 3, 1) := by decide +kernel
theorem dX4_part_2 : decode cX4_part 2 = .ok (.invokevirtual 58, 3) := by decide +kernel
theorem dX4_part_5 : decode cX4_part 5 = .ok (.ifCond .eq 16, 3) := by decide +kernel
theorem dX4_part_8 : decode cX4_part 8 = .ok (.aload_n 0, 1) := by decide +kernel
theorem dX4_part_9 : decode cX4_part 9 = .ok (.iload_n 1, 1) := by decide +kernel
theorem dX4_part_10 : decode cX4_part 10 = .ok (.iload_n 2, 1) := by decide +kernel
theorem dX4_part_11 : decode cX4_part 11 = .ok (.iload_n 1, 1) := by decide +kernel
theorem dX4_part_12 : decode cX4_part 12 = .ok (.isub, 1) := by decide +kernel
theorem dX4_part_13 : decode cX4_part 13 = .ok (.iconst 1, 1) := by decide +kernel
theorem dX4_part_14 : decode cX4_part 14 = .ok (.iadd, 1) := by decide +kernel
theorem dX4_part_15 : decode cX4_part 15 = .ok (.invokevirtual 36, 3) := by decide +kernel
theorem dX4_part_18 : decode cX4_part 18 = .ok (.goto 4, 3) := by decide +kernel
theorem dX4_part_21 : decode cX4_part 21 = .ok (.iconst (-1), 1) := by decide +kernel
theorem dX4_part_22 : decode cX4_part 22 = .ok (.ireturn, 1) := by decide +kernel
theorem dX4_format_0 : decode cX4_format 0 = .ok (.aload_n 0, 1) := by decide +kernel
theorem dX4_format_1 : decode cX4_format 1 = .ok (.getfield 11, 3) := by decide +kernel
theorem dX4_format_4 : decode cX4_format 4 = .ok (.iconst 0, 1) := by decide +kernel
theorem dX4_format_5 : decode cX4_format 5 = .ok (.iaload, 1) := by decide +kernel
theorem dX4_format_6 : decode cX4_format 6 = .ok (.bipush 27, 2) := by decide +kernel
theorem dX4_format_8 : decode cX4_format 8 = .ok (.iushr, 1) := by decide +kernel
theorem dX4_format_9 : decode cX4_format 9 = .ok (.ireturn, 1) := by decide +kernel
theorem dX4_isSound_0 : decode cX4_isSound 0 = .ok (.aload_n 0, 1) := by decide +kernel
theorem dX4_isSound_1 : decode cX4_isSound 1 = .ok (.ldc 72, 2) := by decide +kernel
theorem dX4_isSound_3 : decode cX4_isSound 3 = .ok (.invokevirtual 58, 3) := by decide +kernel
theorem dX4_isSound_6 : decode cX4_isSound 6 = .ok (.ifCond .eq 13, 3) := by decide +kernel
theorem dX4_isSound_9 : decode cX4_isSound 9 = .ok (.iload_n 1, 1) := by decide +kernel
theorem dX4_isSound_10 : decode cX4_isSound 10 = .ok (.ifCond .ne 7, 3) := by decide +kernel
theorem dX4_isSound_13 : decode cX4_isSound 13 = .ok (.iconst 1, 1) := by decide +kernel
theorem dX4_isSound_14 : decode cX4_isSound 14 = .ok (.goto 4, 3) := by decide +kernel
theorem dX4_isSound_17 : decode cX4_isSound 17 = .ok (.iconst 0, 1) := by decide +kernel
theorem dX4_isSound_18 : decode cX4_isSound 18 = .ok (.ireturn, 1) := by decide +kernel
theorem dX4_isSound_19 : decode cX4_isSound 19 = .ok (.aload_n 0, 1) := by decide +kernel
theorem dX4_isSound_20 : decode cX4_isSound 20 = .ok (.sipush 2048, 3) := by decide +kernel
theorem dX4_isSound_23 : decode cX4_isSound 23 = .ok (.invokevirtual 58, 3) := by decide +kernel
theorem dX4_isSound_26 : decode cX4_isSound 26 = .ok (.ifCond .eq 10, 3) := by decide +kernel
theorem dX4_isSound_29 : decode cX4_isSound 29 = .ok (.iload_n 1, 1) := by decide +kernel
theorem dX4_isSound_30 : decode cX4_isSound 30 = .ok (.sipush 128, 3) := by decide +kernel
theorem dX4_isSound_33 : decode cX4_isSound 33 = .ok (.if_icmp .ge 7, 3) := by decide +kernel
theorem dX4_isSound_36 : decode cX4_isSound 36 = .ok (.iconst 1, 1) := by decide +kernel
theorem dX4_isSound_37 : decode cX4_isSound 37 = .ok (.goto 4, 3) := by decide +kernel
theorem dX4_isSound_40 : decode cX4_isSound 40 = .ok (.iconst 0, 1) := by decide +kernel
theorem dX4_isSound_41 : decode cX4_isSound 41 = .ok (.ireturn, 1) := by decide +kernel
theorem dX4_bit_0 : decode cX4_bit 0 = .ok (.iload_n 1, 1) := by decide +kernel
theorem dX4_bit_1 : decode cX4_bit 1 = .ok (.iconst 1, 1) := by decide +kernel
theorem dX4_bit_2 : decode cX4_bit 2 = .ok (.isub, 1) := by decide +kernel
theorem dX4_bit_3 : decode cX4_bit 3 = .ok (.iconst 5, 1) := by decide +kernel
theorem dX4_bit_4 : decode cX4_bit 4 = .ok (.ishr, 1) := by decide +kernel
theorem dX4_bit_5 : decode cX4_bit 5 = .ok (.istore_n 2, 1) := by decide +kernel
theorem dX4_bit_6 : decode cX4_bit 6 = .ok (.iload_n 2, 1) := by decide +kernel
theorem dX4_bit_7 : decode cX4_bit 7 = .ok (.ifCond .lt 12, 3) := by decide +kernel
theorem dX4_bit_10 : decode cX4_bit 10 = .ok (.iload_n 2, 1) := by decide +kernel
theorem dX4_bit_11 : decode cX4_bit 11 = .ok (.aload_n 0, 1) := by decide +kernel
theorem dX4_bit_12 : decode cX4_bit 12 = .ok (.getfield 11, 3) := by decide +kernel
theorem dX4_bit_15 : decode cX4_bit 15 = .ok (.arraylength, 1) := by decide +kernel
theorem dX4_bit_16 : decode cX4_bit 16 = .ok (.if_icmp .lt 5, 3) := by decide +kernel
theorem dX4_bit_19 : decode cX4_bit 19 = .ok (.iconst 0, 1) := by decide +kernel
theorem dX4_bit_20 : decode cX4_bit 20 = .ok (.ireturn, 1) := by decide +kernel
theorem dX4_bit_21 : decode cX4_bit 21 = .ok (.aload_n 0, 1) := by decide +kernel
theorem dX4_bit_22 : decode cX4_bit 22 = .ok (.getfield 11, 3) := by decide +kernel
theorem dX4_bit_25 : decode cX4_bit 25 = .ok (.iload_n 2, 1) := by decide +kernel
theorem dX4_bit_26 : decode cX4_bit 26 = .ok (.iaload, 1) := by decide +kernel
theorem dX4_bit_27 : decode cX4_bit 27 = .ok (.bipush 31, 2) := by decide +kernel
theorem dX4_bit_29 : decode cX4_bit 29 = .ok (.iload_n 1, 1) := by decide +kernel
theorem dX4_bit_30 : decode cX4_bit 30 = .ok (.iconst 1, 1) := by decide +kernel
theorem dX4_bit_31 : decode cX4_bit 31 = .ok (.isub, 1) := by decide +kernel
theorem dX4_bit_32 : decode cX4_bit 32 = .ok (.bipush 32, 2) := by decide +kernel
theorem dX4_bit_34 : decode cX4_bit 34 = .ok (.irem, 1) := by decide +kernel
theorem dX4_bit_35 : decode cX4_bit 35 = .ok (.isub, 1) := by decide +kernel
theorem dX4_bit_36 : decode cX4_bit 36 = .ok (.iushr, 1) := by decide +kernel
theorem dX4_bit_37 : decode cX4_bit 37 = .ok (.iconst 1, 1) := by decide +kernel
theorem dX4_bit_38 : decode cX4_bit 38 = .ok (.iand, 1) := by decide +kernel
theorem dX4_bit_39 : decode cX4_bit 39 = .ok (.ireturn, 1) := by decide +kernel
theorem dX4_turn_0 : decode cX4_turn 0 = .ok (.iload_n 1, 1) := by decide +kernel
theorem dX4_turn_1 : decode cX4_turn 1 = .ok (.iconst 1, 1) := by decide +kernel
theorem dX4_turn_2 : decode cX4_turn 2 = .ok (.isub, 1) := by decide +kernel
theorem dX4_turn_3 : decode cX4_turn 3 = .ok (.iconst 5, 1) := by decide +kernel
theorem dX4_turn_4 : decode cX4_turn 4 = .ok (.ishr, 1) := by decide +kernel
theorem dX4_turn_5 : decode cX4_turn 5 = .ok (.istore_n 2, 1) := by decide +kernel
theorem dX4_turn_6 : decode cX4_turn 6 = .ok (.iload_n 2, 1) := by decide +kernel
theorem dX4_turn_7 : decode cX4_turn 7 = .ok (.ifCond .lt 32, 3) := by decide +kernel
theorem dX4_turn_10 : decode cX4_turn 10 = .ok (.iload_n 2, 1) := by decide +kernel
theorem dX4_turn_11 : decode cX4_turn 11 = .ok (.aload_n 0, 1) := by decide +kernel
theorem dX4_turn_12 : decode cX4_turn 12 = .ok (.getfield 11, 3) := by decide +kernel
theorem dX4_turn_15 : decode cX4_turn 15 = .ok (.arraylength, 1) := by decide +kernel
theorem dX4_turn_16 : decode cX4_turn 16 = .ok (.if_icmp .ge 23, 3) := by decide +kernel
theorem dX4_turn_19 : decode cX4_turn 19 = .ok (.aload_n 0, 1) := by decide +kernel
theorem dX4_turn_20 : decode cX4_turn 20 = .ok (.getfield 11, 3) := by decide +kernel
theorem dX4_turn_23 : decode cX4_turn 23 = .ok (.iload_n 2, 1) := by decide +kernel
theorem dX4_turn_24 : decode cX4_turn 24 = .ok (.dup2, 1) := by decide +kernel
theorem dX4_turn_25 : decode cX4_turn 25 = .ok (.iaload, 1) := by decide +kernel
theorem dX4_turn_26 : decode cX4_turn 26 = .ok (.iconst 1, 1) := by decide +kernel
theorem dX4_turn_27 : decode cX4_turn 27 = .ok (.bipush 31, 2) := by decide +kernel
theorem dX4_turn_29 : decode cX4_turn 29 = .ok (.iload_n 1, 1) := by decide +kernel
theorem dX4_turn_30 : decode cX4_turn 30 = .ok (.iconst 1, 1) := by decide +kernel
theorem dX4_turn_31 : decode cX4_turn 31 = .ok (.isub, 1) := by decide +kernel
theorem dX4_turn_32 : decode cX4_turn 32 = .ok (.bipush 32, 2) := by decide +kernel
theorem dX4_turn_34 : decode cX4_turn 34 = .ok (.irem, 1) := by decide +kernel
theorem dX4_turn_35 : decode cX4_turn 35 = .ok (.isub, 1) := by decide +kernel
theorem dX4_turn_36 : decode cX4_turn 36 = .ok (.ishl, 1) := by decide +kernel
theorem dX4_turn_37 : decode cX4_turn 37 = .ok (.ixor, 1) := by decide +kernel
theorem dX4_turn_38 : decode cX4_turn 38 = .ok (.iastore, 1) := by decide +kernel
theorem dX4_turn_39 : decode cX4_turn 39 = .ok (.return_, 1) := by decide +kernel
theorem dX4_reduced_0 : decode cX4_reduced 0 = .ok (.iload_n 0, 1) := by decide +kernel
theorem dX4_reduced_1 : decode cX4_reduced 1 = .ok (.ldc 73, 2) := by decide +kernel
theorem dX4_reduced_3 : decode cX4_reduced 3 = .ok (.iand, 1) := by decide +kernel
theorem dX4_reduced_4 : decode cX4_reduced 4 = .ok (.ifCond .ne 7, 3) := by decide +kernel
theorem dX4_reduced_7 : decode cX4_reduced 7 = .ok (.iload_n 0, 1) := by decide +kernel
theorem dX4_reduced_8 : decode cX4_reduced 8 = .ok (.goto 7, 3) := by decide +kernel
theorem dX4_reduced_11 : decode cX4_reduced 11 = .ok (.iload_n 0, 1) := by decide +kernel
theorem dX4_reduced_12 : decode cX4_reduced 12 = .ok (.ldc 74, 2) := by decide +kernel
theorem dX4_reduced_14 : decode cX4_reduced 14 = .ok (.ixor, 1) := by decide +kernel
theorem dX4_reduced_15 : decode cX4_reduced 15 = .ok (.ireturn, 1) := by decide +kernel
theorem dX5_init_0 : decode cX5_init 0 = .ok (.aload_n 0, 1) := by decide +kernel
theorem dX5_init_1 : decode cX5_init 1 = .ok (.invokespecial 1, 3) := by decide +kernel
theorem dX5_init_4 : decode cX5_init 4 = .ok (.aload_n 0, 1) := by decide +kernel
theorem dX5_init_5 : decode cX5_init 5 = .ok (.new 7, 3) := by decide +kernel
theorem dX5_init_8 : decode cX5_init 8 = .ok (.dup, 1) := by decide +kernel
theorem dX5_init_9 : decode cX5_init 9 = .ok (.invokespecial 9, 3) := by decide +kernel
theorem dX5_init_12 : decode cX5_init 12 = .ok (.putfield 10, 3) := by decide +kernel
theorem dX5_init_15 : decode cX5_init 15 = .ok (.aload_n 0, 1) := by decide +kernel
theorem dX5_init_16 : decode cX5_init 16 = .ok (.new 7, 3) := by decide +kernel
theorem dX5_init_19 : decode cX5_init 19 = .ok (.dup, 1) := by decide +kernel
theorem dX5_init_20 : decode cX5_init 20 = .ok (.invokespecial 9, 3) := by decide +kernel
theorem dX5_init_23 : decode cX5_init 23 = .ok (.putfield 16, 3) := by decide +kernel
theorem dX5_init_26 : decode cX5_init 26 = .ok (.aload_n 0, 1) := by decide +kernel
theorem dX5_init_27 : decode cX5_init 27 = .ok (.new 19, 3) := by decide +kernel
theorem dX5_init_30 : decode cX5_init 30 = .ok (.dup, 1) := by decide +kernel
theorem dX5_init_31 : decode cX5_init 31 = .ok (.invokespecial 21, 3) := by decide +kernel
theorem dX5_init_34 : decode cX5_init 34 = .ok (.putfield 22, 3) := by decide +kernel
theorem dX5_init_37 : decode cX5_init 37 = .ok (.aload_n 0, 1) := by decide +kernel
theorem dX5_init_38 : decode cX5_init 38 = .ok (.ldc2_w 26, 3) := by decide +kernel
theorem dX5_init_41 : decode cX5_init 41 = .ok (.putfield 28, 3) := by decide +kernel
theorem dX5_init_44 : decode cX5_init 44 = .ok (.aload_n 0, 1) := by decide +kernel
theorem dX5_init_45 : decode cX5_init 45 = .ok (.iconst 0, 1) := by decide +kernel
theorem dX5_init_46 : decode cX5_init 46 = .ok (.putfield 32, 3) := by decide +kernel
theorem dX5_init_49 : decode cX5_init 49 = .ok (.return_, 1) := by decide +kernel
theorem dX5_syndrome_0 : decode cX5_syndrome 0 = .ok (.aload_n 0, 1) := by decide +kernel
theorem dX5_syndrome_1 : decode cX5_syndrome 1 = .ok (.getfield 10, 3) := by decide +kernel
theorem dX5_syndrome_4 : decode cX5_syndrome 4 = .ok (.iload_n 1, 1) := by decide +kernel
theorem dX5_syndrome_5 : decode cX5_syndrome 5 = .ok (.iload_n 2, 1) := by decide +kernel
theorem dX5_syndrome_6 : decode cX5_syndrome 6 = .ok (.iload_n 3, 1) := by decide +kernel
theorem dX5_syndrome_7 : decode cX5_syndrome 7 = .ok (.iload 4, 2) := by decide +kernel
theorem dX5_syndrome_9 : decode cX5_syndrome 9 = .ok (.invokevirtual 36, 3) := by decide +kernel
theorem dX5_syndrome_12 : decode cX5_syndrome 12 = .ok (.aload_n 0, 1) := by decide +kernel
theorem dX5_syndrome_13 : decode cX5_syndrome 13 = .ok (.getfield 10, 3) := by decide +kernel
theorem dX5_syndrome_16 : decode cX5_syndrome 16 = .ok (.invokevirtual 40, 3) := by decide +kernel
theorem dX5_syndrome_19 : decode cX5_syndrome 19 = .ok (.ireturn, 1) := by decide +kernel
theorem dX5_repair_0 : decode cX5_repair 0 = .ok (.aload_n 0, 1) := by decide +kernel
theorem dX5_repair_1 : decode cX5_repair 1 = .ok (.getfield 10, 3) := by decide +kernel
theorem dX5_repair_4 : decode cX5_repair 4 = .ok (.iload_n 1, 1) := by decide +kernel
theorem dX5_repair_5 : decode cX5_repair 5 = .ok (.iload_n 2, 1) := by decide +kernel
theorem dX5_repair_6 : decode cX5_repair 6 = .ok (.iload_n 3, 1) := by decide +kernel
theorem dX5_repair_7 : decode cX5_repair 7 = .ok (.iload 4, 2) := by decide +kernel
theorem dX5_repair_9 : decode cX5_repair 9 = .ok (.invokevirtual 36, 3) := by decide +kernel
theorem dX5_repair_12 : decode cX5_repair 12 = .ok (.aload_n 0, 1) := by decide +kernel
theorem dX5_repair_13 : decode cX5_repair 13 = .ok (.getfield 10, 3) := by decide +kernel
theorem dX5_repair_16 : decode cX5_repair 16 = .ok (.invokevirtual 44, 3) := by decide +kernel
theorem dX5_repair_19 : decode cX5_repair 19 = .ok (.ireturn, 1) := by decide +kernel
theorem dX5_seal_0 : decode cX5_seal 0 = .ok (.aload_n 0, 1) := by decide +kernel
theorem dX5_seal_1 : decode cX5_seal 1 = .ok (.getfield 10, 3) := by decide +kernel
theorem dX5_seal_4 : decode cX5_seal 4 = .ok (.iload_n 1, 1) := by decide +kernel
theorem dX5_seal_5 : decode cX5_seal 5 = .ok (.iload_n 2, 1) := by decide +kernel
theorem dX5_seal_6 : decode cX5_seal 6 = .ok (.iload_n 3, 1) := by decide +kernel
theorem dX5_seal_7 : decode cX5_seal 7 = .ok (.iload 4, 2) := by decide +kernel
theorem dX5_seal_9 : decode cX5_seal 9 = .ok (.invokevirtual 36, 3) := by decide +kernel
theorem dX5_seal_12 : decode cX5_seal 12 = .ok (.aload_n 0, 1) := by decide +kernel
theorem dX5_seal_13 : decode cX5_seal 13 = .ok (.getfield 10, 3) := by decide +kernel
theorem dX5_seal_16 : decode cX5_seal 16 = .ok (.invokevirtual 40, 3) := by decide +kernel
theorem dX5_seal_19 : decode cX5_seal 19 = .ok (.aload_n 0, 1) := by decide +kernel
theorem dX5_seal_20 : decode cX5_seal 20 = .ok (.getfield 10, 3) := by decide +kernel
theorem dX5_seal_23 : decode cX5_seal 23 = .ok (.invokevirtual 47, 3) := by decide +kernel
theorem dX5_seal_26 : decode cX5_seal 26 = .ok (.ixor, 1) := by decide +kernel
theorem dX5_seal_27 : decode cX5_seal 27 = .ok (.ireturn, 1) := by decide +kernel
theorem dX5_place_0 : decode cX5_place 0 = .ok (.iload_n 1, 1) := by decide +kernel
theorem dX5_place_1 : decode cX5_place 1 = .ok (.iload_n 2, 1) := by decide +kernel
theorem dX5_place_2 : decode cX5_place 2 = .ok (.invokestatic 50, 3) := by decide +kernel
theorem dX5_place_5 : decode cX5_place 5 = .ok (.ifCond .ne 5, 3) := by decide +kernel
theorem dX5_place_8 : decode cX5_place 8 = .ok (.iconst 0, 1) := by decide +kernel
theorem dX5_place_9 : decode cX5_place 9 = .ok (.ireturn, 1) := by decide +kernel
theorem dX5_place_10 : decode cX5_place 10 = .ok (.aload_n 0, 1) := by decide +kernel
theorem dX5_place_11 : decode cX5_place 11 = .ok (.iload_n 1, 1) := by decide +kernel
theorem dX5_place_12 : decode cX5_place 12 = .ok (.i2l, 1) := by decide +kernel
theorem dX5_place_13 : decode cX5_place 13 = .ok (.iload_n 2, 1) := by decide +kernel
theorem dX5_place_14 : decode cX5_place 14 = .ok (.i2l, 1) := by decide +kernel
theorem dX5_place_15 : decode cX5_place 15 = .ok (.invokestatic 56, 3) := by decide +kernel
theorem dX5_place_18 : decode cX5_place 18 = .ok (.putfield 28, 3) := by decide +kernel
theorem dX5_place_21 : decode cX5_place 21 = .ok (.iconst 1, 1) := by decide +kernel
theorem dX5_place_22 : decode cX5_place 22 = .ok (.ireturn, 1) := by decide +kernel
theorem dX5_hear_0 : decode cX5_hear 0 = .ok (.iload 5, 2) := by decide +kernel
theorem dX5_hear_2 : decode cX5_hear 2 = .ok (.aload_n 0, 1) := by decide +kernel
theorem dX5_hear_3 : decode cX5_hear 3 = .ok (.getfield 32, 3) := by decide +kernel
theorem dX5_hear_6 : decode cX5_hear 6 = .ok (.if_icmp .lt 10, 3) := by decide +kernel
theorem dX5_hear_9 : decode cX5_hear 9 = .ok (.iload 5, 2) := by decide +kernel
theorem dX5_hear_11 : decode cX5_hear 11 = .ok (.ldc 60, 2) := by decide +kernel
theorem dX5_hear_13 : decode cX5_hear 13 = .ok (.if_icmp .le 5, 3) := by decide +kernel
theorem dX5_hear_16 : decode cX5_hear 16 = .ok (.iconst (-1), 1) := by decide +kernel
theorem dX5_hear_17 : decode cX5_hear 17 = .ok (.ireturn, 1) := by decide +kernel
theorem dX5_hear_18 : decode cX5_hear 18 = .ok (.aload_n 0, 1) := by decide +kernel
theorem dX5_hear_19 : decode cX5_hear 19 = .ok (.iload 5, 2) := by decide +kernel
theorem dX5_hear_21 : decode cX5_hear 21 = .ok (.putfield 32, 3) := by decide +kernel
theorem dX5_hear_24 : decode cX5_hear 24 = .ok (.aload_n 0, 1) := by decide +kernel
theorem dX5_hear_25 : decode cX5_hear 25 = .ok (.getfield 22, 3) := by decide +kernel
theorem dX5_hear_28 : decode cX5_hear 28 = .ok (.iload 5, 2) := by decide +kernel
theorem dX5_hear_30 : decode cX5_hear 30 = .ok (.invokevirtual 61, 3) := by decide +kernel
theorem dX5_hear_33 : decode cX5_hear 33 = .ok (.aload_n 0, 1) := by decide +kernel
theorem dX5_hear_34 : decode cX5_hear 34 = .ok (.getfield 10, 3) := by decide +kernel
theorem dX5_hear_37 : decode cX5_hear 37 = .ok (.iload_n 1, 1) := by decide +kernel
theorem dX5_hear_38 : decode cX5_hear 38 = .ok (.iload_n 2, 1) := by decide +kernel
theorem dX5_hear_39 : decode cX5_hear 39 = .ok (.iload_n 3, 1) := by decide +kernel
theorem dX5_hear_40 : decode cX5_hear 40 = .ok (.iload 4, 2) := by decide +kernel
theorem dX5_hear_42 : decode cX5_hear 42 = .ok (.invokevirtual 36, 3) := by decide +kernel
theorem dX5_hear_45 : decode cX5_hear 45 = .ok (.aload_n 0, 1) := by decide +kernel
theorem dX5_hear_46 : decode cX5_hear 46 = .ok (.getfield 10, 3) := by decide +kernel
theorem dX5_hear_49 : decode cX5_hear 49 = .ok (.ldc 65, 2) := by decide +kernel
theorem dX5_hear_51 : decode cX5_hear 51 = .ok (.invokevirtual 66, 3) := by decide +kernel
theorem dX5_hear_54 : decode cX5_hear 54 = .ok (.ifCond .ne 6, 3) := by decide +kernel
theorem dX5_hear_57 : decode cX5_hear 57 = .ok (.bipush (-2), 2) := by decide +kernel
theorem dX5_hear_59 : decode cX5_hear 59 = .ok (.ireturn, 1) := by decide +kernel
theorem dX5_hear_60 : decode cX5_hear 60 = .ok (.aload_n 0, 1) := by decide +kernel
theorem dX5_hear_61 : decode cX5_hear 61 = .ok (.getfield 10, 3) := by decide +kernel
theorem dX5_hear_64 : decode cX5_hear 64 = .ok (.invokevirtual 70, 3) := by decide +kernel
theorem dX5_hear_67 : decode cX5_hear 67 = .ok (.ifCond .ne 6, 3) := by decide +kernel
theorem dX5_hear_70 : decode cX5_hear 70 = .ok (.bipush (-3), 2) := by decide +kernel
theorem dX5_hear_72 : decode cX5_hear 72 = .ok (.ireturn, 1) := by decide +kernel
theorem dX5_hear_73 : decode cX5_hear 73 = .ok (.aload_n 0, 1) := by decide +kernel
theorem dX5_hear_74 : decode cX5_hear 74 = .ok (.getfield 10, 3) := by decide +kernel
theorem dX5_hear_77 : decode cX5_hear 77 = .ok (.invokevirtual 74, 3) := by decide +kernel
theorem dX5_hear_80 : decode cX5_hear 80 = .ok (.istore 6, 2) := by decide +kernel
theorem dX5_hear_82 : decode cX5_hear 82 = .ok (.aload_n 0, 1) := by decide +kernel
theorem dX5_hear_83 : decode cX5_hear 83 = .ok (.getfield 22, 3) := by decide +kernel
theorem dX5_hear_86 : decode cX5_hear 86 = .ok (.aload_n 0, 1) := by decide +kernel
theorem dX5_hear_87 : decode cX5_hear 87 = .ok (.getfield 22, 3) := by decide +kernel
theorem dX5_hear_90 : decode cX5_hear 90 = .ok (.iload 6, 2) := by decide +kernel
theorem dX5_hear_92 : decode cX5_hear 92 = .ok (.invokevirtual 77, 3) := by decide +kernel
theorem dX5_hear_95 : decode cX5_hear 95 = .ok (.invokevirtual 81, 3) := by decide +kernel
theorem dX5_hear_98 : decode cX5_hear 98 = .ok (.astore 7, 2) := by decide +kernel
theorem dX5_hear_100 : decode cX5_hear 100 = .ok (.aload 7, 2) := by decide +kernel
theorem dX5_hear_102 : decode cX5_hear 102 = .ok (.ifnonnull 18, 3) := by decide +kernel
theorem dX5_hear_105 : decode cX5_hear 105 = .ok (.aload_n 0, 1) := by decide +kernel
theorem dX5_hear_106 : decode cX5_hear 106 = .ok (.getfield 10, 3) := by decide +kernel
theorem dX5_hear_109 : decode cX5_hear 109 = .ok (.ldc 85, 2) := by decide +kernel
theorem dX5_hear_111 : decode cX5_hear 111 = .ok (.invokevirtual 66, 3) := by decide +kernel
theorem dX5_hear_114 : decode cX5_hear 114 = .ok (.ifCond .ne 6, 3) := by decide +kernel
theorem dX5_hear_117 : decode cX5_hear 117 = .ok (.bipush (-4), 2) := by decide +kernel
theorem dX5_hear_119 : decode cX5_hear 119 = .ok (.ireturn, 1) := by decide +kernel
theorem dX5_hear_120 : decode cX5_hear 120 = .ok (.aload 7, 2) := by decide +kernel
theorem dX5_hear_122 : decode cX5_hear 122 = .ok (.ifnonnull 14, 3) := by decide +kernel
theorem dX5_hear_125 : decode cX5_hear 125 = .ok (.aload_n 0, 1) := by decide +kernel
theorem dX5_hear_126 : decode cX5_hear 126 = .ok (.getfield 22, 3) := by decide +kernel
theorem dX5_hear_129 : decode cX5_hear 129 = .ok (.iload 6, 2) := by decide +kernel
theorem dX5_hear_131 : decode cX5_hear 131 = .ok (.invokevirtual 86, 3) := by decide +kernel
theorem dX5_hear_134 : decode cX5_hear 134 = .ok (.astore 7, 2) := by decide +kernel
theorem dX5_hear_136 : decode cX5_hear 136 = .ok (.aload 7, 2) := by decide +kernel
theorem dX5_hear_138 : decode cX5_hear 138 = .ok (.ifnonnull 6, 3) := by decide +kernel
theorem dX5_hear_141 : decode cX5_hear 141 = .ok (.bipush (-5), 2) := by decide +kernel
theorem dX5_hear_143 : decode cX5_hear 143 = .ok (.ireturn, 1) := by decide +kernel
theorem dX5_hear_144 : decode cX5_hear 144 = .ok (.aload_n 0, 1) := by decide +kernel
theorem dX5_hear_145 : decode cX5_hear 145 = .ok (.getfield 16, 3) := by decide +kernel
theorem dX5_hear_148 : decode cX5_hear 148 = .ok (.aload_n 0, 1) := by decide +kernel
theorem dX5_hear_149 : decode cX5_hear 149 = .ok (.getfield 10, 3) := by decide +kernel
theorem dX5_hear_152 : decode cX5_hear 152 = .ok (.invokevirtual 89, 3) := by decide +kernel
theorem dX5_hear_155 : decode cX5_hear 155 = .ok (.aload 7, 2) := by decide +kernel
theorem dX5_hear_157 : decode cX5_hear 157 = .ok (.aload_n 0, 1) := by decide +kernel
theorem dX5_hear_158 : decode cX5_hear 158 = .ok (.getfield 16, 3) := by decide +kernel
theorem dX5_hear_161 : decode cX5_hear 161 = .ok (.iload 5, 2) := by decide +kernel
theorem dX5_hear_163 : decode cX5_hear 163 = .ok (.invokevirtual 93, 3) := by decide +kernel
theorem dX5_hear_166 : decode cX5_hear 166 = .ok (.aload 7, 2) := by decide +kernel
theorem dX5_hear_168 : decode cX5_hear 168 = .ok (.aload_n 0, 1) := by decide +kernel
theorem dX5_hear_169 : decode cX5_hear 169 = .ok (.getfield 16, 3) := by decide +kernel
theorem dX5_hear_172 : decode cX5_hear 172 = .ok (.invokevirtual 99, 3) := by decide +kernel
theorem dX5_hear_175 : decode cX5_hear 175 = .ok (.aload 7, 2) := by decide +kernel
theorem dX5_hear_177 : decode cX5_hear 177 = .ok (.aload_n 0, 1) := by decide +kernel
theorem dX5_hear_178 : decode cX5_hear 178 = .ok (.getfield 16, 3) := by decide +kernel
theorem dX5_hear_181 : decode cX5_hear 181 = .ok (.iload 5, 2) := by decide +kernel
theorem dX5_hear_183 : decode cX5_hear 183 = .ok (.aload_n 0, 1) := by decide +kernel
theorem dX5_hear_184 : decode cX5_hear 184 = .ok (.getfield 28, 3) := by decide +kernel
theorem dX5_hear_187 : decode cX5_hear 187 = .ok (.invokevirtual 102, 3) := by decide +kernel
theorem dX5_hear_190 : decode cX5_hear 190 = .ok (.aload_n 0, 1) := by decide +kernel
theorem dX5_hear_191 : decode cX5_hear 191 = .ok (.getfield 16, 3) := by decide +kernel
theorem dX5_hear_194 : decode cX5_hear 194 = .ok (.invokevirtual 106, 3) := by decide +kernel
theorem dX5_hear_197 : decode cX5_hear 197 = .ok (.iconst (-1), 1) := by decide +kernel
theorem dX5_hear_198 : decode cX5_hear 198 = .ok (.if_icmp .ne 7, 3) := by decide +kernel
theorem dX5_hear_201 : decode cX5_hear 201 = .ok (.iconst 0, 1) := by decide +kernel
theorem dX5_hear_202 : decode cX5_hear 202 = .ok (.goto 4, 3) := by decide +kernel
theorem dX5_hear_205 : decode cX5_hear 205 = .ok (.iconst 1, 1) := by decide +kernel
theorem dX5_hear_206 : decode cX5_hear 206 = .ok (.ireturn, 1) := by decide +kernel
theorem dX5_field_0 : decode cX5_field 0 = .ok (.aload_n 0, 1) := by decide +kernel
theorem dX5_field_1 : decode cX5_field 1 = .ok (.getfield 16, 3) := by decide +kernel
theorem dX5_field_4 : decode cX5_field 4 = .ok (.iload_n 1, 1) := by decide +kernel
theorem dX5_field_5 : decode cX5_field 5 = .ok (.invokevirtual 109, 3) := by decide +kernel
theorem dX5_field_8 : decode cX5_field 8 = .ok (.ireturn, 1) := by decide +kernel
theorem dX5_bits_0 : decode cX5_bits 0 = .ok (.aload_n 0, 1) := by decide +kernel
theorem dX5_bits_1 : decode cX5_bits 1 = .ok (.getfield 16, 3) := by decide +kernel
theorem dX5_bits_4 : decode cX5_bits 4 = .ok (.iload_n 1, 1) := by decide +kernel
theorem dX5_bits_5 : decode cX5_bits 5 = .ok (.iload_n 2, 1) := by decide +kernel
theorem dX5_bits_6 : decode cX5_bits 6 = .ok (.invokevirtual 112, 3) := by decide +kernel
theorem dX5_bits_9 : decode cX5_bits 9 = .ok (.ireturn, 1) := by decide +kernel
theorem dX5_crafts_0 : decode cX5_crafts 0 = .ok (.aload_n 0, 1) := by decide +kernel
theorem dX5_crafts_1 : decode cX5_crafts 1 = .ok (.getfield 22, 3) := by decide +kernel
theorem dX5_crafts_4 : decode cX5_crafts 4 = .ok (.invokevirtual 116, 3) := by decide +kernel
theorem dX5_crafts_7 : decode cX5_crafts 7 = .ok (.ireturn, 1) := by decide +kernel
theorem dX5_find_0 : decode cX5_find 0 = .ok (.aload_n 0, 1) := by decide +kernel
theorem dX5_find_1 : decode cX5_find 1 = .ok (.getfield 22, 3) := by decide +kernel
theorem dX5_find_4 : decode cX5_find 4 = .ok (.iload_n 1, 1) := by decide +kernel
theorem dX5_find_5 : decode cX5_find 5 = .ok (.invokevirtual 77, 3) := by decide +kernel
theorem dX5_find_8 : decode cX5_find 8 = .ok (.ireturn, 1) := by decide +kernel
theorem dX5_craft_0 : decode cX5_craft 0 = .ok (.aload_n 0, 1) := by decide +kernel
theorem dX5_craft_1 : decode cX5_craft 1 = .ok (.getfield 22, 3) := by decide +kernel
theorem dX5_craft_4 : decode cX5_craft 4 = .ok (.iload_n 1, 1) := by decide +kernel
theorem dX5_craft_5 : decode cX5_craft 5 = .ok (.invokevirtual 81, 3) := by decide +kernel
theorem dX5_craft_8 : decode cX5_craft 8 = .ok (.astore_n 3, 1) := by decide +kernel
theorem dX5_craft_9 : decode cX5_craft 9 = .ok (.aload_n 3, 1) := by decide +kernel
theorem dX5_craft_10 : decode cX5_craft 10 = .ok (.ifnonnull 7, 3) := by decide +kernel
theorem dX5_craft_13 : decode cX5_craft 13 = .ok (.iconst (-1), 1) := by decide +kernel
theorem dX5_craft_14 : decode cX5_craft 14 = .ok (.goto 8, 3) := by decide +kernel
theorem dX5_craft_17 : decode cX5_craft 17 = .ok (.aload_n 3, 1) := by decide +kernel
theorem dX5_craft_18 : decode cX5_craft 18 = .ok (.iload_n 2, 1) := by decide +kernel
theorem dX5_craft_19 : decode cX5_craft 19 = .ok (.invokevirtual 119, 3) := by decide +kernel
theorem dX5_craft_22 : decode cX5_craft 22 = .ok (.ireturn, 1) := by decide +kernel
theorem dX5_sign_0 : decode cX5_sign 0 = .ok (.aload_n 0, 1) := by decide +kernel
theorem dX5_sign_1 : decode cX5_sign 1 = .ok (.getfield 22, 3) := by decide +kernel
theorem dX5_sign_4 : decode cX5_sign 4 = .ok (.iload_n 1, 1) := by decide +kernel
theorem dX5_sign_5 : decode cX5_sign 5 = .ok (.invokevirtual 81, 3) := by decide +kernel
theorem dX5_sign_8 : decode cX5_sign 8 = .ok (.astore_n 3, 1) := by decide +kernel
theorem dX5_sign_9 : decode cX5_sign 9 = .ok (.aload_n 3, 1) := by decide +kernel
theorem dX5_sign_10 : decode cX5_sign 10 = .ok (.ifnonnull 7, 3) := by decide +kernel
theorem dX5_sign_13 : decode cX5_sign 13 = .ok (.iconst (-1), 1) := by decide +kernel
theorem dX5_sign_14 : decode cX5_sign 14 = .ok (.goto 8, 3) := by decide +kernel
theorem dX5_sign_17 : decode cX5_sign 17 = .ok (.aload_n 3, 1) := by decide +kernel
theorem dX5_sign_18 : decode cX5_sign 18 = .ok (.iload_n 2, 1) := by decide +kernel
theorem dX5_sign_19 : decode cX5_sign 19 = .ok (.invokevirtual 122, 3) := by decide +kernel
theorem dX5_sign_22 : decode cX5_sign 22 = .ok (.ireturn, 1) := by decide +kernel
theorem dX5_zones_0 : decode cX5_zones 0 = .ok (.iload_n 1, 1) := by decide +kernel
theorem dX5_zones_1 : decode cX5_zones 1 = .ok (.iconst 0, 1) := by decide +kernel
theorem dX5_zones_2 : decode cX5_zones 2 = .ok (.invokestatic 50, 3) := by decide +kernel
theorem dX5_zones_5 : decode cX5_zones 5 = .ok (.ifCond .ne 5, 3) := by decide +kernel
theorem dX5_zones_8 : decode cX5_zones 8 = .ok (.iconst (-1), 1) := by decide +kernel
theorem dX5_zones_9 : decode cX5_zones 9 = .ok (.ireturn, 1) := by decide +kernel
theorem dX5_zones_10 : decode cX5_zones 10 = .ok (.ldc2_w 125, 3) := by decide +kernel
theorem dX5_zones_13 : decode cX5_zones 13 = .ok (.iload_n 1, 1) := by decide +kernel
theorem dX5_zones_14 : decode cX5_zones 14 = .ok (.i2l, 1) := by decide +kernel
theorem dX5_zones_15 : decode cX5_zones 15 = .ok (.lmul, 1) := by decide +kernel
theorem dX5_zones_16 : decode cX5_zones 16 = .ok (.lconst 1, 1) := by decide +kernel
theorem dX5_zones_17 : decode cX5_zones 17 = .ok (.invokestatic 127, 3) := by decide +kernel
theorem dX5_zones_20 : decode cX5_zones 20 = .ok (.ireturn, 1) := by decide +kernel
theorem dX5_encode_0 : decode cX5_encode 0 = .ok (.iload_n 1, 1) := by decide +kernel
theorem dX5_encode_1 : decode cX5_encode 1 = .ok (.iload_n 2, 1) := by decide +kernel
theorem dX5_encode_2 : decode cX5_encode 2 = .ok (.invokestatic 50, 3) := by decide +kernel
theorem dX5_encode_5 : decode cX5_encode 5 = .ok (.ifCond .ne 7, 3) := by decide +kernel
theorem dX5_encode_8 : decode cX5_encode 8 = .ok (.ldc2_w 131, 3) := by decide +kernel
theorem dX5_encode_11 : decode cX5_encode 11 = .ok (.lreturn, 1) := by decide +kernel
theorem dX5_encode_12 : decode cX5_encode 12 = .ok (.iload_n 1, 1) := by decide +kernel
theorem dX5_encode_13 : decode cX5_encode 13 = .ok (.iload_n 2, 1) := by decide +kernel
theorem dX5_encode_14 : decode cX5_encode 14 = .ok (.iload_n 3, 1) := by decide +kernel
theorem dX5_encode_15 : decode cX5_encode 15 = .ok (.iload 4, 2) := by decide +kernel
theorem dX5_encode_17 : decode cX5_encode 17 = .ok (.invokestatic 133, 3) := by decide +kernel
theorem dX5_encode_20 : decode cX5_encode 20 = .ok (.lreturn, 1) := by decide +kernel
theorem dX5_global_0 : decode cX5_global 0 = .ok (.lload_n 1, 1) := by decide +kernel
theorem dX5_global_1 : decode cX5_global 1 = .ok (.invokestatic 137, 3) := by decide +kernel
theorem dX5_global_4 : decode cX5_global 4 = .ok (.ifCond .eq 10, 3) := by decide +kernel
theorem dX5_global_7 : decode cX5_global 7 = .ok (.lload_n 3, 1) := by decide +kernel
theorem dX5_global_8 : decode cX5_global 8 = .ok (.invokestatic 137, 3) := by decide +kernel
theorem dX5_global_11 : decode cX5_global 11 = .ok (.ifCond .ne 7, 3) := by decide +kernel
theorem dX5_global_14 : decode cX5_global 14 = .ok (.ldc2_w 26, 3) := by decide +kernel
theorem dX5_global_17 : decode cX5_global 17 = .ok (.lreturn, 1) := by decide +kernel
theorem dX5_global_18 : decode cX5_global 18 = .ok (.lload_n 1, 1) := by decide +kernel
theorem dX5_global_19 : decode cX5_global 19 = .ok (.lload_n 3, 1) := by decide +kernel
theorem dX5_global_20 : decode cX5_global 20 = .ok (.iload 5, 2) := by decide +kernel
theorem dX5_global_22 : decode cX5_global 22 = .ok (.invokestatic 141, 3) := by decide +kernel
theorem dX5_global_25 : decode cX5_global 25 = .ok (.lreturn, 1) := by decide +kernel
theorem dX5_local_0 : decode cX5_local 0 = .ok (.lload_n 1, 1) := by decide +kernel
theorem dX5_local_1 : decode cX5_local 1 = .ok (.invokestatic 137, 3) := by decide +kernel
theorem dX5_local_4 : decode cX5_local 4 = .ok (.ifCond .eq 13, 3) := by decide +kernel
theorem dX5_local_7 : decode cX5_local 7 = .ok (.iload 5, 2) := by decide +kernel
theorem dX5_local_9 : decode cX5_local 9 = .ok (.iload 6, 2) := by decide +kernel
theorem dX5_local_11 : decode cX5_local 11 = .ok (.invokestatic 50, 3) := by decide +kernel
theorem dX5_local_14 : decode cX5_local 14 = .ok (.ifCond .ne 7, 3) := by decide +kernel
theorem dX5_local_17 : decode cX5_local 17 = .ok (.ldc2_w 26, 3) := by decide +kernel
theorem dX5_local_20 : decode cX5_local 20 = .ok (.lreturn, 1) := by decide +kernel
theorem dX5_local_21 : decode cX5_local 21 = .ok (.lload_n 1, 1) := by decide +kernel
theorem dX5_local_22 : decode cX5_local 22 = .ok (.iload_n 3, 1) := by decide +kernel
theorem dX5_local_23 : decode cX5_local 23 = .ok (.iload 4, 2) := by decide +kernel
theorem dX5_local_25 : decode cX5_local 25 = .ok (.iload 5, 2) := by decide +kernel
theorem dX5_local_27 : decode cX5_local 27 = .ok (.i2l, 1) := by decide +kernel
theorem dX5_local_28 : decode cX5_local 28 = .ok (.iload 6, 2) := by decide +kernel
theorem dX5_local_30 : decode cX5_local 30 = .ok (.i2l, 1) := by decide +kernel
theorem dX5_local_31 : decode cX5_local 31 = .ok (.invokestatic 56, 3) := by decide +kernel
theorem dX5_local_34 : decode cX5_local 34 = .ok (.invokestatic 145, 3) := by decide +kernel
theorem dX5_local_37 : decode cX5_local 37 = .ok (.lreturn, 1) := by decide +kernel
