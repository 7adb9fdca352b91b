theorem dX3_down_1 : decode cX3_down 1 = .ok (.lreturn, 1) := by decide +kernel
theorem dX3_up_0 : decode cX3_up 0 = .ok (.lload_n 1, 1) := by decide +kernel
theorem dX3_up_1 : decode cX3_up 1 = .ok (.lreturn, 1) := by decide +kernel
theorem dX3_near_0 : decode cX3_near 0 = .ok (.lload_n 1, 1) := by decide +kernel
theorem dX3_near_1 : decode cX3_near 1 = .ok (.lreturn, 1) := by decide +kernel
theorem dX3_sign_0 : decode cX3_sign 0 = .ok (.lload_n 1, 1) := by decide +kernel
theorem dX3_sign_1 : decode cX3_sign 1 = .ok (.lconst 0, 1) := by decide +kernel
theorem dX3_sign_2 : decode cX3_sign 2 = .ok (.lcmp, 1) := by decide +kernel
theorem dX3_sign_3 : decode cX3_sign 3 = .ok (.ifCond .ne 5, 3) := by decide +kernel
theorem dX3_sign_6 : decode cX3_sign 6 = .ok (.lconst 0, 1) := by decide +kernel
theorem dX3_sign_7 : decode cX3_sign 7 = .ok (.lreturn, 1) := by decide +kernel
theorem dX3_sign_8 : decode cX3_sign 8 = .ok (.lload_n 1, 1) := by decide +kernel
theorem dX3_sign_9 : decode cX3_sign 9 = .ok (.lconst 0, 1) := by decide +kernel
theorem dX3_sign_10 : decode cX3_sign 10 = .ok (.lcmp, 1) := by decide +kernel
theorem dX3_sign_11 : decode cX3_sign 11 = .ok (.ifCond .le 7, 3) := by decide +kernel
theorem dX3_sign_14 : decode cX3_sign 14 = .ok (.lconst 1, 1) := by decide +kernel
theorem dX3_sign_15 : decode cX3_sign 15 = .ok (.goto 6, 3) := by decide +kernel
theorem dX3_sign_18 : decode cX3_sign 18 = .ok (.ldc2_w 13, 3) := by decide +kernel
theorem dX3_sign_21 : decode cX3_sign 21 = .ok (.lreturn, 1) := by decide +kernel
theorem dX3_like_0 : decode cX3_like 0 = .ok (.lload_n 3, 1) := by decide +kernel
theorem dX3_like_1 : decode cX3_like 1 = .ok (.lconst 0, 1) := by decide +kernel
theorem dX3_like_2 : decode cX3_like 2 = .ok (.lcmp, 1) := by decide +kernel
theorem dX3_like_3 : decode cX3_like 3 = .ok (.ifCond .ge 15, 3) := by decide +kernel
theorem dX3_like_6 : decode cX3_like 6 = .ok (.aload_n 0, 1) := by decide +kernel
theorem dX3_like_7 : decode cX3_like 7 = .ok (.aload_n 0, 1) := by decide +kernel
theorem dX3_like_8 : decode cX3_like 8 = .ok (.lload_n 1, 1) := by decide +kernel
theorem dX3_like_9 : decode cX3_like 9 = .ok (.invokevirtual 15, 3) := by decide +kernel
theorem dX3_like_12 : decode cX3_like 12 = .ok (.invokevirtual 7, 3) := by decide +kernel
theorem dX3_like_15 : decode cX3_like 15 = .ok (.goto 8, 3) := by decide +kernel
theorem dX3_like_18 : decode cX3_like 18 = .ok (.aload_n 0, 1) := by decide +kernel
theorem dX3_like_19 : decode cX3_like 19 = .ok (.lload_n 1, 1) := by decide +kernel
theorem dX3_like_20 : decode cX3_like 20 = .ok (.invokevirtual 15, 3) := by decide +kernel
theorem dX3_like_23 : decode cX3_like 23 = .ok (.lreturn, 1) := by decide +kernel
theorem dX3_step_0 : decode cX3_step 0 = .ok (.iload_n 3, 1) := by decide +kernel
theorem dX3_step_1 : decode cX3_step 1 = .ok (.ifCond .gt 7, 3) := by decide +kernel
theorem dX3_step_4 : decode cX3_step 4 = .ok (.lload_n 1, 1) := by decide +kernel
theorem dX3_step_5 : decode cX3_step 5 = .ok (.goto 8, 3) := by decide +kernel
theorem dX3_step_8 : decode cX3_step 8 = .ok (.lload_n 1, 1) := by decide +kernel
theorem dX3_step_9 : decode cX3_step 9 = .ok (.iload_n 3, 1) := by decide +kernel
theorem dX3_step_10 : decode cX3_step 10 = .ok (.lshr, 1) := by decide +kernel
theorem dX3_step_11 : decode cX3_step 11 = .ok (.iload_n 3, 1) := by decide +kernel
theorem dX3_step_12 : decode cX3_step 12 = .ok (.lshl, 1) := by decide +kernel
theorem dX3_step_13 : decode cX3_step 13 = .ok (.lreturn, 1) := by decide +kernel
theorem dX3_canMeet_0 : decode cX3_canMeet 0 = .ok (.iconst 1, 1) := by decide +kernel
theorem dX3_canMeet_1 : decode cX3_canMeet 1 = .ok (.ireturn, 1) := by decide +kernel
theorem dX3_meet_0 : decode cX3_meet 0 = .ok (.aload_n 0, 1) := by decide +kernel
theorem dX3_meet_1 : decode cX3_meet 1 = .ok (.lload_n 1, 1) := by decide +kernel
theorem dX3_meet_2 : decode cX3_meet 2 = .ok (.lload_n 3, 1) := by decide +kernel
theorem dX3_meet_3 : decode cX3_meet 3 = .ok (.ladd, 1) := by decide +kernel
theorem dX3_meet_4 : decode cX3_meet 4 = .ok (.invokevirtual 18, 3) := by decide +kernel
theorem dX3_meet_7 : decode cX3_meet 7 = .ok (.iconst 1, 1) := by decide +kernel
theorem dX3_meet_8 : decode cX3_meet 8 = .ok (.lshr, 1) := by decide +kernel
theorem dX3_meet_9 : decode cX3_meet 9 = .ok (.lreturn, 1) := by decide +kernel
theorem dX3_turn_0 : decode cX3_turn 0 = .ok (.aload_n 0, 1) := by decide +kernel
theorem dX3_turn_1 : decode cX3_turn 1 = .ok (.lload_n 1, 1) := by decide +kernel
theorem dX3_turn_2 : decode cX3_turn 2 = .ok (.lneg, 1) := by decide +kernel
theorem dX3_turn_3 : decode cX3_turn 3 = .ok (.invokevirtual 18, 3) := by decide +kernel
theorem dX3_turn_6 : decode cX3_turn 6 = .ok (.lreturn, 1) := by decide +kernel
theorem dX3_part_0 : decode cX3_part 0 = .ok (.lconst 0, 1) := by decide +kernel
theorem dX3_part_1 : decode cX3_part 1 = .ok (.lreturn, 1) := by decide +kernel
theorem dX3_change_0 : decode cX3_change 0 = .ok (.aload_n 0, 1) := by decide +kernel
theorem dX3_change_1 : decode cX3_change 1 = .ok (.lload_n 3, 1) := by decide +kernel
theorem dX3_change_2 : decode cX3_change 2 = .ok (.lload_n 1, 1) := by decide +kernel
theorem dX3_change_3 : decode cX3_change 3 = .ok (.lsub, 1) := by decide +kernel
theorem dX3_change_4 : decode cX3_change 4 = .ok (.invokevirtual 18, 3) := by decide +kernel
theorem dX3_change_7 : decode cX3_change 7 = .ok (.lreturn, 1) := by decide +kernel
theorem dX3_withHalf_0 : decode cX3_withHalf 0 = .ok (.aload_n 0, 1) := by decide +kernel
theorem dX3_withHalf_1 : decode cX3_withHalf 1 = .ok (.lload_n 1, 1) := by decide +kernel
theorem dX3_withHalf_2 : decode cX3_withHalf 2 = .ok (.lload_n 3, 1) := by decide +kernel
theorem dX3_withHalf_3 : decode cX3_withHalf 3 = .ok (.iconst 1, 1) := by decide +kernel
theorem dX3_withHalf_4 : decode cX3_withHalf 4 = .ok (.lshr, 1) := by decide +kernel
theorem dX3_withHalf_5 : decode cX3_withHalf 5 = .ok (.ladd, 1) := by decide +kernel
theorem dX3_withHalf_6 : decode cX3_withHalf 6 = .ok (.invokevirtual 18, 3) := by decide +kernel
theorem dX3_withHalf_9 : decode cX3_withHalf 9 = .ok (.lreturn, 1) := by decide +kernel
theorem dX4_init_0 : decode cX4_init 0 = .ok (.aload_n 0, 1) := by decide +kernel
theorem dX4_init_1 : decode cX4_init 1 = .ok (.invokespecial 1, 3) := by decide +kernel
theorem dX4_init_4 : decode cX4_init 4 = .ok (.aload_n 0, 1) := by decide +kernel
theorem dX4_init_5 : decode cX4_init 5 = .ok (.bipush 16, 2) := by decide +kernel
theorem dX4_init_7 : decode cX4_init 7 = .ok (.anewarray 9, 3) := by decide +kernel
theorem dX4_init_10 : decode cX4_init 10 = .ok (.putfield 11, 3) := by decide +kernel
theorem dX4_init_13 : decode cX4_init 13 = .ok (.aload_n 0, 1) := by decide +kernel
theorem dX4_init_14 : decode cX4_init 14 = .ok (.bipush 12, 2) := by decide +kernel
theorem dX4_init_16 : decode cX4_init 16 = .ok (.newarray .int, 2) := by decide +kernel
theorem dX4_init_18 : decode cX4_init 18 = .ok (.putfield 15, 3) := by decide +kernel
theorem dX4_init_21 : decode cX4_init 21 = .ok (.aload_n 0, 1) := by decide +kernel
theorem dX4_init_22 : decode cX4_init 22 = .ok (.bipush 12, 2) := by decide +kernel
theorem dX4_init_24 : decode cX4_init 24 = .ok (.newarray .int, 2) := by decide +kernel
theorem dX4_init_26 : decode cX4_init 26 = .ok (.putfield 19, 3) := by decide +kernel
theorem dX4_init_29 : decode cX4_init 29 = .ok (.aload_n 0, 1) := by decide +kernel
theorem dX4_init_30 : decode cX4_init 30 = .ok (.iconst 0, 1) := by decide +kernel
theorem dX4_init_31 : decode cX4_init 31 = .ok (.putfield 22, 3) := by decide +kernel
theorem dX4_init_34 : decode cX4_init 34 = .ok (.aload_n 0, 1) := by decide +kernel
theorem dX4_init_35 : decode cX4_init 35 = .ok (.iconst (-1), 1) := by decide +kernel
theorem dX4_init_36 : decode cX4_init 36 = .ok (.putfield 26, 3) := by decide +kernel
theorem dX4_init_39 : decode cX4_init 39 = .ok (.new 29, 3) := by decide +kernel
theorem dX4_init_42 : decode cX4_init 42 = .ok (.dup, 1) := by decide +kernel
theorem dX4_init_43 : decode cX4_init 43 = .ok (.iconst 1, 1) := by decide +kernel
theorem dX4_init_44 : decode cX4_init 44 = .ok (.invokespecial 31, 3) := by decide +kernel
theorem dX4_init_47 : decode cX4_init 47 = .ok (.astore_n 1, 1) := by decide +kernel
theorem dX4_init_48 : decode cX4_init 48 = .ok (.new 29, 3) := by decide +kernel
theorem dX4_init_51 : decode cX4_init 51 = .ok (.dup, 1) := by decide +kernel
theorem dX4_init_52 : decode cX4_init 52 = .ok (.iconst 0, 1) := by decide +kernel
theorem dX4_init_53 : decode cX4_init 53 = .ok (.invokespecial 31, 3) := by decide +kernel
theorem dX4_init_56 : decode cX4_init 56 = .ok (.astore_n 2, 1) := by decide +kernel
theorem dX4_init_57 : decode cX4_init 57 = .ok (.new 34, 3) := by decide +kernel
theorem dX4_init_60 : decode cX4_init 60 = .ok (.dup, 1) := by decide +kernel
theorem dX4_init_61 : decode cX4_init 61 = .ok (.iconst 1, 1) := by decide +kernel
theorem dX4_init_62 : decode cX4_init 62 = .ok (.invokespecial 36, 3) := by decide +kernel
theorem dX4_init_65 : decode cX4_init 65 = .ok (.astore_n 3, 1) := by decide +kernel
theorem dX4_init_66 : decode cX4_init 66 = .ok (.new 34, 3) := by decide +kernel
theorem dX4_init_69 : decode cX4_init 69 = .ok (.dup, 1) := by decide +kernel
theorem dX4_init_70 : decode cX4_init 70 = .ok (.iconst 0, 1) := by decide +kernel
theorem dX4_init_71 : decode cX4_init 71 = .ok (.invokespecial 36, 3) := by decide +kernel
theorem dX4_init_74 : decode cX4_init 74 = .ok (.astore 4, 2) := by decide +kernel
theorem dX4_init_76 : decode cX4_init 76 = .ok (.iconst 0, 1) := by decide +kernel
theorem dX4_init_77 : decode cX4_init 77 = .ok (.istore 5, 2) := by decide +kernel
theorem dX4_init_79 : decode cX4_init 79 = .ok (.iload 5, 2) := by decide +kernel
theorem dX4_init_81 : decode cX4_init 81 = .ok (.iconst 4, 1) := by decide +kernel
theorem dX4_init_82 : decode cX4_init 82 = .ok (.if_icmp .ge 78, 3) := by decide +kernel
theorem dX4_init_85 : decode cX4_init 85 = .ok (.aload_n 0, 1) := by decide +kernel
theorem dX4_init_86 : decode cX4_init 86 = .ok (.getfield 11, 3) := by decide +kernel
theorem dX4_init_89 : decode cX4_init 89 = .ok (.iload 5, 2) := by decide +kernel
theorem dX4_init_91 : decode cX4_init 91 = .ok (.new 9, 3) := by decide +kernel
theorem dX4_init_94 : decode cX4_init 94 = .ok (.dup, 1) := by decide +kernel
theorem dX4_init_95 : decode cX4_init 95 = .ok (.aload_n 1, 1) := by decide +kernel
theorem dX4_init_96 : decode cX4_init 96 = .ok (.invokespecial 37, 3) := by decide +kernel
theorem dX4_init_99 : decode cX4_init 99 = .ok (.aastore, 1) := by decide +kernel
theorem dX4_init_100 : decode cX4_init 100 = .ok (.aload_n 0, 1) := by decide +kernel
theorem dX4_init_101 : decode cX4_init 101 = .ok (.getfield 11, 3) := by decide +kernel
theorem dX4_init_104 : decode cX4_init 104 = .ok (.iconst 4, 1) := by decide +kernel
theorem dX4_init_105 : decode cX4_init 105 = .ok (.iload 5, 2) := by decide +kernel
theorem dX4_init_107 : decode cX4_init 107 = .ok (.iadd, 1) := by decide +kernel
theorem dX4_init_108 : decode cX4_init 108 = .ok (.new 9, 3) := by decide +kernel
theorem dX4_init_111 : decode cX4_init 111 = .ok (.dup, 1) := by decide +kernel
theorem dX4_init_112 : decode cX4_init 112 = .ok (.aload_n 2, 1) := by decide +kernel
theorem dX4_init_113 : decode cX4_init 113 = .ok (.invokespecial 37, 3) := by decide +kernel
theorem dX4_init_116 : decode cX4_init 116 = .ok (.aastore, 1) := by decide +kernel
theorem dX4_init_117 : decode cX4_init 117 = .ok (.aload_n 0, 1) := by decide +kernel
theorem dX4_init_118 : decode cX4_init 118 = .ok (.getfield 11, 3) := by decide +kernel
theorem dX4_init_121 : decode cX4_init 121 = .ok (.bipush 8, 2) := by decide +kernel
theorem dX4_init_123 : decode cX4_init 123 = .ok (.iload 5, 2) := by decide +kernel
theorem dX4_init_125 : decode cX4_init 125 = .ok (.iadd, 1) := by decide +kernel
theorem dX4_init_126 : decode cX4_init 126 = .ok (.new 9, 3) := by decide +kernel
theorem dX4_init_129 : decode cX4_init 129 = .ok (.dup, 1) := by decide +kernel
theorem dX4_init_130 : decode cX4_init 130 = .ok (.aload_n 3, 1) := by decide +kernel
theorem dX4_init_131 : decode cX4_init 131 = .ok (.invokespecial 37, 3) := by decide +kernel
theorem dX4_init_134 : decode cX4_init 134 = .ok (.aastore, 1) := by decide +kernel
theorem dX4_init_135 : decode cX4_init 135 = .ok (.aload_n 0, 1) := by decide +kernel
theorem dX4_init_136 : decode cX4_init 136 = .ok (.getfield 11, 3) := by decide +kernel
theorem dX4_init_139 : decode cX4_init 139 = .ok (.bipush 12, 2) := by decide +kernel
theorem dX4_init_141 : decode cX4_init 141 = .ok (.iload 5, 2) := by decide +kernel
theorem dX4_init_143 : decode cX4_init 143 = .ok (.iadd, 1) := by decide +kernel
theorem dX4_init_144 : decode cX4_init 144 = .ok (.new 9, 3) := by decide +kernel
theorem dX4_init_147 : decode cX4_init 147 = .ok (.dup, 1) := by decide +kernel
theorem dX4_init_148 : decode cX4_init 148 = .ok (.aload 4, 2) := by decide +kernel
theorem dX4_init_150 : decode cX4_init 150 = .ok (.invokespecial 37, 3) := by decide +kernel
theorem dX4_init_153 : decode cX4_init 153 = .ok (.aastore, 1) := by decide +kernel
theorem dX4_init_154 : decode cX4_init 154 = .ok (.iinc 5 1, 3) := by decide +kernel
theorem dX4_init_157 : decode cX4_init 157 = .ok (.goto (-78), 3) := by decide +kernel
theorem dX4_init_160 : decode cX4_init 160 = .ok (.return_, 1) := by decide +kernel
theorem dX4_read_0 : decode cX4_read 0 = .ok (.aload_n 0, 1) := by decide +kernel
theorem dX4_read_1 : decode cX4_read 1 = .ok (.iload_n 1, 1) := by decide +kernel
theorem dX4_read_2 : decode cX4_read 2 = .ok (.invokevirtual 40, 3) := by decide +kernel
theorem dX4_read_5 : decode cX4_read 5 = .ok (.astore 4, 2) := by decide +kernel
theorem dX4_read_7 : decode cX4_read 7 = .ok (.aload 4, 2) := by decide +kernel
theorem dX4_read_9 : decode cX4_read 9 = .ok (.getfield 44, 3) := by decide +kernel
theorem dX4_read_12 : decode cX4_read 12 = .ok (.lload_n 2, 1) := by decide +kernel
theorem dX4_read_13 : decode cX4_read 13 = .ok (.invokevirtual 48, 3) := by decide +kernel
theorem dX4_read_16 : decode cX4_read 16 = .ok (.lstore 5, 2) := by decide +kernel
theorem dX4_read_18 : decode cX4_read 18 = .ok (.aload 4, 2) := by decide +kernel
theorem dX4_read_20 : decode cX4_read 20 = .ok (.getfield 44, 3) := by decide +kernel
theorem dX4_read_23 : decode cX4_read 23 = .ok (.lload 5, 2) := by decide +kernel
theorem dX4_read_25 : decode cX4_read 25 = .ok (.invokevirtual 54, 3) := by decide +kernel
theorem dX4_read_28 : decode cX4_read 28 = .ok (.ifCond .ne 13, 3) := by decide +kernel
theorem dX4_read_31 : decode cX4_read 31 = .ok (.new 58, 3) := by decide +kernel
theorem dX4_read_34 : decode cX4_read 34 = .ok (.dup, 1) := by decide +kernel
theorem dX4_read_35 : decode cX4_read 35 = .ok (.ldc 60, 2) := by decide +kernel
theorem dX4_read_37 : decode cX4_read 37 = .ok (.invokespecial 62, 3) := by decide +kernel
theorem dX4_read_40 : decode cX4_read 40 = .ok (.athrow, 1) := by decide +kernel
theorem dX4_read_41 : decode cX4_read 41 = .ok (.aload 4, 2) := by decide +kernel
theorem dX4_read_43 : decode cX4_read 43 = .ok (.lload 5, 2) := by decide +kernel
theorem dX4_read_45 : decode cX4_read 45 = .ok (.invokevirtual 65, 3) := by decide +kernel
theorem dX4_read_48 : decode cX4_read 48 = .ok (.ireturn, 1) := by decide +kernel
theorem dX4_order_0 : decode cX4_order 0 = .ok (.iload_n 1, 1) := by decide +kernel
theorem dX4_order_1 : decode cX4_order 1 = .ok (.ifCond .lt 9, 3) := by decide +kernel
theorem dX4_order_4 : decode cX4_order 4 = .ok (.iload_n 1, 1) := by decide +kernel
theorem dX4_order_5 : decode cX4_order 5 = .ok (.bipush 12, 2) := by decide +kernel
theorem dX4_order_7 : decode cX4_order 7 = .ok (.if_icmp .le 13, 3) := by decide +kernel
theorem dX4_order_10 : decode cX4_order 10 = .ok (.new 58, 3) := by decide +kernel
theorem dX4_order_13 : decode cX4_order 13 = .ok (.dup, 1) := by decide +kernel
theorem dX4_order_14 : decode cX4_order 14 = .ok (.ldc 69, 2) := by decide +kernel
theorem dX4_order_16 : decode cX4_order 16 = .ok (.invokespecial 62, 3) := by decide +kernel
theorem dX4_order_19 : decode cX4_order 19 = .ok (.athrow, 1) := by decide +kernel
theorem dX4_order_20 : decode cX4_order 20 = .ok (.iload_n 2, 1) := by decide +kernel
theorem dX4_order_21 : decode cX4_order 21 = .ok (.ifCond .lt 11, 3) := by decide +kernel
theorem dX4_order_24 : decode cX4_order 24 = .ok (.iload_n 2, 1) := by decide +kernel
theorem dX4_order_25 : decode cX4_order 25 = .ok (.iload_n 1, 1) := by decide +kernel
theorem dX4_order_26 : decode cX4_order 26 = .ok (.invokestatic 71, 3) := by decide +kernel
theorem dX4_order_29 : decode cX4_order 29 = .ok (.if_icmp .le 13, 3) := by decide +kernel
theorem dX4_order_32 : decode cX4_order 32 = .ok (.new 58, 3) := by decide +kernel
theorem dX4_order_35 : decode cX4_order 35 = .ok (.dup, 1) := by decide +kernel
theorem dX4_order_36 : decode cX4_order 36 = .ok (.ldc 75, 2) := by decide +kernel
theorem dX4_order_38 : decode cX4_order 38 = .ok (.invokespecial 62, 3) := by decide +kernel
theorem dX4_order_41 : decode cX4_order 41 = .ok (.athrow, 1) := by decide +kernel
theorem dX4_order_42 : decode cX4_order 42 = .ok (.aload_n 0, 1) := by decide +kernel
theorem dX4_order_43 : decode cX4_order 43 = .ok (.getfield 22, 3) := by decide +kernel
theorem dX4_order_46 : decode cX4_order 46 = .ok (.bipush 12, 2) := by decide +kernel
theorem dX4_order_48 : decode cX4_order 48 = .ok (.if_icmp .lt 13, 3) := by decide +kernel
theorem dX4_order_51 : decode cX4_order 51 = .ok (.new 77, 3) := by decide +kernel
theorem dX4_order_54 : decode cX4_order 54 = .ok (.dup, 1) := by decide +kernel
theorem dX4_order_55 : decode cX4_order 55 = .ok (.ldc 79, 2) := by decide +kernel
theorem dX4_order_57 : decode cX4_order 57 = .ok (.invokespecial 81, 3) := by decide +kernel
theorem dX4_order_60 : decode cX4_order 60 = .ok (.athrow, 1) := by decide +kernel
theorem dX4_order_61 : decode cX4_order 61 = .ok (.aload_n 0, 1) := by decide +kernel
theorem dX4_order_62 : decode cX4_order 62 = .ok (.getfield 15, 3) := by decide +kernel
theorem dX4_order_65 : decode cX4_order 65 = .ok (.aload_n 0, 1) := by decide +kernel
theorem dX4_order_66 : decode cX4_order 66 = .ok (.getfield 22, 3) := by decide +kernel
theorem dX4_order_69 : decode cX4_order 69 = .ok (.iload_n 1, 1) := by decide +kernel
theorem dX4_order_70 : decode cX4_order 70 = .ok (.iastore, 1) := by decide +kernel
theorem dX4_order_71 : decode cX4_order 71 = .ok (.aload_n 0, 1) := by decide +kernel
theorem dX4_order_72 : decode cX4_order 72 = .ok (.getfield 19, 3) := by decide +kernel
theorem dX4_order_75 : decode cX4_order 75 = .ok (.aload_n 0, 1) := by decide +kernel
theorem dX4_order_76 : decode cX4_order 76 = .ok (.getfield 22, 3) := by decide +kernel
theorem dX4_order_79 : decode cX4_order 79 = .ok (.iload_n 2, 1) := by decide +kernel
theorem dX4_order_80 : decode cX4_order 80 = .ok (.iastore, 1) := by decide +kernel
theorem dX4_order_81 : decode cX4_order 81 = .ok (.aload_n 0, 1) := by decide +kernel
theorem dX4_order_82 : decode cX4_order 82 = .ok (.dup, 1) := by decide +kernel
theorem dX4_order_83 : decode cX4_order 83 = .ok (.getfield 22, 3) := by decide +kernel
theorem dX4_order_86 : decode cX4_order 86 = .ok (.iconst 1, 1) := by decide +kernel
theorem dX4_order_87 : decode cX4_order 87 = .ok (.iadd, 1) := by decide +kernel
theorem dX4_order_88 : decode cX4_order 88 = .ok (.putfield 22, 3) := by decide +kernel
theorem dX4_order_91 : decode cX4_order 91 = .ok (.aload_n 0, 1) := by decide +kernel
theorem dX4_order_92 : decode cX4_order 92 = .ok (.getfield 22, 3) := by decide +kernel
theorem dX4_order_95 : decode cX4_order 95 = .ok (.ireturn, 1) := by decide +kernel
theorem dX4_wipe_0 : decode cX4_wipe 0 = .ok (.aload_n 0, 1) := by decide +kernel
theorem dX4_wipe_1 : decode cX4_wipe 1 = .ok (.getfield 22, 3) := by decide +kernel
theorem dX4_wipe_4 : decode cX4_wipe 4 = .ok (.istore_n 1, 1) := by decide +kernel
theorem dX4_wipe_5 : decode cX4_wipe 5 = .ok (.aload_n 0, 1) := by decide +kernel
theorem dX4_wipe_6 : decode cX4_wipe 6 = .ok (.iconst 0, 1) := by decide +kernel
theorem dX4_wipe_7 : decode cX4_wipe 7 = .ok (.putfield 22, 3) := by decide +kernel
theorem dX4_wipe_10 : decode cX4_wipe 10 = .ok (.iload_n 1, 1) := by decide +kernel
theorem dX4_wipe_11 : decode cX4_wipe 11 = .ok (.ireturn, 1) := by decide +kernel
theorem dX4_show_0 : decode cX4_show 0 = .ok (.aload_n 0, 1) := by decide +kernel
theorem dX4_show_1 : decode cX4_show 1 = .ok (.iload_n 1, 1) := by decide +kernel
theorem dX4_show_2 : decode cX4_show 2 = .ok (.invokevirtual 82, 3) := by decide +kernel
theorem dX4_show_5 : decode cX4_show 5 = .ok (.lreturn, 1) := by decide +kernel
theorem dX4_keep_0 : decode cX4_keep 0 = .ok (.aload_n 0, 1) := by decide +kernel
theorem dX4_keep_1 : decode cX4_keep 1 = .ok (.iload_n 1, 1) := by decide +kernel
theorem dX4_keep_2 : decode cX4_keep 2 = .ok (.invokevirtual 82, 3) := by decide +kernel
theorem dX4_keep_5 : decode cX4_keep 5 = .ok (.lstore_n 2, 1) := by decide +kernel
theorem dX4_keep_6 : decode cX4_keep 6 = .ok (.aload_n 0, 1) := by decide +kernel
theorem dX4_keep_7 : decode cX4_keep 7 = .ok (.iload_n 1, 1) := by decide +kernel
theorem dX4_keep_8 : decode cX4_keep 8 = .ok (.invokevirtual 40, 3) := by decide +kernel
theorem dX4_keep_11 : decode cX4_keep 11 = .ok (.lload_n 2, 1) := by decide +kernel
theorem dX4_keep_12 : decode cX4_keep 12 = .ok (.invokevirtual 65, 3) := by decide +kernel
theorem dX4_keep_15 : decode cX4_keep 15 = .ok (.ireturn, 1) := by decide +kernel
theorem dX4_failed_0 : decode cX4_failed 0 = .ok (.aload_n 0, 1) := by decide +kernel
theorem dX4_failed_1 : decode cX4_failed 1 = .ok (.getfield 26, 3) := by decide +kernel
theorem dX4_failed_4 : decode cX4_failed 4 = .ok (.ireturn, 1) := by decide +kernel
theorem dX4_reach_0 : decode cX4_reach 0 = .ok (.aload_n 0, 1) := by decide +kernel
theorem dX4_reach_1 : decode cX4_reach 1 = .ok (.iload_n 1, 1) := by decide +kernel
theorem dX4_reach_2 : decode cX4_reach 2 = .ok (.invokevirtual 40, 3) := by decide +kernel
theorem dX4_reach_5 : decode cX4_reach 5 = .ok (.astore_n 3, 1) := by decide +kernel
theorem dX4_reach_6 : decode cX4_reach 6 = .ok (.aload_n 0, 1) := by decide +kernel
theorem dX4_reach_7 : decode cX4_reach 7 = .ok (.iload_n 2, 1) := by decide +kernel
theorem dX4_reach_8 : decode cX4_reach 8 = .ok (.invokevirtual 40, 3) := by decide +kernel
theorem dX4_reach_11 : decode cX4_reach 11 = .ok (.astore 4, 2) := by decide +kernel
theorem dX4_reach_13 : decode cX4_reach 13 = .ok (.iload_n 1, 1) := by decide +kernel
theorem dX4_reach_14 : decode cX4_reach 14 = .ok (.invokestatic 86, 3) := by decide +kernel
theorem dX4_reach_17 : decode cX4_reach 17 = .ok (.iload_n 2, 1) := by decide +kernel
theorem dX4_reach_18 : decode cX4_reach 18 = .ok (.invokestatic 86, 3) := by decide +kernel
theorem dX4_reach_21 : decode cX4_reach 21 = .ok (.if_icmp .eq 13, 3) := by decide +kernel
theorem dX4_reach_24 : decode cX4_reach 24 = .ok (.new 77, 3) := by decide +kernel
theorem dX4_reach_27 : decode cX4_reach 27 = .ok (.dup, 1) := by decide +kernel
theorem dX4_reach_28 : decode cX4_reach 28 = .ok (.ldc 89, 2) := by decide +kernel
theorem dX4_reach_30 : decode cX4_reach 30 = .ok (.invokespecial 81, 3) := by decide +kernel
theorem dX4_reach_33 : decode cX4_reach 33 = .ok (.athrow, 1) := by decide +kernel
theorem dX4_reach_34 : decode cX4_reach 34 = .ok (.aload_n 3, 1) := by decide +kernel
theorem dX4_reach_35 : decode cX4_reach 35 = .ok (.getfield 91, 3) := by decide +kernel
theorem dX4_reach_38 : decode cX4_reach 38 = .ok (.ifCond .eq 11, 3) := by decide +kernel
theorem dX4_reach_41 : decode cX4_reach 41 = .ok (.aload 4, 2) := by decide +kernel
theorem dX4_reach_43 : decode cX4_reach 43 = .ok (.getfield 91, 3) := by decide +kernel
theorem dX4_reach_46 : decode cX4_reach 46 = .ok (.ifCond .ne 13, 3) := by decide +kernel
theorem dX4_reach_49 : decode cX4_reach 49 = .ok (.new 77, 3) := by decide +kernel
theorem dX4_reach_52 : decode cX4_reach 52 = .ok (.dup, 1) := by decide +kernel
theorem dX4_reach_53 : decode cX4_reach 53 = .ok (.ldc 94, 2) := by decide +kernel
theorem dX4_reach_55 : decode cX4_reach 55 = .ok (.invokespecial 81, 3) := by decide +kernel
theorem dX4_reach_58 : decode cX4_reach 58 = .ok (.athrow, 1) := by decide +kernel
theorem dX4_reach_59 : decode cX4_reach 59 = .ok (.aload_n 3, 1) := by decide +kernel
theorem dX4_reach_60 : decode cX4_reach 60 = .ok (.getfield 44, 3) := by decide +kernel
theorem dX4_reach_63 : decode cX4_reach 63 = .ok (.astore 5, 2) := by decide +kernel
theorem dX4_reach_65 : decode cX4_reach 65 = .ok (.aload 5, 2) := by decide +kernel
theorem dX4_reach_67 : decode cX4_reach 67 = .ok (.aload_n 3, 1) := by decide +kernel
theorem dX4_reach_68 : decode cX4_reach 68 = .ok (.getfield 96, 3) := by decide +kernel
theorem dX4_reach_71 : decode cX4_reach 71 = .ok (.invokevirtual 100, 3) := by decide +kernel
theorem dX4_reach_74 : decode cX4_reach 74 = .ok (.lstore 6, 2) := by decide +kernel
theorem dX4_reach_76 : decode cX4_reach 76 = .ok (.aload 5, 2) := by decide +kernel
theorem dX4_reach_78 : decode cX4_reach 78 = .ok (.aload 4, 2) := by decide +kernel
theorem dX4_reach_80 : decode cX4_reach 80 = .ok (.getfield 96, 3) := by decide +kernel
theorem dX4_reach_83 : decode cX4_reach 83 = .ok (.invokevirtual 100, 3) := by decide +kernel
theorem dX4_reach_86 : decode cX4_reach 86 = .ok (.lstore 8, 2) := by decide +kernel
theorem dX4_reach_88 : decode cX4_reach 88 = .ok (.aload 5, 2) := by decide +kernel
theorem dX4_reach_90 : decode cX4_reach 90 = .ok (.aload 5, 2) := by decide +kernel
theorem dX4_reach_92 : decode cX4_reach 92 = .ok (.lload 6, 2) := by decide +kernel
theorem dX4_reach_94 : decode cX4_reach 94 = .ok (.lload 8, 2) := by decide +kernel
theorem dX4_reach_96 : decode cX4_reach 96 = .ok (.invokevirtual 103, 3) := by decide +kernel
theorem dX4_reach_99 : decode cX4_reach 99 = .ok (.aload 5, 2) := by decide +kernel
theorem dX4_reach_101 : decode cX4_reach 101 = .ok (.lload 6, 2) := by decide +kernel
theorem dX4_reach_103 : decode cX4_reach 103 = .ok (.lload 8, 2) := by decide +kernel
theorem dX4_reach_105 : decode cX4_reach 105 = .ok (.invokevirtual 107, 3) := by decide +kernel
theorem dX4_reach_108 : decode cX4_reach 108 = .ok (.invokevirtual 110, 3) := by decide +kernel
theorem dX4_reach_111 : decode cX4_reach 111 = .ok (.lreturn, 1) := by decide +kernel
theorem dX4_top_0 : decode cX4_top 0 = .ok (.iload_n 1, 1) := by decide +kernel
theorem dX4_top_1 : decode cX4_top 1 = .ok (.ifCond .lt 8, 3) := by decide +kernel
theorem dX4_top_4 : decode cX4_top 4 = .ok (.iload_n 1, 1) := by decide +kernel
theorem dX4_top_5 : decode cX4_top 5 = .ok (.iconst 4, 1) := by decide +kernel
theorem dX4_top_6 : decode cX4_top 6 = .ok (.if_icmp .lt 13, 3) := by decide +kernel
theorem dX4_top_9 : decode cX4_top 9 = .ok (.new 58, 3) := by decide +kernel
theorem dX4_top_12 : decode cX4_top 12 = .ok (.dup, 1) := by decide +kernel
theorem dX4_top_13 : decode cX4_top 13 = .ok (.ldc 113, 2) := by decide +kernel
theorem dX4_top_15 : decode cX4_top 15 = .ok (.invokespecial 62, 3) := by decide +kernel
theorem dX4_top_18 : decode cX4_top 18 = .ok (.athrow, 1) := by decide +kernel
theorem dX4_top_19 : decode cX4_top 19 = .ok (.iconst (-1), 1) := by decide +kernel
theorem dX4_top_20 : decode cX4_top 20 = .ok (.istore_n 3, 1) := by decide +kernel
theorem dX4_top_21 : decode cX4_top 21 = .ok (.lconst 0, 1) := by decide +kernel
theorem dX4_top_22 : decode cX4_top 22 = .ok (.lstore 4, 2) := by decide +kernel
theorem dX4_top_24 : decode cX4_top 24 = .ok (.iload_n 1, 1) := by decide +kernel
theorem dX4_top_25 : decode cX4_top 25 = .ok (.iconst 4, 1) := by decide +kernel
theorem dX4_top_26 : decode cX4_top 26 = .ok (.imul, 1) := by decide +kernel
theorem dX4_top_27 : decode cX4_top 27 = .ok (.istore 6, 2) := by decide +kernel
theorem dX4_top_29 : decode cX4_top 29 = .ok (.iload 6, 2) := by decide +kernel
theorem dX4_top_31 : decode cX4_top 31 = .ok (.istore 7, 2) := by decide +kernel
theorem dX4_top_33 : decode cX4_top 33 = .ok (.iload 7, 2) := by decide +kernel
theorem dX4_top_35 : decode cX4_top 35 = .ok (.iload 6, 2) := by decide +kernel
theorem dX4_top_37 : decode cX4_top 37 = .ok (.iconst 4, 1) := by decide +kernel
theorem dX4_top_38 : decode cX4_top 38 = .ok (.iadd, 1) := by decide +kernel
theorem dX4_top_39 : decode cX4_top 39 = .ok (.if_icmp .ge 96, 3) := by decide +kernel
theorem dX4_top_42 : decode cX4_top 42 = .ok (.aload_n 0, 1) := by decide +kernel
theorem dX4_top_43 : decode cX4_top 43 = .ok (.getfield 11, 3) := by decide +kernel
theorem dX4_top_46 : decode cX4_top 46 = .ok (.iload 7, 2) := by decide +kernel
theorem dX4_top_48 : decode cX4_top 48 = .ok (.aaload, 1) := by decide +kernel
theorem dX4_top_49 : decode cX4_top 49 = .ok (.astore 8, 2) := by decide +kernel
theorem dX4_top_51 : decode cX4_top 51 = .ok (.aload 8, 2) := by decide +kernel
theorem dX4_top_53 : decode cX4_top 53 = .ok (.getfield 91, 3) := by decide +kernel
theorem dX4_top_56 : decode cX4_top 56 = .ok (.ifCond .ne 6, 3) := by decide +kernel
theorem dX4_top_59 : decode cX4_top 59 = .ok (.goto 70, 3) := by decide +kernel
theorem dX4_top_62 : decode cX4_top 62 = .ok (.aload 8, 2) := by decide +kernel
theorem dX4_top_64 : decode cX4_top 64 = .ok (.getfield 44, 3) := by decide +kernel
theorem dX4_top_67 : decode cX4_top 67 = .ok (.aload 8, 2) := by decide +kernel
theorem dX4_top_69 : decode cX4_top 69 = .ok (.getfield 96, 3) := by decide +kernel
theorem dX4_top_72 : decode cX4_top 72 = .ok (.invokevirtual 115, 3) := by decide +kernel
theorem dX4_top_75 : decode cX4_top 75 = .ok (.lstore 9, 2) := by decide +kernel
theorem dX4_top_77 : decode cX4_top 77 = .ok (.iload_n 2, 1) := by decide +kernel
theorem dX4_top_78 : decode cX4_top 78 = .ok (.ifCond .eq 19, 3) := by decide +kernel
theorem dX4_top_81 : decode cX4_top 81 = .ok (.lload 9, 2) := by decide +kernel
theorem dX4_top_83 : decode cX4_top 83 = .ok (.lload 4, 2) := by decide +kernel
theorem dX4_top_85 : decode cX4_top 85 = .ok (.lcmp, 1) := by decide +kernel
theorem dX4_top_86 : decode cX4_top 86 = .ok (.ifCond .le 7, 3) := by decide +kernel
theorem dX4_top_89 : decode cX4_top 89 = .ok (.iconst 1, 1) := by decide +kernel
theorem dX4_top_90 : decode cX4_top 90 = .ok (.goto 20, 3) := by decide +kernel
theorem dX4_top_93 : decode cX4_top 93 = .ok (.iconst 0, 1) := by decide +kernel
theorem dX4_top_94 : decode cX4_top 94 = .ok (.goto 16, 3) := by decide +kernel
theorem dX4_top_97 : decode cX4_top 97 = .ok (.lload 9, 2) := by decide +kernel
theorem dX4_top_99 : decode cX4_top 99 = .ok (.lload 4, 2) := by decide +kernel
theorem dX4_top_101 : decode cX4_top 101 = .ok (.lcmp, 1) := by decide +kernel
theorem dX4_top_102 : decode cX4_top 102 = .ok (.ifCond .ge 7, 3) := by decide +kernel
theorem dX4_top_105 : decode cX4_top 105 = .ok (.iconst 1, 1) := by decide +kernel
theorem dX4_top_106 : decode cX4_top 106 = .ok (.goto 4, 3) := by decide +kernel
theorem dX4_top_109 : decode cX4_top 109 = .ok (.iconst 0, 1) := by decide +kernel
theorem dX4_top_110 : decode cX4_top 110 = .ok (.istore 11, 2) := by decide +kernel
theorem dX4_top_112 : decode cX4_top 112 = .ok (.iload_n 3, 1) := by decide +kernel
theorem dX4_top_113 : decode cX4_top 113 = .ok (.iconst (-1), 1) := by decide +kernel
theorem dX4_top_114 : decode cX4_top 114 = .ok (.if_icmp .eq 8, 3) := by decide +kernel
theorem dX4_top_117 : decode cX4_top 117 = .ok (.iload 11, 2) := by decide +kernel
theorem dX4_top_119 : decode cX4_top 119 = .ok (.ifCond .eq 10, 3) := by decide +kernel
theorem dX4_top_122 : decode cX4_top 122 = .ok (.iload 7, 2) := by decide +kernel
theorem dX4_top_124 : decode cX4_top 124 = .ok (.istore_n 3, 1) := by decide +kernel
theorem dX4_top_125 : decode cX4_top 125 = .ok (.lload 9, 2) := by decide +kernel
theorem dX4_top_127 : decode cX4_top 127 = .ok (.lstore 4, 2) := by decide +kernel
theorem dX4_top_129 : decode cX4_top 129 = .ok (.iinc 7 1, 3) := by decide +kernel
theorem dX4_top_132 : decode cX4_top 132 = .ok (.goto (-99), 3) := by decide +kernel
theorem dX4_top_135 : decode cX4_top 135 = .ok (.iload_n 3, 1) := by decide +kernel
theorem dX4_top_136 : decode cX4_top 136 = .ok (.ireturn, 1) := by decide +kernel
theorem dX4_look_0 : decode cX4_look 0 = .ok (.aload_n 0, 1) := by decide +kernel
theorem dX4_look_1 : decode cX4_look 1 = .ok (.iload_n 1, 1) := by decide +kernel
theorem dX4_look_2 : decode cX4_look 2 = .ok (.invokevirtual 40, 3) := by decide +kernel
theorem dX4_look_5 : decode cX4_look 5 = .ok (.astore_n 3, 1) := by decide +kernel
theorem dX4_look_6 : decode cX4_look 6 = .ok (.iload_n 2, 1) := by decide +kernel
theorem dX4_look_7 : decode cX4_look 7 = .ok (.tableswitch 68 0 5 #[37, 43, 48, 53, 58, 63], 37) := by decide +kernel
theorem dX4_look_44 : decode cX4_look 44 = .ok (.aload_n 3, 1) := by decide +kernel
theorem dX4_look_45 : decode cX4_look 45 = .ok (.getfield 91, 3) := by decide +kernel
theorem dX4_look_48 : decode cX4_look 48 = .ok (.i2l, 1) := by decide +kernel
theorem dX4_look_49 : decode cX4_look 49 = .ok (.lreturn, 1) := by decide +kernel
theorem dX4_look_50 : decode cX4_look 50 = .ok (.aload_n 3, 1) := by decide +kernel
theorem dX4_look_51 : decode cX4_look 51 = .ok (.getfield 96, 3) := by decide +kernel
theorem dX4_look_54 : decode cX4_look 54 = .ok (.lreturn, 1) := by decide +kernel
theorem dX4_look_55 : decode cX4_look 55 = .ok (.aload_n 3, 1) := by decide +kernel
theorem dX4_look_56 : decode cX4_look 56 = .ok (.getfield 118, 3) := by decide +kernel
theorem dX4_look_59 : decode cX4_look 59 = .ok (.lreturn, 1) := by decide +kernel
theorem dX4_look_60 : decode cX4_look 60 = .ok (.aload_n 3, 1) := by decide +kernel
theorem dX4_look_61 : decode cX4_look 61 = .ok (.getfield 121, 3) := by decide +kernel
theorem dX4_look_64 : decode cX4_look 64 = .ok (.lreturn, 1) := by decide +kernel
theorem dX4_look_65 : decode cX4_look 65 = .ok (.aload_n 3, 1) := by decide +kernel
theorem dX4_look_66 : decode cX4_look 66 = .ok (.getfield 124, 3) := by decide +kernel
theorem dX4_look_69 : decode cX4_look 69 = .ok (.lreturn, 1) := by decide +kernel
theorem dX4_look_70 : decode cX4_look 70 = .ok (.aload_n 3, 1) := by decide +kernel
theorem dX4_look_71 : decode cX4_look 71 = .ok (.getfield 127, 3) := by decide +kernel
theorem dX4_look_74 : decode cX4_look 74 = .ok (.lreturn, 1) := by decide +kernel
theorem dX4_look_75 : decode cX4_look 75 = .ok (.new 58, 3) := by decide +kernel
theorem dX4_look_78 : decode cX4_look 78 = .ok (.dup, 1) := by decide +kernel
theorem dX4_look_79 : decode cX4_look 79 = .ok (.ldc 130, 2) := by decide +kernel
theorem dX4_look_81 : decode cX4_look 81 = .ok (.invokespecial 62, 3) := by decide +kernel
theorem dX4_look_84 : decode cX4_look 84 = .ok (.athrow, 1) := by decide +kernel
theorem dX4_forget_0 : decode cX4_forget 0 = .ok (.aload_n 0, 1) := by decide +kernel
theorem dX4_forget_1 : decode cX4_forget 1 = .ok (.iload_n 1, 1) := by decide +kernel
theorem dX4_forget_2 : decode cX4_forget 2 = .ok (.invokevirtual 40, 3) := by decide +kernel
theorem dX4_forget_5 : decode cX4_forget 5 = .ok (.astore_n 2, 1) := by decide +kernel
theorem dX4_forget_6 : decode cX4_forget 6 = .ok (.aload_n 2, 1) := by decide +kernel
theorem dX4_forget_7 : decode cX4_forget 7 = .ok (.getfield 91, 3) := by decide +kernel
theorem dX4_forget_10 : decode cX4_forget 10 = .ok (.istore_n 3, 1) := by decide +kernel
theorem dX4_forget_11 : decode cX4_forget 11 = .ok (.aload_n 2, 1) := by decide +kernel
theorem dX4_forget_12 : decode cX4_forget 12 = .ok (.invokevirtual 132, 3) := by decide +kernel
theorem dX4_forget_15 : decode cX4_forget 15 = .ok (.iload_n 3, 1) := by decide +kernel
theorem dX4_forget_16 : decode cX4_forget 16 = .ok (.ireturn, 1) := by decide +kernel
theorem dX4_balanceAt_0 : decode cX4_balanceAt 0 = .ok (.iload_n 1, 1) := by decide +kernel
theorem dX4_balanceAt_1 : decode cX4_balanceAt 1 = .ok (.ifCond .lt 9, 3) := by decide +kernel
theorem dX4_balanceAt_4 : decode cX4_balanceAt 4 = .ok (.iload_n 1, 1) := by decide +kernel
theorem dX4_balanceAt_5 : decode cX4_balanceAt 5 = .ok (.bipush 16, 2) := by decide +kernel
theorem dX4_balanceAt_7 : decode cX4_balanceAt 7 = .ok (.if_icmp .lt 13, 3) := by decide +kernel
theorem dX4_balanceAt_10 : decode cX4_balanceAt 10 = .ok (.new 58, 3) := by decide +kernel
theorem dX4_balanceAt_13 : decode cX4_balanceAt 13 = .ok (.dup, 1) := by decide +kernel
theorem dX4_balanceAt_14 : decode cX4_balanceAt 14 = .ok (.ldc 135, 2) := by decide +kernel
theorem dX4_balanceAt_16 : decode cX4_balanceAt 16 = .ok (.invokespecial 62, 3) := by decide +kernel
theorem dX4_balanceAt_19 : decode cX4_balanceAt 19 = .ok (.athrow, 1) := by decide +kernel
theorem dX4_balanceAt_20 : decode cX4_balanceAt 20 = .ok (.aload_n 0, 1) := by decide +kernel
theorem dX4_balanceAt_21 : decode cX4_balanceAt 21 = .ok (.getfield 11, 3) := by decide +kernel
theorem dX4_balanceAt_24 : decode cX4_balanceAt 24 = .ok (.iload_n 1, 1) := by decide +kernel
theorem dX4_balanceAt_25 : decode cX4_balanceAt 25 = .ok (.aaload, 1) := by decide +kernel
theorem dX4_balanceAt_26 : decode cX4_balanceAt 26 = .ok (.areturn, 1) := by decide +kernel
theorem dX4_sortOf_0 : decode cX4_sortOf 0 = .ok (.iload_n 0, 1) := by decide +kernel
theorem dX4_sortOf_1 : decode cX4_sortOf 1 = .ok (.iconst 4, 1) := by decide +kernel
theorem dX4_sortOf_2 : decode cX4_sortOf 2 = .ok (.idiv, 1) := by decide +kernel
theorem dX4_sortOf_3 : decode cX4_sortOf 3 = .ok (.ireturn, 1) := by decide +kernel
theorem dX4_usesBalance_0 : decode cX4_usesBalance 0 = .ok (.iload_n 0, 1) := by decide +kernel
theorem dX4_usesBalance_1 : decode cX4_usesBalance 1 = .ok (.iconst 5, 1) := by decide +kernel
theorem dX4_usesBalance_2 : decode cX4_usesBalance 2 = .ok (.if_icmp .eq 27, 3) := by decide +kernel
theorem dX4_usesBalance_5 : decode cX4_usesBalance 5 = .ok (.iload_n 0, 1) := by decide +kernel
theorem dX4_usesBalance_6 : decode cX4_usesBalance 6 = .ok (.bipush 6, 2) := by decide +kernel
theorem dX4_usesBalance_8 : decode cX4_usesBalance 8 = .ok (.if_icmp .eq 21, 3) := by decide +kernel
theorem dX4_usesBalance_11 : decode cX4_usesBalance 11 = .ok (.iload_n 0, 1) := by decide +kernel
theorem dX4_usesBalance_12 : decode cX4_usesBalance 12 = .ok (.bipush 7, 2) := by decide +kernel
theorem dX4_usesBalance_14 : decode cX4_usesBalance 14 = .ok (.if_icmp .eq 15, 3) := by decide +kernel
theorem dX4_usesBalance_17 : decode cX4_usesBalance 17 = .ok (.iload_n 0, 1) := by decide +kernel
theorem dX4_usesBalance_18 : decode cX4_usesBalance 18 = .ok (.bipush 9, 2) := by decide +kernel
theorem dX4_usesBalance_20 : decode cX4_usesBalance 20 = .ok (.if_icmp .eq 9, 3) := by decide +kernel
theorem dX4_usesBalance_23 : decode cX4_usesBalance 23 = .ok (.iload_n 0, 1) := by decide +kernel
theorem dX4_usesBalance_24 : decode cX4_usesBalance 24 = .ok (.bipush 11, 2) := by decide +kernel
theorem dX4_usesBalance_26 : decode cX4_usesBalance 26 = .ok (.if_icmp .ne 7, 3) := by decide +kernel
theorem dX4_usesBalance_29 : decode cX4_usesBalance 29 = .ok (.iconst 1, 1) := by decide +kernel
theorem dX4_usesBalance_30 : decode cX4_usesBalance 30 = .ok (.goto 4, 3) := by decide +kernel
theorem dX4_usesBalance_33 : decode cX4_usesBalance 33 = .ok (.iconst 0, 1) := by decide +kernel
theorem dX4_usesBalance_34 : decode cX4_usesBalance 34 = .ok (.ireturn, 1) := by decide +kernel
theorem dX4_greatestOperand_0 : decode cX4_greatestOperand 0 = .ok (.iload_n 0, 1) := by decide +kernel
theorem dX4_greatestOperand_1 : decode cX4_greatestOperand 1 = .ok (.invokestatic 137, 3) := by decide +kernel
theorem dX4_greatestOperand_4 : decode cX4_greatestOperand 4 = .ok (.ifCond .eq 6, 3) := by decide +kernel
theorem dX4_greatestOperand_7 : decode cX4_greatestOperand 7 = .ok (.bipush 15, 2) := by decide +kernel
theorem dX4_greatestOperand_9 : decode cX4_greatestOperand 9 = .ok (.ireturn, 1) := by decide +kernel
theorem dX4_greatestOperand_10 : decode cX4_greatestOperand 10 = .ok (.iload_n 0, 1) := by decide +kernel
theorem dX4_greatestOperand_11 : decode cX4_greatestOperand 11 = .ok (.bipush 8, 2) := by decide +kernel
theorem dX4_greatestOperand_13 : decode cX4_greatestOperand 13 = .ok (.if_icmp .ne 8, 3) := by decide +kernel
theorem dX4_greatestOperand_16 : decode cX4_greatestOperand 16 = .ok (.bipush 20, 2) := by decide +kernel
theorem dX4_greatestOperand_18 : decode cX4_greatestOperand 18 = .ok (.goto 4, 3) := by decide +kernel
theorem dX4_greatestOperand_21 : decode cX4_greatestOperand 21 = .ok (.iconst 0, 1) := by decide +kernel
theorem dX4_greatestOperand_22 : decode cX4_greatestOperand 22 = .ok (.ireturn, 1) := by decide +kernel
theorem dX4_tapeDoneOn_0 : decode cX4_tapeDoneOn 0 = .ok (.aload_n 0, 1) := by decide +kernel
theorem dX4_tapeDoneOn_1 : decode cX4_tapeDoneOn 1 = .ok (.iconst (-1), 1) := by decide +kernel
theorem dX4_tapeDoneOn_2 : decode cX4_tapeDoneOn 2 = .ok (.putfield 26, 3) := by decide +kernel
theorem dX4_tapeDoneOn_5 : decode cX4_tapeDoneOn 5 = .ok (.aload_n 0, 1) := by decide +kernel
theorem dX4_tapeDoneOn_6 : decode cX4_tapeDoneOn 6 = .ok (.iload_n 1, 1) := by decide +kernel
theorem dX4_tapeDoneOn_7 : decode cX4_tapeDoneOn 7 = .ok (.invokevirtual 40, 3) := by decide +kernel
theorem dX4_tapeDoneOn_10 : decode cX4_tapeDoneOn 10 = .ok (.astore_n 2, 1) := by decide +kernel
theorem dX4_tapeDoneOn_11 : decode cX4_tapeDoneOn 11 = .ok (.aload_n 2, 1) := by decide +kernel
theorem dX4_tapeDoneOn_12 : decode cX4_tapeDoneOn 12 = .ok (.getfield 91, 3) := by decide +kernel
theorem dX4_tapeDoneOn_15 : decode cX4_tapeDoneOn 15 = .ok (.ifCond .ne 13, 3) := by decide +kernel
theorem dX4_tapeDoneOn_18 : decode cX4_tapeDoneOn 18 = .ok (.new 77, 3) := by decide +kernel
theorem dX4_tapeDoneOn_21 : decode cX4_tapeDoneOn 21 = .ok (.dup, 1) := by decide +kernel
theorem dX4_tapeDoneOn_22 : decode cX4_tapeDoneOn 22 = .ok (.ldc 94, 2) := by decide +kernel
theorem dX4_tapeDoneOn_24 : decode cX4_tapeDoneOn 24 = .ok (.invokespecial 81, 3) := by decide +kernel
theorem dX4_tapeDoneOn_27 : decode cX4_tapeDoneOn 27 = .ok (.athrow, 1) := by decide +kernel
theorem dX4_tapeDoneOn_28 : decode cX4_tapeDoneOn 28 = .ok (.aload_n 2, 1) := by decide +kernel
theorem dX4_tapeDoneOn_29 : decode cX4_tapeDoneOn 29 = .ok (.getfield 96, 3) := by decide +kernel
theorem dX4_tapeDoneOn_32 : decode cX4_tapeDoneOn 32 = .ok (.lstore_n 3, 1) := by decide +kernel
theorem dX4_tapeDoneOn_33 : decode cX4_tapeDoneOn 33 = .ok (.iconst 0, 1) := by decide +kernel
theorem dX4_tapeDoneOn_34 : decode cX4_tapeDoneOn 34 = .ok (.istore 5, 2) := by decide +kernel
theorem dX4_tapeDoneOn_36 : decode cX4_tapeDoneOn 36 = .ok (.iload 5, 2) := by decide +kernel
theorem dX4_tapeDoneOn_38 : decode cX4_tapeDoneOn 38 = .ok (.aload_n 0, 1) := by decide +kernel
theorem dX4_tapeDoneOn_39 : decode cX4_tapeDoneOn 39 = .ok (.getfield 22, 3) := by decide +kernel
theorem dX4_tapeDoneOn_42 : decode cX4_tapeDoneOn 42 = .ok (.if_icmp .ge 54, 3) := by decide +kernel
theorem dX4_tapeDoneOn_45 : decode cX4_tapeDoneOn 45 = .ok (.aload_n 0, 1) := by decide +kernel
theorem dX4_tapeDoneOn_46 : decode cX4_tapeDoneOn 46 = .ok (.getfield 15, 3) := by decide +kernel
theorem dX4_tapeDoneOn_49 : decode cX4_tapeDoneOn 49 = .ok (.iload 5, 2) := by decide +kernel
theorem dX4_tapeDoneOn_51 : decode cX4_tapeDoneOn 51 = .ok (.iaload, 1) := by decide +kernel
theorem dX4_tapeDoneOn_52 : decode cX4_tapeDoneOn 52 = .ok (.invokestatic 137, 3) := by decide +kernel
theorem dX4_tapeDoneOn_55 : decode cX4_tapeDoneOn 55 = .ok (.ifCond .eq 11, 3) := by decide +kernel
theorem dX4_tapeDoneOn_58 : decode cX4_tapeDoneOn 58 = .ok (.aload_n 0, 1) := by decide +kernel
theorem dX4_tapeDoneOn_59 : decode cX4_tapeDoneOn 59 = .ok (.iload 5, 2) := by decide +kernel
theorem dX4_tapeDoneOn_61 : decode cX4_tapeDoneOn 61 = .ok (.iload_n 1, 1) := by decide +kernel
theorem dX4_tapeDoneOn_62 : decode cX4_tapeDoneOn 62 = .ok (.lload_n 3, 1) := by decide +kernel
theorem dX4_tapeDoneOn_63 : decode cX4_tapeDoneOn 63 = .ok (.invokevirtual 141, 3) := by decide +kernel
theorem dX4_tapeDoneOn_66 : decode cX4_tapeDoneOn 66 = .ok (.aload_n 0, 1) := by decide +kernel
theorem dX4_tapeDoneOn_67 : decode cX4_tapeDoneOn 67 = .ok (.aload_n 2, 1) := by decide +kernel
theorem dX4_tapeDoneOn_68 : decode cX4_tapeDoneOn 68 = .ok (.getfield 44, 3) := by decide +kernel
theorem dX4_tapeDoneOn_71 : decode cX4_tapeDoneOn 71 = .ok (.aload_n 0, 1) := by decide +kernel
theorem dX4_tapeDoneOn_72 : decode cX4_tapeDoneOn 72 = .ok (.getfield 15, 3) := by decide +kernel
theorem dX4_tapeDoneOn_75 : decode cX4_tapeDoneOn 75 = .ok (.iload 5, 2) := by decide +kernel
theorem dX4_tapeDoneOn_77 : decode cX4_tapeDoneOn 77 = .ok (.iaload, 1) := by decide +kernel
theorem dX4_tapeDoneOn_78 : decode cX4_tapeDoneOn 78 = .ok (.aload_n 0, 1) := by decide +kernel
theorem dX4_tapeDoneOn_79 : decode cX4_tapeDoneOn 79 = .ok (.getfield 19, 3) := by decide +kernel
theorem dX4_tapeDoneOn_82 : decode cX4_tapeDoneOn 82 = .ok (.iload 5, 2) := by decide +kernel
theorem dX4_tapeDoneOn_84 : decode cX4_tapeDoneOn 84 = .ok (.iaload, 1) := by decide +kernel
theorem dX4_tapeDoneOn_85 : decode cX4_tapeDoneOn 85 = .ok (.lload_n 3, 1) := by decide +kernel
theorem dX4_tapeDoneOn_86 : decode cX4_tapeDoneOn 86 = .ok (.invokevirtual 145, 3) := by decide +kernel
theorem dX4_tapeDoneOn_89 : decode cX4_tapeDoneOn 89 = .ok (.lstore_n 3, 1) := by decide +kernel
theorem dX4_tapeDoneOn_90 : decode cX4_tapeDoneOn 90 = .ok (.iinc 5 1, 3) := by decide +kernel
theorem dX4_tapeDoneOn_93 : decode cX4_tapeDoneOn 93 = .ok (.goto (-57), 3) := by decide +kernel
theorem dX4_tapeDoneOn_96 : decode cX4_tapeDoneOn 96 = .ok (.lload_n 3, 1) := by decide +kernel
theorem dX4_tapeDoneOn_97 : decode cX4_tapeDoneOn 97 = .ok (.lreturn, 1) := by decide +kernel
theorem dX4_refuseUnfit_0 : decode cX4_refuseUnfit 0 = .ok (.aload_n 0, 1) := by decide +kernel
theorem dX4_refuseUnfit_1 : decode cX4_refuseUnfit 1 = .ok (.getfield 19, 3) := by decide +kernel
theorem dX4_refuseUnfit_4 : decode cX4_refuseUnfit 4 = .ok (.iload_n 1, 1) := by decide +kernel
theorem dX4_refuseUnfit_5 : decode cX4_refuseUnfit 5 = .ok (.iaload, 1) := by decide +kernel
theorem dX4_refuseUnfit_6 : decode cX4_refuseUnfit 6 = .ok (.istore 5, 2) := by decide +kernel
theorem dX4_refuseUnfit_8 : decode cX4_refuseUnfit 8 = .ok (.aload_n 0, 1) := by decide +kernel
theorem dX4_refuseUnfit_9 : decode cX4_refuseUnfit 9 = .ok (.getfield 11, 3) := by decide +kernel
theorem dX4_refuseUnfit_12 : decode cX4_refuseUnfit 12 = .ok (.iload 5, 2) := by decide +kernel
theorem dX4_refuseUnfit_14 : decode cX4_refuseUnfit 14 = .ok (.aaload, 1) := by decide +kernel
theorem dX4_refuseUnfit_15 : decode cX4_refuseUnfit 15 = .ok (.astore 6, 2) := by decide +kernel
theorem dX4_refuseUnfit_17 : decode cX4_refuseUnfit 17 = .ok (.iload 5, 2) := by decide +kernel
theorem dX4_refuseUnfit_19 : decode cX4_refuseUnfit 19 = .ok (.invokestatic 86, 3) := by decide +kernel
theorem dX4_refuseUnfit_22 : decode cX4_refuseUnfit 22 = .ok (.iload_n 2, 1) := by decide +kernel
theorem dX4_refuseUnfit_23 : decode cX4_refuseUnfit 23 = .ok (.invokestatic 86, 3) := by decide +kernel
theorem dX4_refuseUnfit_26 : decode cX4_refuseUnfit 26 = .ok (.if_icmp .ne 11, 3) := by decide +kernel
theorem dX4_refuseUnfit_29 : decode cX4_refuseUnfit 29 = .ok (.aload 6, 2) := by decide +kernel
theorem dX4_refuseUnfit_31 : decode cX4_refuseUnfit 31 = .ok (.getfield 91, 3) := by decide +kernel
theorem dX4_refuseUnfit_34 : decode cX4_refuseUnfit 34 = .ok (.ifCond .ne 18, 3) := by decide +kernel
theorem dX4_refuseUnfit_37 : decode cX4_refuseUnfit 37 = .ok (.aload_n 0, 1) := by decide +kernel
theorem dX4_refuseUnfit_38 : decode cX4_refuseUnfit 38 = .ok (.iload_n 1, 1) := by decide +kernel
theorem dX4_refuseUnfit_39 : decode cX4_refuseUnfit 39 = .ok (.putfield 26, 3) := by decide +kernel
theorem dX4_refuseUnfit_42 : decode cX4_refuseUnfit 42 = .ok (.new 77, 3) := by decide +kernel
theorem dX4_refuseUnfit_45 : decode cX4_refuseUnfit 45 = .ok (.dup, 1) := by decide +kernel
theorem dX4_refuseUnfit_46 : decode cX4_refuseUnfit 46 = .ok (.ldc 149, 2) := by decide +kernel
theorem dX4_refuseUnfit_48 : decode cX4_refuseUnfit 48 = .ok (.invokespecial 81, 3) := by decide +kernel
theorem dX4_refuseUnfit_51 : decode cX4_refuseUnfit 51 = .ok (.athrow, 1) := by decide +kernel
theorem dX4_refuseUnfit_52 : decode cX4_refuseUnfit 52 = .ok (.aload_n 0, 1) := by decide +kernel
theorem dX4_refuseUnfit_53 : decode cX4_refuseUnfit 53 = .ok (.getfield 15, 3) := by decide +kernel
theorem dX4_refuseUnfit_56 : decode cX4_refuseUnfit 56 = .ok (.iload_n 1, 1) := by decide +kernel
theorem dX4_refuseUnfit_57 : decode cX4_refuseUnfit 57 = .ok (.iaload, 1) := by decide +kernel
theorem dX4_refuseUnfit_58 : decode cX4_refuseUnfit 58 = .ok (.bipush 9, 2) := by decide +kernel
theorem dX4_refuseUnfit_60 : decode cX4_refuseUnfit 60 = .ok (.if_icmp .ne 35, 3) := by decide +kernel
theorem dX4_refuseUnfit_63 : decode cX4_refuseUnfit 63 = .ok (.aload 6, 2) := by decide +kernel
theorem dX4_refuseUnfit_65 : decode cX4_refuseUnfit 65 = .ok (.getfield 44, 3) := by decide +kernel
theorem dX4_refuseUnfit_68 : decode cX4_refuseUnfit 68 = .ok (.lload_n 3, 1) := by decide +kernel
theorem dX4_refuseUnfit_69 : decode cX4_refuseUnfit 69 = .ok (.aload 6, 2) := by decide +kernel
theorem dX4_refuseUnfit_71 : decode cX4_refuseUnfit 71 = .ok (.getfield 96, 3) := by decide +kernel
theorem dX4_refuseUnfit_74 : decode cX4_refuseUnfit 74 = .ok (.invokevirtual 151, 3) := by decide +kernel
theorem dX4_refuseUnfit_77 : decode cX4_refuseUnfit 77 = .ok (.ifCond .ne 18, 3) := by decide +kernel
theorem dX4_refuseUnfit_80 : decode cX4_refuseUnfit 80 = .ok (.aload_n 0, 1) := by decide +kernel
theorem dX4_refuseUnfit_81 : decode cX4_refuseUnfit 81 = .ok (.iload_n 1, 1) := by decide +kernel
theorem dX4_refuseUnfit_82 : decode cX4_refuseUnfit 82 = .ok (.putfield 26, 3) := by decide +kernel
theorem dX4_refuseUnfit_85 : decode cX4_refuseUnfit 85 = .ok (.new 155, 3) := by decide +kernel
theorem dX4_refuseUnfit_88 : decode cX4_refuseUnfit 88 = .ok (.dup, 1) := by decide +kernel
theorem dX4_refuseUnfit_89 : decode cX4_refuseUnfit 89 = .ok (.ldc 157, 2) := by decide +kernel
theorem dX4_refuseUnfit_91 : decode cX4_refuseUnfit 91 = .ok (.invokespecial 159, 3) := by decide +kernel
theorem dX4_refuseUnfit_94 : decode cX4_refuseUnfit 94 = .ok (.athrow, 1) := by decide +kernel
theorem dX4_refuseUnfit_95 : decode cX4_refuseUnfit 95 = .ok (.return_, 1) := by decide +kernel
theorem dX4_orderDone_0 : decode cX4_orderDone 0 = .ok (.iload_n 2, 1) := by decide +kernel
theorem dX4_orderDone_1 : decode cX4_orderDone 1 = .ok (.tableswitch 209 0 11 #[63, 70, 77, 84, 91, 98, 114, 130, 146, 157, 173, 180], 63) := by decide +kernel
theorem dX4_orderDone_64 : decode cX4_orderDone 64 = .ok (.aload_n 1, 1) := by decide +kernel
theorem dX4_orderDone_65 : decode cX4_orderDone 65 = .ok (.lload 4, 2) := by decide +kernel
theorem dX4_orderDone_67 : decode cX4_orderDone 67 = .ok (.invokevirtual 100, 3) := by decide +kernel
theorem dX4_orderDone_70 : decode cX4_orderDone 70 = .ok (.lreturn, 1) := by decide +kernel
theorem dX4_orderDone_71 : decode cX4_orderDone 71 = .ok (.aload_n 1, 1) := by decide +kernel
theorem dX4_orderDone_72 : decode cX4_orderDone 72 = .ok (.lload 4, 2) := by decide +kernel
theorem dX4_orderDone_74 : decode cX4_orderDone 74 = .ok (.invokevirtual 160, 3) := by decide +kernel
theorem dX4_orderDone_77 : decode cX4_orderDone 77 = .ok (.lreturn, 1) := by decide +kernel
theorem dX4_orderDone_78 : decode cX4_orderDone 78 = .ok (.aload_n 1, 1) := by decide +kernel
theorem dX4_orderDone_79 : decode cX4_orderDone 79 = .ok (.lload 4, 2) := by decide +kernel
theorem dX4_orderDone_81 : decode cX4_orderDone 81 = .ok (.invokevirtual 163, 3) := by decide +kernel
theorem dX4_orderDone_84 : decode cX4_orderDone 84 = .ok (.lreturn, 1) := by decide +kernel
theorem dX4_orderDone_85 : decode cX4_orderDone 85 = .ok (.aload_n 1, 1) := by decide +kernel
theorem dX4_orderDone_86 : decode cX4_orderDone 86 = .ok (.lload 4, 2) := by decide +kernel
theorem dX4_orderDone_88 : decode cX4_orderDone 88 = .ok (.invokevirtual 166, 3) := by decide +kernel
theorem dX4_orderDone_91 : decode cX4_orderDone 91 = .ok (.lreturn, 1) := by decide +kernel
theorem dX4_orderDone_92 : decode cX4_orderDone 92 = .ok (.aload_n 1, 1) := by decide +kernel
theorem dX4_orderDone_93 : decode cX4_orderDone 93 = .ok (.lload 4, 2) := by decide +kernel
theorem dX4_orderDone_95 : decode cX4_orderDone 95 = .ok (.invokevirtual 169, 3) := by decide +kernel
theorem dX4_orderDone_98 : decode cX4_orderDone 98 = .ok (.lreturn, 1) := by decide +kernel
theorem dX4_orderDone_99 : decode cX4_orderDone 99 = .ok (.aload_n 1, 1) := by decide +kernel
theorem dX4_orderDone_100 : decode cX4_orderDone 100 = .ok (.lload 4, 2) := by decide +kernel
theorem dX4_orderDone_102 : decode cX4_orderDone 102 = .ok (.aload_n 0, 1) := by decide +kernel
theorem dX4_orderDone_103 : decode cX4_orderDone 103 = .ok (.getfield 11, 3) := by decide +kernel
theorem dX4_orderDone_106 : decode cX4_orderDone 106 = .ok (.iload_n 3, 1) := by decide +kernel
theorem dX4_orderDone_107 : decode cX4_orderDone 107 = .ok (.aaload, 1) := by decide +kernel
theorem dX4_orderDone_108 : decode cX4_orderDone 108 = .ok (.getfield 96, 3) := by decide +kernel
theorem dX4_orderDone_111 : decode cX4_orderDone 111 = .ok (.invokevirtual 172, 3) := by decide +kernel
theorem dX4_orderDone_114 : decode cX4_orderDone 114 = .ok (.lreturn, 1) := by decide +kernel
theorem dX4_orderDone_115 : decode cX4_orderDone 115 = .ok (.aload_n 1, 1) := by decide +kernel
theorem dX4_orderDone_116 : decode cX4_orderDone 116 = .ok (.lload 4, 2) := by decide +kernel
theorem dX4_orderDone_118 : decode cX4_orderDone 118 = .ok (.aload_n 0, 1) := by decide +kernel
theorem dX4_orderDone_119 : decode cX4_orderDone 119 = .ok (.getfield 11, 3) := by decide +kernel
theorem dX4_orderDone_122 : decode cX4_orderDone 122 = .ok (.iload_n 3, 1) := by decide +kernel
theorem dX4_orderDone_123 : decode cX4_orderDone 123 = .ok (.aaload, 1) := by decide +kernel
theorem dX4_orderDone_124 : decode cX4_orderDone 124 = .ok (.getfield 96, 3) := by decide +kernel
theorem dX4_orderDone_127 : decode cX4_orderDone 127 = .ok (.invokevirtual 103, 3) := by decide +kernel
theorem dX4_orderDone_130 : decode cX4_orderDone 130 = .ok (.lreturn, 1) := by decide +kernel
theorem dX4_orderDone_131 : decode cX4_orderDone 131 = .ok (.aload_n 1, 1) := by decide +kernel
theorem dX4_orderDone_132 : decode cX4_orderDone 132 = .ok (.lload 4, 2) := by decide +kernel
theorem dX4_orderDone_134 : decode cX4_orderDone 134 = .ok (.aload_n 0, 1) := by decide +kernel
theorem dX4_orderDone_135 : decode cX4_orderDone 135 = .ok (.getfield 11, 3) := by decide +kernel
theorem dX4_orderDone_138 : decode cX4_orderDone 138 = .ok (.iload_n 3, 1) := by decide +kernel
theorem dX4_orderDone_139 : decode cX4_orderDone 139 = .ok (.aaload, 1) := by decide +kernel
theorem dX4_orderDone_140 : decode cX4_orderDone 140 = .ok (.getfield 96, 3) := by decide +kernel
theorem dX4_orderDone_143 : decode cX4_orderDone 143 = .ok (.invokevirtual 107, 3) := by decide +kernel
theorem dX4_orderDone_146 : decode cX4_orderDone 146 = .ok (.lreturn, 1) := by decide +kernel
theorem dX4_orderDone_147 : decode cX4_orderDone 147 = .ok (.aload_n 1, 1) := by decide +kernel
theorem dX4_orderDone_148 : decode cX4_orderDone 148 = .ok (.lload 4, 2) := by decide +kernel
theorem dX4_orderDone_150 : decode cX4_orderDone 150 = .ok (.iload_n 3, 1) := by decide +kernel
theorem dX4_orderDone_151 : decode cX4_orderDone 151 = .ok (.bipush 10, 2) := by decide +kernel
theorem dX4_orderDone_153 : decode cX4_orderDone 153 = .ok (.isub, 1) := by decide +kernel
theorem dX4_orderDone_154 : decode cX4_orderDone 154 = .ok (.invokevirtual 175, 3) := by decide +kernel
theorem dX4_orderDone_157 : decode cX4_orderDone 157 = .ok (.lreturn, 1) := by decide +kernel
theorem dX4_orderDone_158 : decode cX4_orderDone 158 = .ok (.aload_n 1, 1) := by decide +kernel
theorem dX4_orderDone_159 : decode cX4_orderDone 159 = .ok (.lload 4, 2) := by decide +kernel
theorem dX4_orderDone_161 : decode cX4_orderDone 161 = .ok (.aload_n 0, 1) := by decide +kernel
theorem dX4_orderDone_162 : decode cX4_orderDone 162 = .ok (.getfield 11, 3) := by decide +kernel
theorem dX4_orderDone_165 : decode cX4_orderDone 165 = .ok (.iload_n 3, 1) := by decide +kernel
theorem dX4_orderDone_166 : decode cX4_orderDone 166 = .ok (.aaload, 1) := by decide +kernel
theorem dX4_orderDone_167 : decode cX4_orderDone 167 = .ok (.getfield 96, 3) := by decide +kernel
theorem dX4_orderDone_170 : decode cX4_orderDone 170 = .ok (.invokevirtual 179, 3) := by decide +kernel
theorem dX4_orderDone_173 : decode cX4_orderDone 173 = .ok (.lreturn, 1) := by decide +kernel
theorem dX4_orderDone_174 : decode cX4_orderDone 174 = .ok (.aload_n 1, 1) := by decide +kernel
theorem dX4_orderDone_175 : decode cX4_orderDone 175 = .ok (.lload 4, 2) := by decide +kernel
theorem dX4_orderDone_177 : decode cX4_orderDone 177 = .ok (.invokevirtual 182, 3) := by decide +kernel
theorem dX4_orderDone_180 : decode cX4_orderDone 180 = .ok (.lreturn, 1) := by decide +kernel
theorem dX4_orderDone_181 : decode cX4_orderDone 181 = .ok (.aload_n 1, 1) := by decide +kernel
theorem dX4_orderDone_182 : decode cX4_orderDone 182 = .ok (.aload_n 0, 1) := by decide +kernel
theorem dX4_orderDone_183 : decode cX4_orderDone 183 = .ok (.getfield 11, 3) := by decide +kernel
theorem dX4_orderDone_186 : decode cX4_orderDone 186 = .ok (.iload_n 3, 1) := by decide +kernel
theorem dX4_orderDone_187 : decode cX4_orderDone 187 = .ok (.aaload, 1) := by decide +kernel
theorem dX4_orderDone_188 : decode cX4_orderDone 188 = .ok (.getfield 118, 3) := by decide +kernel
theorem dX4_orderDone_191 : decode cX4_orderDone 191 = .ok (.aload_n 1, 1) := by decide +kernel
theorem dX4_orderDone_192 : decode cX4_orderDone 192 = .ok (.lload 4, 2) := by decide +kernel
theorem dX4_orderDone_194 : decode cX4_orderDone 194 = .ok (.aload_n 0, 1) := by decide +kernel
theorem dX4_orderDone_195 : decode cX4_orderDone 195 = .ok (.getfield 11, 3) := by decide +kernel
theorem dX4_orderDone_198 : decode cX4_orderDone 198 = .ok (.iload_n 3, 1) := by decide +kernel
theorem dX4_orderDone_199 : decode cX4_orderDone 199 = .ok (.aaload, 1) := by decide +kernel
theorem dX4_orderDone_200 : decode cX4_orderDone 200 = .ok (.getfield 121, 3) := by decide +kernel
theorem dX4_orderDone_203 : decode cX4_orderDone 203 = .ok (.invokevirtual 107, 3) := by decide +kernel
theorem dX4_orderDone_206 : decode cX4_orderDone 206 = .ok (.invokevirtual 103, 3) := by decide +kernel
theorem dX4_orderDone_209 : decode cX4_orderDone 209 = .ok (.lreturn, 1) := by decide +kernel
theorem dX4_orderDone_210 : decode cX4_orderDone 210 = .ok (.aload_n 1, 1) := by decide +kernel
theorem dX4_orderDone_211 : decode cX4_orderDone 211 = .ok (.lload 4, 2) := by decide +kernel
theorem dX4_orderDone_213 : decode cX4_orderDone 213 = .ok (.invokevirtual 185, 3) := by decide +kernel
theorem dX4_orderDone_216 : decode cX4_orderDone 216 = .ok (.lreturn, 1) := by decide +kernel
theorem dX5_init_0 : decode cX5_init 0 = .ok (.aload_n 0, 1) := by decide +kernel
theorem dX5_init_1 : decode cX5_init 1 = .ok (.invokespecial 1, 3) := by decide +kernel
theorem dX5_init_4 : decode cX5_init 4 = .ok (.aload_n 0, 1) := by decide +kernel
theorem dX5_init_5 : decode cX5_init 5 = .ok (.bipush 16, 2) := by decide +kernel
theorem dX5_init_7 : decode cX5_init 7 = .ok (.newarray .int, 2) := by decide +kernel
theorem dX5_init_9 : decode cX5_init 9 = .ok (.putfield 7, 3) := by decide +kernel
theorem dX5_init_12 : decode cX5_init 12 = .ok (.aload_n 0, 1) := by decide +kernel
theorem dX5_init_13 : decode cX5_init 13 = .ok (.bipush 16, 2) := by decide +kernel
theorem dX5_init_15 : decode cX5_init 15 = .ok (.newarray .long, 2) := by decide +kernel
theorem dX5_init_17 : decode cX5_init 17 = .ok (.putfield 13, 3) := by decide +kernel
theorem dX5_init_20 : decode cX5_init 20 = .ok (.aload_n 0, 1) := by decide +kernel
theorem dX5_init_21 : decode cX5_init 21 = .ok (.bipush 16, 2) := by decide +kernel
theorem dX5_init_23 : decode cX5_init 23 = .ok (.newarray .long, 2) := by decide +kernel
theorem dX5_init_25 : decode cX5_init 25 = .ok (.putfield 17, 3) := by decide +kernel
theorem dX5_init_28 : decode cX5_init 28 = .ok (.aload_n 0, 1) := by decide +kernel
theorem dX5_init_29 : decode cX5_init 29 = .ok (.bipush 16, 2) := by decide +kernel
theorem dX5_init_31 : decode cX5_init 31 = .ok (.newarray .long, 2) := by decide +kernel
theorem dX5_init_33 : decode cX5_init 33 = .ok (.putfield 20, 3) := by decide +kernel
theorem dX5_init_36 : decode cX5_init 36 = .ok (.aload_n 0, 1) := by decide +kernel
theorem dX5_init_37 : decode cX5_init 37 = .ok (.bipush 16, 2) := by decide +kernel
theorem dX5_init_39 : decode cX5_init 39 = .ok (.newarray .long, 2) := by decide +kernel
theorem dX5_init_41 : decode cX5_init 41 = .ok (.putfield 23, 3) := by decide +kernel
theorem dX5_init_44 : decode cX5_init 44 = .ok (.aload_n 0, 1) := by decide +kernel
theorem dX5_init_45 : decode cX5_init 45 = .ok (.bipush 16, 2) := by decide +kernel
theorem dX5_init_47 : decode cX5_init 47 = .ok (.newarray .long, 2) := by decide +kernel
theorem dX5_init_49 : decode cX5_init 49 = .ok (.putfield 26, 3) := by decide +kernel
theorem dX5_init_52 : decode cX5_init 52 = .ok (.aload_n 0, 1) := by decide +kernel
theorem dX5_init_53 : decode cX5_init 53 = .ok (.bipush 12, 2) := by decide +kernel
theorem dX5_init_55 : decode cX5_init 55 = .ok (.newarray .int, 2) := by decide +kernel
theorem dX5_init_57 : decode cX5_init 57 = .ok (.putfield 29, 3) := by decide +kernel
theorem dX5_init_60 : decode cX5_init 60 = .ok (.aload_n 0, 1) := by decide +kernel
theorem dX5_init_61 : decode cX5_init 61 = .ok (.bipush 12, 2) := by decide +kernel
theorem dX5_init_63 : decode cX5_init 63 = .ok (.newarray .int, 2) := by decide +kernel
theorem dX5_init_65 : decode cX5_init 65 = .ok (.putfield 32, 3) := by decide +kernel
theorem dX5_init_68 : decode cX5_init 68 = .ok (.aload_n 0, 1) := by decide +kernel
theorem dX5_init_69 : decode cX5_init 69 = .ok (.iconst (-1), 1) := by decide +kernel
theorem dX5_init_70 : decode cX5_init 70 = .ok (.putfield 35, 3) := by decide +kernel
theorem dX5_init_73 : decode cX5_init 73 = .ok (.return_, 1) := by decide +kernel
theorem dX5_thrown_0 : decode cX5_thrown 0 = .ok (.aload_n 0, 1) := by decide +kernel
theorem dX5_thrown_1 : decode cX5_thrown 1 = .ok (.getfield 39, 3) := by decide +kernel
theorem dX5_thrown_4 : decode cX5_thrown 4 = .ok (.ireturn, 1) := by decide +kernel
theorem dX5_isBalance_0 : decode cX5_isBalance 0 = .ok (.iload_n 0, 1) := by decide +kernel
theorem dX5_isBalance_1 : decode cX5_isBalance 1 = .ok (.ifCond .lt 13, 3) := by decide +kernel
theorem dX5_isBalance_4 : decode cX5_isBalance 4 = .ok (.iload_n 0, 1) := by decide +kernel
theorem dX5_isBalance_5 : decode cX5_isBalance 5 = .ok (.bipush 16, 2) := by decide +kernel
theorem dX5_isBalance_7 : decode cX5_isBalance 7 = .ok (.if_icmp .ge 7, 3) := by decide +kernel
theorem dX5_isBalance_10 : decode cX5_isBalance 10 = .ok (.iconst 1, 1) := by decide +kernel
theorem dX5_isBalance_11 : decode cX5_isBalance 11 = .ok (.goto 4, 3) := by decide +kernel
theorem dX5_isBalance_14 : decode cX5_isBalance 14 = .ok (.iconst 0, 1) := by decide +kernel
theorem dX5_isBalance_15 : decode cX5_isBalance 15 = .ok (.ireturn, 1) := by decide +kernel
theorem dX5_isWhole_0 : decode cX5_isWhole 0 = .ok (.iload_n 0, 1) := by decide +kernel
theorem dX5_isWhole_1 : decode cX5_isWhole 1 = .ok (.iconst 2, 1) := by decide +kernel
theorem dX5_isWhole_2 : decode cX5_isWhole 2 = .ok (.if_icmp .ge 7, 3) := by decide +kernel
theorem dX5_isWhole_5 : decode cX5_isWhole 5 = .ok (.iconst 1, 1) := by decide +kernel
theorem dX5_isWhole_6 : decode cX5_isWhole 6 = .ok (.goto 4, 3) := by decide +kernel
theorem dX5_isWhole_9 : decode cX5_isWhole 9 = .ok (.iconst 0, 1) := by decide +kernel
theorem dX5_isWhole_10 : decode cX5_isWhole 10 = .ok (.ireturn, 1) := by decide +kernel
theorem dX5_wrapped_0 : decode cX5_wrapped 0 = .ok (.iload_n 0, 1) := by decide +kernel
theorem dX5_wrapped_1 : decode cX5_wrapped 1 = .ok (.ifCond .ne 9, 3) := by decide +kernel
theorem dX5_wrapped_4 : decode cX5_wrapped 4 = .ok (.lload_n 1, 1) := by decide +kernel
theorem dX5_wrapped_5 : decode cX5_wrapped 5 = .ok (.l2i, 1) := by decide +kernel
theorem dX5_wrapped_6 : decode cX5_wrapped 6 = .ok (.i2l, 1) := by decide +kernel
theorem dX5_wrapped_7 : decode cX5_wrapped 7 = .ok (.goto 4, 3) := by decide +kernel
theorem dX5_wrapped_10 : decode cX5_wrapped 10 = .ok (.lload_n 1, 1) := by decide +kernel
theorem dX5_wrapped_11 : decode cX5_wrapped 11 = .ok (.lreturn, 1) := by decide +kernel
theorem dX5_isNone_0 : decode cX5_isNone 0 = .ok (.iload_n 0, 1) := by decide +kernel
theorem dX5_isNone_1 : decode cX5_isNone 1 = .ok (.iconst 2, 1) := by decide +kernel
theorem dX5_isNone_2 : decode cX5_isNone 2 = .ok (.if_icmp .ne 31, 3) := by decide +kernel
theorem dX5_isNone_5 : decode cX5_isNone 5 = .ok (.lload_n 1, 1) := by decide +kernel
theorem dX5_isNone_6 : decode cX5_isNone 6 = .ok (.ldc2_w 42, 3) := by decide +kernel
theorem dX5_isNone_9 : decode cX5_isNone 9 = .ok (.land, 1) := by decide +kernel
theorem dX5_isNone_10 : decode cX5_isNone 10 = .ok (.ldc2_w 42, 3) := by decide +kernel
theorem dX5_isNone_13 : decode cX5_isNone 13 = .ok (.lcmp, 1) := by decide +kernel
theorem dX5_isNone_14 : decode cX5_isNone 14 = .ok (.ifCond .ne 17, 3) := by decide +kernel
theorem dX5_isNone_17 : decode cX5_isNone 17 = .ok (.lload_n 1, 1) := by decide +kernel
theorem dX5_isNone_18 : decode cX5_isNone 18 = .ok (.ldc2_w 44, 3) := by decide +kernel
theorem dX5_isNone_21 : decode cX5_isNone 21 = .ok (.land, 1) := by decide +kernel
theorem dX5_isNone_22 : decode cX5_isNone 22 = .ok (.lconst 0, 1) := by decide +kernel
theorem dX5_isNone_23 : decode cX5_isNone 23 = .ok (.lcmp, 1) := by decide +kernel
theorem dX5_isNone_24 : decode cX5_isNone 24 = .ok (.ifCond .eq 7, 3) := by decide +kernel
theorem dX5_isNone_27 : decode cX5_isNone 27 = .ok (.iconst 1, 1) := by decide +kernel
theorem dX5_isNone_28 : decode cX5_isNone 28 = .ok (.goto 4, 3) := by decide +kernel
theorem dX5_isNone_31 : decode cX5_isNone 31 = .ok (.iconst 0, 1) := by decide +kernel
theorem dX5_isNone_32 : decode cX5_isNone 32 = .ok (.ireturn, 1) := by decide +kernel
theorem dX5_isNone_33 : decode cX5_isNone 33 = .ok (.iload_n 0, 1) := by decide +kernel
theorem dX5_isNone_34 : decode cX5_isNone 34 = .ok (.iconst 2, 1) := by decide +kernel
theorem dX5_isNone_35 : decode cX5_isNone 35 = .ok (.if_icmp .le 29, 3) := by decide +kernel
theorem dX5_isNone_38 : decode cX5_isNone 38 = .ok (.lload_n 1, 1) := by decide +kernel
theorem dX5_isNone_39 : decode cX5_isNone 39 = .ok (.ldc2_w 46, 3) := by decide +kernel
theorem dX5_isNone_42 : decode cX5_isNone 42 = .ok (.land, 1) := by decide +kernel
theorem dX5_isNone_43 : decode cX5_isNone 43 = .ok (.ldc2_w 46, 3) := by decide +kernel
theorem dX5_isNone_46 : decode cX5_isNone 46 = .ok (.lcmp, 1) := by decide +kernel
theorem dX5_isNone_47 : decode cX5_isNone 47 = .ok (.ifCond .ne 17, 3) := by decide +kernel
theorem dX5_isNone_50 : decode cX5_isNone 50 = .ok (.lload_n 1, 1) := by decide +kernel
theorem dX5_isNone_51 : decode cX5_isNone 51 = .ok (.ldc2_w 48, 3) := by decide +kernel
theorem dX5_isNone_54 : decode cX5_isNone 54 = .ok (.land, 1) := by decide +kernel
theorem dX5_isNone_55 : decode cX5_isNone 55 = .ok (.lconst 0, 1) := by decide +kernel
theorem dX5_isNone_56 : decode cX5_isNone 56 = .ok (.lcmp, 1) := by decide +kernel
theorem dX5_isNone_57 : decode cX5_isNone 57 = .ok (.ifCond .eq 7, 3) := by decide +kernel
theorem dX5_isNone_60 : decode cX5_isNone 60 = .ok (.iconst 1, 1) := by decide +kernel
theorem dX5_isNone_61 : decode cX5_isNone 61 = .ok (.goto 4, 3) := by decide +kernel
theorem dX5_isNone_64 : decode cX5_isNone 64 = .ok (.iconst 0, 1) := by decide +kernel
theorem dX5_isNone_65 : decode cX5_isNone 65 = .ok (.ireturn, 1) := by decide +kernel
theorem dX5_real_0 : decode cX5_real 0 = .ok (.iload_n 0, 1) := by decide +kernel
theorem dX5_real_1 : decode cX5_real 1 = .ok (.iconst 2, 1) := by decide +kernel
theorem dX5_real_2 : decode cX5_real 2 = .ok (.if_icmp .ne 12, 3) := by decide +kernel
theorem dX5_real_5 : decode cX5_real 5 = .ok (.lload_n 1, 1) := by decide +kernel
theorem dX5_real_6 : decode cX5_real 6 = .ok (.l2i, 1) := by decide +kernel
theorem dX5_real_7 : decode cX5_real 7 = .ok (.invokestatic 50, 3) := by decide +kernel
theorem dX5_real_10 : decode cX5_real 10 = .ok (.f2d, 1) := by decide +kernel
theorem dX5_real_11 : decode cX5_real 11 = .ok (.goto 7, 3) := by decide +kernel
theorem dX5_real_14 : decode cX5_real 14 = .ok (.lload_n 1, 1) := by decide +kernel
theorem dX5_real_15 : decode cX5_real 15 = .ok (.invokestatic 56, 3) := by decide +kernel
theorem dX5_real_18 : decode cX5_real 18 = .ok (.dreturn, 1) := by decide +kernel
theorem dX5_bits_0 : decode cX5_bits 0 = .ok (.iload_n 0, 1) := by decide +kernel
theorem dX5_bits_1 : decode cX5_bits 1 = .ok (.iconst 2, 1) := by decide +kernel
theorem dX5_bits_2 : decode cX5_bits 2 = .ok (.if_icmp .ne 12, 3) := by decide +kernel
theorem dX5_bits_5 : decode cX5_bits 5 = .ok (.dload_n 1, 1) := by decide +kernel
theorem dX5_bits_6 : decode cX5_bits 6 = .ok (.d2f, 1) := by decide +kernel
theorem dX5_bits_7 : decode cX5_bits 7 = .ok (.invokestatic 62, 3) := by decide +kernel
theorem dX5_bits_10 : decode cX5_bits 10 = .ok (.i2l, 1) := by decide +kernel
theorem dX5_bits_11 : decode cX5_bits 11 = .ok (.goto 7, 3) := by decide +kernel
theorem dX5_bits_14 : decode cX5_bits 14 = .ok (.dload_n 1, 1) := by decide +kernel
theorem dX5_bits_15 : decode cX5_bits 15 = .ok (.invokestatic 66, 3) := by decide +kernel
theorem dX5_bits_18 : decode cX5_bits 18 = .ok (.lreturn, 1) := by decide +kernel
theorem dX5_isNegative_0 : decode cX5_isNegative 0 = .ok (.lload_n 0, 1) := by decide +kernel
theorem dX5_isNegative_1 : decode cX5_isNegative 1 = .ok (.lconst 0, 1) := by decide +kernel
theorem dX5_isNegative_2 : decode cX5_isNegative 2 = .ok (.lcmp, 1) := by decide +kernel
theorem dX5_isNegative_3 : decode cX5_isNegative 3 = .ok (.ifCond .ge 7, 3) := by decide +kernel
theorem dX5_isNegative_6 : decode cX5_isNegative 6 = .ok (.iconst 1, 1) := by decide +kernel
theorem dX5_isNegative_7 : decode cX5_isNegative 7 = .ok (.goto 4, 3) := by decide +kernel
theorem dX5_isNegative_10 : decode cX5_isNegative 10 = .ok (.iconst 0, 1) := by decide +kernel
theorem dX5_isNegative_11 : decode cX5_isNegative 11 = .ok (.ireturn, 1) := by decide +kernel
theorem dX5_isInfinite_0 : decode cX5_isInfinite 0 = .ok (.iload_n 0, 1) := by decide +kernel
theorem dX5_isInfinite_1 : decode cX5_isInfinite 1 = .ok (.iconst 2, 1) := by decide +kernel
theorem dX5_isInfinite_2 : decode cX5_isInfinite 2 = .ok (.if_icmp .ne 23, 3) := by decide +kernel
theorem dX5_isInfinite_5 : decode cX5_isInfinite 5 = .ok (.lload_n 1, 1) := by decide +kernel
theorem dX5_isInfinite_6 : decode cX5_isInfinite 6 = .ok (.ldc2_w 70, 3) := by decide +kernel
theorem dX5_isInfinite_9 : decode cX5_isInfinite 9 = .ok (.land, 1) := by decide +kernel
theorem dX5_isInfinite_10 : decode cX5_isInfinite 10 = .ok (.ldc2_w 42, 3) := by decide +kernel
theorem dX5_isInfinite_13 : decode cX5_isInfinite 13 = .ok (.lcmp, 1) := by decide +kernel
theorem dX5_isInfinite_14 : decode cX5_isInfinite 14 = .ok (.ifCond .ne 7, 3) := by decide +kernel
theorem dX5_isInfinite_17 : decode cX5_isInfinite 17 = .ok (.iconst 1, 1) := by decide +kernel
theorem dX5_isInfinite_18 : decode cX5_isInfinite 18 = .ok (.goto 24, 3) := by decide +kernel
theorem dX5_isInfinite_21 : decode cX5_isInfinite 21 = .ok (.iconst 0, 1) := by decide +kernel
theorem dX5_isInfinite_22 : decode cX5_isInfinite 22 = .ok (.goto 20, 3) := by decide +kernel
theorem dX5_isInfinite_25 : decode cX5_isInfinite 25 = .ok (.lload_n 1, 1) := by decide +kernel
theorem dX5_isInfinite_26 : decode cX5_isInfinite 26 = .ok (.ldc2_w 72, 3) := by decide +kernel
theorem dX5_isInfinite_29 : decode cX5_isInfinite 29 = .ok (.land, 1) := by decide +kernel
theorem dX5_isInfinite_30 : decode cX5_isInfinite 30 = .ok (.ldc2_w 46, 3) := by decide +kernel
theorem dX5_isInfinite_33 : decode cX5_isInfinite 33 = .ok (.lcmp, 1) := by decide +kernel
theorem dX5_isInfinite_34 : decode cX5_isInfinite 34 = .ok (.ifCond .ne 7, 3) := by decide +kernel
theorem dX5_isInfinite_37 : decode cX5_isInfinite 37 = .ok (.iconst 1, 1) := by decide +kernel
theorem dX5_isInfinite_38 : decode cX5_isInfinite 38 = .ok (.goto 4, 3) := by decide +kernel
theorem dX5_isInfinite_41 : decode cX5_isInfinite 41 = .ok (.iconst 0, 1) := by decide +kernel
theorem dX5_isInfinite_42 : decode cX5_isInfinite 42 = .ok (.ireturn, 1) := by decide +kernel
theorem dX5_isZero_0 : decode cX5_isZero 0 = .ok (.iload_n 0, 1) := by decide +kernel
theorem dX5_isZero_1 : decode cX5_isZero 1 = .ok (.invokestatic 74, 3) := by decide +kernel
theorem dX5_isZero_4 : decode cX5_isZero 4 = .ok (.ifCond .eq 17, 3) := by decide +kernel
theorem dX5_isZero_7 : decode cX5_isZero 7 = .ok (.lload_n 1, 1) := by decide +kernel
theorem dX5_isZero_8 : decode cX5_isZero 8 = .ok (.lconst 0, 1) := by decide +kernel
theorem dX5_isZero_9 : decode cX5_isZero 9 = .ok (.lcmp, 1) := by decide +kernel
theorem dX5_isZero_10 : decode cX5_isZero 10 = .ok (.ifCond .ne 7, 3) := by decide +kernel
theorem dX5_isZero_13 : decode cX5_isZero 13 = .ok (.iconst 1, 1) := by decide +kernel
theorem dX5_isZero_14 : decode cX5_isZero 14 = .ok (.goto 45, 3) := by decide +kernel
theorem dX5_isZero_17 : decode cX5_isZero 17 = .ok (.iconst 0, 1) := by decide +kernel
theorem dX5_isZero_18 : decode cX5_isZero 18 = .ok (.goto 41, 3) := by decide +kernel
theorem dX5_isZero_21 : decode cX5_isZero 21 = .ok (.iload_n 0, 1) := by decide +kernel
theorem dX5_isZero_22 : decode cX5_isZero 22 = .ok (.iconst 2, 1) := by decide +kernel
theorem dX5_isZero_23 : decode cX5_isZero 23 = .ok (.if_icmp .ne 21, 3) := by decide +kernel
theorem dX5_isZero_26 : decode cX5_isZero 26 = .ok (.lload_n 1, 1) := by decide +kernel
theorem dX5_isZero_27 : decode cX5_isZero 27 = .ok (.ldc2_w 70, 3) := by decide +kernel
theorem dX5_isZero_30 : decode cX5_isZero 30 = .ok (.land, 1) := by decide +kernel
theorem dX5_isZero_31 : decode cX5_isZero 31 = .ok (.lconst 0, 1) := by decide +kernel
theorem dX5_isZero_32 : decode cX5_isZero 32 = .ok (.lcmp, 1) := by decide +kernel
theorem dX5_isZero_33 : decode cX5_isZero 33 = .ok (.ifCond .ne 7, 3) := by decide +kernel
theorem dX5_isZero_36 : decode cX5_isZero 36 = .ok (.iconst 1, 1) := by decide +kernel
theorem dX5_isZero_37 : decode cX5_isZero 37 = .ok (.goto 22, 3) := by decide +kernel
theorem dX5_isZero_40 : decode cX5_isZero 40 = .ok (.iconst 0, 1) := by decide +kernel
theorem dX5_isZero_41 : decode cX5_isZero 41 = .ok (.goto 18, 3) := by decide +kernel
theorem dX5_isZero_44 : decode cX5_isZero 44 = .ok (.lload_n 1, 1) := by decide +kernel
theorem dX5_isZero_45 : decode cX5_isZero 45 = .ok (.ldc2_w 72, 3) := by decide +kernel
theorem dX5_isZero_48 : decode cX5_isZero 48 = .ok (.land, 1) := by decide +kernel
theorem dX5_isZero_49 : decode cX5_isZero 49 = .ok (.lconst 0, 1) := by decide +kernel
theorem dX5_isZero_50 : decode cX5_isZero 50 = .ok (.lcmp, 1) := by decide +kernel
theorem dX5_isZero_51 : decode cX5_isZero 51 = .ok (.ifCond .ne 7, 3) := by decide +kernel
theorem dX5_isZero_54 : decode cX5_isZero 54 = .ok (.iconst 1, 1) := by decide +kernel
theorem dX5_isZero_55 : decode cX5_isZero 55 = .ok (.goto 4, 3) := by decide +kernel
theorem dX5_isZero_58 : decode cX5_isZero 58 = .ok (.iconst 0, 1) := by decide +kernel
theorem dX5_isZero_59 : decode cX5_isZero 59 = .ok (.ireturn, 1) := by decide +kernel
theorem dX5_rank_0 : decode cX5_rank 0 = .ok (.iload_n 0, 1) := by decide +kernel
theorem dX5_rank_1 : decode cX5_rank 1 = .ok (.invokestatic 74, 3) := by decide +kernel
theorem dX5_rank_4 : decode cX5_rank 4 = .ok (.ifCond .ne 9, 3) := by decide +kernel
theorem dX5_rank_7 : decode cX5_rank 7 = .ok (.lload_n 1, 1) := by decide +kernel
theorem dX5_rank_8 : decode cX5_rank 8 = .ok (.lconst 0, 1) := by decide +kernel
theorem dX5_rank_9 : decode cX5_rank 9 = .ok (.lcmp, 1) := by decide +kernel
theorem dX5_rank_10 : decode cX5_rank 10 = .ok (.ifCond .lt 5, 3) := by decide +kernel
theorem dX5_rank_13 : decode cX5_rank 13 = .ok (.lload_n 1, 1) := by decide +kernel
theorem dX5_rank_14 : decode cX5_rank 14 = .ok (.lreturn, 1) := by decide +kernel
theorem dX5_rank_15 : decode cX5_rank 15 = .ok (.iload_n 0, 1) := by decide +kernel
theorem dX5_rank_16 : decode cX5_rank 16 = .ok (.iconst 2, 1) := by decide +kernel
theorem dX5_rank_17 : decode cX5_rank 17 = .ok (.if_icmp .ne 15, 3) := by decide +kernel
theorem dX5_rank_20 : decode cX5_rank 20 = .ok (.ldc2_w 78, 3) := by decide +kernel
theorem dX5_rank_23 : decode cX5_rank 23 = .ok (.lload_n 1, 1) := by decide +kernel
theorem dX5_rank_24 : decode cX5_rank 24 = .ok (.ldc2_w 70, 3) := by decide +kernel
theorem dX5_rank_27 : decode cX5_rank 27 = .ok (.land, 1) := by decide +kernel
theorem dX5_rank_28 : decode cX5_rank 28 = .ok (.lsub, 1) := by decide +kernel
theorem dX5_rank_29 : decode cX5_rank 29 = .ok (.goto 12, 3) := by decide +kernel
theorem dX5_rank_32 : decode cX5_rank 32 = .ok (.ldc2_w 78, 3) := by decide +kernel
theorem dX5_rank_35 : decode cX5_rank 35 = .ok (.lload_n 1, 1) := by decide +kernel
theorem dX5_rank_36 : decode cX5_rank 36 = .ok (.ldc2_w 72, 3) := by decide +kernel
theorem dX5_rank_39 : decode cX5_rank 39 = .ok (.land, 1) := by decide +kernel
theorem dX5_rank_40 : decode cX5_rank 40 = .ok (.lsub, 1) := by decide +kernel
theorem dX5_rank_41 : decode cX5_rank 41 = .ok (.lreturn, 1) := by decide +kernel
theorem dX5_greater_0 : decode cX5_greater 0 = .ok (.iload_n 0, 1) := by decide +kernel
theorem dX5_greater_1 : decode cX5_greater 1 = .ok (.lload_n 1, 1) := by decide +kernel
theorem dX5_greater_2 : decode cX5_greater 2 = .ok (.invokestatic 80, 3) := by decide +kernel
theorem dX5_greater_5 : decode cX5_greater 5 = .ok (.iload_n 0, 1) := by decide +kernel
theorem dX5_greater_6 : decode cX5_greater 6 = .ok (.lload_n 3, 1) := by decide +kernel
theorem dX5_greater_7 : decode cX5_greater 7 = .ok (.invokestatic 80, 3) := by decide +kernel
theorem dX5_greater_10 : decode cX5_greater 10 = .ok (.lcmp, 1) := by decide +kernel
theorem dX5_greater_11 : decode cX5_greater 11 = .ok (.ifCond .lt 7, 3) := by decide +kernel
theorem dX5_greater_14 : decode cX5_greater 14 = .ok (.lload_n 1, 1) := by decide +kernel
theorem dX5_greater_15 : decode cX5_greater 15 = .ok (.goto 4, 3) := by decide +kernel
theorem dX5_greater_18 : decode cX5_greater 18 = .ok (.lload_n 3, 1) := by decide +kernel
theorem dX5_greater_19 : decode cX5_greater 19 = .ok (.lreturn, 1) := by decide +kernel
theorem dX5_lesser_0 : decode cX5_lesser 0 = .ok (.iload_n 0, 1) := by decide +kernel
theorem dX5_lesser_1 : decode cX5_lesser 1 = .ok (.lload_n 1, 1) := by decide +kernel
theorem dX5_lesser_2 : decode cX5_lesser 2 = .ok (.invokestatic 80, 3) := by decide +kernel
theorem dX5_lesser_5 : decode cX5_lesser 5 = .ok (.iload_n 0, 1) := by decide +kernel
theorem dX5_lesser_6 : decode cX5_lesser 6 = .ok (.lload_n 3, 1) := by decide +kernel
theorem dX5_lesser_7 : decode cX5_lesser 7 = .ok (.invokestatic 80, 3) := by decide +kernel
theorem dX5_lesser_10 : decode cX5_lesser 10 = .ok (.lcmp, 1) := by decide +kernel
theorem dX5_lesser_11 : decode cX5_lesser 11 = .ok (.ifCond .gt 7, 3) := by decide +kernel
theorem dX5_lesser_14 : decode cX5_lesser 14 = .ok (.lload_n 1, 1) := by decide +kernel
theorem dX5_lesser_15 : decode cX5_lesser 15 = .ok (.goto 4, 3) := by decide +kernel
