theorem dX5_lesser_18 : decode cX5_lesser 18 = .ok (.lload_n 3, 1) := by decide +kernel
theorem dX5_lesser_19 : decode cX5_lesser 19 = .ok (.lreturn, 1) := by decide +kernel
theorem dX5_turned_0 : decode cX5_turned 0 = .ok (.iload_n 0, 1) := by decide +kernel
theorem dX5_turned_1 : decode cX5_turned 1 = .ok (.invokestatic 74, 3) := by decide +kernel
theorem dX5_turned_4 : decode cX5_turned 4 = .ok (.ifCond .eq 12, 3) := by decide +kernel
theorem dX5_turned_7 : decode cX5_turned 7 = .ok (.iload_n 0, 1) := by decide +kernel
theorem dX5_turned_8 : decode cX5_turned 8 = .ok (.lload_n 1, 1) := by decide +kernel
theorem dX5_turned_9 : decode cX5_turned 9 = .ok (.lneg, 1) := by decide +kernel
theorem dX5_turned_10 : decode cX5_turned 10 = .ok (.invokestatic 84, 3) := by decide +kernel
theorem dX5_turned_13 : decode cX5_turned 13 = .ok (.goto 22, 3) := by decide +kernel
theorem dX5_turned_16 : decode cX5_turned 16 = .ok (.iload_n 0, 1) := by decide +kernel
theorem dX5_turned_17 : decode cX5_turned 17 = .ok (.iconst 2, 1) := by decide +kernel
theorem dX5_turned_18 : decode cX5_turned 18 = .ok (.if_icmp .ne 12, 3) := by decide +kernel
theorem dX5_turned_21 : decode cX5_turned 21 = .ok (.lload_n 1, 1) := by decide +kernel
theorem dX5_turned_22 : decode cX5_turned 22 = .ok (.l2i, 1) := by decide +kernel
theorem dX5_turned_23 : decode cX5_turned 23 = .ok (.ldc 87, 2) := by decide +kernel
theorem dX5_turned_25 : decode cX5_turned 25 = .ok (.ixor, 1) := by decide +kernel
theorem dX5_turned_26 : decode cX5_turned 26 = .ok (.i2l, 1) := by decide +kernel
theorem dX5_turned_27 : decode cX5_turned 27 = .ok (.goto 8, 3) := by decide +kernel
theorem dX5_turned_30 : decode cX5_turned 30 = .ok (.lload_n 1, 1) := by decide +kernel
theorem dX5_turned_31 : decode cX5_turned 31 = .ok (.ldc2_w 88, 3) := by decide +kernel
theorem dX5_turned_34 : decode cX5_turned 34 = .ok (.lxor, 1) := by decide +kernel
theorem dX5_turned_35 : decode cX5_turned 35 = .ok (.lreturn, 1) := by decide +kernel
theorem dX5_size_0 : decode cX5_size 0 = .ok (.lload_n 1, 1) := by decide +kernel
theorem dX5_size_1 : decode cX5_size 1 = .ok (.lconst 0, 1) := by decide +kernel
theorem dX5_size_2 : decode cX5_size 2 = .ok (.lcmp, 1) := by decide +kernel
theorem dX5_size_3 : decode cX5_size 3 = .ok (.ifCond .ge 11, 3) := by decide +kernel
theorem dX5_size_6 : decode cX5_size 6 = .ok (.iload_n 0, 1) := by decide +kernel
theorem dX5_size_7 : decode cX5_size 7 = .ok (.lload_n 1, 1) := by decide +kernel
theorem dX5_size_8 : decode cX5_size 8 = .ok (.invokestatic 90, 3) := by decide +kernel
theorem dX5_size_11 : decode cX5_size 11 = .ok (.goto 4, 3) := by decide +kernel
theorem dX5_size_14 : decode cX5_size 14 = .ok (.lload_n 1, 1) := by decide +kernel
theorem dX5_size_15 : decode cX5_size 15 = .ok (.lreturn, 1) := by decide +kernel
theorem dX5_signOf_0 : decode cX5_signOf 0 = .ok (.iload_n 0, 1) := by decide +kernel
theorem dX5_signOf_1 : decode cX5_signOf 1 = .ok (.lload_n 1, 1) := by decide +kernel
theorem dX5_signOf_2 : decode cX5_signOf 2 = .ok (.invokestatic 93, 3) := by decide +kernel
theorem dX5_signOf_5 : decode cX5_signOf 5 = .ok (.ifCond .eq 5, 3) := by decide +kernel
theorem dX5_signOf_8 : decode cX5_signOf 8 = .ok (.lload_n 1, 1) := by decide +kernel
theorem dX5_signOf_9 : decode cX5_signOf 9 = .ok (.lreturn, 1) := by decide +kernel
theorem dX5_signOf_10 : decode cX5_signOf 10 = .ok (.iload_n 0, 1) := by decide +kernel
theorem dX5_signOf_11 : decode cX5_signOf 11 = .ok (.invokestatic 74, 3) := by decide +kernel
theorem dX5_signOf_14 : decode cX5_signOf 14 = .ok (.ifCond .eq 7, 3) := by decide +kernel
theorem dX5_signOf_17 : decode cX5_signOf 17 = .ok (.lconst 1, 1) := by decide +kernel
theorem dX5_signOf_18 : decode cX5_signOf 18 = .ok (.goto 17, 3) := by decide +kernel
theorem dX5_signOf_21 : decode cX5_signOf 21 = .ok (.iload_n 0, 1) := by decide +kernel
theorem dX5_signOf_22 : decode cX5_signOf 22 = .ok (.iconst 2, 1) := by decide +kernel
theorem dX5_signOf_23 : decode cX5_signOf 23 = .ok (.if_icmp .ne 9, 3) := by decide +kernel
theorem dX5_signOf_26 : decode cX5_signOf 26 = .ok (.ldc2_w 97, 3) := by decide +kernel
theorem dX5_signOf_29 : decode cX5_signOf 29 = .ok (.goto 6, 3) := by decide +kernel
theorem dX5_signOf_32 : decode cX5_signOf 32 = .ok (.ldc2_w 99, 3) := by decide +kernel
theorem dX5_signOf_35 : decode cX5_signOf 35 = .ok (.lstore_n 3, 1) := by decide +kernel
theorem dX5_signOf_36 : decode cX5_signOf 36 = .ok (.lload_n 1, 1) := by decide +kernel
theorem dX5_signOf_37 : decode cX5_signOf 37 = .ok (.lconst 0, 1) := by decide +kernel
theorem dX5_signOf_38 : decode cX5_signOf 38 = .ok (.lcmp, 1) := by decide +kernel
theorem dX5_signOf_39 : decode cX5_signOf 39 = .ok (.ifCond .ge 24, 3) := by decide +kernel
theorem dX5_signOf_42 : decode cX5_signOf 42 = .ok (.iload_n 0, 1) := by decide +kernel
theorem dX5_signOf_43 : decode cX5_signOf 43 = .ok (.invokestatic 74, 3) := by decide +kernel
theorem dX5_signOf_46 : decode cX5_signOf 46 = .ok (.ifCond .eq 9, 3) := by decide +kernel
theorem dX5_signOf_49 : decode cX5_signOf 49 = .ok (.ldc2_w 78, 3) := by decide +kernel
theorem dX5_signOf_52 : decode cX5_signOf 52 = .ok (.goto 12, 3) := by decide +kernel
theorem dX5_signOf_55 : decode cX5_signOf 55 = .ok (.iload_n 0, 1) := by decide +kernel
theorem dX5_signOf_56 : decode cX5_signOf 56 = .ok (.lload_n 3, 1) := by decide +kernel
theorem dX5_signOf_57 : decode cX5_signOf 57 = .ok (.invokestatic 90, 3) := by decide +kernel
theorem dX5_signOf_60 : decode cX5_signOf 60 = .ok (.goto 4, 3) := by decide +kernel
theorem dX5_signOf_63 : decode cX5_signOf 63 = .ok (.lload_n 3, 1) := by decide +kernel
theorem dX5_signOf_64 : decode cX5_signOf 64 = .ok (.lreturn, 1) := by decide +kernel
theorem dX5_whole_0 : decode cX5_whole 0 = .ok (.dload_n 0, 1) := by decide +kernel
theorem dX5_whole_1 : decode cX5_whole 1 = .ok (.ldc2_w 101, 3) := by decide +kernel
theorem dX5_whole_4 : decode cX5_whole 4 = .ok (.dcmp .l, 1) := by decide +kernel
theorem dX5_whole_5 : decode cX5_whole 5 = .ok (.ifCond .ge 11, 3) := by decide +kernel
theorem dX5_whole_8 : decode cX5_whole 8 = .ok (.dload_n 0, 1) := by decide +kernel
theorem dX5_whole_9 : decode cX5_whole 9 = .ok (.ldc2_w 103, 3) := by decide +kernel
theorem dX5_whole_12 : decode cX5_whole 12 = .ok (.dcmp .g, 1) := by decide +kernel
theorem dX5_whole_13 : decode cX5_whole 13 = .ok (.ifCond .gt 5, 3) := by decide +kernel
theorem dX5_whole_16 : decode cX5_whole 16 = .ok (.dload_n 0, 1) := by decide +kernel
theorem dX5_whole_17 : decode cX5_whole 17 = .ok (.dreturn, 1) := by decide +kernel
theorem dX5_whole_18 : decode cX5_whole 18 = .ok (.dload_n 0, 1) := by decide +kernel
theorem dX5_whole_19 : decode cX5_whole 19 = .ok (.d2l, 1) := by decide +kernel
theorem dX5_whole_20 : decode cX5_whole 20 = .ok (.lstore_n 3, 1) := by decide +kernel
theorem dX5_whole_21 : decode cX5_whole 21 = .ok (.lload_n 3, 1) := by decide +kernel
theorem dX5_whole_22 : decode cX5_whole 22 = .ok (.l2d, 1) := by decide +kernel
theorem dX5_whole_23 : decode cX5_whole 23 = .ok (.dload_n 0, 1) := by decide +kernel
theorem dX5_whole_24 : decode cX5_whole 24 = .ok (.dcmp .l, 1) := by decide +kernel
theorem dX5_whole_25 : decode cX5_whole 25 = .ok (.ifCond .le 9, 3) := by decide +kernel
theorem dX5_whole_28 : decode cX5_whole 28 = .ok (.lload_n 3, 1) := by decide +kernel
theorem dX5_whole_29 : decode cX5_whole 29 = .ok (.lconst 1, 1) := by decide +kernel
theorem dX5_whole_30 : decode cX5_whole 30 = .ok (.lsub, 1) := by decide +kernel
theorem dX5_whole_31 : decode cX5_whole 31 = .ok (.goto 4, 3) := by decide +kernel
theorem dX5_whole_34 : decode cX5_whole 34 = .ok (.lload_n 3, 1) := by decide +kernel
theorem dX5_whole_35 : decode cX5_whole 35 = .ok (.lstore 5, 2) := by decide +kernel
theorem dX5_whole_37 : decode cX5_whole 37 = .ok (.dload_n 0, 1) := by decide +kernel
theorem dX5_whole_38 : decode cX5_whole 38 = .ok (.lload 5, 2) := by decide +kernel
theorem dX5_whole_40 : decode cX5_whole 40 = .ok (.l2d, 1) := by decide +kernel
theorem dX5_whole_41 : decode cX5_whole 41 = .ok (.dsub, 1) := by decide +kernel
theorem dX5_whole_42 : decode cX5_whole 42 = .ok (.dstore 7, 2) := by decide +kernel
theorem dX5_whole_44 : decode cX5_whole 44 = .ok (.iload_n 2, 1) := by decide +kernel
theorem dX5_whole_45 : decode cX5_whole 45 = .ok (.iconst 1, 1) := by decide +kernel
theorem dX5_whole_46 : decode cX5_whole 46 = .ok (.if_icmp .ne 18, 3) := by decide +kernel
theorem dX5_whole_49 : decode cX5_whole 49 = .ok (.dload 7, 2) := by decide +kernel
theorem dX5_whole_51 : decode cX5_whole 51 = .ok (.dconst 0, 1) := by decide +kernel
theorem dX5_whole_52 : decode cX5_whole 52 = .ok (.dcmp .l, 1) := by decide +kernel
theorem dX5_whole_53 : decode cX5_whole 53 = .ok (.ifCond .le 7, 3) := by decide +kernel
theorem dX5_whole_56 : decode cX5_whole 56 = .ok (.iconst 1, 1) := by decide +kernel
theorem dX5_whole_57 : decode cX5_whole 57 = .ok (.goto 43, 3) := by decide +kernel
theorem dX5_whole_60 : decode cX5_whole 60 = .ok (.iconst 0, 1) := by decide +kernel
theorem dX5_whole_61 : decode cX5_whole 61 = .ok (.goto 39, 3) := by decide +kernel
theorem dX5_whole_64 : decode cX5_whole 64 = .ok (.iload_n 2, 1) := by decide +kernel
theorem dX5_whole_65 : decode cX5_whole 65 = .ok (.ifCond .ne 34, 3) := by decide +kernel
theorem dX5_whole_68 : decode cX5_whole 68 = .ok (.dload 7, 2) := by decide +kernel
theorem dX5_whole_70 : decode cX5_whole 70 = .ok (.ldc2_w 105, 3) := by decide +kernel
theorem dX5_whole_73 : decode cX5_whole 73 = .ok (.dcmp .l, 1) := by decide +kernel
theorem dX5_whole_74 : decode cX5_whole 74 = .ok (.ifCond .gt 21, 3) := by decide +kernel
theorem dX5_whole_77 : decode cX5_whole 77 = .ok (.dload 7, 2) := by decide +kernel
theorem dX5_whole_79 : decode cX5_whole 79 = .ok (.ldc2_w 105, 3) := by decide +kernel
theorem dX5_whole_82 : decode cX5_whole 82 = .ok (.dcmp .l, 1) := by decide +kernel
theorem dX5_whole_83 : decode cX5_whole 83 = .ok (.ifCond .ne 16, 3) := by decide +kernel
theorem dX5_whole_86 : decode cX5_whole 86 = .ok (.lload 5, 2) := by decide +kernel
theorem dX5_whole_88 : decode cX5_whole 88 = .ok (.lconst 1, 1) := by decide +kernel
theorem dX5_whole_89 : decode cX5_whole 89 = .ok (.land, 1) := by decide +kernel
theorem dX5_whole_90 : decode cX5_whole 90 = .ok (.lconst 1, 1) := by decide +kernel
theorem dX5_whole_91 : decode cX5_whole 91 = .ok (.lcmp, 1) := by decide +kernel
theorem dX5_whole_92 : decode cX5_whole 92 = .ok (.ifCond .ne 7, 3) := by decide +kernel
theorem dX5_whole_95 : decode cX5_whole 95 = .ok (.iconst 1, 1) := by decide +kernel
theorem dX5_whole_96 : decode cX5_whole 96 = .ok (.goto 4, 3) := by decide +kernel
theorem dX5_whole_99 : decode cX5_whole 99 = .ok (.iconst 0, 1) := by decide +kernel
theorem dX5_whole_100 : decode cX5_whole 100 = .ok (.istore 9, 2) := by decide +kernel
theorem dX5_whole_102 : decode cX5_whole 102 = .ok (.iload 9, 2) := by decide +kernel
theorem dX5_whole_104 : decode cX5_whole 104 = .ok (.ifCond .eq 10, 3) := by decide +kernel
theorem dX5_whole_107 : decode cX5_whole 107 = .ok (.lload 5, 2) := by decide +kernel
theorem dX5_whole_109 : decode cX5_whole 109 = .ok (.lconst 1, 1) := by decide +kernel
theorem dX5_whole_110 : decode cX5_whole 110 = .ok (.ladd, 1) := by decide +kernel
theorem dX5_whole_111 : decode cX5_whole 111 = .ok (.goto 5, 3) := by decide +kernel
theorem dX5_whole_114 : decode cX5_whole 114 = .ok (.lload 5, 2) := by decide +kernel
theorem dX5_whole_116 : decode cX5_whole 116 = .ok (.lstore 10, 2) := by decide +kernel
theorem dX5_whole_118 : decode cX5_whole 118 = .ok (.dload_n 0, 1) := by decide +kernel
theorem dX5_whole_119 : decode cX5_whole 119 = .ok (.dconst 0, 1) := by decide +kernel
theorem dX5_whole_120 : decode cX5_whole 120 = .ok (.dcmp .g, 1) := by decide +kernel
theorem dX5_whole_121 : decode cX5_whole 121 = .ok (.ifCond .lt 18, 3) := by decide +kernel
theorem dX5_whole_124 : decode cX5_whole 124 = .ok (.dload_n 0, 1) := by decide +kernel
theorem dX5_whole_125 : decode cX5_whole 125 = .ok (.dconst 0, 1) := by decide +kernel
theorem dX5_whole_126 : decode cX5_whole 126 = .ok (.dcmp .l, 1) := by decide +kernel
theorem dX5_whole_127 : decode cX5_whole 127 = .ok (.ifCond .ne 16, 3) := by decide +kernel
theorem dX5_whole_130 : decode cX5_whole 130 = .ok (.dload_n 0, 1) := by decide +kernel
theorem dX5_whole_131 : decode cX5_whole 131 = .ok (.invokestatic 66, 3) := by decide +kernel
theorem dX5_whole_134 : decode cX5_whole 134 = .ok (.lconst 0, 1) := by decide +kernel
theorem dX5_whole_135 : decode cX5_whole 135 = .ok (.lcmp, 1) := by decide +kernel
theorem dX5_whole_136 : decode cX5_whole 136 = .ok (.ifCond .ge 7, 3) := by decide +kernel
theorem dX5_whole_139 : decode cX5_whole 139 = .ok (.iconst 1, 1) := by decide +kernel
theorem dX5_whole_140 : decode cX5_whole 140 = .ok (.goto 4, 3) := by decide +kernel
theorem dX5_whole_143 : decode cX5_whole 143 = .ok (.iconst 0, 1) := by decide +kernel
theorem dX5_whole_144 : decode cX5_whole 144 = .ok (.istore 12, 2) := by decide +kernel
theorem dX5_whole_146 : decode cX5_whole 146 = .ok (.lload 10, 2) := by decide +kernel
theorem dX5_whole_148 : decode cX5_whole 148 = .ok (.lconst 0, 1) := by decide +kernel
theorem dX5_whole_149 : decode cX5_whole 149 = .ok (.lcmp, 1) := by decide +kernel
theorem dX5_whole_150 : decode cX5_whole 150 = .ok (.ifCond .ne 14, 3) := by decide +kernel
theorem dX5_whole_153 : decode cX5_whole 153 = .ok (.iload 12, 2) := by decide +kernel
theorem dX5_whole_155 : decode cX5_whole 155 = .ok (.ifCond .eq 9, 3) := by decide +kernel
theorem dX5_whole_158 : decode cX5_whole 158 = .ok (.ldc2_w 107, 3) := by decide +kernel
theorem dX5_whole_161 : decode cX5_whole 161 = .ok (.goto 6, 3) := by decide +kernel
theorem dX5_whole_164 : decode cX5_whole 164 = .ok (.lload 10, 2) := by decide +kernel
theorem dX5_whole_166 : decode cX5_whole 166 = .ok (.l2d, 1) := by decide +kernel
theorem dX5_whole_167 : decode cX5_whole 167 = .ok (.dreturn, 1) := by decide +kernel
theorem dX5_cut_0 : decode cX5_cut 0 = .ok (.iload_n 0, 1) := by decide +kernel
theorem dX5_cut_1 : decode cX5_cut 1 = .ok (.invokestatic 74, 3) := by decide +kernel
theorem dX5_cut_4 : decode cX5_cut 4 = .ok (.ifCond .eq 7, 3) := by decide +kernel
theorem dX5_cut_7 : decode cX5_cut 7 = .ok (.lload_n 1, 1) := by decide +kernel
theorem dX5_cut_8 : decode cX5_cut 8 = .ok (.goto 16, 3) := by decide +kernel
theorem dX5_cut_11 : decode cX5_cut 11 = .ok (.iload_n 0, 1) := by decide +kernel
theorem dX5_cut_12 : decode cX5_cut 12 = .ok (.iload_n 0, 1) := by decide +kernel
theorem dX5_cut_13 : decode cX5_cut 13 = .ok (.lload_n 1, 1) := by decide +kernel
theorem dX5_cut_14 : decode cX5_cut 14 = .ok (.invokestatic 109, 3) := by decide +kernel
theorem dX5_cut_17 : decode cX5_cut 17 = .ok (.iload_n 3, 1) := by decide +kernel
theorem dX5_cut_18 : decode cX5_cut 18 = .ok (.invokestatic 113, 3) := by decide +kernel
theorem dX5_cut_21 : decode cX5_cut 21 = .ok (.invokestatic 117, 3) := by decide +kernel
theorem dX5_cut_24 : decode cX5_cut 24 = .ok (.lreturn, 1) := by decide +kernel
theorem dX5_power_0 : decode cX5_power 0 = .ok (.iload_n 0, 1) := by decide +kernel
theorem dX5_power_1 : decode cX5_power 1 = .ok (.ifCond .lt 10, 3) := by decide +kernel
theorem dX5_power_4 : decode cX5_power 4 = .ok (.iconst 1, 1) := by decide +kernel
theorem dX5_power_5 : decode cX5_power 5 = .ok (.iload_n 0, 1) := by decide +kernel
theorem dX5_power_6 : decode cX5_power 6 = .ok (.ishl, 1) := by decide +kernel
theorem dX5_power_7 : decode cX5_power 7 = .ok (.i2d, 1) := by decide +kernel
theorem dX5_power_8 : decode cX5_power 8 = .ok (.goto 10, 3) := by decide +kernel
theorem dX5_power_11 : decode cX5_power 11 = .ok (.dconst 1, 1) := by decide +kernel
theorem dX5_power_12 : decode cX5_power 12 = .ok (.iconst 1, 1) := by decide +kernel
theorem dX5_power_13 : decode cX5_power 13 = .ok (.iload_n 0, 1) := by decide +kernel
theorem dX5_power_14 : decode cX5_power 14 = .ok (.ineg, 1) := by decide +kernel
theorem dX5_power_15 : decode cX5_power 15 = .ok (.ishl, 1) := by decide +kernel
theorem dX5_power_16 : decode cX5_power 16 = .ok (.i2d, 1) := by decide +kernel
theorem dX5_power_17 : decode cX5_power 17 = .ok (.ddiv, 1) := by decide +kernel
theorem dX5_power_18 : decode cX5_power 18 = .ok (.dreturn, 1) := by decide +kernel
theorem dX5_step_0 : decode cX5_step 0 = .ok (.iload_n 0, 1) := by decide +kernel
theorem dX5_step_1 : decode cX5_step 1 = .ok (.invokestatic 74, 3) := by decide +kernel
theorem dX5_step_4 : decode cX5_step 4 = .ok (.ifCond .eq 17, 3) := by decide +kernel
theorem dX5_step_7 : decode cX5_step 7 = .ok (.iload_n 3, 1) := by decide +kernel
theorem dX5_step_8 : decode cX5_step 8 = .ok (.ifCond .ge 7, 3) := by decide +kernel
theorem dX5_step_11 : decode cX5_step 11 = .ok (.lload_n 1, 1) := by decide +kernel
theorem dX5_step_12 : decode cX5_step 12 = .ok (.goto 8, 3) := by decide +kernel
theorem dX5_step_15 : decode cX5_step 15 = .ok (.lload_n 1, 1) := by decide +kernel
theorem dX5_step_16 : decode cX5_step 16 = .ok (.iload_n 3, 1) := by decide +kernel
theorem dX5_step_17 : decode cX5_step 17 = .ok (.lshr, 1) := by decide +kernel
theorem dX5_step_18 : decode cX5_step 18 = .ok (.iload_n 3, 1) := by decide +kernel
theorem dX5_step_19 : decode cX5_step 19 = .ok (.lshl, 1) := by decide +kernel
theorem dX5_step_20 : decode cX5_step 20 = .ok (.lreturn, 1) := by decide +kernel
theorem dX5_step_21 : decode cX5_step 21 = .ok (.iload_n 0, 1) := by decide +kernel
theorem dX5_step_22 : decode cX5_step 22 = .ok (.iload_n 0, 1) := by decide +kernel
theorem dX5_step_23 : decode cX5_step 23 = .ok (.lload_n 1, 1) := by decide +kernel
theorem dX5_step_24 : decode cX5_step 24 = .ok (.invokestatic 109, 3) := by decide +kernel
theorem dX5_step_27 : decode cX5_step 27 = .ok (.iload_n 3, 1) := by decide +kernel
theorem dX5_step_28 : decode cX5_step 28 = .ok (.ineg, 1) := by decide +kernel
theorem dX5_step_29 : decode cX5_step 29 = .ok (.invokestatic 121, 3) := by decide +kernel
theorem dX5_step_32 : decode cX5_step 32 = .ok (.dmul, 1) := by decide +kernel
theorem dX5_step_33 : decode cX5_step 33 = .ok (.invokestatic 117, 3) := by decide +kernel
theorem dX5_step_36 : decode cX5_step 36 = .ok (.lstore 4, 2) := by decide +kernel
theorem dX5_step_38 : decode cX5_step 38 = .ok (.iload_n 0, 1) := by decide +kernel
theorem dX5_step_39 : decode cX5_step 39 = .ok (.lload 4, 2) := by decide +kernel
theorem dX5_step_41 : decode cX5_step 41 = .ok (.iconst 0, 1) := by decide +kernel
theorem dX5_step_42 : decode cX5_step 42 = .ok (.invokestatic 125, 3) := by decide +kernel
theorem dX5_step_45 : decode cX5_step 45 = .ok (.lstore 6, 2) := by decide +kernel
theorem dX5_step_47 : decode cX5_step 47 = .ok (.iload_n 0, 1) := by decide +kernel
theorem dX5_step_48 : decode cX5_step 48 = .ok (.iload_n 0, 1) := by decide +kernel
theorem dX5_step_49 : decode cX5_step 49 = .ok (.lload 6, 2) := by decide +kernel
theorem dX5_step_51 : decode cX5_step 51 = .ok (.invokestatic 109, 3) := by decide +kernel
theorem dX5_step_54 : decode cX5_step 54 = .ok (.iload_n 3, 1) := by decide +kernel
theorem dX5_step_55 : decode cX5_step 55 = .ok (.invokestatic 121, 3) := by decide +kernel
theorem dX5_step_58 : decode cX5_step 58 = .ok (.dmul, 1) := by decide +kernel
theorem dX5_step_59 : decode cX5_step 59 = .ok (.invokestatic 117, 3) := by decide +kernel
theorem dX5_step_62 : decode cX5_step 62 = .ok (.lreturn, 1) := by decide +kernel
theorem dX5_areApart_0 : decode cX5_areApart 0 = .ok (.iload_n 0, 1) := by decide +kernel
theorem dX5_areApart_1 : decode cX5_areApart 1 = .ok (.invokestatic 74, 3) := by decide +kernel
theorem dX5_areApart_4 : decode cX5_areApart 4 = .ok (.ifCond .ne 34, 3) := by decide +kernel
theorem dX5_areApart_7 : decode cX5_areApart 7 = .ok (.iload_n 0, 1) := by decide +kernel
theorem dX5_areApart_8 : decode cX5_areApart 8 = .ok (.lload_n 1, 1) := by decide +kernel
theorem dX5_areApart_9 : decode cX5_areApart 9 = .ok (.invokestatic 129, 3) := by decide +kernel
theorem dX5_areApart_12 : decode cX5_areApart 12 = .ok (.ifCond .eq 26, 3) := by decide +kernel
theorem dX5_areApart_15 : decode cX5_areApart 15 = .ok (.iload_n 0, 1) := by decide +kernel
theorem dX5_areApart_16 : decode cX5_areApart 16 = .ok (.lload_n 3, 1) := by decide +kernel
theorem dX5_areApart_17 : decode cX5_areApart 17 = .ok (.invokestatic 129, 3) := by decide +kernel
theorem dX5_areApart_20 : decode cX5_areApart 20 = .ok (.ifCond .eq 18, 3) := by decide +kernel
theorem dX5_areApart_23 : decode cX5_areApart 23 = .ok (.lload_n 1, 1) := by decide +kernel
theorem dX5_areApart_24 : decode cX5_areApart 24 = .ok (.invokestatic 132, 3) := by decide +kernel
theorem dX5_areApart_27 : decode cX5_areApart 27 = .ok (.lload_n 3, 1) := by decide +kernel
theorem dX5_areApart_28 : decode cX5_areApart 28 = .ok (.invokestatic 132, 3) := by decide +kernel
theorem dX5_areApart_31 : decode cX5_areApart 31 = .ok (.if_icmp .eq 7, 3) := by decide +kernel
theorem dX5_areApart_34 : decode cX5_areApart 34 = .ok (.iconst 1, 1) := by decide +kernel
theorem dX5_areApart_35 : decode cX5_areApart 35 = .ok (.goto 4, 3) := by decide +kernel
theorem dX5_areApart_38 : decode cX5_areApart 38 = .ok (.iconst 0, 1) := by decide +kernel
theorem dX5_areApart_39 : decode cX5_areApart 39 = .ok (.ireturn, 1) := by decide +kernel
theorem dX5_meet_0 : decode cX5_meet 0 = .ok (.iload_n 0, 1) := by decide +kernel
theorem dX5_meet_1 : decode cX5_meet 1 = .ok (.invokestatic 74, 3) := by decide +kernel
theorem dX5_meet_4 : decode cX5_meet 4 = .ok (.ifCond .eq 13, 3) := by decide +kernel
theorem dX5_meet_7 : decode cX5_meet 7 = .ok (.iload_n 0, 1) := by decide +kernel
theorem dX5_meet_8 : decode cX5_meet 8 = .ok (.lload_n 1, 1) := by decide +kernel
theorem dX5_meet_9 : decode cX5_meet 9 = .ok (.lload_n 3, 1) := by decide +kernel
theorem dX5_meet_10 : decode cX5_meet 10 = .ok (.ladd, 1) := by decide +kernel
theorem dX5_meet_11 : decode cX5_meet 11 = .ok (.invokestatic 84, 3) := by decide +kernel
theorem dX5_meet_14 : decode cX5_meet 14 = .ok (.iconst 1, 1) := by decide +kernel
theorem dX5_meet_15 : decode cX5_meet 15 = .ok (.lshr, 1) := by decide +kernel
theorem dX5_meet_16 : decode cX5_meet 16 = .ok (.lreturn, 1) := by decide +kernel
theorem dX5_meet_17 : decode cX5_meet 17 = .ok (.iload_n 0, 1) := by decide +kernel
theorem dX5_meet_18 : decode cX5_meet 18 = .ok (.iload_n 0, 1) := by decide +kernel
theorem dX5_meet_19 : decode cX5_meet 19 = .ok (.lload_n 1, 1) := by decide +kernel
theorem dX5_meet_20 : decode cX5_meet 20 = .ok (.invokestatic 109, 3) := by decide +kernel
theorem dX5_meet_23 : decode cX5_meet 23 = .ok (.iload_n 0, 1) := by decide +kernel
theorem dX5_meet_24 : decode cX5_meet 24 = .ok (.lload_n 3, 1) := by decide +kernel
theorem dX5_meet_25 : decode cX5_meet 25 = .ok (.invokestatic 109, 3) := by decide +kernel
theorem dX5_meet_28 : decode cX5_meet 28 = .ok (.dadd, 1) := by decide +kernel
theorem dX5_meet_29 : decode cX5_meet 29 = .ok (.invokestatic 117, 3) := by decide +kernel
theorem dX5_meet_32 : decode cX5_meet 32 = .ok (.lstore 5, 2) := by decide +kernel
theorem dX5_meet_34 : decode cX5_meet 34 = .ok (.iload_n 0, 1) := by decide +kernel
theorem dX5_meet_35 : decode cX5_meet 35 = .ok (.iload_n 0, 1) := by decide +kernel
theorem dX5_meet_36 : decode cX5_meet 36 = .ok (.lload 5, 2) := by decide +kernel
theorem dX5_meet_38 : decode cX5_meet 38 = .ok (.invokestatic 109, 3) := by decide +kernel
theorem dX5_meet_41 : decode cX5_meet 41 = .ok (.ldc2_w 105, 3) := by decide +kernel
theorem dX5_meet_44 : decode cX5_meet 44 = .ok (.dmul, 1) := by decide +kernel
theorem dX5_meet_45 : decode cX5_meet 45 = .ok (.invokestatic 117, 3) := by decide +kernel
theorem dX5_meet_48 : decode cX5_meet 48 = .ok (.lreturn, 1) := by decide +kernel
theorem dX5_part_0 : decode cX5_part 0 = .ok (.iload_n 0, 1) := by decide +kernel
theorem dX5_part_1 : decode cX5_part 1 = .ok (.invokestatic 74, 3) := by decide +kernel
theorem dX5_part_4 : decode cX5_part 4 = .ok (.ifCond .eq 5, 3) := by decide +kernel
theorem dX5_part_7 : decode cX5_part 7 = .ok (.lconst 0, 1) := by decide +kernel
theorem dX5_part_8 : decode cX5_part 8 = .ok (.lreturn, 1) := by decide +kernel
theorem dX5_part_9 : decode cX5_part 9 = .ok (.iload_n 0, 1) := by decide +kernel
theorem dX5_part_10 : decode cX5_part 10 = .ok (.lload_n 1, 1) := by decide +kernel
theorem dX5_part_11 : decode cX5_part 11 = .ok (.invokestatic 129, 3) := by decide +kernel
theorem dX5_part_14 : decode cX5_part 14 = .ok (.ifCond .eq 19, 3) := by decide +kernel
theorem dX5_part_17 : decode cX5_part 17 = .ok (.lload_n 1, 1) := by decide +kernel
theorem dX5_part_18 : decode cX5_part 18 = .ok (.lconst 0, 1) := by decide +kernel
theorem dX5_part_19 : decode cX5_part 19 = .ok (.lcmp, 1) := by decide +kernel
theorem dX5_part_20 : decode cX5_part 20 = .ok (.ifCond .ge 11, 3) := by decide +kernel
theorem dX5_part_23 : decode cX5_part 23 = .ok (.iload_n 0, 1) := by decide +kernel
theorem dX5_part_24 : decode cX5_part 24 = .ok (.lconst 0, 1) := by decide +kernel
theorem dX5_part_25 : decode cX5_part 25 = .ok (.invokestatic 90, 3) := by decide +kernel
theorem dX5_part_28 : decode cX5_part 28 = .ok (.goto 4, 3) := by decide +kernel
theorem dX5_part_31 : decode cX5_part 31 = .ok (.lconst 0, 1) := by decide +kernel
theorem dX5_part_32 : decode cX5_part 32 = .ok (.lreturn, 1) := by decide +kernel
theorem dX5_part_33 : decode cX5_part 33 = .ok (.iload_n 0, 1) := by decide +kernel
theorem dX5_part_34 : decode cX5_part 34 = .ok (.iload_n 0, 1) := by decide +kernel
theorem dX5_part_35 : decode cX5_part 35 = .ok (.lload_n 1, 1) := by decide +kernel
theorem dX5_part_36 : decode cX5_part 36 = .ok (.invokestatic 109, 3) := by decide +kernel
theorem dX5_part_39 : decode cX5_part 39 = .ok (.iload_n 0, 1) := by decide +kernel
theorem dX5_part_40 : decode cX5_part 40 = .ok (.iload_n 0, 1) := by decide +kernel
theorem dX5_part_41 : decode cX5_part 41 = .ok (.lload_n 1, 1) := by decide +kernel
theorem dX5_part_42 : decode cX5_part 42 = .ok (.iconst (-1), 1) := by decide +kernel
theorem dX5_part_43 : decode cX5_part 43 = .ok (.invokestatic 125, 3) := by decide +kernel
theorem dX5_part_46 : decode cX5_part 46 = .ok (.invokestatic 109, 3) := by decide +kernel
theorem dX5_part_49 : decode cX5_part 49 = .ok (.dsub, 1) := by decide +kernel
theorem dX5_part_50 : decode cX5_part 50 = .ok (.invokestatic 117, 3) := by decide +kernel
theorem dX5_part_53 : decode cX5_part 53 = .ok (.lreturn, 1) := by decide +kernel
theorem dX5_less_0 : decode cX5_less 0 = .ok (.iload_n 0, 1) := by decide +kernel
theorem dX5_less_1 : decode cX5_less 1 = .ok (.invokestatic 74, 3) := by decide +kernel
theorem dX5_less_4 : decode cX5_less 4 = .ok (.ifCond .eq 11, 3) := by decide +kernel
theorem dX5_less_7 : decode cX5_less 7 = .ok (.iload_n 0, 1) := by decide +kernel
theorem dX5_less_8 : decode cX5_less 8 = .ok (.lload_n 1, 1) := by decide +kernel
theorem dX5_less_9 : decode cX5_less 9 = .ok (.lload_n 3, 1) := by decide +kernel
theorem dX5_less_10 : decode cX5_less 10 = .ok (.lsub, 1) := by decide +kernel
theorem dX5_less_11 : decode cX5_less 11 = .ok (.invokestatic 84, 3) := by decide +kernel
theorem dX5_less_14 : decode cX5_less 14 = .ok (.lreturn, 1) := by decide +kernel
theorem dX5_less_15 : decode cX5_less 15 = .ok (.iload_n 0, 1) := by decide +kernel
theorem dX5_less_16 : decode cX5_less 16 = .ok (.lload_n 1, 1) := by decide +kernel
theorem dX5_less_17 : decode cX5_less 17 = .ok (.invokestatic 129, 3) := by decide +kernel
theorem dX5_less_20 : decode cX5_less 20 = .ok (.ifCond .eq 11, 3) := by decide +kernel
theorem dX5_less_23 : decode cX5_less 23 = .ok (.lload_n 1, 1) := by decide +kernel
theorem dX5_less_24 : decode cX5_less 24 = .ok (.lload_n 3, 1) := by decide +kernel
theorem dX5_less_25 : decode cX5_less 25 = .ok (.lcmp, 1) := by decide +kernel
theorem dX5_less_26 : decode cX5_less 26 = .ok (.ifCond .ne 5, 3) := by decide +kernel
theorem dX5_less_29 : decode cX5_less 29 = .ok (.lconst 0, 1) := by decide +kernel
theorem dX5_less_30 : decode cX5_less 30 = .ok (.lreturn, 1) := by decide +kernel
theorem dX5_less_31 : decode cX5_less 31 = .ok (.iload_n 0, 1) := by decide +kernel
theorem dX5_less_32 : decode cX5_less 32 = .ok (.iload_n 0, 1) := by decide +kernel
theorem dX5_less_33 : decode cX5_less 33 = .ok (.lload_n 1, 1) := by decide +kernel
theorem dX5_less_34 : decode cX5_less 34 = .ok (.invokestatic 109, 3) := by decide +kernel
theorem dX5_less_37 : decode cX5_less 37 = .ok (.iload_n 0, 1) := by decide +kernel
theorem dX5_less_38 : decode cX5_less 38 = .ok (.lload_n 3, 1) := by decide +kernel
theorem dX5_less_39 : decode cX5_less 39 = .ok (.invokestatic 109, 3) := by decide +kernel
theorem dX5_less_42 : decode cX5_less 42 = .ok (.dsub, 1) := by decide +kernel
theorem dX5_less_43 : decode cX5_less 43 = .ok (.invokestatic 117, 3) := by decide +kernel
theorem dX5_less_46 : decode cX5_less 46 = .ok (.lreturn, 1) := by decide +kernel
theorem dX5_take_0 : decode cX5_take 0 = .ok (.iload_n 1, 1) := by decide +kernel
theorem dX5_take_1 : decode cX5_take 1 = .ok (.iconst 4, 1) := by decide +kernel
theorem dX5_take_2 : decode cX5_take 2 = .ok (.idiv, 1) := by decide +kernel
theorem dX5_take_3 : decode cX5_take 3 = .ok (.istore 4, 2) := by decide +kernel
theorem dX5_take_5 : decode cX5_take 5 = .ok (.aload_n 0, 1) := by decide +kernel
theorem dX5_take_6 : decode cX5_take 6 = .ok (.getfield 7, 3) := by decide +kernel
theorem dX5_take_9 : decode cX5_take 9 = .ok (.iload_n 1, 1) := by decide +kernel
theorem dX5_take_10 : decode cX5_take 10 = .ok (.iaload, 1) := by decide +kernel
theorem dX5_take_11 : decode cX5_take 11 = .ok (.ifCond .ne 20, 3) := by decide +kernel
theorem dX5_take_14 : decode cX5_take 14 = .ok (.aload_n 0, 1) := by decide +kernel
theorem dX5_take_15 : decode cX5_take 15 = .ok (.getfield 17, 3) := by decide +kernel
theorem dX5_take_18 : decode cX5_take 18 = .ok (.iload_n 1, 1) := by decide +kernel
theorem dX5_take_19 : decode cX5_take 19 = .ok (.lload_n 2, 1) := by decide +kernel
theorem dX5_take_20 : decode cX5_take 20 = .ok (.lastore, 1) := by decide +kernel
theorem dX5_take_21 : decode cX5_take 21 = .ok (.aload_n 0, 1) := by decide +kernel
theorem dX5_take_22 : decode cX5_take 22 = .ok (.getfield 20, 3) := by decide +kernel
theorem dX5_take_25 : decode cX5_take 25 = .ok (.iload_n 1, 1) := by decide +kernel
theorem dX5_take_26 : decode cX5_take 26 = .ok (.lload_n 2, 1) := by decide +kernel
theorem dX5_take_27 : decode cX5_take 27 = .ok (.lastore, 1) := by decide +kernel
theorem dX5_take_28 : decode cX5_take 28 = .ok (.goto 90, 3) := by decide +kernel
theorem dX5_take_31 : decode cX5_take 31 = .ok (.iload 4, 2) := by decide +kernel
theorem dX5_take_33 : decode cX5_take 33 = .ok (.lload_n 2, 1) := by decide +kernel
theorem dX5_take_34 : decode cX5_take 34 = .ok (.aload_n 0, 1) := by decide +kernel
theorem dX5_take_35 : decode cX5_take 35 = .ok (.getfield 13, 3) := by decide +kernel
theorem dX5_take_38 : decode cX5_take 38 = .ok (.iload_n 1, 1) := by decide +kernel
theorem dX5_take_39 : decode cX5_take 39 = .ok (.laload, 1) := by decide +kernel
theorem dX5_take_40 : decode cX5_take 40 = .ok (.invokestatic 136, 3) := by decide +kernel
theorem dX5_take_43 : decode cX5_take 43 = .ok (.lstore 5, 2) := by decide +kernel
theorem dX5_take_45 : decode cX5_take 45 = .ok (.aload_n 0, 1) := by decide +kernel
theorem dX5_take_46 : decode cX5_take 46 = .ok (.getfield 26, 3) := by decide +kernel
theorem dX5_take_49 : decode cX5_take 49 = .ok (.iload_n 1, 1) := by decide +kernel
theorem dX5_take_50 : decode cX5_take 50 = .ok (.iload 4, 2) := by decide +kernel
theorem dX5_take_52 : decode cX5_take 52 = .ok (.lload 5, 2) := by decide +kernel
theorem dX5_take_54 : decode cX5_take 54 = .ok (.invokestatic 140, 3) := by decide +kernel
theorem dX5_take_57 : decode cX5_take 57 = .ok (.lastore, 1) := by decide +kernel
theorem dX5_take_58 : decode cX5_take 58 = .ok (.aload_n 0, 1) := by decide +kernel
theorem dX5_take_59 : decode cX5_take 59 = .ok (.getfield 23, 3) := by decide +kernel
theorem dX5_take_62 : decode cX5_take 62 = .ok (.iload_n 1, 1) := by decide +kernel
theorem dX5_take_63 : decode cX5_take 63 = .ok (.iload 4, 2) := by decide +kernel
theorem dX5_take_65 : decode cX5_take 65 = .ok (.aload_n 0, 1) := by decide +kernel
theorem dX5_take_66 : decode cX5_take 66 = .ok (.getfield 23, 3) := by decide +kernel
theorem dX5_take_69 : decode cX5_take 69 = .ok (.iload_n 1, 1) := by decide +kernel
theorem dX5_take_70 : decode cX5_take 70 = .ok (.laload, 1) := by decide +kernel
theorem dX5_take_71 : decode cX5_take 71 = .ok (.iload 4, 2) := by decide +kernel
theorem dX5_take_73 : decode cX5_take 73 = .ok (.lload 5, 2) := by decide +kernel
theorem dX5_take_75 : decode cX5_take 75 = .ok (.invokestatic 143, 3) := by decide +kernel
theorem dX5_take_78 : decode cX5_take 78 = .ok (.invokestatic 146, 3) := by decide +kernel
theorem dX5_take_81 : decode cX5_take 81 = .ok (.lastore, 1) := by decide +kernel
theorem dX5_take_82 : decode cX5_take 82 = .ok (.aload_n 0, 1) := by decide +kernel
theorem dX5_take_83 : decode cX5_take 83 = .ok (.getfield 17, 3) := by decide +kernel
theorem dX5_take_86 : decode cX5_take 86 = .ok (.iload_n 1, 1) := by decide +kernel
theorem dX5_take_87 : decode cX5_take 87 = .ok (.iload 4, 2) := by decide +kernel
theorem dX5_take_89 : decode cX5_take 89 = .ok (.aload_n 0, 1) := by decide +kernel
theorem dX5_take_90 : decode cX5_take 90 = .ok (.getfield 17, 3) := by decide +kernel
theorem dX5_take_93 : decode cX5_take 93 = .ok (.iload_n 1, 1) := by decide +kernel
theorem dX5_take_94 : decode cX5_take 94 = .ok (.laload, 1) := by decide +kernel
theorem dX5_take_95 : decode cX5_take 95 = .ok (.lload_n 2, 1) := by decide +kernel
theorem dX5_take_96 : decode cX5_take 96 = .ok (.invokestatic 149, 3) := by decide +kernel
theorem dX5_take_99 : decode cX5_take 99 = .ok (.lastore, 1) := by decide +kernel
theorem dX5_take_100 : decode cX5_take 100 = .ok (.aload_n 0, 1) := by decide +kernel
theorem dX5_take_101 : decode cX5_take 101 = .ok (.getfield 20, 3) := by decide +kernel
theorem dX5_take_104 : decode cX5_take 104 = .ok (.iload_n 1, 1) := by decide +kernel
theorem dX5_take_105 : decode cX5_take 105 = .ok (.iload 4, 2) := by decide +kernel
theorem dX5_take_107 : decode cX5_take 107 = .ok (.aload_n 0, 1) := by decide +kernel
theorem dX5_take_108 : decode cX5_take 108 = .ok (.getfield 20, 3) := by decide +kernel
theorem dX5_take_111 : decode cX5_take 111 = .ok (.iload_n 1, 1) := by decide +kernel
theorem dX5_take_112 : decode cX5_take 112 = .ok (.laload, 1) := by decide +kernel
theorem dX5_take_113 : decode cX5_take 113 = .ok (.lload_n 2, 1) := by decide +kernel
theorem dX5_take_114 : decode cX5_take 114 = .ok (.invokestatic 146, 3) := by decide +kernel
theorem dX5_take_117 : decode cX5_take 117 = .ok (.lastore, 1) := by decide +kernel
theorem dX5_take_118 : decode cX5_take 118 = .ok (.aload_n 0, 1) := by decide +kernel
theorem dX5_take_119 : decode cX5_take 119 = .ok (.getfield 13, 3) := by decide +kernel
theorem dX5_take_122 : decode cX5_take 122 = .ok (.iload_n 1, 1) := by decide +kernel
theorem dX5_take_123 : decode cX5_take 123 = .ok (.lload_n 2, 1) := by decide +kernel
theorem dX5_take_124 : decode cX5_take 124 = .ok (.lastore, 1) := by decide +kernel
theorem dX5_take_125 : decode cX5_take 125 = .ok (.aload_n 0, 1) := by decide +kernel
theorem dX5_take_126 : decode cX5_take 126 = .ok (.getfield 7, 3) := by decide +kernel
theorem dX5_take_129 : decode cX5_take 129 = .ok (.iload_n 1, 1) := by decide +kernel
theorem dX5_take_130 : decode cX5_take 130 = .ok (.dup2, 1) := by decide +kernel
theorem dX5_take_131 : decode cX5_take 131 = .ok (.iaload, 1) := by decide +kernel
theorem dX5_take_132 : decode cX5_take 132 = .ok (.iconst 1, 1) := by decide +kernel
theorem dX5_take_133 : decode cX5_take 133 = .ok (.iadd, 1) := by decide +kernel
theorem dX5_take_134 : decode cX5_take 134 = .ok (.iastore, 1) := by decide +kernel
theorem dX5_take_135 : decode cX5_take 135 = .ok (.aload_n 0, 1) := by decide +kernel
theorem dX5_take_136 : decode cX5_take 136 = .ok (.getfield 7, 3) := by decide +kernel
theorem dX5_take_139 : decode cX5_take 139 = .ok (.iload_n 1, 1) := by decide +kernel
theorem dX5_take_140 : decode cX5_take 140 = .ok (.iaload, 1) := by decide +kernel
theorem dX5_take_141 : decode cX5_take 141 = .ok (.ireturn, 1) := by decide +kernel
theorem dX5_read_0 : decode cX5_read 0 = .ok (.aload_n 0, 1) := by decide +kernel
theorem dX5_read_1 : decode cX5_read 1 = .ok (.iconst 1, 1) := by decide +kernel
theorem dX5_read_2 : decode cX5_read 2 = .ok (.putfield 39, 3) := by decide +kernel
theorem dX5_read_5 : decode cX5_read 5 = .ok (.iload_n 1, 1) := by decide +kernel
theorem dX5_read_6 : decode cX5_read 6 = .ok (.invokestatic 152, 3) := by decide +kernel
theorem dX5_read_9 : decode cX5_read 9 = .ok (.ifCond .ne 5, 3) := by decide +kernel
theorem dX5_read_12 : decode cX5_read 12 = .ok (.iconst 0, 1) := by decide +kernel
theorem dX5_read_13 : decode cX5_read 13 = .ok (.ireturn, 1) := by decide +kernel
theorem dX5_read_14 : decode cX5_read 14 = .ok (.iload_n 1, 1) := by decide +kernel
theorem dX5_read_15 : decode cX5_read 15 = .ok (.iconst 4, 1) := by decide +kernel
theorem dX5_read_16 : decode cX5_read 16 = .ok (.idiv, 1) := by decide +kernel
theorem dX5_read_17 : decode cX5_read 17 = .ok (.istore 4, 2) := by decide +kernel
theorem dX5_read_19 : decode cX5_read 19 = .ok (.iload 4, 2) := by decide +kernel
theorem dX5_read_21 : decode cX5_read 21 = .ok (.ifCond .eq 9, 3) := by decide +kernel
theorem dX5_read_24 : decode cX5_read 24 = .ok (.iload 4, 2) := by decide +kernel
theorem dX5_read_26 : decode cX5_read 26 = .ok (.iconst 2, 1) := by decide +kernel
theorem dX5_read_27 : decode cX5_read 27 = .ok (.if_icmp .ne 9, 3) := by decide +kernel
theorem dX5_read_30 : decode cX5_read 30 = .ok (.lload_n 2, 1) := by decide +kernel
theorem dX5_read_31 : decode cX5_read 31 = .ok (.l2i, 1) := by decide +kernel
theorem dX5_read_32 : decode cX5_read 32 = .ok (.i2l, 1) := by decide +kernel
theorem dX5_read_33 : decode cX5_read 33 = .ok (.goto 4, 3) := by decide +kernel
theorem dX5_read_36 : decode cX5_read 36 = .ok (.lload_n 2, 1) := by decide +kernel
theorem dX5_read_37 : decode cX5_read 37 = .ok (.lstore 5, 2) := by decide +kernel
theorem dX5_read_39 : decode cX5_read 39 = .ok (.iload 4, 2) := by decide +kernel
theorem dX5_read_41 : decode cX5_read 41 = .ok (.lload 5, 2) := by decide +kernel
theorem dX5_read_43 : decode cX5_read 43 = .ok (.invokestatic 155, 3) := by decide +kernel
theorem dX5_read_46 : decode cX5_read 46 = .ok (.ifCond .eq 5, 3) := by decide +kernel
theorem dX5_read_49 : decode cX5_read 49 = .ok (.iconst 0, 1) := by decide +kernel
theorem dX5_read_50 : decode cX5_read 50 = .ok (.ireturn, 1) := by decide +kernel
theorem dX5_read_51 : decode cX5_read 51 = .ok (.aload_n 0, 1) := by decide +kernel
theorem dX5_read_52 : decode cX5_read 52 = .ok (.iconst 0, 1) := by decide +kernel
theorem dX5_read_53 : decode cX5_read 53 = .ok (.putfield 39, 3) := by decide +kernel
theorem dX5_read_56 : decode cX5_read 56 = .ok (.aload_n 0, 1) := by decide +kernel
theorem dX5_read_57 : decode cX5_read 57 = .ok (.iload_n 1, 1) := by decide +kernel
theorem dX5_read_58 : decode cX5_read 58 = .ok (.lload 5, 2) := by decide +kernel
theorem dX5_read_60 : decode cX5_read 60 = .ok (.invokevirtual 158, 3) := by decide +kernel
theorem dX5_read_63 : decode cX5_read 63 = .ok (.ireturn, 1) := by decide +kernel
theorem dX5_asks_0 : decode cX5_asks 0 = .ok (.iload_n 0, 1) := by decide +kernel
theorem dX5_asks_1 : decode cX5_asks 1 = .ok (.iconst 5, 1) := by decide +kernel
theorem dX5_asks_2 : decode cX5_asks 2 = .ok (.if_icmp .eq 27, 3) := by decide +kernel
theorem dX5_asks_5 : decode cX5_asks 5 = .ok (.iload_n 0, 1) := by decide +kernel
theorem dX5_asks_6 : decode cX5_asks 6 = .ok (.bipush 6, 2) := by decide +kernel
theorem dX5_asks_8 : decode cX5_asks 8 = .ok (.if_icmp .eq 21, 3) := by decide +kernel
theorem dX5_asks_11 : decode cX5_asks 11 = .ok (.iload_n 0, 1) := by decide +kernel
theorem dX5_asks_12 : decode cX5_asks 12 = .ok (.bipush 7, 2) := by decide +kernel
theorem dX5_asks_14 : decode cX5_asks 14 = .ok (.if_icmp .eq 15, 3) := by decide +kernel
theorem dX5_asks_17 : decode cX5_asks 17 = .ok (.iload_n 0, 1) := by decide +kernel
theorem dX5_asks_18 : decode cX5_asks 18 = .ok (.bipush 9, 2) := by decide +kernel
theorem dX5_asks_20 : decode cX5_asks 20 = .ok (.if_icmp .eq 9, 3) := by decide +kernel
theorem dX5_asks_23 : decode cX5_asks 23 = .ok (.iload_n 0, 1) := by decide +kernel
theorem dX5_asks_24 : decode cX5_asks 24 = .ok (.bipush 11, 2) := by decide +kernel
theorem dX5_asks_26 : decode cX5_asks 26 = .ok (.if_icmp .ne 7, 3) := by decide +kernel
theorem dX5_asks_29 : decode cX5_asks 29 = .ok (.iconst 1, 1) := by decide +kernel
theorem dX5_asks_30 : decode cX5_asks 30 = .ok (.goto 4, 3) := by decide +kernel
theorem dX5_asks_33 : decode cX5_asks 33 = .ok (.iconst 0, 1) := by decide +kernel
theorem dX5_asks_34 : decode cX5_asks 34 = .ok (.ireturn, 1) := by decide +kernel
theorem dX5_order_0 : decode cX5_order 0 = .ok (.iload_n 1, 1) := by decide +kernel
theorem dX5_order_1 : decode cX5_order 1 = .ok (.invokestatic 162, 3) := by decide +kernel
theorem dX5_order_4 : decode cX5_order 4 = .ok (.ifCond .eq 8, 3) := by decide +kernel
theorem dX5_order_7 : decode cX5_order 7 = .ok (.bipush 15, 2) := by decide +kernel
theorem dX5_order_9 : decode cX5_order 9 = .ok (.goto 15, 3) := by decide +kernel
theorem dX5_order_12 : decode cX5_order 12 = .ok (.iload_n 1, 1) := by decide +kernel
theorem dX5_order_13 : decode cX5_order 13 = .ok (.bipush 8, 2) := by decide +kernel
theorem dX5_order_15 : decode cX5_order 15 = .ok (.if_icmp .ne 8, 3) := by decide +kernel
theorem dX5_order_18 : decode cX5_order 18 = .ok (.bipush 20, 2) := by decide +kernel
theorem dX5_order_20 : decode cX5_order 20 = .ok (.goto 4, 3) := by decide +kernel
theorem dX5_order_23 : decode cX5_order 23 = .ok (.iconst 0, 1) := by decide +kernel
theorem dX5_order_24 : decode cX5_order 24 = .ok (.istore_n 3, 1) := by decide +kernel
theorem dX5_order_25 : decode cX5_order 25 = .ok (.aload_n 0, 1) := by decide +kernel
theorem dX5_order_26 : decode cX5_order 26 = .ok (.iload_n 1, 1) := by decide +kernel
theorem dX5_order_27 : decode cX5_order 27 = .ok (.ifCond .lt 18, 3) := by decide +kernel
theorem dX5_order_30 : decode cX5_order 30 = .ok (.iload_n 1, 1) := by decide +kernel
theorem dX5_order_31 : decode cX5_order 31 = .ok (.bipush 12, 2) := by decide +kernel
theorem dX5_order_33 : decode cX5_order 33 = .ok (.if_icmp .gt 12, 3) := by decide +kernel
theorem dX5_order_36 : decode cX5_order 36 = .ok (.iload_n 2, 1) := by decide +kernel
theorem dX5_order_37 : decode cX5_order 37 = .ok (.ifCond .lt 8, 3) := by decide +kernel
theorem dX5_order_40 : decode cX5_order 40 = .ok (.iload_n 2, 1) := by decide +kernel
theorem dX5_order_41 : decode cX5_order 41 = .ok (.iload_n 3, 1) := by decide +kernel
theorem dX5_order_42 : decode cX5_order 42 = .ok (.if_icmp .le 7, 3) := by decide +kernel
theorem dX5_order_45 : decode cX5_order 45 = .ok (.iconst 1, 1) := by decide +kernel
theorem dX5_order_46 : decode cX5_order 46 = .ok (.goto 17, 3) := by decide +kernel
theorem dX5_order_49 : decode cX5_order 49 = .ok (.aload_n 0, 1) := by decide +kernel
theorem dX5_order_50 : decode cX5_order 50 = .ok (.getfield 165, 3) := by decide +kernel
theorem dX5_order_53 : decode cX5_order 53 = .ok (.bipush 12, 2) := by decide +kernel
theorem dX5_order_55 : decode cX5_order 55 = .ok (.if_icmp .ne 7, 3) := by decide +kernel
theorem dX5_order_58 : decode cX5_order 58 = .ok (.iconst 2, 1) := by decide +kernel
theorem dX5_order_59 : decode cX5_order 59 = .ok (.goto 4, 3) := by decide +kernel
theorem dX5_order_62 : decode cX5_order 62 = .ok (.iconst 0, 1) := by decide +kernel
theorem dX5_order_63 : decode cX5_order 63 = .ok (.putfield 39, 3) := by decide +kernel
theorem dX5_order_66 : decode cX5_order 66 = .ok (.aload_n 0, 1) := by decide +kernel
theorem dX5_order_67 : decode cX5_order 67 = .ok (.getfield 39, 3) := by decide +kernel
theorem dX5_order_70 : decode cX5_order 70 = .ok (.ifCond .le 5, 3) := by decide +kernel
theorem dX5_order_73 : decode cX5_order 73 = .ok (.iconst 0, 1) := by decide +kernel
theorem dX5_order_74 : decode cX5_order 74 = .ok (.ireturn, 1) := by decide +kernel
theorem dX5_order_75 : decode cX5_order 75 = .ok (.aload_n 0, 1) := by decide +kernel
theorem dX5_order_76 : decode cX5_order 76 = .ok (.getfield 29, 3) := by decide +kernel
theorem dX5_order_79 : decode cX5_order 79 = .ok (.aload_n 0, 1) := by decide +kernel
theorem dX5_order_80 : decode cX5_order 80 = .ok (.getfield 165, 3) := by decide +kernel
theorem dX5_order_83 : decode cX5_order 83 = .ok (.iload_n 1, 1) := by decide +kernel
theorem dX5_order_84 : decode cX5_order 84 = .ok (.iastore, 1) := by decide +kernel
theorem dX5_order_85 : decode cX5_order 85 = .ok (.aload_n 0, 1) := by decide +kernel
theorem dX5_order_86 : decode cX5_order 86 = .ok (.getfield 32, 3) := by decide +kernel
theorem dX5_order_89 : decode cX5_order 89 = .ok (.aload_n 0, 1) := by decide +kernel
theorem dX5_order_90 : decode cX5_order 90 = .ok (.getfield 165, 3) := by decide +kernel
theorem dX5_order_93 : decode cX5_order 93 = .ok (.iload_n 2, 1) := by decide +kernel
theorem dX5_order_94 : decode cX5_order 94 = .ok (.iastore, 1) := by decide +kernel
theorem dX5_order_95 : decode cX5_order 95 = .ok (.aload_n 0, 1) := by decide +kernel
theorem dX5_order_96 : decode cX5_order 96 = .ok (.dup, 1) := by decide +kernel
theorem dX5_order_97 : decode cX5_order 97 = .ok (.getfield 165, 3) := by decide +kernel
theorem dX5_order_100 : decode cX5_order 100 = .ok (.iconst 1, 1) := by decide +kernel
theorem dX5_order_101 : decode cX5_order 101 = .ok (.iadd, 1) := by decide +kernel
theorem dX5_order_102 : decode cX5_order 102 = .ok (.putfield 165, 3) := by decide +kernel
theorem dX5_order_105 : decode cX5_order 105 = .ok (.aload_n 0, 1) := by decide +kernel
theorem dX5_order_106 : decode cX5_order 106 = .ok (.getfield 165, 3) := by decide +kernel
theorem dX5_order_109 : decode cX5_order 109 = .ok (.ireturn, 1) := by decide +kernel
theorem dX5_wipe_0 : decode cX5_wipe 0 = .ok (.aload_n 0, 1) := by decide +kernel
theorem dX5_wipe_1 : decode cX5_wipe 1 = .ok (.iconst 0, 1) := by decide +kernel
theorem dX5_wipe_2 : decode cX5_wipe 2 = .ok (.putfield 39, 3) := by decide +kernel
theorem dX5_wipe_5 : decode cX5_wipe 5 = .ok (.aload_n 0, 1) := by decide +kernel
theorem dX5_wipe_6 : decode cX5_wipe 6 = .ok (.getfield 165, 3) := by decide +kernel
theorem dX5_wipe_9 : decode cX5_wipe 9 = .ok (.istore_n 1, 1) := by decide +kernel
theorem dX5_wipe_10 : decode cX5_wipe 10 = .ok (.aload_n 0, 1) := by decide +kernel
theorem dX5_wipe_11 : decode cX5_wipe 11 = .ok (.iconst 0, 1) := by decide +kernel
theorem dX5_wipe_12 : decode cX5_wipe 12 = .ok (.putfield 165, 3) := by decide +kernel
theorem dX5_wipe_15 : decode cX5_wipe 15 = .ok (.iload_n 1, 1) := by decide +kernel
theorem dX5_wipe_16 : decode cX5_wipe 16 = .ok (.ireturn, 1) := by decide +kernel
theorem dX5_refusal_0 : decode cX5_refusal 0 = .ok (.iload_n 1, 1) := by decide +kernel
theorem dX5_refusal_1 : decode cX5_refusal 1 = .ok (.invokestatic 162, 3) := by decide +kernel
theorem dX5_refusal_4 : decode cX5_refusal 4 = .ok (.ifCond .ne 5, 3) := by decide +kernel
theorem dX5_refusal_7 : decode cX5_refusal 7 = .ok (.iconst 0, 1) := by decide +kernel
theorem dX5_refusal_8 : decode cX5_refusal 8 = .ok (.ireturn, 1) := by decide +kernel
theorem dX5_refusal_9 : decode cX5_refusal 9 = .ok (.iload_n 2, 1) := by decide +kernel
theorem dX5_refusal_10 : decode cX5_refusal 10 = .ok (.iconst 4, 1) := by decide +kernel
theorem dX5_refusal_11 : decode cX5_refusal 11 = .ok (.idiv, 1) := by decide +kernel
theorem dX5_refusal_12 : decode cX5_refusal 12 = .ok (.iload_n 3, 1) := by decide +kernel
theorem dX5_refusal_13 : decode cX5_refusal 13 = .ok (.if_icmp .ne 12, 3) := by decide +kernel
theorem dX5_refusal_16 : decode cX5_refusal 16 = .ok (.aload_n 0, 1) := by decide +kernel
theorem dX5_refusal_17 : decode cX5_refusal 17 = .ok (.getfield 7, 3) := by decide +kernel
theorem dX5_refusal_20 : decode cX5_refusal 20 = .ok (.iload_n 2, 1) := by decide +kernel
theorem dX5_refusal_21 : decode cX5_refusal 21 = .ok (.iaload, 1) := by decide +kernel
theorem dX5_refusal_22 : decode cX5_refusal 22 = .ok (.ifCond .ne 5, 3) := by decide +kernel
theorem dX5_refusal_25 : decode cX5_refusal 25 = .ok (.iconst 2, 1) := by decide +kernel
theorem dX5_refusal_26 : decode cX5_refusal 26 = .ok (.ireturn, 1) := by decide +kernel
theorem dX5_refusal_27 : decode cX5_refusal 27 = .ok (.iload_n 1, 1) := by decide +kernel
theorem dX5_refusal_28 : decode cX5_refusal 28 = .ok (.bipush 9, 2) := by decide +kernel
theorem dX5_refusal_30 : decode cX5_refusal 30 = .ok (.if_icmp .ne 22, 3) := by decide +kernel
theorem dX5_refusal_33 : decode cX5_refusal 33 = .ok (.iload_n 3, 1) := by decide +kernel
theorem dX5_refusal_34 : decode cX5_refusal 34 = .ok (.lload 4, 2) := by decide +kernel
theorem dX5_refusal_36 : decode cX5_refusal 36 = .ok (.aload_n 0, 1) := by decide +kernel
theorem dX5_refusal_37 : decode cX5_refusal 37 = .ok (.getfield 13, 3) := by decide +kernel
theorem dX5_refusal_40 : decode cX5_refusal 40 = .ok (.iload_n 2, 1) := by decide +kernel
theorem dX5_refusal_41 : decode cX5_refusal 41 = .ok (.laload, 1) := by decide +kernel
theorem dX5_refusal_42 : decode cX5_refusal 42 = .ok (.invokestatic 168, 3) := by decide +kernel
theorem dX5_refusal_45 : decode cX5_refusal 45 = .ok (.ifCond .eq 7, 3) := by decide +kernel
theorem dX5_refusal_48 : decode cX5_refusal 48 = .ok (.iconst 3, 1) := by decide +kernel
theorem dX5_refusal_49 : decode cX5_refusal 49 = .ok (.goto 4, 3) := by decide +kernel
theorem dX5_refusal_52 : decode cX5_refusal 52 = .ok (.iconst 0, 1) := by decide +kernel
theorem dX5_refusal_53 : decode cX5_refusal 53 = .ok (.ireturn, 1) := by decide +kernel
theorem dX5_does_0 : decode cX5_does 0 = .ok (.iload_n 1, 1) := by decide +kernel
theorem dX5_does_1 : decode cX5_does 1 = .ok (.tableswitch 212 0 11 #[63, 70, 78, 86, 94, 101, 132, 145, 158, 169, 182, 189], 63) := by decide +kernel
theorem dX5_does_64 : decode cX5_does 64 = .ok (.iload_n 3, 1) := by decide +kernel
theorem dX5_does_65 : decode cX5_does 65 = .ok (.lload 4, 2) := by decide +kernel
theorem dX5_does_67 : decode cX5_does 67 = .ok (.invokestatic 143, 3) := by decide +kernel
theorem dX5_does_70 : decode cX5_does 70 = .ok (.lreturn, 1) := by decide +kernel
theorem dX5_does_71 : decode cX5_does 71 = .ok (.iload_n 3, 1) := by decide +kernel
theorem dX5_does_72 : decode cX5_does 72 = .ok (.lload 4, 2) := by decide +kernel
theorem dX5_does_74 : decode cX5_does 74 = .ok (.iconst (-1), 1) := by decide +kernel
theorem dX5_does_75 : decode cX5_does 75 = .ok (.invokestatic 125, 3) := by decide +kernel
theorem dX5_does_78 : decode cX5_does 78 = .ok (.lreturn, 1) := by decide +kernel
theorem dX5_does_79 : decode cX5_does 79 = .ok (.iload_n 3, 1) := by decide +kernel
theorem dX5_does_80 : decode cX5_does 80 = .ok (.lload 4, 2) := by decide +kernel
theorem dX5_does_82 : decode cX5_does 82 = .ok (.iconst 1, 1) := by decide +kernel
theorem dX5_does_83 : decode cX5_does 83 = .ok (.invokestatic 125, 3) := by decide +kernel
theorem dX5_does_86 : decode cX5_does 86 = .ok (.lreturn, 1) := by decide +kernel
theorem dX5_does_87 : decode cX5_does 87 = .ok (.iload_n 3, 1) := by decide +kernel
theorem dX5_does_88 : decode cX5_does 88 = .ok (.lload 4, 2) := by decide +kernel
theorem dX5_does_90 : decode cX5_does 90 = .ok (.iconst 0, 1) := by decide +kernel
theorem dX5_does_91 : decode cX5_does 91 = .ok (.invokestatic 125, 3) := by decide +kernel
theorem dX5_does_94 : decode cX5_does 94 = .ok (.lreturn, 1) := by decide +kernel
theorem dX5_does_95 : decode cX5_does 95 = .ok (.iload_n 3, 1) := by decide +kernel
theorem dX5_does_96 : decode cX5_does 96 = .ok (.lload 4, 2) := by decide +kernel
theorem dX5_does_98 : decode cX5_does 98 = .ok (.invokestatic 140, 3) := by decide +kernel
theorem dX5_does_101 : decode cX5_does 101 = .ok (.lreturn, 1) := by decide +kernel
theorem dX5_does_102 : decode cX5_does 102 = .ok (.aload_n 0, 1) := by decide +kernel
theorem dX5_does_103 : decode cX5_does 103 = .ok (.getfield 13, 3) := by decide +kernel
theorem dX5_does_106 : decode cX5_does 106 = .ok (.iload_n 2, 1) := by decide +kernel
theorem dX5_does_107 : decode cX5_does 107 = .ok (.laload, 1) := by decide +kernel
theorem dX5_does_108 : decode cX5_does 108 = .ok (.lconst 0, 1) := by decide +kernel
theorem dX5_does_109 : decode cX5_does 109 = .ok (.lcmp, 1) := by decide +kernel
theorem dX5_does_110 : decode cX5_does 110 = .ok (.ifCond .ge 16, 3) := by decide +kernel
theorem dX5_does_113 : decode cX5_does 113 = .ok (.iload_n 3, 1) := by decide +kernel
theorem dX5_does_114 : decode cX5_does 114 = .ok (.iload_n 3, 1) := by decide +kernel
theorem dX5_does_115 : decode cX5_does 115 = .ok (.lload 4, 2) := by decide +kernel
theorem dX5_does_117 : decode cX5_does 117 = .ok (.invokestatic 143, 3) := by decide +kernel
theorem dX5_does_120 : decode cX5_does 120 = .ok (.invokestatic 90, 3) := by decide +kernel
theorem dX5_does_123 : decode cX5_does 123 = .ok (.goto 9, 3) := by decide +kernel
theorem dX5_does_126 : decode cX5_does 126 = .ok (.iload_n 3, 1) := by decide +kernel
theorem dX5_does_127 : decode cX5_does 127 = .ok (.lload 4, 2) := by decide +kernel
theorem dX5_does_129 : decode cX5_does 129 = .ok (.invokestatic 143, 3) := by decide +kernel
theorem dX5_does_132 : decode cX5_does 132 = .ok (.lreturn, 1) := by decide +kernel
theorem dX5_does_133 : decode cX5_does 133 = .ok (.iload_n 3, 1) := by decide +kernel
theorem dX5_does_134 : decode cX5_does 134 = .ok (.lload 4, 2) := by decide +kernel
theorem dX5_does_136 : decode cX5_does 136 = .ok (.aload_n 0, 1) := by decide +kernel
theorem dX5_does_137 : decode cX5_does 137 = .ok (.getfield 13, 3) := by decide +kernel
theorem dX5_does_140 : decode cX5_does 140 = .ok (.iload_n 2, 1) := by decide +kernel
theorem dX5_does_141 : decode cX5_does 141 = .ok (.laload, 1) := by decide +kernel
theorem dX5_does_142 : decode cX5_does 142 = .ok (.invokestatic 146, 3) := by decide +kernel
theorem dX5_does_145 : decode cX5_does 145 = .ok (.lreturn, 1) := by decide +kernel
theorem dX5_does_146 : decode cX5_does 146 = .ok (.iload_n 3, 1) := by decide +kernel
theorem dX5_does_147 : decode cX5_does 147 = .ok (.lload 4, 2) := by decide +kernel
theorem dX5_does_149 : decode cX5_does 149 = .ok (.aload_n 0, 1) := by decide +kernel
theorem dX5_does_150 : decode cX5_does 150 = .ok (.getfield 13, 3) := by decide +kernel
theorem dX5_does_153 : decode cX5_does 153 = .ok (.iload_n 2, 1) := by decide +kernel
theorem dX5_does_154 : decode cX5_does 154 = .ok (.laload, 1) := by decide +kernel
theorem dX5_does_155 : decode cX5_does 155 = .ok (.invokestatic 149, 3) := by decide +kernel
theorem dX5_does_158 : decode cX5_does 158 = .ok (.lreturn, 1) := by decide +kernel
theorem dX5_does_159 : decode cX5_does 159 = .ok (.iload_n 3, 1) := by decide +kernel
theorem dX5_does_160 : decode cX5_does 160 = .ok (.lload 4, 2) := by decide +kernel
theorem dX5_does_162 : decode cX5_does 162 = .ok (.iload_n 2, 1) := by decide +kernel
theorem dX5_does_163 : decode cX5_does 163 = .ok (.bipush 10, 2) := by decide +kernel
theorem dX5_does_165 : decode cX5_does 165 = .ok (.isub, 1) := by decide +kernel
theorem dX5_does_166 : decode cX5_does 166 = .ok (.invokestatic 172, 3) := by decide +kernel
theorem dX5_does_169 : decode cX5_does 169 = .ok (.lreturn, 1) := by decide +kernel
theorem dX5_does_170 : decode cX5_does 170 = .ok (.iload_n 3, 1) := by decide +kernel
theorem dX5_does_171 : decode cX5_does 171 = .ok (.lload 4, 2) := by decide +kernel
theorem dX5_does_173 : decode cX5_does 173 = .ok (.aload_n 0, 1) := by decide +kernel
theorem dX5_does_174 : decode cX5_does 174 = .ok (.getfield 13, 3) := by decide +kernel
theorem dX5_does_177 : decode cX5_does 177 = .ok (.iload_n 2, 1) := by decide +kernel
theorem dX5_does_178 : decode cX5_does 178 = .ok (.laload, 1) := by decide +kernel
theorem dX5_does_179 : decode cX5_does 179 = .ok (.invokestatic 175, 3) := by decide +kernel
theorem dX5_does_182 : decode cX5_does 182 = .ok (.lreturn, 1) := by decide +kernel
theorem dX5_does_183 : decode cX5_does 183 = .ok (.iload_n 3, 1) := by decide +kernel
theorem dX5_does_184 : decode cX5_does 184 = .ok (.lload 4, 2) := by decide +kernel
theorem dX5_does_186 : decode cX5_does 186 = .ok (.invokestatic 90, 3) := by decide +kernel
theorem dX5_does_189 : decode cX5_does 189 = .ok (.lreturn, 1) := by decide +kernel
theorem dX5_does_190 : decode cX5_does 190 = .ok (.iload_n 3, 1) := by decide +kernel
theorem dX5_does_191 : decode cX5_does 191 = .ok (.aload_n 0, 1) := by decide +kernel
theorem dX5_does_192 : decode cX5_does 192 = .ok (.getfield 17, 3) := by decide +kernel
theorem dX5_does_195 : decode cX5_does 195 = .ok (.iload_n 2, 1) := by decide +kernel
theorem dX5_does_196 : decode cX5_does 196 = .ok (.laload, 1) := by decide +kernel
theorem dX5_does_197 : decode cX5_does 197 = .ok (.iload_n 3, 1) := by decide +kernel
theorem dX5_does_198 : decode cX5_does 198 = .ok (.lload 4, 2) := by decide +kernel
theorem dX5_does_200 : decode cX5_does 200 = .ok (.aload_n 0, 1) := by decide +kernel
theorem dX5_does_201 : decode cX5_does 201 = .ok (.getfield 20, 3) := by decide +kernel
theorem dX5_does_204 : decode cX5_does 204 = .ok (.iload_n 2, 1) := by decide +kernel
theorem dX5_does_205 : decode cX5_does 205 = .ok (.laload, 1) := by decide +kernel
theorem dX5_does_206 : decode cX5_does 206 = .ok (.invokestatic 149, 3) := by decide +kernel
theorem dX5_does_209 : decode cX5_does 209 = .ok (.invokestatic 146, 3) := by decide +kernel
theorem dX5_does_212 : decode cX5_does 212 = .ok (.lreturn, 1) := by decide +kernel
theorem dX5_does_213 : decode cX5_does 213 = .ok (.iload_n 3, 1) := by decide +kernel
theorem dX5_does_214 : decode cX5_does 214 = .ok (.lload 4, 2) := by decide +kernel
theorem dX5_does_216 : decode cX5_does 216 = .ok (.invokestatic 178, 3) := by decide +kernel
theorem dX5_does_219 : decode cX5_does 219 = .ok (.lreturn, 1) := by decide +kernel
theorem dX5_done_0 : decode cX5_done 0 = .ok (.aload_n 0, 1) := by decide +kernel
theorem dX5_done_1 : decode cX5_done 1 = .ok (.iconst (-1), 1) := by decide +kernel
theorem dX5_done_2 : decode cX5_done 2 = .ok (.putfield 35, 3) := by decide +kernel
theorem dX5_done_5 : decode cX5_done 5 = .ok (.aload_n 0, 1) := by decide +kernel
theorem dX5_done_6 : decode cX5_done 6 = .ok (.iload_n 1, 1) := by decide +kernel
theorem dX5_done_7 : decode cX5_done 7 = .ok (.invokestatic 152, 3) := by decide +kernel
theorem dX5_done_10 : decode cX5_done 10 = .ok (.ifCond .ne 7, 3) := by decide +kernel
theorem dX5_done_13 : decode cX5_done 13 = .ok (.iconst 1, 1) := by decide +kernel
theorem dX5_done_14 : decode cX5_done 14 = .ok (.goto 17, 3) := by decide +kernel
theorem dX5_done_17 : decode cX5_done 17 = .ok (.aload_n 0, 1) := by decide +kernel
theorem dX5_done_18 : decode cX5_done 18 = .ok (.getfield 7, 3) := by decide +kernel
theorem dX5_done_21 : decode cX5_done 21 = .ok (.iload_n 1, 1) := by decide +kernel
theorem dX5_done_22 : decode cX5_done 22 = .ok (.iaload, 1) := by decide +kernel
theorem dX5_done_23 : decode cX5_done 23 = .ok (.ifCond .ne 7, 3) := by decide +kernel
theorem dX5_done_26 : decode cX5_done 26 = .ok (.iconst 2, 1) := by decide +kernel
theorem dX5_done_27 : decode cX5_done 27 = .ok (.goto 4, 3) := by decide +kernel
theorem dX5_done_30 : decode cX5_done 30 = .ok (.iconst 0, 1) := by decide +kernel
theorem dX5_done_31 : decode cX5_done 31 = .ok (.putfield 39, 3) := by decide +kernel
theorem dX5_done_34 : decode cX5_done 34 = .ok (.aload_n 0, 1) := by decide +kernel
theorem dX5_done_35 : decode cX5_done 35 = .ok (.getfield 39, 3) := by decide +kernel
theorem dX5_done_38 : decode cX5_done 38 = .ok (.ifCond .le 5, 3) := by decide +kernel
theorem dX5_done_41 : decode cX5_done 41 = .ok (.lconst 0, 1) := by decide +kernel
theorem dX5_done_42 : decode cX5_done 42 = .ok (.lreturn, 1) := by decide +kernel
theorem dX5_done_43 : decode cX5_done 43 = .ok (.iload_n 1, 1) := by decide +kernel
theorem dX5_done_44 : decode cX5_done 44 = .ok (.iconst 4, 1) := by decide +kernel
theorem dX5_done_45 : decode cX5_done 45 = .ok (.idiv, 1) := by decide +kernel
theorem dX5_done_46 : decode cX5_done 46 = .ok (.istore_n 2, 1) := by decide +kernel
theorem dX5_done_47 : decode cX5_done 47 = .ok (.aload_n 0, 1) := by decide +kernel
theorem dX5_done_48 : decode cX5_done 48 = .ok (.getfield 13, 3) := by decide +kernel
theorem dX5_done_51 : decode cX5_done 51 = .ok (.iload_n 1, 1) := by decide +kernel
theorem dX5_done_52 : decode cX5_done 52 = .ok (.laload, 1) := by decide +kernel
theorem dX5_done_53 : decode cX5_done 53 = .ok (.lstore_n 3, 1) := by decide +kernel
theorem dX5_done_54 : decode cX5_done 54 = .ok (.iconst 0, 1) := by decide +kernel
theorem dX5_done_55 : decode cX5_done 55 = .ok (.istore 5, 2) := by decide +kernel
theorem dX5_done_57 : decode cX5_done 57 = .ok (.iload 5, 2) := by decide +kernel
theorem dX5_done_59 : decode cX5_done 59 = .ok (.aload_n 0, 1) := by decide +kernel
theorem dX5_done_60 : decode cX5_done 60 = .ok (.getfield 165, 3) := by decide +kernel
theorem dX5_done_63 : decode cX5_done 63 = .ok (.if_icmp .ge 77, 3) := by decide +kernel
theorem dX5_done_66 : decode cX5_done 66 = .ok (.aload_n 0, 1) := by decide +kernel
theorem dX5_done_67 : decode cX5_done 67 = .ok (.getfield 39, 3) := by decide +kernel
theorem dX5_done_70 : decode cX5_done 70 = .ok (.ifCond .ne 70, 3) := by decide +kernel
theorem dX5_done_73 : decode cX5_done 73 = .ok (.aload_n 0, 1) := by decide +kernel
theorem dX5_done_74 : decode cX5_done 74 = .ok (.aload_n 0, 1) := by decide +kernel
theorem dX5_done_75 : decode cX5_done 75 = .ok (.aload_n 0, 1) := by decide +kernel
theorem dX5_done_76 : decode cX5_done 76 = .ok (.getfield 29, 3) := by decide +kernel
theorem dX5_done_79 : decode cX5_done 79 = .ok (.iload 5, 2) := by decide +kernel
theorem dX5_done_81 : decode cX5_done 81 = .ok (.iaload, 1) := by decide +kernel
theorem dX5_done_82 : decode cX5_done 82 = .ok (.aload_n 0, 1) := by decide +kernel
theorem dX5_done_83 : decode cX5_done 83 = .ok (.getfield 32, 3) := by decide +kernel
theorem dX5_done_86 : decode cX5_done 86 = .ok (.iload 5, 2) := by decide +kernel
theorem dX5_done_88 : decode cX5_done 88 = .ok (.iaload, 1) := by decide +kernel
theorem dX5_done_89 : decode cX5_done 89 = .ok (.iload_n 2, 1) := by decide +kernel
theorem dX5_done_90 : decode cX5_done 90 = .ok (.lload_n 3, 1) := by decide +kernel
theorem dX5_done_91 : decode cX5_done 91 = .ok (.invokevirtual 181, 3) := by decide +kernel
theorem dX5_done_94 : decode cX5_done 94 = .ok (.putfield 39, 3) := by decide +kernel
theorem dX5_done_97 : decode cX5_done 97 = .ok (.aload_n 0, 1) := by decide +kernel
theorem dX5_done_98 : decode cX5_done 98 = .ok (.getfield 39, 3) := by decide +kernel
theorem dX5_done_101 : decode cX5_done 101 = .ok (.ifCond .ne 27, 3) := by decide +kernel
theorem dX5_done_104 : decode cX5_done 104 = .ok (.aload_n 0, 1) := by decide +kernel
theorem dX5_done_105 : decode cX5_done 105 = .ok (.aload_n 0, 1) := by decide +kernel
theorem dX5_done_106 : decode cX5_done 106 = .ok (.getfield 29, 3) := by decide +kernel
theorem dX5_done_109 : decode cX5_done 109 = .ok (.iload 5, 2) := by decide +kernel
theorem dX5_done_111 : decode cX5_done 111 = .ok (.iaload, 1) := by decide +kernel
theorem dX5_done_112 : decode cX5_done 112 = .ok (.aload_n 0, 1) := by decide +kernel
theorem dX5_done_113 : decode cX5_done 113 = .ok (.getfield 32, 3) := by decide +kernel
theorem dX5_done_116 : decode cX5_done 116 = .ok (.iload 5, 2) := by decide +kernel
theorem dX5_done_118 : decode cX5_done 118 = .ok (.iaload, 1) := by decide +kernel
theorem dX5_done_119 : decode cX5_done 119 = .ok (.iload_n 2, 1) := by decide +kernel
theorem dX5_done_120 : decode cX5_done 120 = .ok (.lload_n 3, 1) := by decide +kernel
theorem dX5_done_121 : decode cX5_done 121 = .ok (.invokevirtual 185, 3) := by decide +kernel
theorem dX5_done_124 : decode cX5_done 124 = .ok (.lstore_n 3, 1) := by decide +kernel
theorem dX5_done_125 : decode cX5_done 125 = .ok (.goto 9, 3) := by decide +kernel
theorem dX5_done_128 : decode cX5_done 128 = .ok (.aload_n 0, 1) := by decide +kernel
theorem dX5_done_129 : decode cX5_done 129 = .ok (.iload 5, 2) := by decide +kernel
theorem dX5_done_131 : decode cX5_done 131 = .ok (.putfield 35, 3) := by decide +kernel
theorem dX5_done_134 : decode cX5_done 134 = .ok (.iinc 5 1, 3) := by decide +kernel
theorem dX5_done_137 : decode cX5_done 137 = .ok (.goto (-80), 3) := by decide +kernel
theorem dX5_done_140 : decode cX5_done 140 = .ok (.aload_n 0, 1) := by decide +kernel
theorem dX5_done_141 : decode cX5_done 141 = .ok (.getfield 39, 3) := by decide +kernel
theorem dX5_done_144 : decode cX5_done 144 = .ok (.ifCond .le 7, 3) := by decide +kernel
theorem dX5_done_147 : decode cX5_done 147 = .ok (.lconst 0, 1) := by decide +kernel
theorem dX5_done_148 : decode cX5_done 148 = .ok (.goto 4, 3) := by decide +kernel
theorem dX5_done_151 : decode cX5_done 151 = .ok (.lload_n 3, 1) := by decide +kernel
theorem dX5_done_152 : decode cX5_done 152 = .ok (.lreturn, 1) := by decide +kernel
theorem dX5_show_0 : decode cX5_show 0 = .ok (.aload_n 0, 1) := by decide +kernel
theorem dX5_show_1 : decode cX5_show 1 = .ok (.iload_n 1, 1) := by decide +kernel
theorem dX5_show_2 : decode cX5_show 2 = .ok (.invokevirtual 189, 3) := by decide +kernel
theorem dX5_show_5 : decode cX5_show 5 = .ok (.lreturn, 1) := by decide +kernel
theorem dX5_keep_0 : decode cX5_keep 0 = .ok (.aload_n 0, 1) := by decide +kernel
theorem dX5_keep_1 : decode cX5_keep 1 = .ok (.iload_n 1, 1) := by decide +kernel
theorem dX5_keep_2 : decode cX5_keep 2 = .ok (.invokevirtual 189, 3) := by decide +kernel
theorem dX5_keep_5 : decode cX5_keep 5 = .ok (.lstore_n 2, 1) := by decide +kernel
theorem dX5_keep_6 : decode cX5_keep 6 = .ok (.aload_n 0, 1) := by decide +kernel
theorem dX5_keep_7 : decode cX5_keep 7 = .ok (.getfield 39, 3) := by decide +kernel
theorem dX5_keep_10 : decode cX5_keep 10 = .ok (.ifCond .le 7, 3) := by decide +kernel
theorem dX5_keep_13 : decode cX5_keep 13 = .ok (.iconst 0, 1) := by decide +kernel
theorem dX5_keep_14 : decode cX5_keep 14 = .ok (.goto 9, 3) := by decide +kernel
theorem dX5_keep_17 : decode cX5_keep 17 = .ok (.aload_n 0, 1) := by decide +kernel
theorem dX5_keep_18 : decode cX5_keep 18 = .ok (.iload_n 1, 1) := by decide +kernel
theorem dX5_keep_19 : decode cX5_keep 19 = .ok (.lload_n 2, 1) := by decide +kernel
theorem dX5_keep_20 : decode cX5_keep 20 = .ok (.invokevirtual 158, 3) := by decide +kernel
theorem dX5_keep_23 : decode cX5_keep 23 = .ok (.ireturn, 1) := by decide +kernel
theorem dX5_failed_0 : decode cX5_failed 0 = .ok (.aload_n 0, 1) := by decide +kernel
theorem dX5_failed_1 : decode cX5_failed 1 = .ok (.iconst 0, 1) := by decide +kernel
theorem dX5_failed_2 : decode cX5_failed 2 = .ok (.putfield 39, 3) := by decide +kernel
theorem dX5_failed_5 : decode cX5_failed 5 = .ok (.aload_n 0, 1) := by decide +kernel
theorem dX5_failed_6 : decode cX5_failed 6 = .ok (.getfield 35, 3) := by decide +kernel
theorem dX5_failed_9 : decode cX5_failed 9 = .ok (.ireturn, 1) := by decide +kernel
theorem dX5_reach_0 : decode cX5_reach 0 = .ok (.aload_n 0, 1) := by decide +kernel
theorem dX5_reach_1 : decode cX5_reach 1 = .ok (.iload_n 1, 1) := by decide +kernel
theorem dX5_reach_2 : decode cX5_reach 2 = .ok (.invokestatic 152, 3) := by decide +kernel
theorem dX5_reach_5 : decode cX5_reach 5 = .ok (.ifCond .eq 10, 3) := by decide +kernel
theorem dX5_reach_8 : decode cX5_reach 8 = .ok (.iload_n 2, 1) := by decide +kernel
theorem dX5_reach_9 : decode cX5_reach 9 = .ok (.invokestatic 152, 3) := by decide +kernel
theorem dX5_reach_12 : decode cX5_reach 12 = .ok (.ifCond .ne 7, 3) := by decide +kernel
theorem dX5_reach_15 : decode cX5_reach 15 = .ok (.iconst 1, 1) := by decide +kernel
theorem dX5_reach_16 : decode cX5_reach 16 = .ok (.goto 35, 3) := by decide +kernel
theorem dX5_reach_19 : decode cX5_reach 19 = .ok (.iload_n 1, 1) := by decide +kernel
theorem dX5_reach_20 : decode cX5_reach 20 = .ok (.iconst 4, 1) := by decide +kernel
theorem dX5_reach_21 : decode cX5_reach 21 = .ok (.idiv, 1) := by decide +kernel
theorem dX5_reach_22 : decode cX5_reach 22 = .ok (.iload_n 2, 1) := by decide +kernel
theorem dX5_reach_23 : decode cX5_reach 23 = .ok (.iconst 4, 1) := by decide +kernel
theorem dX5_reach_24 : decode cX5_reach 24 = .ok (.idiv, 1) := by decide +kernel
theorem dX5_reach_25 : decode cX5_reach 25 = .ok (.if_icmp .ne 21, 3) := by decide +kernel
theorem dX5_reach_28 : decode cX5_reach 28 = .ok (.aload_n 0, 1) := by decide +kernel
theorem dX5_reach_29 : decode cX5_reach 29 = .ok (.getfield 7, 3) := by decide +kernel
theorem dX5_reach_32 : decode cX5_reach 32 = .ok (.iload_n 1, 1) := by decide +kernel
theorem dX5_reach_33 : decode cX5_reach 33 = .ok (.iaload, 1) := by decide +kernel
theorem dX5_reach_34 : decode cX5_reach 34 = .ok (.ifCond .eq 12, 3) := by decide +kernel
theorem dX5_reach_37 : decode cX5_reach 37 = .ok (.aload_n 0, 1) := by decide +kernel
theorem dX5_reach_38 : decode cX5_reach 38 = .ok (.getfield 7, 3) := by decide +kernel
theorem dX5_reach_41 : decode cX5_reach 41 = .ok (.iload_n 2, 1) := by decide +kernel
theorem dX5_reach_42 : decode cX5_reach 42 = .ok (.iaload, 1) := by decide +kernel
theorem dX5_reach_43 : decode cX5_reach 43 = .ok (.ifCond .ne 7, 3) := by decide +kernel
theorem dX5_reach_46 : decode cX5_reach 46 = .ok (.iconst 2, 1) := by decide +kernel
theorem dX5_reach_47 : decode cX5_reach 47 = .ok (.goto 4, 3) := by decide +kernel
theorem dX5_reach_50 : decode cX5_reach 50 = .ok (.iconst 0, 1) := by decide +kernel
theorem dX5_reach_51 : decode cX5_reach 51 = .ok (.putfield 39, 3) := by decide +kernel
theorem dX5_reach_54 : decode cX5_reach 54 = .ok (.aload_n 0, 1) := by decide +kernel
theorem dX5_reach_55 : decode cX5_reach 55 = .ok (.getfield 39, 3) := by decide +kernel
theorem dX5_reach_58 : decode cX5_reach 58 = .ok (.ifCond .le 5, 3) := by decide +kernel
theorem dX5_reach_61 : decode cX5_reach 61 = .ok (.lconst 0, 1) := by decide +kernel
theorem dX5_reach_62 : decode cX5_reach 62 = .ok (.lreturn, 1) := by decide +kernel
theorem dX5_reach_63 : decode cX5_reach 63 = .ok (.iload_n 1, 1) := by decide +kernel
theorem dX5_reach_64 : decode cX5_reach 64 = .ok (.iconst 4, 1) := by decide +kernel
theorem dX5_reach_65 : decode cX5_reach 65 = .ok (.idiv, 1) := by decide +kernel
theorem dX5_reach_66 : decode cX5_reach 66 = .ok (.istore_n 3, 1) := by decide +kernel
theorem dX5_reach_67 : decode cX5_reach 67 = .ok (.iload_n 3, 1) := by decide +kernel
theorem dX5_reach_68 : decode cX5_reach 68 = .ok (.aload_n 0, 1) := by decide +kernel
theorem dX5_reach_69 : decode cX5_reach 69 = .ok (.getfield 13, 3) := by decide +kernel
theorem dX5_reach_72 : decode cX5_reach 72 = .ok (.iload_n 1, 1) := by decide +kernel
theorem dX5_reach_73 : decode cX5_reach 73 = .ok (.laload, 1) := by decide +kernel
theorem dX5_reach_74 : decode cX5_reach 74 = .ok (.invokestatic 143, 3) := by decide +kernel
theorem dX5_reach_77 : decode cX5_reach 77 = .ok (.lstore 4, 2) := by decide +kernel
theorem dX5_reach_79 : decode cX5_reach 79 = .ok (.iload_n 3, 1) := by decide +kernel
theorem dX5_reach_80 : decode cX5_reach 80 = .ok (.aload_n 0, 1) := by decide +kernel
theorem dX5_reach_81 : decode cX5_reach 81 = .ok (.getfield 13, 3) := by decide +kernel
theorem dX5_reach_84 : decode cX5_reach 84 = .ok (.iload_n 2, 1) := by decide +kernel
theorem dX5_reach_85 : decode cX5_reach 85 = .ok (.laload, 1) := by decide +kernel
theorem dX5_reach_86 : decode cX5_reach 86 = .ok (.invokestatic 143, 3) := by decide +kernel
theorem dX5_reach_89 : decode cX5_reach 89 = .ok (.lstore 6, 2) := by decide +kernel
theorem dX5_reach_91 : decode cX5_reach 91 = .ok (.iload_n 3, 1) := by decide +kernel
theorem dX5_reach_92 : decode cX5_reach 92 = .ok (.lload 4, 2) := by decide +kernel
theorem dX5_reach_94 : decode cX5_reach 94 = .ok (.lload 6, 2) := by decide +kernel
theorem dX5_reach_96 : decode cX5_reach 96 = .ok (.invokestatic 146, 3) := by decide +kernel
theorem dX5_reach_99 : decode cX5_reach 99 = .ok (.lstore 8, 2) := by decide +kernel
theorem dX5_reach_101 : decode cX5_reach 101 = .ok (.iload_n 3, 1) := by decide +kernel
theorem dX5_reach_102 : decode cX5_reach 102 = .ok (.lload 4, 2) := by decide +kernel
theorem dX5_reach_104 : decode cX5_reach 104 = .ok (.lload 6, 2) := by decide +kernel
theorem dX5_reach_106 : decode cX5_reach 106 = .ok (.invokestatic 149, 3) := by decide +kernel
theorem dX5_reach_109 : decode cX5_reach 109 = .ok (.lstore 10, 2) := by decide +kernel
theorem dX5_reach_111 : decode cX5_reach 111 = .ok (.iload_n 3, 1) := by decide +kernel
theorem dX5_reach_112 : decode cX5_reach 112 = .ok (.invokestatic 74, 3) := by decide +kernel
theorem dX5_reach_115 : decode cX5_reach 115 = .ok (.ifCond .eq 15, 3) := by decide +kernel
theorem dX5_reach_118 : decode cX5_reach 118 = .ok (.iload_n 3, 1) := by decide +kernel
theorem dX5_reach_119 : decode cX5_reach 119 = .ok (.lload 8, 2) := by decide +kernel
theorem dX5_reach_121 : decode cX5_reach 121 = .ok (.lload 10, 2) := by decide +kernel
theorem dX5_reach_123 : decode cX5_reach 123 = .ok (.iconst 1, 1) := by decide +kernel
theorem dX5_reach_124 : decode cX5_reach 124 = .ok (.lshr, 1) := by decide +kernel
theorem dX5_reach_125 : decode cX5_reach 125 = .ok (.ladd, 1) := by decide +kernel
theorem dX5_reach_126 : decode cX5_reach 126 = .ok (.invokestatic 84, 3) := by decide +kernel
theorem dX5_reach_129 : decode cX5_reach 129 = .ok (.lreturn, 1) := by decide +kernel
theorem dX5_reach_130 : decode cX5_reach 130 = .ok (.iload_n 3, 1) := by decide +kernel
theorem dX5_reach_131 : decode cX5_reach 131 = .ok (.iload_n 3, 1) := by decide +kernel
theorem dX5_reach_132 : decode cX5_reach 132 = .ok (.lload 10, 2) := by decide +kernel
theorem dX5_reach_134 : decode cX5_reach 134 = .ok (.invokestatic 109, 3) := by decide +kernel
theorem dX5_reach_137 : decode cX5_reach 137 = .ok (.ldc2_w 105, 3) := by decide +kernel
theorem dX5_reach_140 : decode cX5_reach 140 = .ok (.dmul, 1) := by decide +kernel
theorem dX5_reach_141 : decode cX5_reach 141 = .ok (.invokestatic 117, 3) := by decide +kernel
theorem dX5_reach_144 : decode cX5_reach 144 = .ok (.lstore 12, 2) := by decide +kernel
theorem dX5_reach_146 : decode cX5_reach 146 = .ok (.iload_n 3, 1) := by decide +kernel
theorem dX5_reach_147 : decode cX5_reach 147 = .ok (.iload_n 3, 1) := by decide +kernel
theorem dX5_reach_148 : decode cX5_reach 148 = .ok (.lload 8, 2) := by decide +kernel
theorem dX5_reach_150 : decode cX5_reach 150 = .ok (.invokestatic 109, 3) := by decide +kernel
theorem dX5_reach_153 : decode cX5_reach 153 = .ok (.iload_n 3, 1) := by decide +kernel
theorem dX5_reach_154 : decode cX5_reach 154 = .ok (.lload 12, 2) := by decide +kernel
theorem dX5_reach_156 : decode cX5_reach 156 = .ok (.invokestatic 109, 3) := by decide +kernel
theorem dX5_reach_159 : decode cX5_reach 159 = .ok (.dadd, 1) := by decide +kernel
theorem dX5_reach_160 : decode cX5_reach 160 = .ok (.invokestatic 117, 3) := by decide +kernel
theorem dX5_reach_163 : decode cX5_reach 163 = .ok (.lreturn, 1) := by decide +kernel
theorem dX5_top_0 : decode cX5_top 0 = .ok (.aload_n 0, 1) := by decide +kernel
theorem dX5_top_1 : decode cX5_top 1 = .ok (.iload_n 1, 1) := by decide +kernel
theorem dX5_top_2 : decode cX5_top 2 = .ok (.ifCond .lt 8, 3) := by decide +kernel
theorem dX5_top_5 : decode cX5_top 5 = .ok (.iload_n 1, 1) := by decide +kernel
theorem dX5_top_6 : decode cX5_top 6 = .ok (.iconst 3, 1) := by decide +kernel
theorem dX5_top_7 : decode cX5_top 7 = .ok (.if_icmp .le 7, 3) := by decide +kernel
theorem dX5_top_10 : decode cX5_top 10 = .ok (.iconst 1, 1) := by decide +kernel
theorem dX5_top_11 : decode cX5_top 11 = .ok (.goto 4, 3) := by decide +kernel
theorem dX5_top_14 : decode cX5_top 14 = .ok (.iconst 0, 1) := by decide +kernel
theorem dX5_top_15 : decode cX5_top 15 = .ok (.putfield 39, 3) := by decide +kernel
theorem dX5_top_18 : decode cX5_top 18 = .ok (.aload_n 0, 1) := by decide +kernel
theorem dX5_top_19 : decode cX5_top 19 = .ok (.getfield 39, 3) := by decide +kernel
theorem dX5_top_22 : decode cX5_top 22 = .ok (.ifCond .le 5, 3) := by decide +kernel
theorem dX5_top_25 : decode cX5_top 25 = .ok (.iconst 0, 1) := by decide +kernel
theorem dX5_top_26 : decode cX5_top 26 = .ok (.ireturn, 1) := by decide +kernel
theorem dX5_top_27 : decode cX5_top 27 = .ok (.iconst (-1), 1) := by decide +kernel
theorem dX5_top_28 : decode cX5_top 28 = .ok (.istore_n 3, 1) := by decide +kernel
theorem dX5_top_29 : decode cX5_top 29 = .ok (.iconst 4, 1) := by decide +kernel
theorem dX5_top_30 : decode cX5_top 30 = .ok (.iload_n 1, 1) := by decide +kernel
theorem dX5_top_31 : decode cX5_top 31 = .ok (.imul, 1) := by decide +kernel
theorem dX5_top_32 : decode cX5_top 32 = .ok (.istore 4, 2) := by decide +kernel
theorem dX5_top_34 : decode cX5_top 34 = .ok (.iload 4, 2) := by decide +kernel
