theorem dX0_init_0 : decode cX0_init 0 = .ok (.aload_n 0, 1) := by decide +kernel
theorem dX0_init_1 : decode cX0_init 1 = .ok (.invokespecial 1, 3) := by decide +kernel
theorem dX0_init_4 : decode cX0_init 4 = .ok (.aload_n 0, 1) := by decide +kernel
theorem dX0_init_5 : decode cX0_init 5 = .ok (.iconst 0, 1) := by decide +kernel
theorem dX0_init_6 : decode cX0_init 6 = .ok (.putfield 7, 3) := by decide +kernel
theorem dX0_init_9 : decode cX0_init 9 = .ok (.aload_n 0, 1) := by decide +kernel
theorem dX0_init_10 : decode cX0_init 10 = .ok (.lconst 0, 1) := by decide +kernel
theorem dX0_init_11 : decode cX0_init 11 = .ok (.putfield 13, 3) := by decide +kernel
theorem dX0_init_14 : decode cX0_init 14 = .ok (.aload_n 0, 1) := by decide +kernel
theorem dX0_init_15 : decode cX0_init 15 = .ok (.lconst 0, 1) := by decide +kernel
theorem dX0_init_16 : decode cX0_init 16 = .ok (.putfield 17, 3) := by decide +kernel
theorem dX0_init_19 : decode cX0_init 19 = .ok (.aload_n 0, 1) := by decide +kernel
theorem dX0_init_20 : decode cX0_init 20 = .ok (.lconst 0, 1) := by decide +kernel
theorem dX0_init_21 : decode cX0_init 21 = .ok (.putfield 20, 3) := by decide +kernel
theorem dX0_init_24 : decode cX0_init 24 = .ok (.aload_n 0, 1) := by decide +kernel
theorem dX0_init_25 : decode cX0_init 25 = .ok (.lconst 0, 1) := by decide +kernel
theorem dX0_init_26 : decode cX0_init 26 = .ok (.putfield 23, 3) := by decide +kernel
theorem dX0_init_29 : decode cX0_init 29 = .ok (.aload_n 0, 1) := by decide +kernel
theorem dX0_init_30 : decode cX0_init 30 = .ok (.lconst 0, 1) := by decide +kernel
theorem dX0_init_31 : decode cX0_init 31 = .ok (.putfield 26, 3) := by decide +kernel
theorem dX0_init_34 : decode cX0_init 34 = .ok (.aload_n 0, 1) := by decide +kernel
theorem dX0_init_35 : decode cX0_init 35 = .ok (.aload_n 1, 1) := by decide +kernel
theorem dX0_init_36 : decode cX0_init 36 = .ok (.putfield 29, 3) := by decide +kernel
theorem dX0_init_39 : decode cX0_init 39 = .ok (.return_, 1) := by decide +kernel
theorem dX0_take_0 : decode cX0_take 0 = .ok (.aload_n 0, 1) := by decide +kernel
theorem dX0_take_1 : decode cX0_take 1 = .ok (.getfield 7, 3) := by decide +kernel
theorem dX0_take_4 : decode cX0_take 4 = .ok (.ifCond .ne 16, 3) := by decide +kernel
theorem dX0_take_7 : decode cX0_take 7 = .ok (.aload_n 0, 1) := by decide +kernel
theorem dX0_take_8 : decode cX0_take 8 = .ok (.lload_n 1, 1) := by decide +kernel
theorem dX0_take_9 : decode cX0_take 9 = .ok (.putfield 17, 3) := by decide +kernel
theorem dX0_take_12 : decode cX0_take 12 = .ok (.aload_n 0, 1) := by decide +kernel
theorem dX0_take_13 : decode cX0_take 13 = .ok (.lload_n 1, 1) := by decide +kernel
theorem dX0_take_14 : decode cX0_take 14 = .ok (.putfield 20, 3) := by decide +kernel
theorem dX0_take_17 : decode cX0_take 17 = .ok (.goto 83, 3) := by decide +kernel
theorem dX0_take_20 : decode cX0_take 20 = .ok (.aload_n 0, 1) := by decide +kernel
theorem dX0_take_21 : decode cX0_take 21 = .ok (.getfield 29, 3) := by decide +kernel
theorem dX0_take_24 : decode cX0_take 24 = .ok (.aload_n 0, 1) := by decide +kernel
theorem dX0_take_25 : decode cX0_take 25 = .ok (.getfield 13, 3) := by decide +kernel
theorem dX0_take_28 : decode cX0_take 28 = .ok (.lload_n 1, 1) := by decide +kernel
theorem dX0_take_29 : decode cX0_take 29 = .ok (.invokevirtual 33, 3) := by decide +kernel
theorem dX0_take_32 : decode cX0_take 32 = .ok (.lstore_n 3, 1) := by decide +kernel
theorem dX0_take_33 : decode cX0_take 33 = .ok (.aload_n 0, 1) := by decide +kernel
theorem dX0_take_34 : decode cX0_take 34 = .ok (.aload_n 0, 1) := by decide +kernel
theorem dX0_take_35 : decode cX0_take 35 = .ok (.getfield 29, 3) := by decide +kernel
theorem dX0_take_38 : decode cX0_take 38 = .ok (.lload_n 3, 1) := by decide +kernel
theorem dX0_take_39 : decode cX0_take 39 = .ok (.invokevirtual 39, 3) := by decide +kernel
theorem dX0_take_42 : decode cX0_take 42 = .ok (.putfield 26, 3) := by decide +kernel
theorem dX0_take_45 : decode cX0_take 45 = .ok (.aload_n 0, 1) := by decide +kernel
theorem dX0_take_46 : decode cX0_take 46 = .ok (.aload_n 0, 1) := by decide +kernel
theorem dX0_take_47 : decode cX0_take 47 = .ok (.getfield 29, 3) := by decide +kernel
theorem dX0_take_50 : decode cX0_take 50 = .ok (.aload_n 0, 1) := by decide +kernel
theorem dX0_take_51 : decode cX0_take 51 = .ok (.getfield 23, 3) := by decide +kernel
theorem dX0_take_54 : decode cX0_take 54 = .ok (.aload_n 0, 1) := by decide +kernel
theorem dX0_take_55 : decode cX0_take 55 = .ok (.getfield 29, 3) := by decide +kernel
theorem dX0_take_58 : decode cX0_take 58 = .ok (.lload_n 3, 1) := by decide +kernel
theorem dX0_take_59 : decode cX0_take 59 = .ok (.invokevirtual 43, 3) := by decide +kernel
theorem dX0_take_62 : decode cX0_take 62 = .ok (.invokevirtual 46, 3) := by decide +kernel
theorem dX0_take_65 : decode cX0_take 65 = .ok (.putfield 23, 3) := by decide +kernel
theorem dX0_take_68 : decode cX0_take 68 = .ok (.aload_n 0, 1) := by decide +kernel
theorem dX0_take_69 : decode cX0_take 69 = .ok (.aload_n 0, 1) := by decide +kernel
theorem dX0_take_70 : decode cX0_take 70 = .ok (.getfield 29, 3) := by decide +kernel
theorem dX0_take_73 : decode cX0_take 73 = .ok (.aload_n 0, 1) := by decide +kernel
theorem dX0_take_74 : decode cX0_take 74 = .ok (.getfield 17, 3) := by decide +kernel
theorem dX0_take_77 : decode cX0_take 77 = .ok (.lload_n 1, 1) := by decide +kernel
theorem dX0_take_78 : decode cX0_take 78 = .ok (.invokevirtual 49, 3) := by decide +kernel
theorem dX0_take_81 : decode cX0_take 81 = .ok (.putfield 17, 3) := by decide +kernel
theorem dX0_take_84 : decode cX0_take 84 = .ok (.aload_n 0, 1) := by decide +kernel
theorem dX0_take_85 : decode cX0_take 85 = .ok (.aload_n 0, 1) := by decide +kernel
theorem dX0_take_86 : decode cX0_take 86 = .ok (.getfield 29, 3) := by decide +kernel
theorem dX0_take_89 : decode cX0_take 89 = .ok (.aload_n 0, 1) := by decide +kernel
theorem dX0_take_90 : decode cX0_take 90 = .ok (.getfield 20, 3) := by decide +kernel
theorem dX0_take_93 : decode cX0_take 93 = .ok (.lload_n 1, 1) := by decide +kernel
theorem dX0_take_94 : decode cX0_take 94 = .ok (.invokevirtual 46, 3) := by decide +kernel
theorem dX0_take_97 : decode cX0_take 97 = .ok (.putfield 20, 3) := by decide +kernel
theorem dX0_take_100 : decode cX0_take 100 = .ok (.aload_n 0, 1) := by decide +kernel
theorem dX0_take_101 : decode cX0_take 101 = .ok (.lload_n 1, 1) := by decide +kernel
theorem dX0_take_102 : decode cX0_take 102 = .ok (.putfield 13, 3) := by decide +kernel
theorem dX0_take_105 : decode cX0_take 105 = .ok (.aload_n 0, 1) := by decide +kernel
theorem dX0_take_106 : decode cX0_take 106 = .ok (.dup, 1) := by decide +kernel
theorem dX0_take_107 : decode cX0_take 107 = .ok (.getfield 7, 3) := by decide +kernel
theorem dX0_take_110 : decode cX0_take 110 = .ok (.iconst 1, 1) := by decide +kernel
theorem dX0_take_111 : decode cX0_take 111 = .ok (.iadd, 1) := by decide +kernel
theorem dX0_take_112 : decode cX0_take 112 = .ok (.putfield 7, 3) := by decide +kernel
theorem dX0_take_115 : decode cX0_take 115 = .ok (.aload_n 0, 1) := by decide +kernel
theorem dX0_take_116 : decode cX0_take 116 = .ok (.getfield 7, 3) := by decide +kernel
theorem dX0_take_119 : decode cX0_take 119 = .ok (.ireturn, 1) := by decide +kernel
theorem dX0_clear_0 : decode cX0_clear 0 = .ok (.aload_n 0, 1) := by decide +kernel
theorem dX0_clear_1 : decode cX0_clear 1 = .ok (.iconst 0, 1) := by decide +kernel
theorem dX0_clear_2 : decode cX0_clear 2 = .ok (.putfield 7, 3) := by decide +kernel
theorem dX0_clear_5 : decode cX0_clear 5 = .ok (.aload_n 0, 1) := by decide +kernel
theorem dX0_clear_6 : decode cX0_clear 6 = .ok (.lconst 0, 1) := by decide +kernel
theorem dX0_clear_7 : decode cX0_clear 7 = .ok (.putfield 13, 3) := by decide +kernel
theorem dX0_clear_10 : decode cX0_clear 10 = .ok (.aload_n 0, 1) := by decide +kernel
theorem dX0_clear_11 : decode cX0_clear 11 = .ok (.lconst 0, 1) := by decide +kernel
theorem dX0_clear_12 : decode cX0_clear 12 = .ok (.putfield 17, 3) := by decide +kernel
theorem dX0_clear_15 : decode cX0_clear 15 = .ok (.aload_n 0, 1) := by decide +kernel
theorem dX0_clear_16 : decode cX0_clear 16 = .ok (.lconst 0, 1) := by decide +kernel
theorem dX0_clear_17 : decode cX0_clear 17 = .ok (.putfield 20, 3) := by decide +kernel
theorem dX0_clear_20 : decode cX0_clear 20 = .ok (.aload_n 0, 1) := by decide +kernel
theorem dX0_clear_21 : decode cX0_clear 21 = .ok (.lconst 0, 1) := by decide +kernel
theorem dX0_clear_22 : decode cX0_clear 22 = .ok (.putfield 23, 3) := by decide +kernel
theorem dX0_clear_25 : decode cX0_clear 25 = .ok (.aload_n 0, 1) := by decide +kernel
theorem dX0_clear_26 : decode cX0_clear 26 = .ok (.lconst 0, 1) := by decide +kernel
theorem dX0_clear_27 : decode cX0_clear 27 = .ok (.putfield 26, 3) := by decide +kernel
theorem dX0_clear_30 : decode cX0_clear 30 = .ok (.return_, 1) := by decide +kernel
theorem dX1_init_0 : decode cX1_init 0 = .ok (.aload_n 0, 1) := by decide +kernel
theorem dX1_init_1 : decode cX1_init 1 = .ok (.iload_n 1, 1) := by decide +kernel
theorem dX1_init_2 : decode cX1_init 2 = .ok (.invokespecial 1, 3) := by decide +kernel
theorem dX1_init_5 : decode cX1_init 5 = .ok (.iload_n 1, 1) := by decide +kernel
theorem dX1_init_6 : decode cX1_init 6 = .ok (.ifCond .eq 8, 3) := by decide +kernel
theorem dX1_init_9 : decode cX1_init 9 = .ok (.bipush 8, 2) := by decide +kernel
theorem dX1_init_11 : decode cX1_init 11 = .ok (.goto 5, 3) := by decide +kernel
theorem dX1_init_14 : decode cX1_init 14 = .ok (.bipush 11, 2) := by decide +kernel
theorem dX1_init_16 : decode cX1_init 16 = .ok (.istore_n 2, 1) := by decide +kernel
theorem dX1_init_17 : decode cX1_init 17 = .ok (.aload_n 0, 1) := by decide +kernel
theorem dX1_init_18 : decode cX1_init 18 = .ok (.iload_n 1, 1) := by decide +kernel
theorem dX1_init_19 : decode cX1_init 19 = .ok (.ifCond .eq 8, 3) := by decide +kernel
theorem dX1_init_22 : decode cX1_init 22 = .ok (.bipush 23, 2) := by decide +kernel
theorem dX1_init_24 : decode cX1_init 24 = .ok (.goto 5, 3) := by decide +kernel
theorem dX1_init_27 : decode cX1_init 27 = .ok (.bipush 52, 2) := by decide +kernel
theorem dX1_init_29 : decode cX1_init 29 = .ok (.putfield 7, 3) := by decide +kernel
theorem dX1_init_32 : decode cX1_init 32 = .ok (.aload_n 0, 1) := by decide +kernel
theorem dX1_init_33 : decode cX1_init 33 = .ok (.lconst 1, 1) := by decide +kernel
theorem dX1_init_34 : decode cX1_init 34 = .ok (.aload_n 0, 1) := by decide +kernel
theorem dX1_init_35 : decode cX1_init 35 = .ok (.getfield 7, 3) := by decide +kernel
theorem dX1_init_38 : decode cX1_init 38 = .ok (.lshl, 1) := by decide +kernel
theorem dX1_init_39 : decode cX1_init 39 = .ok (.putfield 13, 3) := by decide +kernel
theorem dX1_init_42 : decode cX1_init 42 = .ok (.aload_n 0, 1) := by decide +kernel
theorem dX1_init_43 : decode cX1_init 43 = .ok (.ldc2_w 17, 3) := by decide +kernel
theorem dX1_init_46 : decode cX1_init 46 = .ok (.aload_n 0, 1) := by decide +kernel
theorem dX1_init_47 : decode cX1_init 47 = .ok (.getfield 7, 3) := by decide +kernel
theorem dX1_init_50 : decode cX1_init 50 = .ok (.iload_n 2, 1) := by decide +kernel
theorem dX1_init_51 : decode cX1_init 51 = .ok (.iadd, 1) := by decide +kernel
theorem dX1_init_52 : decode cX1_init 52 = .ok (.lshl, 1) := by decide +kernel
theorem dX1_init_53 : decode cX1_init 53 = .ok (.putfield 19, 3) := by decide +kernel
theorem dX1_init_56 : decode cX1_init 56 = .ok (.aload_n 0, 1) := by decide +kernel
theorem dX1_init_57 : decode cX1_init 57 = .ok (.iconst 1, 1) := by decide +kernel
theorem dX1_init_58 : decode cX1_init 58 = .ok (.iload_n 2, 1) := by decide +kernel
theorem dX1_init_59 : decode cX1_init 59 = .ok (.iconst 1, 1) := by decide +kernel
theorem dX1_init_60 : decode cX1_init 60 = .ok (.isub, 1) := by decide +kernel
theorem dX1_init_61 : decode cX1_init 61 = .ok (.ishl, 1) := by decide +kernel
theorem dX1_init_62 : decode cX1_init 62 = .ok (.iconst 1, 1) := by decide +kernel
theorem dX1_init_63 : decode cX1_init 63 = .ok (.isub, 1) := by decide +kernel
theorem dX1_init_64 : decode cX1_init 64 = .ok (.putfield 22, 3) := by decide +kernel
theorem dX1_init_67 : decode cX1_init 67 = .ok (.aload_n 0, 1) := by decide +kernel
theorem dX1_init_68 : decode cX1_init 68 = .ok (.iconst 1, 1) := by decide +kernel
theorem dX1_init_69 : decode cX1_init 69 = .ok (.iload_n 2, 1) := by decide +kernel
theorem dX1_init_70 : decode cX1_init 70 = .ok (.ishl, 1) := by decide +kernel
theorem dX1_init_71 : decode cX1_init 71 = .ok (.iconst 1, 1) := by decide +kernel
theorem dX1_init_72 : decode cX1_init 72 = .ok (.isub, 1) := by decide +kernel
theorem dX1_init_73 : decode cX1_init 73 = .ok (.putfield 25, 3) := by decide +kernel
theorem dX1_init_76 : decode cX1_init 76 = .ok (.aload_n 0, 1) := by decide +kernel
theorem dX1_init_77 : decode cX1_init 77 = .ok (.aload_n 0, 1) := by decide +kernel
theorem dX1_init_78 : decode cX1_init 78 = .ok (.getfield 22, 3) := by decide +kernel
theorem dX1_init_81 : decode cX1_init 81 = .ok (.i2l, 1) := by decide +kernel
theorem dX1_init_82 : decode cX1_init 82 = .ok (.aload_n 0, 1) := by decide +kernel
theorem dX1_init_83 : decode cX1_init 83 = .ok (.getfield 7, 3) := by decide +kernel
theorem dX1_init_86 : decode cX1_init 86 = .ok (.lshl, 1) := by decide +kernel
theorem dX1_init_87 : decode cX1_init 87 = .ok (.putfield 28, 3) := by decide +kernel
theorem dX1_init_90 : decode cX1_init 90 = .ok (.aload_n 0, 1) := by decide +kernel
theorem dX1_init_91 : decode cX1_init 91 = .ok (.aload_n 0, 1) := by decide +kernel
theorem dX1_init_92 : decode cX1_init 92 = .ok (.getfield 22, 3) := by decide +kernel
theorem dX1_init_95 : decode cX1_init 95 = .ok (.iconst 1, 1) := by decide +kernel
theorem dX1_init_96 : decode cX1_init 96 = .ok (.isub, 1) := by decide +kernel
theorem dX1_init_97 : decode cX1_init 97 = .ok (.i2l, 1) := by decide +kernel
theorem dX1_init_98 : decode cX1_init 98 = .ok (.aload_n 0, 1) := by decide +kernel
theorem dX1_init_99 : decode cX1_init 99 = .ok (.getfield 7, 3) := by decide +kernel
theorem dX1_init_102 : decode cX1_init 102 = .ok (.lshl, 1) := by decide +kernel
theorem dX1_init_103 : decode cX1_init 103 = .ok (.putfield 31, 3) := by decide +kernel
theorem dX1_init_106 : decode cX1_init 106 = .ok (.aload_n 0, 1) := by decide +kernel
theorem dX1_init_107 : decode cX1_init 107 = .ok (.aload_n 0, 1) := by decide +kernel
theorem dX1_init_108 : decode cX1_init 108 = .ok (.getfield 25, 3) := by decide +kernel
theorem dX1_init_111 : decode cX1_init 111 = .ok (.i2l, 1) := by decide +kernel
theorem dX1_init_112 : decode cX1_init 112 = .ok (.aload_n 0, 1) := by decide +kernel
theorem dX1_init_113 : decode cX1_init 113 = .ok (.getfield 7, 3) := by decide +kernel
theorem dX1_init_116 : decode cX1_init 116 = .ok (.lshl, 1) := by decide +kernel
theorem dX1_init_117 : decode cX1_init 117 = .ok (.putfield 34, 3) := by decide +kernel
theorem dX1_init_120 : decode cX1_init 120 = .ok (.return_, 1) := by decide +kernel
theorem dX1_isNumber_0 : decode cX1_isNumber 0 = .ok (.aload_n 0, 1) := by decide +kernel
theorem dX1_isNumber_1 : decode cX1_isNumber 1 = .ok (.lload_n 1, 1) := by decide +kernel
theorem dX1_isNumber_2 : decode cX1_isNumber 2 = .ok (.invokevirtual 37, 3) := by decide +kernel
theorem dX1_isNumber_5 : decode cX1_isNumber 5 = .ok (.aload_n 0, 1) := by decide +kernel
theorem dX1_isNumber_6 : decode cX1_isNumber 6 = .ok (.getfield 34, 3) := by decide +kernel
theorem dX1_isNumber_9 : decode cX1_isNumber 9 = .ok (.lcmp, 1) := by decide +kernel
theorem dX1_isNumber_10 : decode cX1_isNumber 10 = .ok (.ifCond .gt 7, 3) := by decide +kernel
theorem dX1_isNumber_13 : decode cX1_isNumber 13 = .ok (.iconst 1, 1) := by decide +kernel
theorem dX1_isNumber_14 : decode cX1_isNumber 14 = .ok (.goto 4, 3) := by decide +kernel
theorem dX1_isNumber_17 : decode cX1_isNumber 17 = .ok (.iconst 0, 1) := by decide +kernel
theorem dX1_isNumber_18 : decode cX1_isNumber 18 = .ok (.ireturn, 1) := by decide +kernel
theorem dX1_rank_0 : decode cX1_rank 0 = .ok (.lload_n 1, 1) := by decide +kernel
theorem dX1_rank_1 : decode cX1_rank 1 = .ok (.lconst 0, 1) := by decide +kernel
theorem dX1_rank_2 : decode cX1_rank 2 = .ok (.lcmp, 1) := by decide +kernel
theorem dX1_rank_3 : decode cX1_rank 3 = .ok (.ifCond .ge 15, 3) := by decide +kernel
theorem dX1_rank_6 : decode cX1_rank 6 = .ok (.ldc2_w 17, 3) := by decide +kernel
theorem dX1_rank_9 : decode cX1_rank 9 = .ok (.aload_n 0, 1) := by decide +kernel
theorem dX1_rank_10 : decode cX1_rank 10 = .ok (.lload_n 1, 1) := by decide +kernel
theorem dX1_rank_11 : decode cX1_rank 11 = .ok (.invokevirtual 37, 3) := by decide +kernel
theorem dX1_rank_14 : decode cX1_rank 14 = .ok (.lsub, 1) := by decide +kernel
theorem dX1_rank_15 : decode cX1_rank 15 = .ok (.goto 4, 3) := by decide +kernel
theorem dX1_rank_18 : decode cX1_rank 18 = .ok (.lload_n 1, 1) := by decide +kernel
theorem dX1_rank_19 : decode cX1_rank 19 = .ok (.lreturn, 1) := by decide +kernel
theorem dX1_size_0 : decode cX1_size 0 = .ok (.lload_n 1, 1) := by decide +kernel
theorem dX1_size_1 : decode cX1_size 1 = .ok (.aload_n 0, 1) := by decide +kernel
theorem dX1_size_2 : decode cX1_size 2 = .ok (.getfield 19, 3) := by decide +kernel
theorem dX1_size_5 : decode cX1_size 5 = .ok (.ldc2_w 17, 3) := by decide +kernel
theorem dX1_size_8 : decode cX1_size 8 = .ok (.lxor, 1) := by decide +kernel
theorem dX1_size_9 : decode cX1_size 9 = .ok (.land, 1) := by decide +kernel
theorem dX1_size_10 : decode cX1_size 10 = .ok (.lreturn, 1) := by decide +kernel
theorem dX1_down_0 : decode cX1_down 0 = .ok (.lload_n 1, 1) := by decide +kernel
theorem dX1_down_1 : decode cX1_down 1 = .ok (.lconst 0, 1) := by decide +kernel
theorem dX1_down_2 : decode cX1_down 2 = .ok (.lcmp, 1) := by decide +kernel
theorem dX1_down_3 : decode cX1_down 3 = .ok (.ifCond .ge 20, 3) := by decide +kernel
theorem dX1_down_6 : decode cX1_down 6 = .ok (.aload_n 0, 1) := by decide +kernel
theorem dX1_down_7 : decode cX1_down 7 = .ok (.aload_n 0, 1) := by decide +kernel
theorem dX1_down_8 : decode cX1_down 8 = .ok (.aload_n 0, 1) := by decide +kernel
theorem dX1_down_9 : decode cX1_down 9 = .ok (.lload_n 1, 1) := by decide +kernel
theorem dX1_down_10 : decode cX1_down 10 = .ok (.invokevirtual 37, 3) := by decide +kernel
theorem dX1_down_13 : decode cX1_down 13 = .ok (.invokevirtual 41, 3) := by decide +kernel
theorem dX1_down_16 : decode cX1_down 16 = .ok (.iconst 1, 1) := by decide +kernel
theorem dX1_down_17 : decode cX1_down 17 = .ok (.invokevirtual 44, 3) := by decide +kernel
theorem dX1_down_20 : decode cX1_down 20 = .ok (.goto 8, 3) := by decide +kernel
theorem dX1_down_23 : decode cX1_down 23 = .ok (.aload_n 0, 1) := by decide +kernel
theorem dX1_down_24 : decode cX1_down 24 = .ok (.lload_n 1, 1) := by decide +kernel
theorem dX1_down_25 : decode cX1_down 25 = .ok (.invokevirtual 48, 3) := by decide +kernel
theorem dX1_down_28 : decode cX1_down 28 = .ok (.lreturn, 1) := by decide +kernel
theorem dX1_up_0 : decode cX1_up 0 = .ok (.lload_n 1, 1) := by decide +kernel
theorem dX1_up_1 : decode cX1_up 1 = .ok (.lconst 0, 1) := by decide +kernel
theorem dX1_up_2 : decode cX1_up 2 = .ok (.lcmp, 1) := by decide +kernel
theorem dX1_up_3 : decode cX1_up 3 = .ok (.ifCond .ge 20, 3) := by decide +kernel
theorem dX1_up_6 : decode cX1_up 6 = .ok (.aload_n 0, 1) := by decide +kernel
theorem dX1_up_7 : decode cX1_up 7 = .ok (.aload_n 0, 1) := by decide +kernel
theorem dX1_up_8 : decode cX1_up 8 = .ok (.aload_n 0, 1) := by decide +kernel
theorem dX1_up_9 : decode cX1_up 9 = .ok (.lload_n 1, 1) := by decide +kernel
theorem dX1_up_10 : decode cX1_up 10 = .ok (.invokevirtual 37, 3) := by decide +kernel
theorem dX1_up_13 : decode cX1_up 13 = .ok (.invokevirtual 48, 3) := by decide +kernel
theorem dX1_up_16 : decode cX1_up 16 = .ok (.iconst 1, 1) := by decide +kernel
theorem dX1_up_17 : decode cX1_up 17 = .ok (.invokevirtual 44, 3) := by decide +kernel
theorem dX1_up_20 : decode cX1_up 20 = .ok (.goto 8, 3) := by decide +kernel
theorem dX1_up_23 : decode cX1_up 23 = .ok (.aload_n 0, 1) := by decide +kernel
theorem dX1_up_24 : decode cX1_up 24 = .ok (.lload_n 1, 1) := by decide +kernel
theorem dX1_up_25 : decode cX1_up 25 = .ok (.invokevirtual 41, 3) := by decide +kernel
theorem dX1_up_28 : decode cX1_up 28 = .ok (.lreturn, 1) := by decide +kernel
theorem dX1_near_0 : decode cX1_near 0 = .ok (.aload_n 0, 1) := by decide +kernel
theorem dX1_near_1 : decode cX1_near 1 = .ok (.aload_n 0, 1) := by decide +kernel
theorem dX1_near_2 : decode cX1_near 2 = .ok (.aload_n 0, 1) := by decide +kernel
theorem dX1_near_3 : decode cX1_near 3 = .ok (.lload_n 1, 1) := by decide +kernel
theorem dX1_near_4 : decode cX1_near 4 = .ok (.invokevirtual 37, 3) := by decide +kernel
theorem dX1_near_7 : decode cX1_near 7 = .ok (.invokevirtual 51, 3) := by decide +kernel
theorem dX1_near_10 : decode cX1_near 10 = .ok (.lload_n 1, 1) := by decide +kernel
theorem dX1_near_11 : decode cX1_near 11 = .ok (.lconst 0, 1) := by decide +kernel
theorem dX1_near_12 : decode cX1_near 12 = .ok (.lcmp, 1) := by decide +kernel
theorem dX1_near_13 : decode cX1_near 13 = .ok (.ifCond .ge 7, 3) := by decide +kernel
theorem dX1_near_16 : decode cX1_near 16 = .ok (.iconst 1, 1) := by decide +kernel
theorem dX1_near_17 : decode cX1_near 17 = .ok (.goto 4, 3) := by decide +kernel
theorem dX1_near_20 : decode cX1_near 20 = .ok (.iconst 0, 1) := by decide +kernel
theorem dX1_near_21 : decode cX1_near 21 = .ok (.invokevirtual 44, 3) := by decide +kernel
theorem dX1_near_24 : decode cX1_near 24 = .ok (.lreturn, 1) := by decide +kernel
theorem dX1_sign_0 : decode cX1_sign 0 = .ok (.aload_n 0, 1) := by decide +kernel
theorem dX1_sign_1 : decode cX1_sign 1 = .ok (.lload_n 1, 1) := by decide +kernel
theorem dX1_sign_2 : decode cX1_sign 2 = .ok (.invokevirtual 37, 3) := by decide +kernel
theorem dX1_sign_5 : decode cX1_sign 5 = .ok (.lconst 0, 1) := by decide +kernel
theorem dX1_sign_6 : decode cX1_sign 6 = .ok (.lcmp, 1) := by decide +kernel
theorem dX1_sign_7 : decode cX1_sign 7 = .ok (.ifCond .ne 7, 3) := by decide +kernel
theorem dX1_sign_10 : decode cX1_sign 10 = .ok (.lload_n 1, 1) := by decide +kernel
theorem dX1_sign_11 : decode cX1_sign 11 = .ok (.goto 22, 3) := by decide +kernel
theorem dX1_sign_14 : decode cX1_sign 14 = .ok (.aload_n 0, 1) := by decide +kernel
theorem dX1_sign_15 : decode cX1_sign 15 = .ok (.aload_n 0, 1) := by decide +kernel
theorem dX1_sign_16 : decode cX1_sign 16 = .ok (.getfield 28, 3) := by decide +kernel
theorem dX1_sign_19 : decode cX1_sign 19 = .ok (.lload_n 1, 1) := by decide +kernel
theorem dX1_sign_20 : decode cX1_sign 20 = .ok (.lconst 0, 1) := by decide +kernel
theorem dX1_sign_21 : decode cX1_sign 21 = .ok (.lcmp, 1) := by decide +kernel
theorem dX1_sign_22 : decode cX1_sign 22 = .ok (.ifCond .ge 7, 3) := by decide +kernel
theorem dX1_sign_25 : decode cX1_sign 25 = .ok (.iconst 1, 1) := by decide +kernel
theorem dX1_sign_26 : decode cX1_sign 26 = .ok (.goto 4, 3) := by decide +kernel
theorem dX1_sign_29 : decode cX1_sign 29 = .ok (.iconst 0, 1) := by decide +kernel
theorem dX1_sign_30 : decode cX1_sign 30 = .ok (.invokevirtual 44, 3) := by decide +kernel
theorem dX1_sign_33 : decode cX1_sign 33 = .ok (.lreturn, 1) := by decide +kernel
theorem dX1_like_0 : decode cX1_like 0 = .ok (.aload_n 0, 1) := by decide +kernel
theorem dX1_like_1 : decode cX1_like 1 = .ok (.aload_n 0, 1) := by decide +kernel
theorem dX1_like_2 : decode cX1_like 2 = .ok (.lload_n 1, 1) := by decide +kernel
theorem dX1_like_3 : decode cX1_like 3 = .ok (.invokevirtual 37, 3) := by decide +kernel
theorem dX1_like_6 : decode cX1_like 6 = .ok (.lload_n 3, 1) := by decide +kernel
theorem dX1_like_7 : decode cX1_like 7 = .ok (.lconst 0, 1) := by decide +kernel
theorem dX1_like_8 : decode cX1_like 8 = .ok (.lcmp, 1) := by decide +kernel
theorem dX1_like_9 : decode cX1_like 9 = .ok (.ifCond .ge 7, 3) := by decide +kernel
theorem dX1_like_12 : decode cX1_like 12 = .ok (.iconst 1, 1) := by decide +kernel
theorem dX1_like_13 : decode cX1_like 13 = .ok (.goto 4, 3) := by decide +kernel
theorem dX1_like_16 : decode cX1_like 16 = .ok (.iconst 0, 1) := by decide +kernel
theorem dX1_like_17 : decode cX1_like 17 = .ok (.invokevirtual 44, 3) := by decide +kernel
theorem dX1_like_20 : decode cX1_like 20 = .ok (.lreturn, 1) := by decide +kernel
theorem dX1_step_0 : decode cX1_step 0 = .ok (.aload_n 0, 1) := by decide +kernel
theorem dX1_step_1 : decode cX1_step 1 = .ok (.aload_n 0, 1) := by decide +kernel
theorem dX1_step_2 : decode cX1_step 2 = .ok (.aload_n 0, 1) := by decide +kernel
theorem dX1_step_3 : decode cX1_step 3 = .ok (.lload_n 1, 1) := by decide +kernel
theorem dX1_step_4 : decode cX1_step 4 = .ok (.iload_n 3, 1) := by decide +kernel
theorem dX1_step_5 : decode cX1_step 5 = .ok (.ineg, 1) := by decide +kernel
theorem dX1_step_6 : decode cX1_step 6 = .ok (.invokevirtual 54, 3) := by decide +kernel
theorem dX1_step_9 : decode cX1_step 9 = .ok (.invokevirtual 58, 3) := by decide +kernel
theorem dX1_step_12 : decode cX1_step 12 = .ok (.iload_n 3, 1) := by decide +kernel
theorem dX1_step_13 : decode cX1_step 13 = .ok (.invokevirtual 54, 3) := by decide +kernel
theorem dX1_step_16 : decode cX1_step 16 = .ok (.lreturn, 1) := by decide +kernel
theorem dX1_canMeet_0 : decode cX1_canMeet 0 = .ok (.aload_n 0, 1) := by decide +kernel
theorem dX1_canMeet_1 : decode cX1_canMeet 1 = .ok (.lload_n 1, 1) := by decide +kernel
theorem dX1_canMeet_2 : decode cX1_canMeet 2 = .ok (.invokevirtual 61, 3) := by decide +kernel
theorem dX1_canMeet_5 : decode cX1_canMeet 5 = .ok (.ifCond .eq 17, 3) := by decide +kernel
theorem dX1_canMeet_8 : decode cX1_canMeet 8 = .ok (.aload_n 0, 1) := by decide +kernel
theorem dX1_canMeet_9 : decode cX1_canMeet 9 = .ok (.lload_n 3, 1) := by decide +kernel
theorem dX1_canMeet_10 : decode cX1_canMeet 10 = .ok (.invokevirtual 61, 3) := by decide +kernel
theorem dX1_canMeet_13 : decode cX1_canMeet 13 = .ok (.ifCond .eq 9, 3) := by decide +kernel
theorem dX1_canMeet_16 : decode cX1_canMeet 16 = .ok (.lload_n 1, 1) := by decide +kernel
theorem dX1_canMeet_17 : decode cX1_canMeet 17 = .ok (.lload_n 3, 1) := by decide +kernel
theorem dX1_canMeet_18 : decode cX1_canMeet 18 = .ok (.lcmp, 1) := by decide +kernel
theorem dX1_canMeet_19 : decode cX1_canMeet 19 = .ok (.ifCond .ne 7, 3) := by decide +kernel
theorem dX1_canMeet_22 : decode cX1_canMeet 22 = .ok (.iconst 1, 1) := by decide +kernel
theorem dX1_canMeet_23 : decode cX1_canMeet 23 = .ok (.goto 4, 3) := by decide +kernel
theorem dX1_canMeet_26 : decode cX1_canMeet 26 = .ok (.iconst 0, 1) := by decide +kernel
theorem dX1_canMeet_27 : decode cX1_canMeet 27 = .ok (.ireturn, 1) := by decide +kernel
theorem dX1_meet_0 : decode cX1_meet 0 = .ok (.aload_n 0, 1) := by decide +kernel
theorem dX1_meet_1 : decode cX1_meet 1 = .ok (.aload_n 0, 1) := by decide +kernel
theorem dX1_meet_2 : decode cX1_meet 2 = .ok (.lload_n 1, 1) := by decide +kernel
theorem dX1_meet_3 : decode cX1_meet 3 = .ok (.lload_n 3, 1) := by decide +kernel
theorem dX1_meet_4 : decode cX1_meet 4 = .ok (.invokevirtual 65, 3) := by decide +kernel
theorem dX1_meet_7 : decode cX1_meet 7 = .ok (.iconst (-1), 1) := by decide +kernel
theorem dX1_meet_8 : decode cX1_meet 8 = .ok (.invokevirtual 54, 3) := by decide +kernel
theorem dX1_meet_11 : decode cX1_meet 11 = .ok (.lreturn, 1) := by decide +kernel
theorem dX1_turn_0 : decode cX1_turn 0 = .ok (.lload_n 1, 1) := by decide +kernel
theorem dX1_turn_1 : decode cX1_turn 1 = .ok (.aload_n 0, 1) := by decide +kernel
theorem dX1_turn_2 : decode cX1_turn 2 = .ok (.getfield 19, 3) := by decide +kernel
theorem dX1_turn_5 : decode cX1_turn 5 = .ok (.lxor, 1) := by decide +kernel
theorem dX1_turn_6 : decode cX1_turn 6 = .ok (.lreturn, 1) := by decide +kernel
theorem dX1_part_0 : decode cX1_part 0 = .ok (.aload_n 0, 1) := by decide +kernel
theorem dX1_part_1 : decode cX1_part 1 = .ok (.lload_n 1, 1) := by decide +kernel
theorem dX1_part_2 : decode cX1_part 2 = .ok (.invokevirtual 61, 3) := by decide +kernel
theorem dX1_part_5 : decode cX1_part 5 = .ok (.ifCond .eq 22, 3) := by decide +kernel
theorem dX1_part_8 : decode cX1_part 8 = .ok (.aload_n 0, 1) := by decide +kernel
theorem dX1_part_9 : decode cX1_part 9 = .ok (.lconst 0, 1) := by decide +kernel
theorem dX1_part_10 : decode cX1_part 10 = .ok (.lload_n 1, 1) := by decide +kernel
theorem dX1_part_11 : decode cX1_part 11 = .ok (.lconst 0, 1) := by decide +kernel
theorem dX1_part_12 : decode cX1_part 12 = .ok (.lcmp, 1) := by decide +kernel
theorem dX1_part_13 : decode cX1_part 13 = .ok (.ifCond .ge 7, 3) := by decide +kernel
theorem dX1_part_16 : decode cX1_part 16 = .ok (.iconst 1, 1) := by decide +kernel
theorem dX1_part_17 : decode cX1_part 17 = .ok (.goto 4, 3) := by decide +kernel
theorem dX1_part_20 : decode cX1_part 20 = .ok (.iconst 0, 1) := by decide +kernel
theorem dX1_part_21 : decode cX1_part 21 = .ok (.invokevirtual 44, 3) := by decide +kernel
theorem dX1_part_24 : decode cX1_part 24 = .ok (.goto 17, 3) := by decide +kernel
theorem dX1_part_27 : decode cX1_part 27 = .ok (.aload_n 0, 1) := by decide +kernel
theorem dX1_part_28 : decode cX1_part 28 = .ok (.lload_n 1, 1) := by decide +kernel
theorem dX1_part_29 : decode cX1_part 29 = .ok (.aload_n 0, 1) := by decide +kernel
theorem dX1_part_30 : decode cX1_part 30 = .ok (.aload_n 0, 1) := by decide +kernel
theorem dX1_part_31 : decode cX1_part 31 = .ok (.lload_n 1, 1) := by decide +kernel
theorem dX1_part_32 : decode cX1_part 32 = .ok (.invokevirtual 69, 3) := by decide +kernel
theorem dX1_part_35 : decode cX1_part 35 = .ok (.invokevirtual 72, 3) := by decide +kernel
theorem dX1_part_38 : decode cX1_part 38 = .ok (.invokevirtual 65, 3) := by decide +kernel
theorem dX1_part_41 : decode cX1_part 41 = .ok (.lreturn, 1) := by decide +kernel
theorem dX1_change_0 : decode cX1_change 0 = .ok (.aload_n 0, 1) := by decide +kernel
theorem dX1_change_1 : decode cX1_change 1 = .ok (.lload_n 3, 1) := by decide +kernel
theorem dX1_change_2 : decode cX1_change 2 = .ok (.invokevirtual 61, 3) := by decide +kernel
theorem dX1_change_5 : decode cX1_change 5 = .ok (.ifCond .eq 13, 3) := by decide +kernel
theorem dX1_change_8 : decode cX1_change 8 = .ok (.lload_n 1, 1) := by decide +kernel
theorem dX1_change_9 : decode cX1_change 9 = .ok (.lload_n 3, 1) := by decide +kernel
theorem dX1_change_10 : decode cX1_change 10 = .ok (.lcmp, 1) := by decide +kernel
theorem dX1_change_11 : decode cX1_change 11 = .ok (.ifCond .ne 7, 3) := by decide +kernel
theorem dX1_change_14 : decode cX1_change 14 = .ok (.iconst 1, 1) := by decide +kernel
theorem dX1_change_15 : decode cX1_change 15 = .ok (.goto 4, 3) := by decide +kernel
theorem dX1_change_18 : decode cX1_change 18 = .ok (.iconst 0, 1) := by decide +kernel
theorem dX1_change_19 : decode cX1_change 19 = .ok (.istore 5, 2) := by decide +kernel
theorem dX1_change_21 : decode cX1_change 21 = .ok (.iload 5, 2) := by decide +kernel
theorem dX1_change_23 : decode cX1_change 23 = .ok (.ifCond .eq 7, 3) := by decide +kernel
theorem dX1_change_26 : decode cX1_change 26 = .ok (.lconst 0, 1) := by decide +kernel
theorem dX1_change_27 : decode cX1_change 27 = .ok (.goto 13, 3) := by decide +kernel
theorem dX1_change_30 : decode cX1_change 30 = .ok (.aload_n 0, 1) := by decide +kernel
theorem dX1_change_31 : decode cX1_change 31 = .ok (.lload_n 3, 1) := by decide +kernel
theorem dX1_change_32 : decode cX1_change 32 = .ok (.aload_n 0, 1) := by decide +kernel
theorem dX1_change_33 : decode cX1_change 33 = .ok (.lload_n 1, 1) := by decide +kernel
theorem dX1_change_34 : decode cX1_change 34 = .ok (.invokevirtual 72, 3) := by decide +kernel
theorem dX1_change_37 : decode cX1_change 37 = .ok (.invokevirtual 65, 3) := by decide +kernel
theorem dX1_change_40 : decode cX1_change 40 = .ok (.lreturn, 1) := by decide +kernel
theorem dX1_withHalf_0 : decode cX1_withHalf 0 = .ok (.aload_n 0, 1) := by decide +kernel
theorem dX1_withHalf_1 : decode cX1_withHalf 1 = .ok (.lload_n 1, 1) := by decide +kernel
theorem dX1_withHalf_2 : decode cX1_withHalf 2 = .ok (.aload_n 0, 1) := by decide +kernel
theorem dX1_withHalf_3 : decode cX1_withHalf 3 = .ok (.lload_n 3, 1) := by decide +kernel
theorem dX1_withHalf_4 : decode cX1_withHalf 4 = .ok (.iconst (-1), 1) := by decide +kernel
theorem dX1_withHalf_5 : decode cX1_withHalf 5 = .ok (.invokevirtual 54, 3) := by decide +kernel
theorem dX1_withHalf_8 : decode cX1_withHalf 8 = .ok (.invokevirtual 65, 3) := by decide +kernel
theorem dX1_withHalf_11 : decode cX1_withHalf 11 = .ok (.lreturn, 1) := by decide +kernel
theorem dX1_isInfinite_0 : decode cX1_isInfinite 0 = .ok (.aload_n 0, 1) := by decide +kernel
theorem dX1_isInfinite_1 : decode cX1_isInfinite 1 = .ok (.lload_n 1, 1) := by decide +kernel
theorem dX1_isInfinite_2 : decode cX1_isInfinite 2 = .ok (.invokevirtual 37, 3) := by decide +kernel
theorem dX1_isInfinite_5 : decode cX1_isInfinite 5 = .ok (.aload_n 0, 1) := by decide +kernel
theorem dX1_isInfinite_6 : decode cX1_isInfinite 6 = .ok (.getfield 34, 3) := by decide +kernel
theorem dX1_isInfinite_9 : decode cX1_isInfinite 9 = .ok (.lcmp, 1) := by decide +kernel
theorem dX1_isInfinite_10 : decode cX1_isInfinite 10 = .ok (.ifCond .ne 7, 3) := by decide +kernel
theorem dX1_isInfinite_13 : decode cX1_isInfinite 13 = .ok (.iconst 1, 1) := by decide +kernel
theorem dX1_isInfinite_14 : decode cX1_isInfinite 14 = .ok (.goto 4, 3) := by decide +kernel
theorem dX1_isInfinite_17 : decode cX1_isInfinite 17 = .ok (.iconst 0, 1) := by decide +kernel
theorem dX1_isInfinite_18 : decode cX1_isInfinite 18 = .ok (.ireturn, 1) := by decide +kernel
theorem dX1_withSign_0 : decode cX1_withSign 0 = .ok (.iload_n 3, 1) := by decide +kernel
theorem dX1_withSign_1 : decode cX1_withSign 1 = .ok (.ifCond .eq 12, 3) := by decide +kernel
theorem dX1_withSign_4 : decode cX1_withSign 4 = .ok (.lload_n 1, 1) := by decide +kernel
theorem dX1_withSign_5 : decode cX1_withSign 5 = .ok (.aload_n 0, 1) := by decide +kernel
theorem dX1_withSign_6 : decode cX1_withSign 6 = .ok (.getfield 19, 3) := by decide +kernel
theorem dX1_withSign_9 : decode cX1_withSign 9 = .ok (.lor, 1) := by decide +kernel
theorem dX1_withSign_10 : decode cX1_withSign 10 = .ok (.goto 4, 3) := by decide +kernel
theorem dX1_withSign_13 : decode cX1_withSign 13 = .ok (.lload_n 1, 1) := by decide +kernel
theorem dX1_withSign_14 : decode cX1_withSign 14 = .ok (.lreturn, 1) := by decide +kernel
theorem dX1_exponent_0 : decode cX1_exponent 0 = .ok (.aload_n 0, 1) := by decide +kernel
theorem dX1_exponent_1 : decode cX1_exponent 1 = .ok (.lload_n 1, 1) := by decide +kernel
theorem dX1_exponent_2 : decode cX1_exponent 2 = .ok (.invokevirtual 37, 3) := by decide +kernel
theorem dX1_exponent_5 : decode cX1_exponent 5 = .ok (.aload_n 0, 1) := by decide +kernel
theorem dX1_exponent_6 : decode cX1_exponent 6 = .ok (.getfield 7, 3) := by decide +kernel
theorem dX1_exponent_9 : decode cX1_exponent 9 = .ok (.lshr, 1) := by decide +kernel
theorem dX1_exponent_10 : decode cX1_exponent 10 = .ok (.l2i, 1) := by decide +kernel
theorem dX1_exponent_11 : decode cX1_exponent 11 = .ok (.istore_n 3, 1) := by decide +kernel
theorem dX1_exponent_12 : decode cX1_exponent 12 = .ok (.iload_n 3, 1) := by decide +kernel
theorem dX1_exponent_13 : decode cX1_exponent 13 = .ok (.ifCond .ne 7, 3) := by decide +kernel
theorem dX1_exponent_16 : decode cX1_exponent 16 = .ok (.iconst 1, 1) := by decide +kernel
theorem dX1_exponent_17 : decode cX1_exponent 17 = .ok (.goto 4, 3) := by decide +kernel
theorem dX1_exponent_20 : decode cX1_exponent 20 = .ok (.iload_n 3, 1) := by decide +kernel
theorem dX1_exponent_21 : decode cX1_exponent 21 = .ok (.ireturn, 1) := by decide +kernel
theorem dX1_significand_0 : decode cX1_significand 0 = .ok (.lload_n 1, 1) := by decide +kernel
theorem dX1_significand_1 : decode cX1_significand 1 = .ok (.aload_n 0, 1) := by decide +kernel
theorem dX1_significand_2 : decode cX1_significand 2 = .ok (.getfield 13, 3) := by decide +kernel
theorem dX1_significand_5 : decode cX1_significand 5 = .ok (.lconst 1, 1) := by decide +kernel
theorem dX1_significand_6 : decode cX1_significand 6 = .ok (.lsub, 1) := by decide +kernel
theorem dX1_significand_7 : decode cX1_significand 7 = .ok (.land, 1) := by decide +kernel
theorem dX1_significand_8 : decode cX1_significand 8 = .ok (.lstore_n 3, 1) := by decide +kernel
theorem dX1_significand_9 : decode cX1_significand 9 = .ok (.aload_n 0, 1) := by decide +kernel
theorem dX1_significand_10 : decode cX1_significand 10 = .ok (.lload_n 1, 1) := by decide +kernel
theorem dX1_significand_11 : decode cX1_significand 11 = .ok (.invokevirtual 37, 3) := by decide +kernel
theorem dX1_significand_14 : decode cX1_significand 14 = .ok (.aload_n 0, 1) := by decide +kernel
theorem dX1_significand_15 : decode cX1_significand 15 = .ok (.getfield 13, 3) := by decide +kernel
theorem dX1_significand_18 : decode cX1_significand 18 = .ok (.lcmp, 1) := by decide +kernel
theorem dX1_significand_19 : decode cX1_significand 19 = .ok (.ifCond .ge 7, 3) := by decide +kernel
theorem dX1_significand_22 : decode cX1_significand 22 = .ok (.lload_n 3, 1) := by decide +kernel
theorem dX1_significand_23 : decode cX1_significand 23 = .ok (.goto 9, 3) := by decide +kernel
theorem dX1_significand_26 : decode cX1_significand 26 = .ok (.lload_n 3, 1) := by decide +kernel
theorem dX1_significand_27 : decode cX1_significand 27 = .ok (.aload_n 0, 1) := by decide +kernel
theorem dX1_significand_28 : decode cX1_significand 28 = .ok (.getfield 13, 3) := by decide +kernel
theorem dX1_significand_31 : decode cX1_significand 31 = .ok (.lor, 1) := by decide +kernel
theorem dX1_significand_32 : decode cX1_significand 32 = .ok (.lreturn, 1) := by decide +kernel
theorem dX1_unitOf_0 : decode cX1_unitOf 0 = .ok (.lload_n 1, 1) := by decide +kernel
theorem dX1_unitOf_1 : decode cX1_unitOf 1 = .ok (.aload_n 0, 1) := by decide +kernel
theorem dX1_unitOf_2 : decode cX1_unitOf 2 = .ok (.getfield 7, 3) := by decide +kernel
theorem dX1_unitOf_5 : decode cX1_unitOf 5 = .ok (.lshr, 1) := by decide +kernel
theorem dX1_unitOf_6 : decode cX1_unitOf 6 = .ok (.l2i, 1) := by decide +kernel
theorem dX1_unitOf_7 : decode cX1_unitOf 7 = .ok (.aload_n 0, 1) := by decide +kernel
theorem dX1_unitOf_8 : decode cX1_unitOf 8 = .ok (.getfield 22, 3) := by decide +kernel
theorem dX1_unitOf_11 : decode cX1_unitOf 11 = .ok (.isub, 1) := by decide +kernel
theorem dX1_unitOf_12 : decode cX1_unitOf 12 = .ok (.istore_n 3, 1) := by decide +kernel
theorem dX1_unitOf_13 : decode cX1_unitOf 13 = .ok (.iload_n 3, 1) := by decide +kernel
theorem dX1_unitOf_14 : decode cX1_unitOf 14 = .ok (.aload_n 0, 1) := by decide +kernel
theorem dX1_unitOf_15 : decode cX1_unitOf 15 = .ok (.getfield 7, 3) := by decide +kernel
theorem dX1_unitOf_18 : decode cX1_unitOf 18 = .ok (.if_icmp .lt 7, 3) := by decide +kernel
theorem dX1_unitOf_21 : decode cX1_unitOf 21 = .ok (.lconst 1, 1) := by decide +kernel
theorem dX1_unitOf_22 : decode cX1_unitOf 22 = .ok (.goto 11, 3) := by decide +kernel
theorem dX1_unitOf_25 : decode cX1_unitOf 25 = .ok (.lconst 1, 1) := by decide +kernel
theorem dX1_unitOf_26 : decode cX1_unitOf 26 = .ok (.aload_n 0, 1) := by decide +kernel
theorem dX1_unitOf_27 : decode cX1_unitOf 27 = .ok (.getfield 7, 3) := by decide +kernel
theorem dX1_unitOf_30 : decode cX1_unitOf 30 = .ok (.iload_n 3, 1) := by decide +kernel
theorem dX1_unitOf_31 : decode cX1_unitOf 31 = .ok (.isub, 1) := by decide +kernel
theorem dX1_unitOf_32 : decode cX1_unitOf 32 = .ok (.lshl, 1) := by decide +kernel
theorem dX1_unitOf_33 : decode cX1_unitOf 33 = .ok (.lreturn, 1) := by decide +kernel
theorem dX1_wholeDown_0 : decode cX1_wholeDown 0 = .ok (.lload_n 1, 1) := by decide +kernel
theorem dX1_wholeDown_1 : decode cX1_wholeDown 1 = .ok (.aload_n 0, 1) := by decide +kernel
theorem dX1_wholeDown_2 : decode cX1_wholeDown 2 = .ok (.getfield 28, 3) := by decide +kernel
theorem dX1_wholeDown_5 : decode cX1_wholeDown 5 = .ok (.lcmp, 1) := by decide +kernel
theorem dX1_wholeDown_6 : decode cX1_wholeDown 6 = .ok (.ifCond .ge 7, 3) := by decide +kernel
theorem dX1_wholeDown_9 : decode cX1_wholeDown 9 = .ok (.lconst 0, 1) := by decide +kernel
theorem dX1_wholeDown_10 : decode cX1_wholeDown 10 = .ok (.goto 11, 3) := by decide +kernel
theorem dX1_wholeDown_13 : decode cX1_wholeDown 13 = .ok (.lload_n 1, 1) := by decide +kernel
theorem dX1_wholeDown_14 : decode cX1_wholeDown 14 = .ok (.aload_n 0, 1) := by decide +kernel
theorem dX1_wholeDown_15 : decode cX1_wholeDown 15 = .ok (.lload_n 1, 1) := by decide +kernel
theorem dX1_wholeDown_16 : decode cX1_wholeDown 16 = .ok (.invokevirtual 75, 3) := by decide +kernel
theorem dX1_wholeDown_19 : decode cX1_wholeDown 19 = .ok (.lneg, 1) := by decide +kernel
theorem dX1_wholeDown_20 : decode cX1_wholeDown 20 = .ok (.land, 1) := by decide +kernel
theorem dX1_wholeDown_21 : decode cX1_wholeDown 21 = .ok (.lreturn, 1) := by decide +kernel
theorem dX1_wholeUp_0 : decode cX1_wholeUp 0 = .ok (.lload_n 1, 1) := by decide +kernel
theorem dX1_wholeUp_1 : decode cX1_wholeUp 1 = .ok (.aload_n 0, 1) := by decide +kernel
theorem dX1_wholeUp_2 : decode cX1_wholeUp 2 = .ok (.getfield 28, 3) := by decide +kernel
theorem dX1_wholeUp_5 : decode cX1_wholeUp 5 = .ok (.lcmp, 1) := by decide +kernel
theorem dX1_wholeUp_6 : decode cX1_wholeUp 6 = .ok (.ifCond .ge 18, 3) := by decide +kernel
theorem dX1_wholeUp_9 : decode cX1_wholeUp 9 = .ok (.lload_n 1, 1) := by decide +kernel
theorem dX1_wholeUp_10 : decode cX1_wholeUp 10 = .ok (.lconst 0, 1) := by decide +kernel
theorem dX1_wholeUp_11 : decode cX1_wholeUp 11 = .ok (.lcmp, 1) := by decide +kernel
theorem dX1_wholeUp_12 : decode cX1_wholeUp 12 = .ok (.ifCond .ne 7, 3) := by decide +kernel
theorem dX1_wholeUp_15 : decode cX1_wholeUp 15 = .ok (.lconst 0, 1) := by decide +kernel
theorem dX1_wholeUp_16 : decode cX1_wholeUp 16 = .ok (.goto 7, 3) := by decide +kernel
theorem dX1_wholeUp_19 : decode cX1_wholeUp 19 = .ok (.aload_n 0, 1) := by decide +kernel
theorem dX1_wholeUp_20 : decode cX1_wholeUp 20 = .ok (.getfield 28, 3) := by decide +kernel
theorem dX1_wholeUp_23 : decode cX1_wholeUp 23 = .ok (.lreturn, 1) := by decide +kernel
theorem dX1_wholeUp_24 : decode cX1_wholeUp 24 = .ok (.aload_n 0, 1) := by decide +kernel
theorem dX1_wholeUp_25 : decode cX1_wholeUp 25 = .ok (.lload_n 1, 1) := by decide +kernel
theorem dX1_wholeUp_26 : decode cX1_wholeUp 26 = .ok (.invokevirtual 75, 3) := by decide +kernel
theorem dX1_wholeUp_29 : decode cX1_wholeUp 29 = .ok (.lstore_n 3, 1) := by decide +kernel
theorem dX1_wholeUp_30 : decode cX1_wholeUp 30 = .ok (.lload_n 1, 1) := by decide +kernel
theorem dX1_wholeUp_31 : decode cX1_wholeUp 31 = .ok (.lload_n 3, 1) := by decide +kernel
theorem dX1_wholeUp_32 : decode cX1_wholeUp 32 = .ok (.lneg, 1) := by decide +kernel
theorem dX1_wholeUp_33 : decode cX1_wholeUp 33 = .ok (.land, 1) := by decide +kernel
theorem dX1_wholeUp_34 : decode cX1_wholeUp 34 = .ok (.lstore 5, 2) := by decide +kernel
theorem dX1_wholeUp_36 : decode cX1_wholeUp 36 = .ok (.lload 5, 2) := by decide +kernel
theorem dX1_wholeUp_38 : decode cX1_wholeUp 38 = .ok (.lload_n 1, 1) := by decide +kernel
theorem dX1_wholeUp_39 : decode cX1_wholeUp 39 = .ok (.lcmp, 1) := by decide +kernel
theorem dX1_wholeUp_40 : decode cX1_wholeUp 40 = .ok (.ifCond .ne 8, 3) := by decide +kernel
theorem dX1_wholeUp_43 : decode cX1_wholeUp 43 = .ok (.lload 5, 2) := by decide +kernel
theorem dX1_wholeUp_45 : decode cX1_wholeUp 45 = .ok (.goto 7, 3) := by decide +kernel
theorem dX1_wholeUp_48 : decode cX1_wholeUp 48 = .ok (.lload 5, 2) := by decide +kernel
theorem dX1_wholeUp_50 : decode cX1_wholeUp 50 = .ok (.lload_n 3, 1) := by decide +kernel
theorem dX1_wholeUp_51 : decode cX1_wholeUp 51 = .ok (.ladd, 1) := by decide +kernel
theorem dX1_wholeUp_52 : decode cX1_wholeUp 52 = .ok (.lreturn, 1) := by decide +kernel
theorem dX1_wholeNear_0 : decode cX1_wholeNear 0 = .ok (.lload_n 1, 1) := by decide +kernel
theorem dX1_wholeNear_1 : decode cX1_wholeNear 1 = .ok (.aload_n 0, 1) := by decide +kernel
theorem dX1_wholeNear_2 : decode cX1_wholeNear 2 = .ok (.getfield 28, 3) := by decide +kernel
theorem dX1_wholeNear_5 : decode cX1_wholeNear 5 = .ok (.lcmp, 1) := by decide +kernel
theorem dX1_wholeNear_6 : decode cX1_wholeNear 6 = .ok (.ifCond .ge 21, 3) := by decide +kernel
theorem dX1_wholeNear_9 : decode cX1_wholeNear 9 = .ok (.lload_n 1, 1) := by decide +kernel
theorem dX1_wholeNear_10 : decode cX1_wholeNear 10 = .ok (.aload_n 0, 1) := by decide +kernel
theorem dX1_wholeNear_11 : decode cX1_wholeNear 11 = .ok (.getfield 31, 3) := by decide +kernel
theorem dX1_wholeNear_14 : decode cX1_wholeNear 14 = .ok (.lcmp, 1) := by decide +kernel
theorem dX1_wholeNear_15 : decode cX1_wholeNear 15 = .ok (.ifCond .le 10, 3) := by decide +kernel
theorem dX1_wholeNear_18 : decode cX1_wholeNear 18 = .ok (.aload_n 0, 1) := by decide +kernel
theorem dX1_wholeNear_19 : decode cX1_wholeNear 19 = .ok (.getfield 28, 3) := by decide +kernel
theorem dX1_wholeNear_22 : decode cX1_wholeNear 22 = .ok (.goto 4, 3) := by decide +kernel
theorem dX1_wholeNear_25 : decode cX1_wholeNear 25 = .ok (.lconst 0, 1) := by decide +kernel
theorem dX1_wholeNear_26 : decode cX1_wholeNear 26 = .ok (.lreturn, 1) := by decide +kernel
theorem dX1_wholeNear_27 : decode cX1_wholeNear 27 = .ok (.aload_n 0, 1) := by decide +kernel
theorem dX1_wholeNear_28 : decode cX1_wholeNear 28 = .ok (.lload_n 1, 1) := by decide +kernel
theorem dX1_wholeNear_29 : decode cX1_wholeNear 29 = .ok (.invokevirtual 75, 3) := by decide +kernel
theorem dX1_wholeNear_32 : decode cX1_wholeNear 32 = .ok (.lstore_n 3, 1) := by decide +kernel
theorem dX1_wholeNear_33 : decode cX1_wholeNear 33 = .ok (.lload_n 1, 1) := by decide +kernel
theorem dX1_wholeNear_34 : decode cX1_wholeNear 34 = .ok (.lload_n 3, 1) := by decide +kernel
theorem dX1_wholeNear_35 : decode cX1_wholeNear 35 = .ok (.lneg, 1) := by decide +kernel
theorem dX1_wholeNear_36 : decode cX1_wholeNear 36 = .ok (.land, 1) := by decide +kernel
theorem dX1_wholeNear_37 : decode cX1_wholeNear 37 = .ok (.lstore 5, 2) := by decide +kernel
theorem dX1_wholeNear_39 : decode cX1_wholeNear 39 = .ok (.lload_n 1, 1) := by decide +kernel
theorem dX1_wholeNear_40 : decode cX1_wholeNear 40 = .ok (.lload 5, 2) := by decide +kernel
theorem dX1_wholeNear_42 : decode cX1_wholeNear 42 = .ok (.lsub, 1) := by decide +kernel
theorem dX1_wholeNear_43 : decode cX1_wholeNear 43 = .ok (.iconst 1, 1) := by decide +kernel
theorem dX1_wholeNear_44 : decode cX1_wholeNear 44 = .ok (.lshl, 1) := by decide +kernel
theorem dX1_wholeNear_45 : decode cX1_wholeNear 45 = .ok (.lstore 7, 2) := by decide +kernel
theorem dX1_wholeNear_47 : decode cX1_wholeNear 47 = .ok (.lload 5, 2) := by decide +kernel
theorem dX1_wholeNear_49 : decode cX1_wholeNear 49 = .ok (.aload_n 0, 1) := by decide +kernel
theorem dX1_wholeNear_50 : decode cX1_wholeNear 50 = .ok (.getfield 13, 3) := by decide +kernel
theorem dX1_wholeNear_53 : decode cX1_wholeNear 53 = .ok (.lor, 1) := by decide +kernel
theorem dX1_wholeNear_54 : decode cX1_wholeNear 54 = .ok (.lload_n 3, 1) := by decide +kernel
theorem dX1_wholeNear_55 : decode cX1_wholeNear 55 = .ok (.land, 1) := by decide +kernel
theorem dX1_wholeNear_56 : decode cX1_wholeNear 56 = .ok (.lconst 0, 1) := by decide +kernel
theorem dX1_wholeNear_57 : decode cX1_wholeNear 57 = .ok (.lcmp, 1) := by decide +kernel
theorem dX1_wholeNear_58 : decode cX1_wholeNear 58 = .ok (.ifCond .eq 7, 3) := by decide +kernel
theorem dX1_wholeNear_61 : decode cX1_wholeNear 61 = .ok (.iconst 1, 1) := by decide +kernel
theorem dX1_wholeNear_62 : decode cX1_wholeNear 62 = .ok (.goto 4, 3) := by decide +kernel
theorem dX1_wholeNear_65 : decode cX1_wholeNear 65 = .ok (.iconst 0, 1) := by decide +kernel
theorem dX1_wholeNear_66 : decode cX1_wholeNear 66 = .ok (.istore 9, 2) := by decide +kernel
theorem dX1_wholeNear_68 : decode cX1_wholeNear 68 = .ok (.lload 7, 2) := by decide +kernel
theorem dX1_wholeNear_70 : decode cX1_wholeNear 70 = .ok (.lload_n 3, 1) := by decide +kernel
theorem dX1_wholeNear_71 : decode cX1_wholeNear 71 = .ok (.lcmp, 1) := by decide +kernel
theorem dX1_wholeNear_72 : decode cX1_wholeNear 72 = .ok (.ifCond .gt 15, 3) := by decide +kernel
theorem dX1_wholeNear_75 : decode cX1_wholeNear 75 = .ok (.lload 7, 2) := by decide +kernel
theorem dX1_wholeNear_77 : decode cX1_wholeNear 77 = .ok (.lload_n 3, 1) := by decide +kernel
theorem dX1_wholeNear_78 : decode cX1_wholeNear 78 = .ok (.lcmp, 1) := by decide +kernel
theorem dX1_wholeNear_79 : decode cX1_wholeNear 79 = .ok (.ifCond .ne 12, 3) := by decide +kernel
theorem dX1_wholeNear_82 : decode cX1_wholeNear 82 = .ok (.iload 9, 2) := by decide +kernel
theorem dX1_wholeNear_84 : decode cX1_wholeNear 84 = .ok (.ifCond .eq 7, 3) := by decide +kernel
theorem dX1_wholeNear_87 : decode cX1_wholeNear 87 = .ok (.iconst 1, 1) := by decide +kernel
theorem dX1_wholeNear_88 : decode cX1_wholeNear 88 = .ok (.goto 4, 3) := by decide +kernel
theorem dX1_wholeNear_91 : decode cX1_wholeNear 91 = .ok (.iconst 0, 1) := by decide +kernel
theorem dX1_wholeNear_92 : decode cX1_wholeNear 92 = .ok (.istore 10, 2) := by decide +kernel
theorem dX1_wholeNear_94 : decode cX1_wholeNear 94 = .ok (.iload 10, 2) := by decide +kernel
theorem dX1_wholeNear_96 : decode cX1_wholeNear 96 = .ok (.ifCond .eq 10, 3) := by decide +kernel
theorem dX1_wholeNear_99 : decode cX1_wholeNear 99 = .ok (.lload 5, 2) := by decide +kernel
theorem dX1_wholeNear_101 : decode cX1_wholeNear 101 = .ok (.lload_n 3, 1) := by decide +kernel
theorem dX1_wholeNear_102 : decode cX1_wholeNear 102 = .ok (.ladd, 1) := by decide +kernel
theorem dX1_wholeNear_103 : decode cX1_wholeNear 103 = .ok (.goto 5, 3) := by decide +kernel
theorem dX1_wholeNear_106 : decode cX1_wholeNear 106 = .ok (.lload 5, 2) := by decide +kernel
theorem dX1_wholeNear_108 : decode cX1_wholeNear 108 = .ok (.lreturn, 1) := by decide +kernel
theorem dX1_sum_0 : decode cX1_sum 0 = .ok (.aload_n 0, 1) := by decide +kernel
theorem dX1_sum_1 : decode cX1_sum 1 = .ok (.lload_n 1, 1) := by decide +kernel
theorem dX1_sum_2 : decode cX1_sum 2 = .ok (.invokevirtual 61, 3) := by decide +kernel
theorem dX1_sum_5 : decode cX1_sum 5 = .ok (.ifCond .eq 5, 3) := by decide +kernel
theorem dX1_sum_8 : decode cX1_sum 8 = .ok (.lload_n 1, 1) := by decide +kernel
theorem dX1_sum_9 : decode cX1_sum 9 = .ok (.lreturn, 1) := by decide +kernel
theorem dX1_sum_10 : decode cX1_sum 10 = .ok (.aload_n 0, 1) := by decide +kernel
theorem dX1_sum_11 : decode cX1_sum 11 = .ok (.lload_n 3, 1) := by decide +kernel
theorem dX1_sum_12 : decode cX1_sum 12 = .ok (.invokevirtual 61, 3) := by decide +kernel
theorem dX1_sum_15 : decode cX1_sum 15 = .ok (.ifCond .eq 5, 3) := by decide +kernel
theorem dX1_sum_18 : decode cX1_sum 18 = .ok (.lload_n 3, 1) := by decide +kernel
theorem dX1_sum_19 : decode cX1_sum 19 = .ok (.lreturn, 1) := by decide +kernel
theorem dX1_sum_20 : decode cX1_sum 20 = .ok (.aload_n 0, 1) := by decide +kernel
theorem dX1_sum_21 : decode cX1_sum 21 = .ok (.lload_n 1, 1) := by decide +kernel
theorem dX1_sum_22 : decode cX1_sum 22 = .ok (.invokevirtual 37, 3) := by decide +kernel
theorem dX1_sum_25 : decode cX1_sum 25 = .ok (.aload_n 0, 1) := by decide +kernel
theorem dX1_sum_26 : decode cX1_sum 26 = .ok (.lload_n 3, 1) := by decide +kernel
theorem dX1_sum_27 : decode cX1_sum 27 = .ok (.invokevirtual 37, 3) := by decide +kernel
theorem dX1_sum_30 : decode cX1_sum 30 = .ok (.lcmp, 1) := by decide +kernel
theorem dX1_sum_31 : decode cX1_sum 31 = .ok (.ifCond .lt 7, 3) := by decide +kernel
theorem dX1_sum_34 : decode cX1_sum 34 = .ok (.lload_n 1, 1) := by decide +kernel
theorem dX1_sum_35 : decode cX1_sum 35 = .ok (.goto 4, 3) := by decide +kernel
theorem dX1_sum_38 : decode cX1_sum 38 = .ok (.lload_n 3, 1) := by decide +kernel
theorem dX1_sum_39 : decode cX1_sum 39 = .ok (.lstore 5, 2) := by decide +kernel
theorem dX1_sum_41 : decode cX1_sum 41 = .ok (.aload_n 0, 1) := by decide +kernel
theorem dX1_sum_42 : decode cX1_sum 42 = .ok (.lload_n 1, 1) := by decide +kernel
theorem dX1_sum_43 : decode cX1_sum 43 = .ok (.invokevirtual 37, 3) := by decide +kernel
theorem dX1_sum_46 : decode cX1_sum 46 = .ok (.aload_n 0, 1) := by decide +kernel
theorem dX1_sum_47 : decode cX1_sum 47 = .ok (.lload_n 3, 1) := by decide +kernel
theorem dX1_sum_48 : decode cX1_sum 48 = .ok (.invokevirtual 37, 3) := by decide +kernel
theorem dX1_sum_51 : decode cX1_sum 51 = .ok (.lcmp, 1) := by decide +kernel
theorem dX1_sum_52 : decode cX1_sum 52 = .ok (.ifCond .lt 7, 3) := by decide +kernel
theorem dX1_sum_55 : decode cX1_sum 55 = .ok (.lload_n 3, 1) := by decide +kernel
theorem dX1_sum_56 : decode cX1_sum 56 = .ok (.goto 4, 3) := by decide +kernel
theorem dX1_sum_59 : decode cX1_sum 59 = .ok (.lload_n 1, 1) := by decide +kernel
theorem dX1_sum_60 : decode cX1_sum 60 = .ok (.lstore 7, 2) := by decide +kernel
theorem dX1_sum_62 : decode cX1_sum 62 = .ok (.aload_n 0, 1) := by decide +kernel
theorem dX1_sum_63 : decode cX1_sum 63 = .ok (.lload 5, 2) := by decide +kernel
theorem dX1_sum_65 : decode cX1_sum 65 = .ok (.invokevirtual 78, 3) := by decide +kernel
theorem dX1_sum_68 : decode cX1_sum 68 = .ok (.iconst 3, 1) := by decide +kernel
theorem dX1_sum_69 : decode cX1_sum 69 = .ok (.lshl, 1) := by decide +kernel
theorem dX1_sum_70 : decode cX1_sum 70 = .ok (.lstore 9, 2) := by decide +kernel
theorem dX1_sum_72 : decode cX1_sum 72 = .ok (.aload_n 0, 1) := by decide +kernel
theorem dX1_sum_73 : decode cX1_sum 73 = .ok (.lload 7, 2) := by decide +kernel
theorem dX1_sum_75 : decode cX1_sum 75 = .ok (.invokevirtual 78, 3) := by decide +kernel
theorem dX1_sum_78 : decode cX1_sum 78 = .ok (.iconst 3, 1) := by decide +kernel
theorem dX1_sum_79 : decode cX1_sum 79 = .ok (.lshl, 1) := by decide +kernel
theorem dX1_sum_80 : decode cX1_sum 80 = .ok (.aload_n 0, 1) := by decide +kernel
theorem dX1_sum_81 : decode cX1_sum 81 = .ok (.lload 5, 2) := by decide +kernel
theorem dX1_sum_83 : decode cX1_sum 83 = .ok (.invokevirtual 81, 3) := by decide +kernel
theorem dX1_sum_86 : decode cX1_sum 86 = .ok (.aload_n 0, 1) := by decide +kernel
theorem dX1_sum_87 : decode cX1_sum 87 = .ok (.lload 7, 2) := by decide +kernel
theorem dX1_sum_89 : decode cX1_sum 89 = .ok (.invokevirtual 81, 3) := by decide +kernel
theorem dX1_sum_92 : decode cX1_sum 92 = .ok (.isub, 1) := by decide +kernel
theorem dX1_sum_93 : decode cX1_sum 93 = .ok (.invokestatic 85, 3) := by decide +kernel
theorem dX1_sum_96 : decode cX1_sum 96 = .ok (.lstore 11, 2) := by decide +kernel
theorem dX1_sum_98 : decode cX1_sum 98 = .ok (.lload_n 1, 1) := by decide +kernel
theorem dX1_sum_99 : decode cX1_sum 99 = .ok (.lconst 0, 1) := by decide +kernel
theorem dX1_sum_100 : decode cX1_sum 100 = .ok (.lcmp, 1) := by decide +kernel
theorem dX1_sum_101 : decode cX1_sum 101 = .ok (.ifCond .ge 7, 3) := by decide +kernel
theorem dX1_sum_104 : decode cX1_sum 104 = .ok (.iconst 1, 1) := by decide +kernel
theorem dX1_sum_105 : decode cX1_sum 105 = .ok (.goto 4, 3) := by decide +kernel
theorem dX1_sum_108 : decode cX1_sum 108 = .ok (.iconst 0, 1) := by decide +kernel
theorem dX1_sum_109 : decode cX1_sum 109 = .ok (.lload_n 3, 1) := by decide +kernel
theorem dX1_sum_110 : decode cX1_sum 110 = .ok (.lconst 0, 1) := by decide +kernel
theorem dX1_sum_111 : decode cX1_sum 111 = .ok (.lcmp, 1) := by decide +kernel
theorem dX1_sum_112 : decode cX1_sum 112 = .ok (.ifCond .ge 7, 3) := by decide +kernel
theorem dX1_sum_115 : decode cX1_sum 115 = .ok (.iconst 1, 1) := by decide +kernel
theorem dX1_sum_116 : decode cX1_sum 116 = .ok (.goto 4, 3) := by decide +kernel
theorem dX1_sum_119 : decode cX1_sum 119 = .ok (.iconst 0, 1) := by decide +kernel
theorem dX1_sum_120 : decode cX1_sum 120 = .ok (.if_icmp .ne 7, 3) := by decide +kernel
theorem dX1_sum_123 : decode cX1_sum 123 = .ok (.iconst 1, 1) := by decide +kernel
theorem dX1_sum_124 : decode cX1_sum 124 = .ok (.goto 4, 3) := by decide +kernel
theorem dX1_sum_127 : decode cX1_sum 127 = .ok (.iconst 0, 1) := by decide +kernel
theorem dX1_sum_128 : decode cX1_sum 128 = .ok (.istore 13, 2) := by decide +kernel
theorem dX1_sum_130 : decode cX1_sum 130 = .ok (.iload 13, 2) := by decide +kernel
theorem dX1_sum_132 : decode cX1_sum 132 = .ok (.ifCond .eq 11, 3) := by decide +kernel
theorem dX1_sum_135 : decode cX1_sum 135 = .ok (.lload 9, 2) := by decide +kernel
theorem dX1_sum_137 : decode cX1_sum 137 = .ok (.lload 11, 2) := by decide +kernel
theorem dX1_sum_139 : decode cX1_sum 139 = .ok (.ladd, 1) := by decide +kernel
theorem dX1_sum_140 : decode cX1_sum 140 = .ok (.goto 8, 3) := by decide +kernel
theorem dX1_sum_143 : decode cX1_sum 143 = .ok (.lload 9, 2) := by decide +kernel
theorem dX1_sum_145 : decode cX1_sum 145 = .ok (.lload 11, 2) := by decide +kernel
theorem dX1_sum_147 : decode cX1_sum 147 = .ok (.lsub, 1) := by decide +kernel
theorem dX1_sum_148 : decode cX1_sum 148 = .ok (.lstore 14, 2) := by decide +kernel
theorem dX1_sum_150 : decode cX1_sum 150 = .ok (.lload 14, 2) := by decide +kernel
theorem dX1_sum_152 : decode cX1_sum 152 = .ok (.lconst 0, 1) := by decide +kernel
theorem dX1_sum_153 : decode cX1_sum 153 = .ok (.lcmp, 1) := by decide +kernel
theorem dX1_sum_154 : decode cX1_sum 154 = .ok (.ifCond .ne 12, 3) := by decide +kernel
theorem dX1_sum_157 : decode cX1_sum 157 = .ok (.lload_n 1, 1) := by decide +kernel
theorem dX1_sum_158 : decode cX1_sum 158 = .ok (.lload_n 3, 1) := by decide +kernel
theorem dX1_sum_159 : decode cX1_sum 159 = .ok (.land, 1) := by decide +kernel
theorem dX1_sum_160 : decode cX1_sum 160 = .ok (.aload_n 0, 1) := by decide +kernel
theorem dX1_sum_161 : decode cX1_sum 161 = .ok (.getfield 19, 3) := by decide +kernel
theorem dX1_sum_164 : decode cX1_sum 164 = .ok (.land, 1) := by decide +kernel
theorem dX1_sum_165 : decode cX1_sum 165 = .ok (.lreturn, 1) := by decide +kernel
theorem dX1_sum_166 : decode cX1_sum 166 = .ok (.aload_n 0, 1) := by decide +kernel
theorem dX1_sum_167 : decode cX1_sum 167 = .ok (.lload 14, 2) := by decide +kernel
theorem dX1_sum_169 : decode cX1_sum 169 = .ok (.aload_n 0, 1) := by decide +kernel
theorem dX1_sum_170 : decode cX1_sum 170 = .ok (.lload 5, 2) := by decide +kernel
theorem dX1_sum_172 : decode cX1_sum 172 = .ok (.invokevirtual 81, 3) := by decide +kernel
theorem dX1_sum_175 : decode cX1_sum 175 = .ok (.lload 5, 2) := by decide +kernel
theorem dX1_sum_177 : decode cX1_sum 177 = .ok (.lconst 0, 1) := by decide +kernel
theorem dX1_sum_178 : decode cX1_sum 178 = .ok (.lcmp, 1) := by decide +kernel
theorem dX1_sum_179 : decode cX1_sum 179 = .ok (.ifCond .ge 7, 3) := by decide +kernel
theorem dX1_sum_182 : decode cX1_sum 182 = .ok (.iconst 1, 1) := by decide +kernel
theorem dX1_sum_183 : decode cX1_sum 183 = .ok (.goto 4, 3) := by decide +kernel
theorem dX1_sum_186 : decode cX1_sum 186 = .ok (.iconst 0, 1) := by decide +kernel
theorem dX1_sum_187 : decode cX1_sum 187 = .ok (.invokevirtual 88, 3) := by decide +kernel
theorem dX1_sum_190 : decode cX1_sum 190 = .ok (.lreturn, 1) := by decide +kernel
theorem dX1_scaled_0 : decode cX1_scaled 0 = .ok (.aload_n 0, 1) := by decide +kernel
theorem dX1_scaled_1 : decode cX1_scaled 1 = .ok (.lload_n 1, 1) := by decide +kernel
theorem dX1_scaled_2 : decode cX1_scaled 2 = .ok (.invokevirtual 37, 3) := by decide +kernel
theorem dX1_scaled_5 : decode cX1_scaled 5 = .ok (.lconst 0, 1) := by decide +kernel
theorem dX1_scaled_6 : decode cX1_scaled 6 = .ok (.lcmp, 1) := by decide +kernel
theorem dX1_scaled_7 : decode cX1_scaled 7 = .ok (.ifCond .eq 11, 3) := by decide +kernel
theorem dX1_scaled_10 : decode cX1_scaled 10 = .ok (.aload_n 0, 1) := by decide +kernel
theorem dX1_scaled_11 : decode cX1_scaled 11 = .ok (.lload_n 1, 1) := by decide +kernel
theorem dX1_scaled_12 : decode cX1_scaled 12 = .ok (.invokevirtual 61, 3) := by decide +kernel
theorem dX1_scaled_15 : decode cX1_scaled 15 = .ok (.ifCond .eq 5, 3) := by decide +kernel
theorem dX1_scaled_18 : decode cX1_scaled 18 = .ok (.lload_n 1, 1) := by decide +kernel
theorem dX1_scaled_19 : decode cX1_scaled 19 = .ok (.lreturn, 1) := by decide +kernel
theorem dX1_scaled_20 : decode cX1_scaled 20 = .ok (.aload_n 0, 1) := by decide +kernel
theorem dX1_scaled_21 : decode cX1_scaled 21 = .ok (.aload_n 0, 1) := by decide +kernel
theorem dX1_scaled_22 : decode cX1_scaled 22 = .ok (.lload_n 1, 1) := by decide +kernel
theorem dX1_scaled_23 : decode cX1_scaled 23 = .ok (.invokevirtual 78, 3) := by decide +kernel
theorem dX1_scaled_26 : decode cX1_scaled 26 = .ok (.iconst 3, 1) := by decide +kernel
theorem dX1_scaled_27 : decode cX1_scaled 27 = .ok (.lshl, 1) := by decide +kernel
theorem dX1_scaled_28 : decode cX1_scaled 28 = .ok (.aload_n 0, 1) := by decide +kernel
theorem dX1_scaled_29 : decode cX1_scaled 29 = .ok (.lload_n 1, 1) := by decide +kernel
theorem dX1_scaled_30 : decode cX1_scaled 30 = .ok (.invokevirtual 81, 3) := by decide +kernel
theorem dX1_scaled_33 : decode cX1_scaled 33 = .ok (.iload_n 3, 1) := by decide +kernel
theorem dX1_scaled_34 : decode cX1_scaled 34 = .ok (.iadd, 1) := by decide +kernel
theorem dX1_scaled_35 : decode cX1_scaled 35 = .ok (.lload_n 1, 1) := by decide +kernel
theorem dX1_scaled_36 : decode cX1_scaled 36 = .ok (.lconst 0, 1) := by decide +kernel
theorem dX1_scaled_37 : decode cX1_scaled 37 = .ok (.lcmp, 1) := by decide +kernel
theorem dX1_scaled_38 : decode cX1_scaled 38 = .ok (.ifCond .ge 7, 3) := by decide +kernel
theorem dX1_scaled_41 : decode cX1_scaled 41 = .ok (.iconst 1, 1) := by decide +kernel
theorem dX1_scaled_42 : decode cX1_scaled 42 = .ok (.goto 4, 3) := by decide +kernel
theorem dX1_scaled_45 : decode cX1_scaled 45 = .ok (.iconst 0, 1) := by decide +kernel
theorem dX1_scaled_46 : decode cX1_scaled 46 = .ok (.invokevirtual 88, 3) := by decide +kernel
theorem dX1_scaled_49 : decode cX1_scaled 49 = .ok (.lreturn, 1) := by decide +kernel
theorem dX1_rounded_0 : decode cX1_rounded 0 = .ok (.aload_n 0, 1) := by decide +kernel
theorem dX1_rounded_1 : decode cX1_rounded 1 = .ok (.getfield 13, 3) := by decide +kernel
theorem dX1_rounded_4 : decode cX1_rounded 4 = .ok (.iconst 3, 1) := by decide +kernel
theorem dX1_rounded_5 : decode cX1_rounded 5 = .ok (.lshl, 1) := by decide +kernel
theorem dX1_rounded_6 : decode cX1_rounded 6 = .ok (.lstore 5, 2) := by decide +kernel
theorem dX1_rounded_8 : decode cX1_rounded 8 = .ok (.lload_n 1, 1) := by decide +kernel
theorem dX1_rounded_9 : decode cX1_rounded 9 = .ok (.lstore 7, 2) := by decide +kernel
theorem dX1_rounded_11 : decode cX1_rounded 11 = .ok (.iload_n 3, 1) := by decide +kernel
theorem dX1_rounded_12 : decode cX1_rounded 12 = .ok (.istore 9, 2) := by decide +kernel
theorem dX1_rounded_14 : decode cX1_rounded 14 = .ok (.lload 7, 2) := by decide +kernel
theorem dX1_rounded_16 : decode cX1_rounded 16 = .ok (.lload 5, 2) := by decide +kernel
theorem dX1_rounded_18 : decode cX1_rounded 18 = .ok (.iconst 1, 1) := by decide +kernel
theorem dX1_rounded_19 : decode cX1_rounded 19 = .ok (.lshl, 1) := by decide +kernel
theorem dX1_rounded_20 : decode cX1_rounded 20 = .ok (.lcmp, 1) := by decide +kernel
theorem dX1_rounded_21 : decode cX1_rounded 21 = .ok (.ifCond .lt 14, 3) := by decide +kernel
theorem dX1_rounded_24 : decode cX1_rounded 24 = .ok (.lload 7, 2) := by decide +kernel
theorem dX1_rounded_26 : decode cX1_rounded 26 = .ok (.iconst 1, 1) := by decide +kernel
theorem dX1_rounded_27 : decode cX1_rounded 27 = .ok (.invokestatic 85, 3) := by decide +kernel
theorem dX1_rounded_30 : decode cX1_rounded 30 = .ok (.lstore 7, 2) := by decide +kernel
theorem dX1_rounded_32 : decode cX1_rounded 32 = .ok (.iinc 9 1, 3) := by decide +kernel
theorem dX1_rounded_35 : decode cX1_rounded 35 = .ok (.iconst 0, 1) := by decide +kernel
theorem dX1_rounded_36 : decode cX1_rounded 36 = .ok (.istore 10, 2) := by decide +kernel
theorem dX1_rounded_38 : decode cX1_rounded 38 = .ok (.iload 10, 2) := by decide +kernel
theorem dX1_rounded_40 : decode cX1_rounded 40 = .ok (.bipush 60, 2) := by decide +kernel
theorem dX1_rounded_42 : decode cX1_rounded 42 = .ok (.if_icmp .ge 32, 3) := by decide +kernel
theorem dX1_rounded_45 : decode cX1_rounded 45 = .ok (.lload 7, 2) := by decide +kernel
theorem dX1_rounded_47 : decode cX1_rounded 47 = .ok (.lload 5, 2) := by decide +kernel
theorem dX1_rounded_49 : decode cX1_rounded 49 = .ok (.lcmp, 1) := by decide +kernel
theorem dX1_rounded_50 : decode cX1_rounded 50 = .ok (.ifCond .ge 24, 3) := by decide +kernel
theorem dX1_rounded_53 : decode cX1_rounded 53 = .ok (.iload 9, 2) := by decide +kernel
theorem dX1_rounded_55 : decode cX1_rounded 55 = .ok (.iconst 1, 1) := by decide +kernel
theorem dX1_rounded_56 : decode cX1_rounded 56 = .ok (.if_icmp .le 18, 3) := by decide +kernel
theorem dX1_rounded_59 : decode cX1_rounded 59 = .ok (.lload 7, 2) := by decide +kernel
theorem dX1_rounded_61 : decode cX1_rounded 61 = .ok (.iconst 1, 1) := by decide +kernel
theorem dX1_rounded_62 : decode cX1_rounded 62 = .ok (.lshl, 1) := by decide +kernel
theorem dX1_rounded_63 : decode cX1_rounded 63 = .ok (.lstore 7, 2) := by decide +kernel
theorem dX1_rounded_65 : decode cX1_rounded 65 = .ok (.iinc 9 (-1), 3) := by decide +kernel
theorem dX1_rounded_68 : decode cX1_rounded 68 = .ok (.iinc 10 1, 3) := by decide +kernel
theorem dX1_rounded_71 : decode cX1_rounded 71 = .ok (.goto (-33), 3) := by decide +kernel
theorem dX1_rounded_74 : decode cX1_rounded 74 = .ok (.iload 9, 2) := by decide +kernel
theorem dX1_rounded_76 : decode cX1_rounded 76 = .ok (.iconst 1, 1) := by decide +kernel
theorem dX1_rounded_77 : decode cX1_rounded 77 = .ok (.if_icmp .ge 17, 3) := by decide +kernel
theorem dX1_rounded_80 : decode cX1_rounded 80 = .ok (.lload 7, 2) := by decide +kernel
theorem dX1_rounded_82 : decode cX1_rounded 82 = .ok (.iconst 1, 1) := by decide +kernel
theorem dX1_rounded_83 : decode cX1_rounded 83 = .ok (.iload 9, 2) := by decide +kernel
theorem dX1_rounded_85 : decode cX1_rounded 85 = .ok (.isub, 1) := by decide +kernel
theorem dX1_rounded_86 : decode cX1_rounded 86 = .ok (.invokestatic 85, 3) := by decide +kernel
theorem dX1_rounded_89 : decode cX1_rounded 89 = .ok (.lstore 7, 2) := by decide +kernel
theorem dX1_rounded_91 : decode cX1_rounded 91 = .ok (.iconst 1, 1) := by decide +kernel
theorem dX1_rounded_92 : decode cX1_rounded 92 = .ok (.istore 9, 2) := by decide +kernel
theorem dX1_rounded_94 : decode cX1_rounded 94 = .ok (.iload 9, 2) := by decide +kernel
theorem dX1_rounded_96 : decode cX1_rounded 96 = .ok (.aload_n 0, 1) := by decide +kernel
theorem dX1_rounded_97 : decode cX1_rounded 97 = .ok (.getfield 25, 3) := by decide +kernel
theorem dX1_rounded_100 : decode cX1_rounded 100 = .ok (.if_icmp .lt 14, 3) := by decide +kernel
theorem dX1_rounded_103 : decode cX1_rounded 103 = .ok (.aload_n 0, 1) := by decide +kernel
theorem dX1_rounded_104 : decode cX1_rounded 104 = .ok (.aload_n 0, 1) := by decide +kernel
theorem dX1_rounded_105 : decode cX1_rounded 105 = .ok (.getfield 34, 3) := by decide +kernel
theorem dX1_rounded_108 : decode cX1_rounded 108 = .ok (.iload 4, 2) := by decide +kernel
theorem dX1_rounded_110 : decode cX1_rounded 110 = .ok (.invokevirtual 44, 3) := by decide +kernel
theorem dX1_rounded_113 : decode cX1_rounded 113 = .ok (.lreturn, 1) := by decide +kernel
theorem dX1_rounded_114 : decode cX1_rounded 114 = .ok (.lload 7, 2) := by decide +kernel
theorem dX1_rounded_116 : decode cX1_rounded 116 = .ok (.iconst 3, 1) := by decide +kernel
theorem dX1_rounded_117 : decode cX1_rounded 117 = .ok (.lshr, 1) := by decide +kernel
theorem dX1_rounded_118 : decode cX1_rounded 118 = .ok (.lstore 10, 2) := by decide +kernel
theorem dX1_rounded_120 : decode cX1_rounded 120 = .ok (.lload 7, 2) := by decide +kernel
theorem dX1_rounded_122 : decode cX1_rounded 122 = .ok (.ldc2_w 92, 3) := by decide +kernel
theorem dX1_rounded_125 : decode cX1_rounded 125 = .ok (.land, 1) := by decide +kernel
theorem dX1_rounded_126 : decode cX1_rounded 126 = .ok (.lstore 12, 2) := by decide +kernel
theorem dX1_rounded_128 : decode cX1_rounded 128 = .ok (.lload 12, 2) := by decide +kernel
theorem dX1_rounded_130 : decode cX1_rounded 130 = .ok (.ldc2_w 94, 3) := by decide +kernel
theorem dX1_rounded_133 : decode cX1_rounded 133 = .ok (.lcmp, 1) := by decide +kernel
theorem dX1_rounded_134 : decode cX1_rounded 134 = .ok (.ifCond .gt 21, 3) := by decide +kernel
theorem dX1_rounded_137 : decode cX1_rounded 137 = .ok (.lload 12, 2) := by decide +kernel
theorem dX1_rounded_139 : decode cX1_rounded 139 = .ok (.ldc2_w 94, 3) := by decide +kernel
theorem dX1_rounded_142 : decode cX1_rounded 142 = .ok (.lcmp, 1) := by decide +kernel
theorem dX1_rounded_143 : decode cX1_rounded 143 = .ok (.ifCond .ne 18, 3) := by decide +kernel
theorem dX1_rounded_146 : decode cX1_rounded 146 = .ok (.lload 10, 2) := by decide +kernel
theorem dX1_rounded_148 : decode cX1_rounded 148 = .ok (.lconst 1, 1) := by decide +kernel
theorem dX1_rounded_149 : decode cX1_rounded 149 = .ok (.land, 1) := by decide +kernel
theorem dX1_rounded_150 : decode cX1_rounded 150 = .ok (.lconst 1, 1) := by decide +kernel
theorem dX1_rounded_151 : decode cX1_rounded 151 = .ok (.lcmp, 1) := by decide +kernel
theorem dX1_rounded_152 : decode cX1_rounded 152 = .ok (.ifCond .ne 9, 3) := by decide +kernel
theorem dX1_rounded_155 : decode cX1_rounded 155 = .ok (.lload 10, 2) := by decide +kernel
theorem dX1_rounded_157 : decode cX1_rounded 157 = .ok (.lconst 1, 1) := by decide +kernel
theorem dX1_rounded_158 : decode cX1_rounded 158 = .ok (.ladd, 1) := by decide +kernel
theorem dX1_rounded_159 : decode cX1_rounded 159 = .ok (.lstore 10, 2) := by decide +kernel
theorem dX1_rounded_161 : decode cX1_rounded 161 = .ok (.aload_n 0, 1) := by decide +kernel
theorem dX1_rounded_162 : decode cX1_rounded 162 = .ok (.iload 9, 2) := by decide +kernel
theorem dX1_rounded_164 : decode cX1_rounded 164 = .ok (.iconst 1, 1) := by decide +kernel
theorem dX1_rounded_165 : decode cX1_rounded 165 = .ok (.isub, 1) := by decide +kernel
theorem dX1_rounded_166 : decode cX1_rounded 166 = .ok (.i2l, 1) := by decide +kernel
theorem dX1_rounded_167 : decode cX1_rounded 167 = .ok (.aload_n 0, 1) := by decide +kernel
theorem dX1_rounded_168 : decode cX1_rounded 168 = .ok (.getfield 7, 3) := by decide +kernel
theorem dX1_rounded_171 : decode cX1_rounded 171 = .ok (.lshl, 1) := by decide +kernel
theorem dX1_rounded_172 : decode cX1_rounded 172 = .ok (.lload 10, 2) := by decide +kernel
theorem dX1_rounded_174 : decode cX1_rounded 174 = .ok (.ladd, 1) := by decide +kernel
theorem dX1_rounded_175 : decode cX1_rounded 175 = .ok (.iload 4, 2) := by decide +kernel
theorem dX1_rounded_177 : decode cX1_rounded 177 = .ok (.invokevirtual 44, 3) := by decide +kernel
theorem dX1_rounded_180 : decode cX1_rounded 180 = .ok (.lreturn, 1) := by decide +kernel
theorem dX1_shiftedDown_0 : decode cX1_shiftedDown 0 = .ok (.iload_n 2, 1) := by decide +kernel
theorem dX1_shiftedDown_1 : decode cX1_shiftedDown 1 = .ok (.bipush 60, 2) := by decide +kernel
theorem dX1_shiftedDown_3 : decode cX1_shiftedDown 3 = .ok (.if_icmp .lt 15, 3) := by decide +kernel
theorem dX1_shiftedDown_6 : decode cX1_shiftedDown 6 = .ok (.lload_n 0, 1) := by decide +kernel
theorem dX1_shiftedDown_7 : decode cX1_shiftedDown 7 = .ok (.lconst 0, 1) := by decide +kernel
theorem dX1_shiftedDown_8 : decode cX1_shiftedDown 8 = .ok (.lcmp, 1) := by decide +kernel
theorem dX1_shiftedDown_9 : decode cX1_shiftedDown 9 = .ok (.ifCond .ne 7, 3) := by decide +kernel
theorem dX1_shiftedDown_12 : decode cX1_shiftedDown 12 = .ok (.lconst 0, 1) := by decide +kernel
theorem dX1_shiftedDown_13 : decode cX1_shiftedDown 13 = .ok (.goto 4, 3) := by decide +kernel
theorem dX1_shiftedDown_16 : decode cX1_shiftedDown 16 = .ok (.lconst 1, 1) := by decide +kernel
theorem dX1_shiftedDown_17 : decode cX1_shiftedDown 17 = .ok (.lreturn, 1) := by decide +kernel
theorem dX1_shiftedDown_18 : decode cX1_shiftedDown 18 = .ok (.lload_n 0, 1) := by decide +kernel
theorem dX1_shiftedDown_19 : decode cX1_shiftedDown 19 = .ok (.iload_n 2, 1) := by decide +kernel
theorem dX1_shiftedDown_20 : decode cX1_shiftedDown 20 = .ok (.lshr, 1) := by decide +kernel
theorem dX1_shiftedDown_21 : decode cX1_shiftedDown 21 = .ok (.lstore_n 3, 1) := by decide +kernel
theorem dX1_shiftedDown_22 : decode cX1_shiftedDown 22 = .ok (.lload_n 3, 1) := by decide +kernel
theorem dX1_shiftedDown_23 : decode cX1_shiftedDown 23 = .ok (.iload_n 2, 1) := by decide +kernel
theorem dX1_shiftedDown_24 : decode cX1_shiftedDown 24 = .ok (.lshl, 1) := by decide +kernel
theorem dX1_shiftedDown_25 : decode cX1_shiftedDown 25 = .ok (.lload_n 0, 1) := by decide +kernel
theorem dX1_shiftedDown_26 : decode cX1_shiftedDown 26 = .ok (.lcmp, 1) := by decide +kernel
theorem dX1_shiftedDown_27 : decode cX1_shiftedDown 27 = .ok (.ifCond .ne 7, 3) := by decide +kernel
theorem dX1_shiftedDown_30 : decode cX1_shiftedDown 30 = .ok (.lload_n 3, 1) := by decide +kernel
theorem dX1_shiftedDown_31 : decode cX1_shiftedDown 31 = .ok (.goto 6, 3) := by decide +kernel
theorem dX1_shiftedDown_34 : decode cX1_shiftedDown 34 = .ok (.lload_n 3, 1) := by decide +kernel
theorem dX1_shiftedDown_35 : decode cX1_shiftedDown 35 = .ok (.lconst 1, 1) := by decide +kernel
theorem dX1_shiftedDown_36 : decode cX1_shiftedDown 36 = .ok (.lor, 1) := by decide +kernel
theorem dX1_shiftedDown_37 : decode cX1_shiftedDown 37 = .ok (.lreturn, 1) := by decide +kernel
theorem dX2_init_0 : decode cX2_init 0 = .ok (.aload_n 0, 1) := by decide +kernel
theorem dX2_init_1 : decode cX2_init 1 = .ok (.invokespecial 1, 3) := by decide +kernel
theorem dX2_init_4 : decode cX2_init 4 = .ok (.aload_n 0, 1) := by decide +kernel
theorem dX2_init_5 : decode cX2_init 5 = .ok (.iload_n 1, 1) := by decide +kernel
theorem dX2_init_6 : decode cX2_init 6 = .ok (.putfield 7, 3) := by decide +kernel
theorem dX2_init_9 : decode cX2_init 9 = .ok (.return_, 1) := by decide +kernel
theorem dX2_fromBits_0 : decode cX2_fromBits 0 = .ok (.aload_n 0, 1) := by decide +kernel
theorem dX2_fromBits_1 : decode cX2_fromBits 1 = .ok (.getfield 7, 3) := by decide +kernel
theorem dX2_fromBits_4 : decode cX2_fromBits 4 = .ok (.ifCond .eq 9, 3) := by decide +kernel
theorem dX2_fromBits_7 : decode cX2_fromBits 7 = .ok (.lload_n 1, 1) := by decide +kernel
theorem dX2_fromBits_8 : decode cX2_fromBits 8 = .ok (.l2i, 1) := by decide +kernel
theorem dX2_fromBits_9 : decode cX2_fromBits 9 = .ok (.i2l, 1) := by decide +kernel
theorem dX2_fromBits_10 : decode cX2_fromBits 10 = .ok (.goto 4, 3) := by decide +kernel
theorem dX2_fromBits_13 : decode cX2_fromBits 13 = .ok (.lload_n 1, 1) := by decide +kernel
theorem dX2_fromBits_14 : decode cX2_fromBits 14 = .ok (.lreturn, 1) := by decide +kernel
theorem dX2_greater_0 : decode cX2_greater 0 = .ok (.aload_n 0, 1) := by decide +kernel
theorem dX2_greater_1 : decode cX2_greater 1 = .ok (.lload_n 1, 1) := by decide +kernel
theorem dX2_greater_2 : decode cX2_greater 2 = .ok (.invokevirtual 13, 3) := by decide +kernel
theorem dX2_greater_5 : decode cX2_greater 5 = .ok (.aload_n 0, 1) := by decide +kernel
theorem dX2_greater_6 : decode cX2_greater 6 = .ok (.lload_n 3, 1) := by decide +kernel
theorem dX2_greater_7 : decode cX2_greater 7 = .ok (.invokevirtual 13, 3) := by decide +kernel
theorem dX2_greater_10 : decode cX2_greater 10 = .ok (.lcmp, 1) := by decide +kernel
theorem dX2_greater_11 : decode cX2_greater 11 = .ok (.ifCond .lt 7, 3) := by decide +kernel
theorem dX2_greater_14 : decode cX2_greater 14 = .ok (.lload_n 1, 1) := by decide +kernel
theorem dX2_greater_15 : decode cX2_greater 15 = .ok (.goto 4, 3) := by decide +kernel
theorem dX2_greater_18 : decode cX2_greater 18 = .ok (.lload_n 3, 1) := by decide +kernel
theorem dX2_greater_19 : decode cX2_greater 19 = .ok (.lreturn, 1) := by decide +kernel
theorem dX2_lesser_0 : decode cX2_lesser 0 = .ok (.aload_n 0, 1) := by decide +kernel
theorem dX2_lesser_1 : decode cX2_lesser 1 = .ok (.lload_n 1, 1) := by decide +kernel
theorem dX2_lesser_2 : decode cX2_lesser 2 = .ok (.invokevirtual 13, 3) := by decide +kernel
theorem dX2_lesser_5 : decode cX2_lesser 5 = .ok (.aload_n 0, 1) := by decide +kernel
theorem dX2_lesser_6 : decode cX2_lesser 6 = .ok (.lload_n 3, 1) := by decide +kernel
theorem dX2_lesser_7 : decode cX2_lesser 7 = .ok (.invokevirtual 13, 3) := by decide +kernel
theorem dX2_lesser_10 : decode cX2_lesser 10 = .ok (.lcmp, 1) := by decide +kernel
theorem dX2_lesser_11 : decode cX2_lesser 11 = .ok (.ifCond .gt 7, 3) := by decide +kernel
theorem dX2_lesser_14 : decode cX2_lesser 14 = .ok (.lload_n 1, 1) := by decide +kernel
theorem dX2_lesser_15 : decode cX2_lesser 15 = .ok (.goto 4, 3) := by decide +kernel
theorem dX2_lesser_18 : decode cX2_lesser 18 = .ok (.lload_n 3, 1) := by decide +kernel
theorem dX2_lesser_19 : decode cX2_lesser 19 = .ok (.lreturn, 1) := by decide +kernel
theorem dX3_init_0 : decode cX3_init 0 = .ok (.aload_n 0, 1) := by decide +kernel
theorem dX3_init_1 : decode cX3_init 1 = .ok (.iload_n 1, 1) := by decide +kernel
theorem dX3_init_2 : decode cX3_init 2 = .ok (.invokespecial 1, 3) := by decide +kernel
theorem dX3_init_5 : decode cX3_init 5 = .ok (.return_, 1) := by decide +kernel
theorem dX3_isNumber_0 : decode cX3_isNumber 0 = .ok (.iconst 1, 1) := by decide +kernel
theorem dX3_isNumber_1 : decode cX3_isNumber 1 = .ok (.ireturn, 1) := by decide +kernel
theorem dX3_rank_0 : decode cX3_rank 0 = .ok (.lload_n 1, 1) := by decide +kernel
theorem dX3_rank_1 : decode cX3_rank 1 = .ok (.lreturn, 1) := by decide +kernel
theorem dX3_size_0 : decode cX3_size 0 = .ok (.lload_n 1, 1) := by decide +kernel
theorem dX3_size_1 : decode cX3_size 1 = .ok (.lconst 0, 1) := by decide +kernel
theorem dX3_size_2 : decode cX3_size 2 = .ok (.lcmp, 1) := by decide +kernel
theorem dX3_size_3 : decode cX3_size 3 = .ok (.ifCond .ge 11, 3) := by decide +kernel
theorem dX3_size_6 : decode cX3_size 6 = .ok (.aload_n 0, 1) := by decide +kernel
theorem dX3_size_7 : decode cX3_size 7 = .ok (.lload_n 1, 1) := by decide +kernel
theorem dX3_size_8 : decode cX3_size 8 = .ok (.invokevirtual 7, 3) := by decide +kernel
theorem dX3_size_11 : decode cX3_size 11 = .ok (.goto 4, 3) := by decide +kernel
theorem dX3_size_14 : decode cX3_size 14 = .ok (.lload_n 1, 1) := by decide +kernel
theorem dX3_size_15 : decode cX3_size 15 = .ok (.lreturn, 1) := by decide +kernel
theorem dX3_down_0 : decode cX3_down 0 = .ok (.lload_n 1, 1) := by decide +kernel
