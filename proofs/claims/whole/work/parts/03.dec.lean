theorem dX0_init_0 : decode cX0_init 0 = .ok (.aload_n 0, 1) := by decide +kernel
theorem dX0_init_1 : decode cX0_init 1 = .ok (.invokespecial 3, 3) := by decide +kernel
theorem dX0_init_4 : decode cX0_init 4 = .ok (.aload_n 0, 1) := by decide +kernel
theorem dX0_init_5 : decode cX0_init 5 = .ok (.bipush 6, 2) := by decide +kernel
theorem dX0_init_7 : decode cX0_init 7 = .ok (.newarray .int, 2) := by decide +kernel
theorem dX0_init_9 : decode cX0_init 9 = .ok (.putfield 9, 3) := by decide +kernel
theorem dX0_init_12 : decode cX0_init 12 = .ok (.aload_n 0, 1) := by decide +kernel
theorem dX0_init_13 : decode cX0_init 13 = .ok (.bipush 20, 2) := by decide +kernel
theorem dX0_init_15 : decode cX0_init 15 = .ok (.newarray .int, 2) := by decide +kernel
theorem dX0_init_17 : decode cX0_init 17 = .ok (.putfield 15, 3) := by decide +kernel
theorem dX0_init_20 : decode cX0_init 20 = .ok (.aload_n 0, 1) := by decide +kernel
theorem dX0_init_21 : decode cX0_init 21 = .ok (.iconst 0, 1) := by decide +kernel
theorem dX0_init_22 : decode cX0_init 22 = .ok (.putfield 18, 3) := by decide +kernel
theorem dX0_init_25 : decode cX0_init 25 = .ok (.aload_n 0, 1) := by decide +kernel
theorem dX0_init_26 : decode cX0_init 26 = .ok (.iconst 0, 1) := by decide +kernel
theorem dX0_init_27 : decode cX0_init 27 = .ok (.putfield 22, 3) := by decide +kernel
theorem dX0_init_30 : decode cX0_init 30 = .ok (.aload_n 0, 1) := by decide +kernel
theorem dX0_init_31 : decode cX0_init 31 = .ok (.iconst 0, 1) := by decide +kernel
theorem dX0_init_32 : decode cX0_init 32 = .ok (.putfield 26, 3) := by decide +kernel
theorem dX0_init_35 : decode cX0_init 35 = .ok (.aload_n 0, 1) := by decide +kernel
theorem dX0_init_36 : decode cX0_init 36 = .ok (.iconst 0, 1) := by decide +kernel
theorem dX0_init_37 : decode cX0_init 37 = .ok (.putfield 29, 3) := by decide +kernel
theorem dX0_init_40 : decode cX0_init 40 = .ok (.aload_n 0, 1) := by decide +kernel
theorem dX0_init_41 : decode cX0_init 41 = .ok (.iconst 0, 1) := by decide +kernel
theorem dX0_init_42 : decode cX0_init 42 = .ok (.putfield 32, 3) := by decide +kernel
theorem dX0_init_45 : decode cX0_init 45 = .ok (.aload_n 0, 1) := by decide +kernel
theorem dX0_init_46 : decode cX0_init 46 = .ok (.bipush 6, 2) := by decide +kernel
theorem dX0_init_48 : decode cX0_init 48 = .ok (.newarray .int, 2) := by decide +kernel
theorem dX0_init_50 : decode cX0_init 50 = .ok (.putfield 35, 3) := by decide +kernel
theorem dX0_init_53 : decode cX0_init 53 = .ok (.aload_n 0, 1) := by decide +kernel
theorem dX0_init_54 : decode cX0_init 54 = .ok (.bipush 20, 2) := by decide +kernel
theorem dX0_init_56 : decode cX0_init 56 = .ok (.newarray .int, 2) := by decide +kernel
theorem dX0_init_58 : decode cX0_init 58 = .ok (.putfield 38, 3) := by decide +kernel
theorem dX0_init_61 : decode cX0_init 61 = .ok (.aload_n 0, 1) := by decide +kernel
theorem dX0_init_62 : decode cX0_init 62 = .ok (.bipush 20, 2) := by decide +kernel
theorem dX0_init_64 : decode cX0_init 64 = .ok (.newarray .int, 2) := by decide +kernel
theorem dX0_init_66 : decode cX0_init 66 = .ok (.putfield 41, 3) := by decide +kernel
theorem dX0_init_69 : decode cX0_init 69 = .ok (.aload_n 0, 1) := by decide +kernel
theorem dX0_init_70 : decode cX0_init 70 = .ok (.bipush 6, 2) := by decide +kernel
theorem dX0_init_72 : decode cX0_init 72 = .ok (.newarray .int, 2) := by decide +kernel
theorem dX0_init_74 : decode cX0_init 74 = .ok (.putfield 44, 3) := by decide +kernel
theorem dX0_init_77 : decode cX0_init 77 = .ok (.aload_n 0, 1) := by decide +kernel
theorem dX0_init_78 : decode cX0_init 78 = .ok (.bipush 6, 2) := by decide +kernel
theorem dX0_init_80 : decode cX0_init 80 = .ok (.newarray .int, 2) := by decide +kernel
theorem dX0_init_82 : decode cX0_init 82 = .ok (.putfield 47, 3) := by decide +kernel
theorem dX0_init_85 : decode cX0_init 85 = .ok (.aload_n 0, 1) := by decide +kernel
theorem dX0_init_86 : decode cX0_init 86 = .ok (.bipush 6, 2) := by decide +kernel
theorem dX0_init_88 : decode cX0_init 88 = .ok (.bipush 6, 2) := by decide +kernel
theorem dX0_init_90 : decode cX0_init 90 = .ok (.multianewarray 50 2, 4) := by decide +kernel
theorem dX0_init_94 : decode cX0_init 94 = .ok (.putfield 52, 3) := by decide +kernel
theorem dX0_init_97 : decode cX0_init 97 = .ok (.return_, 1) := by decide +kernel
theorem dX0_settle_0 : decode cX0_settle 0 = .ok (.aload_n 0, 1) := by decide +kernel
theorem dX0_settle_1 : decode cX0_settle 1 = .ok (.invokevirtual 55, 3) := by decide +kernel
theorem dX0_settle_4 : decode cX0_settle 4 = .ok (.aload_n 0, 1) := by decide +kernel
theorem dX0_settle_5 : decode cX0_settle 5 = .ok (.aload_n 1, 1) := by decide +kernel
theorem dX0_settle_6 : decode cX0_settle 6 = .ok (.invokevirtual 58, 3) := by decide +kernel
theorem dX0_settle_9 : decode cX0_settle 9 = .ok (.aload_n 0, 1) := by decide +kernel
theorem dX0_settle_10 : decode cX0_settle 10 = .ok (.aload_n 1, 1) := by decide +kernel
theorem dX0_settle_11 : decode cX0_settle 11 = .ok (.getfield 62, 3) := by decide +kernel
theorem dX0_settle_14 : decode cX0_settle 14 = .ok (.invokevirtual 67, 3) := by decide +kernel
theorem dX0_settle_17 : decode cX0_settle 17 = .ok (.aload_n 0, 1) := by decide +kernel
theorem dX0_settle_18 : decode cX0_settle 18 = .ok (.aload_n 1, 1) := by decide +kernel
theorem dX0_settle_19 : decode cX0_settle 19 = .ok (.invokevirtual 71, 3) := by decide +kernel
theorem dX0_settle_22 : decode cX0_settle 22 = .ok (.return_, 1) := by decide +kernel
theorem dX0_clear_0 : decode cX0_clear 0 = .ok (.iconst 0, 1) := by decide +kernel
theorem dX0_clear_1 : decode cX0_clear 1 = .ok (.istore_n 1, 1) := by decide +kernel
theorem dX0_clear_2 : decode cX0_clear 2 = .ok (.iload_n 1, 1) := by decide +kernel
theorem dX0_clear_3 : decode cX0_clear 3 = .ok (.bipush 6, 2) := by decide +kernel
theorem dX0_clear_5 : decode cX0_clear 5 = .ok (.if_icmp .ge 53, 3) := by decide +kernel
theorem dX0_clear_8 : decode cX0_clear 8 = .ok (.aload_n 0, 1) := by decide +kernel
theorem dX0_clear_9 : decode cX0_clear 9 = .ok (.getfield 9, 3) := by decide +kernel
theorem dX0_clear_12 : decode cX0_clear 12 = .ok (.iload_n 1, 1) := by decide +kernel
theorem dX0_clear_13 : decode cX0_clear 13 = .ok (.iconst 0, 1) := by decide +kernel
theorem dX0_clear_14 : decode cX0_clear 14 = .ok (.iastore, 1) := by decide +kernel
theorem dX0_clear_15 : decode cX0_clear 15 = .ok (.aload_n 0, 1) := by decide +kernel
theorem dX0_clear_16 : decode cX0_clear 16 = .ok (.getfield 44, 3) := by decide +kernel
theorem dX0_clear_19 : decode cX0_clear 19 = .ok (.iload_n 1, 1) := by decide +kernel
theorem dX0_clear_20 : decode cX0_clear 20 = .ok (.iconst 0, 1) := by decide +kernel
theorem dX0_clear_21 : decode cX0_clear 21 = .ok (.iastore, 1) := by decide +kernel
theorem dX0_clear_22 : decode cX0_clear 22 = .ok (.aload_n 0, 1) := by decide +kernel
theorem dX0_clear_23 : decode cX0_clear 23 = .ok (.getfield 47, 3) := by decide +kernel
theorem dX0_clear_26 : decode cX0_clear 26 = .ok (.iload_n 1, 1) := by decide +kernel
theorem dX0_clear_27 : decode cX0_clear 27 = .ok (.iconst 0, 1) := by decide +kernel
theorem dX0_clear_28 : decode cX0_clear 28 = .ok (.iastore, 1) := by decide +kernel
theorem dX0_clear_29 : decode cX0_clear 29 = .ok (.iconst 0, 1) := by decide +kernel
theorem dX0_clear_30 : decode cX0_clear 30 = .ok (.istore_n 2, 1) := by decide +kernel
theorem dX0_clear_31 : decode cX0_clear 31 = .ok (.iload_n 2, 1) := by decide +kernel
theorem dX0_clear_32 : decode cX0_clear 32 = .ok (.bipush 6, 2) := by decide +kernel
theorem dX0_clear_34 : decode cX0_clear 34 = .ok (.if_icmp .ge 18, 3) := by decide +kernel
theorem dX0_clear_37 : decode cX0_clear 37 = .ok (.aload_n 0, 1) := by decide +kernel
theorem dX0_clear_38 : decode cX0_clear 38 = .ok (.getfield 52, 3) := by decide +kernel
theorem dX0_clear_41 : decode cX0_clear 41 = .ok (.iload_n 1, 1) := by decide +kernel
theorem dX0_clear_42 : decode cX0_clear 42 = .ok (.aaload, 1) := by decide +kernel
theorem dX0_clear_43 : decode cX0_clear 43 = .ok (.iload_n 2, 1) := by decide +kernel
theorem dX0_clear_44 : decode cX0_clear 44 = .ok (.iconst 0, 1) := by decide +kernel
theorem dX0_clear_45 : decode cX0_clear 45 = .ok (.iastore, 1) := by decide +kernel
theorem dX0_clear_46 : decode cX0_clear 46 = .ok (.iinc 2 1, 3) := by decide +kernel
theorem dX0_clear_49 : decode cX0_clear 49 = .ok (.goto (-18), 3) := by decide +kernel
theorem dX0_clear_52 : decode cX0_clear 52 = .ok (.iinc 1 1, 3) := by decide +kernel
theorem dX0_clear_55 : decode cX0_clear 55 = .ok (.goto (-53), 3) := by decide +kernel
theorem dX0_clear_58 : decode cX0_clear 58 = .ok (.return_, 1) := by decide +kernel
theorem dX0_gather_0 : decode cX0_gather 0 = .ok (.iconst 0, 1) := by decide +kernel
theorem dX0_gather_1 : decode cX0_gather 1 = .ok (.istore_n 2, 1) := by decide +kernel
theorem dX0_gather_2 : decode cX0_gather 2 = .ok (.iload_n 2, 1) := by decide +kernel
theorem dX0_gather_3 : decode cX0_gather 3 = .ok (.aload_n 1, 1) := by decide +kernel
theorem dX0_gather_4 : decode cX0_gather 4 = .ok (.getfield 74, 3) := by decide +kernel
theorem dX0_gather_7 : decode cX0_gather 7 = .ok (.if_icmp .ge 129, 3) := by decide +kernel
theorem dX0_gather_10 : decode cX0_gather 10 = .ok (.aload_n 1, 1) := by decide +kernel
theorem dX0_gather_11 : decode cX0_gather 11 = .ok (.iload_n 2, 1) := by decide +kernel
theorem dX0_gather_12 : decode cX0_gather 12 = .ok (.invokevirtual 77, 3) := by decide +kernel
theorem dX0_gather_15 : decode cX0_gather 15 = .ok (.istore_n 3, 1) := by decide +kernel
theorem dX0_gather_16 : decode cX0_gather 16 = .ok (.aload_n 1, 1) := by decide +kernel
theorem dX0_gather_17 : decode cX0_gather 17 = .ok (.getfield 81, 3) := by decide +kernel
theorem dX0_gather_20 : decode cX0_gather 20 = .ok (.iload_n 2, 1) := by decide +kernel
theorem dX0_gather_21 : decode cX0_gather 21 = .ok (.iaload, 1) := by decide +kernel
theorem dX0_gather_22 : decode cX0_gather 22 = .ok (.istore 4, 2) := by decide +kernel
theorem dX0_gather_24 : decode cX0_gather 24 = .ok (.aload_n 1, 1) := by decide +kernel
theorem dX0_gather_25 : decode cX0_gather 25 = .ok (.getfield 84, 3) := by decide +kernel
theorem dX0_gather_28 : decode cX0_gather 28 = .ok (.iload_n 2, 1) := by decide +kernel
theorem dX0_gather_29 : decode cX0_gather 29 = .ok (.iaload, 1) := by decide +kernel
theorem dX0_gather_30 : decode cX0_gather 30 = .ok (.istore 5, 2) := by decide +kernel
theorem dX0_gather_32 : decode cX0_gather 32 = .ok (.aload_n 0, 1) := by decide +kernel
theorem dX0_gather_33 : decode cX0_gather 33 = .ok (.getfield 38, 3) := by decide +kernel
theorem dX0_gather_36 : decode cX0_gather 36 = .ok (.iload_n 2, 1) := by decide +kernel
theorem dX0_gather_37 : decode cX0_gather 37 = .ok (.iload_n 3, 1) := by decide +kernel
theorem dX0_gather_38 : decode cX0_gather 38 = .ok (.iastore, 1) := by decide +kernel
theorem dX0_gather_39 : decode cX0_gather 39 = .ok (.aload_n 0, 1) := by decide +kernel
theorem dX0_gather_40 : decode cX0_gather 40 = .ok (.getfield 41, 3) := by decide +kernel
theorem dX0_gather_43 : decode cX0_gather 43 = .ok (.iload_n 2, 1) := by decide +kernel
theorem dX0_gather_44 : decode cX0_gather 44 = .ok (.bipush 8, 2) := by decide +kernel
theorem dX0_gather_46 : decode cX0_gather 46 = .ok (.aload_n 1, 1) := by decide +kernel
theorem dX0_gather_47 : decode cX0_gather 47 = .ok (.iload_n 2, 1) := by decide +kernel
theorem dX0_gather_48 : decode cX0_gather 48 = .ok (.invokevirtual 87, 3) := by decide +kernel
theorem dX0_gather_51 : decode cX0_gather 51 = .ok (.imul, 1) := by decide +kernel
theorem dX0_gather_52 : decode cX0_gather 52 = .ok (.iastore, 1) := by decide +kernel
theorem dX0_gather_53 : decode cX0_gather 53 = .ok (.aload_n 0, 1) := by decide +kernel
theorem dX0_gather_54 : decode cX0_gather 54 = .ok (.getfield 47, 3) := by decide +kernel
theorem dX0_gather_57 : decode cX0_gather 57 = .ok (.iload 4, 2) := by decide +kernel
theorem dX0_gather_59 : decode cX0_gather 59 = .ok (.dup2, 1) := by decide +kernel
theorem dX0_gather_60 : decode cX0_gather 60 = .ok (.iaload, 1) := by decide +kernel
theorem dX0_gather_61 : decode cX0_gather 61 = .ok (.iload_n 3, 1) := by decide +kernel
theorem dX0_gather_62 : decode cX0_gather 62 = .ok (.iadd, 1) := by decide +kernel
theorem dX0_gather_63 : decode cX0_gather 63 = .ok (.iastore, 1) := by decide +kernel
theorem dX0_gather_64 : decode cX0_gather 64 = .ok (.iload 5, 2) := by decide +kernel
theorem dX0_gather_66 : decode cX0_gather 66 = .ok (.iconst (-1), 1) := by decide +kernel
theorem dX0_gather_67 : decode cX0_gather 67 = .ok (.if_icmp .ne 24, 3) := by decide +kernel
theorem dX0_gather_70 : decode cX0_gather 70 = .ok (.aload_n 0, 1) := by decide +kernel
theorem dX0_gather_71 : decode cX0_gather 71 = .ok (.getfield 44, 3) := by decide +kernel
theorem dX0_gather_74 : decode cX0_gather 74 = .ok (.iload 4, 2) := by decide +kernel
theorem dX0_gather_76 : decode cX0_gather 76 = .ok (.dup2, 1) := by decide +kernel
theorem dX0_gather_77 : decode cX0_gather 77 = .ok (.iaload, 1) := by decide +kernel
theorem dX0_gather_78 : decode cX0_gather 78 = .ok (.iload_n 3, 1) := by decide +kernel
theorem dX0_gather_79 : decode cX0_gather 79 = .ok (.aload_n 0, 1) := by decide +kernel
theorem dX0_gather_80 : decode cX0_gather 80 = .ok (.getfield 41, 3) := by decide +kernel
theorem dX0_gather_83 : decode cX0_gather 83 = .ok (.iload_n 2, 1) := by decide +kernel
theorem dX0_gather_84 : decode cX0_gather 84 = .ok (.iaload, 1) := by decide +kernel
theorem dX0_gather_85 : decode cX0_gather 85 = .ok (.imul, 1) := by decide +kernel
theorem dX0_gather_86 : decode cX0_gather 86 = .ok (.iadd, 1) := by decide +kernel
theorem dX0_gather_87 : decode cX0_gather 87 = .ok (.iastore, 1) := by decide +kernel
theorem dX0_gather_88 : decode cX0_gather 88 = .ok (.goto 42, 3) := by decide +kernel
theorem dX0_gather_91 : decode cX0_gather 91 = .ok (.aload_n 0, 1) := by decide +kernel
theorem dX0_gather_92 : decode cX0_gather 92 = .ok (.getfield 47, 3) := by decide +kernel
theorem dX0_gather_95 : decode cX0_gather 95 = .ok (.iload 5, 2) := by decide +kernel
theorem dX0_gather_97 : decode cX0_gather 97 = .ok (.dup2, 1) := by decide +kernel
theorem dX0_gather_98 : decode cX0_gather 98 = .ok (.iaload, 1) := by decide +kernel
theorem dX0_gather_99 : decode cX0_gather 99 = .ok (.iload_n 3, 1) := by decide +kernel
theorem dX0_gather_100 : decode cX0_gather 100 = .ok (.iadd, 1) := by decide +kernel
theorem dX0_gather_101 : decode cX0_gather 101 = .ok (.iastore, 1) := by decide +kernel
theorem dX0_gather_102 : decode cX0_gather 102 = .ok (.aload_n 0, 1) := by decide +kernel
theorem dX0_gather_103 : decode cX0_gather 103 = .ok (.getfield 52, 3) := by decide +kernel
theorem dX0_gather_106 : decode cX0_gather 106 = .ok (.iload 4, 2) := by decide +kernel
theorem dX0_gather_108 : decode cX0_gather 108 = .ok (.aaload, 1) := by decide +kernel
theorem dX0_gather_109 : decode cX0_gather 109 = .ok (.iload 5, 2) := by decide +kernel
theorem dX0_gather_111 : decode cX0_gather 111 = .ok (.dup2, 1) := by decide +kernel
theorem dX0_gather_112 : decode cX0_gather 112 = .ok (.iaload, 1) := by decide +kernel
theorem dX0_gather_113 : decode cX0_gather 113 = .ok (.iload_n 3, 1) := by decide +kernel
theorem dX0_gather_114 : decode cX0_gather 114 = .ok (.iadd, 1) := by decide +kernel
theorem dX0_gather_115 : decode cX0_gather 115 = .ok (.iastore, 1) := by decide +kernel
theorem dX0_gather_116 : decode cX0_gather 116 = .ok (.aload_n 0, 1) := by decide +kernel
theorem dX0_gather_117 : decode cX0_gather 117 = .ok (.getfield 52, 3) := by decide +kernel
theorem dX0_gather_120 : decode cX0_gather 120 = .ok (.iload 5, 2) := by decide +kernel
theorem dX0_gather_122 : decode cX0_gather 122 = .ok (.aaload, 1) := by decide +kernel
theorem dX0_gather_123 : decode cX0_gather 123 = .ok (.iload 4, 2) := by decide +kernel
theorem dX0_gather_125 : decode cX0_gather 125 = .ok (.dup2, 1) := by decide +kernel
theorem dX0_gather_126 : decode cX0_gather 126 = .ok (.iaload, 1) := by decide +kernel
theorem dX0_gather_127 : decode cX0_gather 127 = .ok (.iload_n 3, 1) := by decide +kernel
theorem dX0_gather_128 : decode cX0_gather 128 = .ok (.iadd, 1) := by decide +kernel
theorem dX0_gather_129 : decode cX0_gather 129 = .ok (.iastore, 1) := by decide +kernel
theorem dX0_gather_130 : decode cX0_gather 130 = .ok (.iinc 2 1, 3) := by decide +kernel
theorem dX0_gather_133 : decode cX0_gather 133 = .ok (.goto (-131), 3) := by decide +kernel
theorem dX0_gather_136 : decode cX0_gather 136 = .ok (.aload_n 0, 1) := by decide +kernel
theorem dX0_gather_137 : decode cX0_gather 137 = .ok (.getfield 44, 3) := by decide +kernel
theorem dX0_gather_140 : decode cX0_gather 140 = .ok (.iconst 0, 1) := by decide +kernel
theorem dX0_gather_141 : decode cX0_gather 141 = .ok (.dup2, 1) := by decide +kernel
theorem dX0_gather_142 : decode cX0_gather 142 = .ok (.iaload, 1) := by decide +kernel
theorem dX0_gather_143 : decode cX0_gather 143 = .ok (.bipush 80, 2) := by decide +kernel
theorem dX0_gather_145 : decode cX0_gather 145 = .ok (.aload_n 1, 1) := by decide +kernel
theorem dX0_gather_146 : decode cX0_gather 146 = .ok (.getfield 90, 3) := by decide +kernel
theorem dX0_gather_149 : decode cX0_gather 149 = .ok (.iconst 3, 1) := by decide +kernel
theorem dX0_gather_150 : decode cX0_gather 150 = .ok (.iaload, 1) := by decide +kernel
theorem dX0_gather_151 : decode cX0_gather 151 = .ok (.imul, 1) := by decide +kernel
theorem dX0_gather_152 : decode cX0_gather 152 = .ok (.iadd, 1) := by decide +kernel
theorem dX0_gather_153 : decode cX0_gather 153 = .ok (.iastore, 1) := by decide +kernel
theorem dX0_gather_154 : decode cX0_gather 154 = .ok (.return_, 1) := by decide +kernel
theorem dX0_goRounds_0 : decode cX0_goRounds 0 = .ok (.aload_n 0, 1) := by decide +kernel
theorem dX0_goRounds_1 : decode cX0_goRounds 1 = .ok (.iconst 0, 1) := by decide +kernel
theorem dX0_goRounds_2 : decode cX0_goRounds 2 = .ok (.putfield 18, 3) := by decide +kernel
theorem dX0_goRounds_5 : decode cX0_goRounds 5 = .ok (.aload_n 0, 1) := by decide +kernel
theorem dX0_goRounds_6 : decode cX0_goRounds 6 = .ok (.getfield 18, 3) := by decide +kernel
theorem dX0_goRounds_9 : decode cX0_goRounds 9 = .ok (.bipush 60, 2) := by decide +kernel
theorem dX0_goRounds_11 : decode cX0_goRounds 11 = .ok (.if_icmp .ge 24, 3) := by decide +kernel
theorem dX0_goRounds_14 : decode cX0_goRounds 14 = .ok (.aload_n 0, 1) := by decide +kernel
theorem dX0_goRounds_15 : decode cX0_goRounds 15 = .ok (.iload_n 1, 1) := by decide +kernel
theorem dX0_goRounds_16 : decode cX0_goRounds 16 = .ok (.invokevirtual 93, 3) := by decide +kernel
theorem dX0_goRounds_19 : decode cX0_goRounds 19 = .ok (.ifCond .eq 16, 3) := by decide +kernel
theorem dX0_goRounds_22 : decode cX0_goRounds 22 = .ok (.aload_n 0, 1) := by decide +kernel
theorem dX0_goRounds_23 : decode cX0_goRounds 23 = .ok (.dup, 1) := by decide +kernel
theorem dX0_goRounds_24 : decode cX0_goRounds 24 = .ok (.getfield 18, 3) := by decide +kernel
theorem dX0_goRounds_27 : decode cX0_goRounds 27 = .ok (.iconst 1, 1) := by decide +kernel
theorem dX0_goRounds_28 : decode cX0_goRounds 28 = .ok (.iadd, 1) := by decide +kernel
theorem dX0_goRounds_29 : decode cX0_goRounds 29 = .ok (.putfield 18, 3) := by decide +kernel
theorem dX0_goRounds_32 : decode cX0_goRounds 32 = .ok (.goto (-27), 3) := by decide +kernel
theorem dX0_goRounds_35 : decode cX0_goRounds 35 = .ok (.aload_n 0, 1) := by decide +kernel
theorem dX0_goRounds_36 : decode cX0_goRounds 36 = .ok (.aload_n 0, 1) := by decide +kernel
theorem dX0_goRounds_37 : decode cX0_goRounds 37 = .ok (.getfield 18, 3) := by decide +kernel
theorem dX0_goRounds_40 : decode cX0_goRounds 40 = .ok (.bipush 60, 2) := by decide +kernel
theorem dX0_goRounds_42 : decode cX0_goRounds 42 = .ok (.if_icmp .ne 7, 3) := by decide +kernel
theorem dX0_goRounds_45 : decode cX0_goRounds 45 = .ok (.iconst 1, 1) := by decide +kernel
theorem dX0_goRounds_46 : decode cX0_goRounds 46 = .ok (.goto 4, 3) := by decide +kernel
theorem dX0_goRounds_49 : decode cX0_goRounds 49 = .ok (.iconst 0, 1) := by decide +kernel
theorem dX0_goRounds_50 : decode cX0_goRounds 50 = .ok (.putfield 22, 3) := by decide +kernel
theorem dX0_goRounds_53 : decode cX0_goRounds 53 = .ok (.return_, 1) := by decide +kernel
theorem dX0_goRound_0 : decode cX0_goRound 0 = .ok (.iconst 0, 1) := by decide +kernel
theorem dX0_goRound_1 : decode cX0_goRound 1 = .ok (.istore_n 2, 1) := by decide +kernel
theorem dX0_goRound_2 : decode cX0_goRound 2 = .ok (.iconst 0, 1) := by decide +kernel
theorem dX0_goRound_3 : decode cX0_goRound 3 = .ok (.istore_n 3, 1) := by decide +kernel
theorem dX0_goRound_4 : decode cX0_goRound 4 = .ok (.iload_n 3, 1) := by decide +kernel
theorem dX0_goRound_5 : decode cX0_goRound 5 = .ok (.iload_n 1, 1) := by decide +kernel
theorem dX0_goRound_6 : decode cX0_goRound 6 = .ok (.if_icmp .ge 107, 3) := by decide +kernel
theorem dX0_goRound_9 : decode cX0_goRound 9 = .ok (.aload_n 0, 1) := by decide +kernel
theorem dX0_goRound_10 : decode cX0_goRound 10 = .ok (.getfield 44, 3) := by decide +kernel
theorem dX0_goRound_13 : decode cX0_goRound 13 = .ok (.iload_n 3, 1) := by decide +kernel
theorem dX0_goRound_14 : decode cX0_goRound 14 = .ok (.iaload, 1) := by decide +kernel
theorem dX0_goRound_15 : decode cX0_goRound 15 = .ok (.istore 4, 2) := by decide +kernel
theorem dX0_goRound_17 : decode cX0_goRound 17 = .ok (.iconst 0, 1) := by decide +kernel
theorem dX0_goRound_18 : decode cX0_goRound 18 = .ok (.istore 5, 2) := by decide +kernel
theorem dX0_goRound_20 : decode cX0_goRound 20 = .ok (.iload 5, 2) := by decide +kernel
theorem dX0_goRound_22 : decode cX0_goRound 22 = .ok (.iload_n 1, 1) := by decide +kernel
theorem dX0_goRound_23 : decode cX0_goRound 23 = .ok (.if_icmp .ge 31, 3) := by decide +kernel
theorem dX0_goRound_26 : decode cX0_goRound 26 = .ok (.iload 4, 2) := by decide +kernel
theorem dX0_goRound_28 : decode cX0_goRound 28 = .ok (.aload_n 0, 1) := by decide +kernel
theorem dX0_goRound_29 : decode cX0_goRound 29 = .ok (.getfield 52, 3) := by decide +kernel
theorem dX0_goRound_32 : decode cX0_goRound 32 = .ok (.iload_n 3, 1) := by decide +kernel
theorem dX0_goRound_33 : decode cX0_goRound 33 = .ok (.aaload, 1) := by decide +kernel
theorem dX0_goRound_34 : decode cX0_goRound 34 = .ok (.iload 5, 2) := by decide +kernel
theorem dX0_goRound_36 : decode cX0_goRound 36 = .ok (.iaload, 1) := by decide +kernel
theorem dX0_goRound_37 : decode cX0_goRound 37 = .ok (.aload_n 0, 1) := by decide +kernel
theorem dX0_goRound_38 : decode cX0_goRound 38 = .ok (.getfield 9, 3) := by decide +kernel
theorem dX0_goRound_41 : decode cX0_goRound 41 = .ok (.iload 5, 2) := by decide +kernel
theorem dX0_goRound_43 : decode cX0_goRound 43 = .ok (.iaload, 1) := by decide +kernel
theorem dX0_goRound_44 : decode cX0_goRound 44 = .ok (.imul, 1) := by decide +kernel
theorem dX0_goRound_45 : decode cX0_goRound 45 = .ok (.iadd, 1) := by decide +kernel
theorem dX0_goRound_46 : decode cX0_goRound 46 = .ok (.istore 4, 2) := by decide +kernel
theorem dX0_goRound_48 : decode cX0_goRound 48 = .ok (.iinc 5 1, 3) := by decide +kernel
theorem dX0_goRound_51 : decode cX0_goRound 51 = .ok (.goto (-31), 3) := by decide +kernel
theorem dX0_goRound_54 : decode cX0_goRound 54 = .ok (.aload_n 0, 1) := by decide +kernel
theorem dX0_goRound_55 : decode cX0_goRound 55 = .ok (.getfield 35, 3) := by decide +kernel
theorem dX0_goRound_58 : decode cX0_goRound 58 = .ok (.iload_n 3, 1) := by decide +kernel
theorem dX0_goRound_59 : decode cX0_goRound 59 = .ok (.aload_n 0, 1) := by decide +kernel
theorem dX0_goRound_60 : decode cX0_goRound 60 = .ok (.getfield 47, 3) := by decide +kernel
theorem dX0_goRound_63 : decode cX0_goRound 63 = .ok (.iload_n 3, 1) := by decide +kernel
theorem dX0_goRound_64 : decode cX0_goRound 64 = .ok (.iaload, 1) := by decide +kernel
theorem dX0_goRound_65 : decode cX0_goRound 65 = .ok (.ifCond .ne 7, 3) := by decide +kernel
theorem dX0_goRound_68 : decode cX0_goRound 68 = .ok (.iconst 0, 1) := by decide +kernel
theorem dX0_goRound_69 : decode cX0_goRound 69 = .ok (.goto 12, 3) := by decide +kernel
theorem dX0_goRound_72 : decode cX0_goRound 72 = .ok (.iload 4, 2) := by decide +kernel
theorem dX0_goRound_74 : decode cX0_goRound 74 = .ok (.aload_n 0, 1) := by decide +kernel
theorem dX0_goRound_75 : decode cX0_goRound 75 = .ok (.getfield 47, 3) := by decide +kernel
theorem dX0_goRound_78 : decode cX0_goRound 78 = .ok (.iload_n 3, 1) := by decide +kernel
theorem dX0_goRound_79 : decode cX0_goRound 79 = .ok (.iaload, 1) := by decide +kernel
theorem dX0_goRound_80 : decode cX0_goRound 80 = .ok (.idiv, 1) := by decide +kernel
theorem dX0_goRound_81 : decode cX0_goRound 81 = .ok (.iastore, 1) := by decide +kernel
theorem dX0_goRound_82 : decode cX0_goRound 82 = .ok (.iload_n 2, 1) := by decide +kernel
theorem dX0_goRound_83 : decode cX0_goRound 83 = .ok (.ifCond .ne 18, 3) := by decide +kernel
theorem dX0_goRound_86 : decode cX0_goRound 86 = .ok (.aload_n 0, 1) := by decide +kernel
theorem dX0_goRound_87 : decode cX0_goRound 87 = .ok (.getfield 35, 3) := by decide +kernel
theorem dX0_goRound_90 : decode cX0_goRound 90 = .ok (.iload_n 3, 1) := by decide +kernel
theorem dX0_goRound_91 : decode cX0_goRound 91 = .ok (.iaload, 1) := by decide +kernel
theorem dX0_goRound_92 : decode cX0_goRound 92 = .ok (.aload_n 0, 1) := by decide +kernel
theorem dX0_goRound_93 : decode cX0_goRound 93 = .ok (.getfield 9, 3) := by decide +kernel
theorem dX0_goRound_96 : decode cX0_goRound 96 = .ok (.iload_n 3, 1) := by decide +kernel
theorem dX0_goRound_97 : decode cX0_goRound 97 = .ok (.iaload, 1) := by decide +kernel
theorem dX0_goRound_98 : decode cX0_goRound 98 = .ok (.if_icmp .eq 7, 3) := by decide +kernel
theorem dX0_goRound_101 : decode cX0_goRound 101 = .ok (.iconst 1, 1) := by decide +kernel
theorem dX0_goRound_102 : decode cX0_goRound 102 = .ok (.goto 4, 3) := by decide +kernel
theorem dX0_goRound_105 : decode cX0_goRound 105 = .ok (.iconst 0, 1) := by decide +kernel
theorem dX0_goRound_106 : decode cX0_goRound 106 = .ok (.istore_n 2, 1) := by decide +kernel
theorem dX0_goRound_107 : decode cX0_goRound 107 = .ok (.iinc 3 1, 3) := by decide +kernel
theorem dX0_goRound_110 : decode cX0_goRound 110 = .ok (.goto (-106), 3) := by decide +kernel
theorem dX0_goRound_113 : decode cX0_goRound 113 = .ok (.aload_n 0, 1) := by decide +kernel
theorem dX0_goRound_114 : decode cX0_goRound 114 = .ok (.getfield 35, 3) := by decide +kernel
theorem dX0_goRound_117 : decode cX0_goRound 117 = .ok (.iconst 0, 1) := by decide +kernel
theorem dX0_goRound_118 : decode cX0_goRound 118 = .ok (.aload_n 0, 1) := by decide +kernel
theorem dX0_goRound_119 : decode cX0_goRound 119 = .ok (.getfield 9, 3) := by decide +kernel
theorem dX0_goRound_122 : decode cX0_goRound 122 = .ok (.iconst 0, 1) := by decide +kernel
theorem dX0_goRound_123 : decode cX0_goRound 123 = .ok (.iload_n 1, 1) := by decide +kernel
theorem dX0_goRound_124 : decode cX0_goRound 124 = .ok (.invokestatic 97, 3) := by decide +kernel
theorem dX0_goRound_127 : decode cX0_goRound 127 = .ok (.iload_n 2, 1) := by decide +kernel
theorem dX0_goRound_128 : decode cX0_goRound 128 = .ok (.ireturn, 1) := by decide +kernel
theorem dX0_sumFlows_0 : decode cX0_sumFlows 0 = .ok (.aload_n 0, 1) := by decide +kernel
theorem dX0_sumFlows_1 : decode cX0_sumFlows 1 = .ok (.iconst 0, 1) := by decide +kernel
theorem dX0_sumFlows_2 : decode cX0_sumFlows 2 = .ok (.putfield 26, 3) := by decide +kernel
theorem dX0_sumFlows_5 : decode cX0_sumFlows 5 = .ok (.aload_n 0, 1) := by decide +kernel
theorem dX0_sumFlows_6 : decode cX0_sumFlows 6 = .ok (.iconst 0, 1) := by decide +kernel
theorem dX0_sumFlows_7 : decode cX0_sumFlows 7 = .ok (.putfield 32, 3) := by decide +kernel
theorem dX0_sumFlows_10 : decode cX0_sumFlows 10 = .ok (.iconst 0, 1) := by decide +kernel
theorem dX0_sumFlows_11 : decode cX0_sumFlows 11 = .ok (.istore_n 2, 1) := by decide +kernel
theorem dX0_sumFlows_12 : decode cX0_sumFlows 12 = .ok (.iload_n 2, 1) := by decide +kernel
theorem dX0_sumFlows_13 : decode cX0_sumFlows 13 = .ok (.aload_n 1, 1) := by decide +kernel
theorem dX0_sumFlows_14 : decode cX0_sumFlows 14 = .ok (.getfield 74, 3) := by decide +kernel
theorem dX0_sumFlows_17 : decode cX0_sumFlows 17 = .ok (.if_icmp .ge 130, 3) := by decide +kernel
theorem dX0_sumFlows_20 : decode cX0_sumFlows 20 = .ok (.aload_n 1, 1) := by decide +kernel
theorem dX0_sumFlows_21 : decode cX0_sumFlows 21 = .ok (.getfield 84, 3) := by decide +kernel
theorem dX0_sumFlows_24 : decode cX0_sumFlows 24 = .ok (.iload_n 2, 1) := by decide +kernel
theorem dX0_sumFlows_25 : decode cX0_sumFlows 25 = .ok (.iaload, 1) := by decide +kernel
theorem dX0_sumFlows_26 : decode cX0_sumFlows 26 = .ok (.istore_n 3, 1) := by decide +kernel
theorem dX0_sumFlows_27 : decode cX0_sumFlows 27 = .ok (.iload_n 3, 1) := by decide +kernel
theorem dX0_sumFlows_28 : decode cX0_sumFlows 28 = .ok (.iconst (-1), 1) := by decide +kernel
theorem dX0_sumFlows_29 : decode cX0_sumFlows 29 = .ok (.if_icmp .ne 12, 3) := by decide +kernel
theorem dX0_sumFlows_32 : decode cX0_sumFlows 32 = .ok (.aload_n 0, 1) := by decide +kernel
theorem dX0_sumFlows_33 : decode cX0_sumFlows 33 = .ok (.getfield 41, 3) := by decide +kernel
theorem dX0_sumFlows_36 : decode cX0_sumFlows 36 = .ok (.iload_n 2, 1) := by decide +kernel
theorem dX0_sumFlows_37 : decode cX0_sumFlows 37 = .ok (.iaload, 1) := by decide +kernel
theorem dX0_sumFlows_38 : decode cX0_sumFlows 38 = .ok (.goto 9, 3) := by decide +kernel
theorem dX0_sumFlows_41 : decode cX0_sumFlows 41 = .ok (.aload_n 0, 1) := by decide +kernel
theorem dX0_sumFlows_42 : decode cX0_sumFlows 42 = .ok (.getfield 9, 3) := by decide +kernel
theorem dX0_sumFlows_45 : decode cX0_sumFlows 45 = .ok (.iload_n 3, 1) := by decide +kernel
theorem dX0_sumFlows_46 : decode cX0_sumFlows 46 = .ok (.iaload, 1) := by decide +kernel
theorem dX0_sumFlows_47 : decode cX0_sumFlows 47 = .ok (.istore 4, 2) := by decide +kernel
theorem dX0_sumFlows_49 : decode cX0_sumFlows 49 = .ok (.aload_n 0, 1) := by decide +kernel
theorem dX0_sumFlows_50 : decode cX0_sumFlows 50 = .ok (.getfield 15, 3) := by decide +kernel
theorem dX0_sumFlows_53 : decode cX0_sumFlows 53 = .ok (.iload_n 2, 1) := by decide +kernel
theorem dX0_sumFlows_54 : decode cX0_sumFlows 54 = .ok (.aload_n 0, 1) := by decide +kernel
theorem dX0_sumFlows_55 : decode cX0_sumFlows 55 = .ok (.getfield 38, 3) := by decide +kernel
theorem dX0_sumFlows_58 : decode cX0_sumFlows 58 = .ok (.iload_n 2, 1) := by decide +kernel
theorem dX0_sumFlows_59 : decode cX0_sumFlows 59 = .ok (.iaload, 1) := by decide +kernel
theorem dX0_sumFlows_60 : decode cX0_sumFlows 60 = .ok (.iload 4, 2) := by decide +kernel
theorem dX0_sumFlows_62 : decode cX0_sumFlows 62 = .ok (.aload_n 0, 1) := by decide +kernel
theorem dX0_sumFlows_63 : decode cX0_sumFlows 63 = .ok (.getfield 9, 3) := by decide +kernel
theorem dX0_sumFlows_66 : decode cX0_sumFlows 66 = .ok (.aload_n 1, 1) := by decide +kernel
theorem dX0_sumFlows_67 : decode cX0_sumFlows 67 = .ok (.getfield 81, 3) := by decide +kernel
theorem dX0_sumFlows_70 : decode cX0_sumFlows 70 = .ok (.iload_n 2, 1) := by decide +kernel
theorem dX0_sumFlows_71 : decode cX0_sumFlows 71 = .ok (.iaload, 1) := by decide +kernel
theorem dX0_sumFlows_72 : decode cX0_sumFlows 72 = .ok (.iaload, 1) := by decide +kernel
theorem dX0_sumFlows_73 : decode cX0_sumFlows 73 = .ok (.isub, 1) := by decide +kernel
theorem dX0_sumFlows_74 : decode cX0_sumFlows 74 = .ok (.imul, 1) := by decide +kernel
theorem dX0_sumFlows_75 : decode cX0_sumFlows 75 = .ok (.bipush 80, 2) := by decide +kernel
theorem dX0_sumFlows_77 : decode cX0_sumFlows 77 = .ok (.idiv, 1) := by decide +kernel
theorem dX0_sumFlows_78 : decode cX0_sumFlows 78 = .ok (.iastore, 1) := by decide +kernel
theorem dX0_sumFlows_79 : decode cX0_sumFlows 79 = .ok (.iload_n 3, 1) := by decide +kernel
theorem dX0_sumFlows_80 : decode cX0_sumFlows 80 = .ok (.iconst (-1), 1) := by decide +kernel
theorem dX0_sumFlows_81 : decode cX0_sumFlows 81 = .ok (.if_icmp .ne 27, 3) := by decide +kernel
theorem dX0_sumFlows_84 : decode cX0_sumFlows 84 = .ok (.aload_n 0, 1) := by decide +kernel
theorem dX0_sumFlows_85 : decode cX0_sumFlows 85 = .ok (.getfield 15, 3) := by decide +kernel
theorem dX0_sumFlows_88 : decode cX0_sumFlows 88 = .ok (.iload_n 2, 1) := by decide +kernel
theorem dX0_sumFlows_89 : decode cX0_sumFlows 89 = .ok (.iaload, 1) := by decide +kernel
theorem dX0_sumFlows_90 : decode cX0_sumFlows 90 = .ok (.ifCond .le 18, 3) := by decide +kernel
theorem dX0_sumFlows_93 : decode cX0_sumFlows 93 = .ok (.aload_n 0, 1) := by decide +kernel
theorem dX0_sumFlows_94 : decode cX0_sumFlows 94 = .ok (.dup, 1) := by decide +kernel
theorem dX0_sumFlows_95 : decode cX0_sumFlows 95 = .ok (.getfield 26, 3) := by decide +kernel
theorem dX0_sumFlows_98 : decode cX0_sumFlows 98 = .ok (.aload_n 0, 1) := by decide +kernel
theorem dX0_sumFlows_99 : decode cX0_sumFlows 99 = .ok (.getfield 15, 3) := by decide +kernel
theorem dX0_sumFlows_102 : decode cX0_sumFlows 102 = .ok (.iload_n 2, 1) := by decide +kernel
theorem dX0_sumFlows_103 : decode cX0_sumFlows 103 = .ok (.iaload, 1) := by decide +kernel
theorem dX0_sumFlows_104 : decode cX0_sumFlows 104 = .ok (.iadd, 1) := by decide +kernel
theorem dX0_sumFlows_105 : decode cX0_sumFlows 105 = .ok (.putfield 26, 3) := by decide +kernel
theorem dX0_sumFlows_108 : decode cX0_sumFlows 108 = .ok (.aload_n 0, 1) := by decide +kernel
theorem dX0_sumFlows_109 : decode cX0_sumFlows 109 = .ok (.aload_n 0, 1) := by decide +kernel
theorem dX0_sumFlows_110 : decode cX0_sumFlows 110 = .ok (.getfield 32, 3) := by decide +kernel
theorem dX0_sumFlows_113 : decode cX0_sumFlows 113 = .ok (.ifCond .ne 20, 3) := by decide +kernel
theorem dX0_sumFlows_116 : decode cX0_sumFlows 116 = .ok (.aload_n 0, 1) := by decide +kernel
theorem dX0_sumFlows_117 : decode cX0_sumFlows 117 = .ok (.getfield 15, 3) := by decide +kernel
theorem dX0_sumFlows_120 : decode cX0_sumFlows 120 = .ok (.iload_n 2, 1) := by decide +kernel
theorem dX0_sumFlows_121 : decode cX0_sumFlows 121 = .ok (.iaload, 1) := by decide +kernel
theorem dX0_sumFlows_122 : decode cX0_sumFlows 122 = .ok (.ifCond .lt 15, 3) := by decide +kernel
theorem dX0_sumFlows_125 : decode cX0_sumFlows 125 = .ok (.aload_n 1, 1) := by decide +kernel
theorem dX0_sumFlows_126 : decode cX0_sumFlows 126 = .ok (.iload_n 2, 1) := by decide +kernel
theorem dX0_sumFlows_127 : decode cX0_sumFlows 127 = .ok (.invokevirtual 103, 3) := by decide +kernel
theorem dX0_sumFlows_130 : decode cX0_sumFlows 130 = .ok (.ifCond .eq 7, 3) := by decide +kernel
theorem dX0_sumFlows_133 : decode cX0_sumFlows 133 = .ok (.iconst 1, 1) := by decide +kernel
theorem dX0_sumFlows_134 : decode cX0_sumFlows 134 = .ok (.goto 4, 3) := by decide +kernel
theorem dX0_sumFlows_137 : decode cX0_sumFlows 137 = .ok (.iconst 0, 1) := by decide +kernel
theorem dX0_sumFlows_138 : decode cX0_sumFlows 138 = .ok (.putfield 32, 3) := by decide +kernel
theorem dX0_sumFlows_141 : decode cX0_sumFlows 141 = .ok (.iinc 2 1, 3) := by decide +kernel
theorem dX0_sumFlows_144 : decode cX0_sumFlows 144 = .ok (.goto (-132), 3) := by decide +kernel
theorem dX0_sumFlows_147 : decode cX0_sumFlows 147 = .ok (.aload_n 0, 1) := by decide +kernel
theorem dX0_sumFlows_148 : decode cX0_sumFlows 148 = .ok (.aload_n 0, 1) := by decide +kernel
theorem dX0_sumFlows_149 : decode cX0_sumFlows 149 = .ok (.getfield 26, 3) := by decide +kernel
theorem dX0_sumFlows_152 : decode cX0_sumFlows 152 = .ok (.aload_n 1, 1) := by decide +kernel
theorem dX0_sumFlows_153 : decode cX0_sumFlows 153 = .ok (.getfield 90, 3) := by decide +kernel
theorem dX0_sumFlows_156 : decode cX0_sumFlows 156 = .ok (.iconst 0, 1) := by decide +kernel
theorem dX0_sumFlows_157 : decode cX0_sumFlows 157 = .ok (.iaload, 1) := by decide +kernel
theorem dX0_sumFlows_158 : decode cX0_sumFlows 158 = .ok (.imul, 1) := by decide +kernel
theorem dX0_sumFlows_159 : decode cX0_sumFlows 159 = .ok (.putfield 29, 3) := by decide +kernel
theorem dX0_sumFlows_162 : decode cX0_sumFlows 162 = .ok (.return_, 1) := by decide +kernel
theorem dX1_init_0 : decode cX1_init 0 = .ok (.aload_n 0, 1) := by decide +kernel
theorem dX1_init_1 : decode cX1_init 1 = .ok (.invokespecial 3, 3) := by decide +kernel
theorem dX1_init_4 : decode cX1_init 4 = .ok (.aload_n 0, 1) := by decide +kernel
theorem dX1_init_5 : decode cX1_init 5 = .ok (.iconst 0, 1) := by decide +kernel
theorem dX1_init_6 : decode cX1_init 6 = .ok (.putfield 9, 3) := by decide +kernel
theorem dX1_init_9 : decode cX1_init 9 = .ok (.aload_n 0, 1) := by decide +kernel
theorem dX1_init_10 : decode cX1_init 10 = .ok (.iconst 0, 1) := by decide +kernel
theorem dX1_init_11 : decode cX1_init 11 = .ok (.putfield 15, 3) := by decide +kernel
theorem dX1_init_14 : decode cX1_init 14 = .ok (.aload_n 0, 1) := by decide +kernel
theorem dX1_init_15 : decode cX1_init 15 = .ok (.bipush 20, 2) := by decide +kernel
theorem dX1_init_17 : decode cX1_init 17 = .ok (.newarray .int, 2) := by decide +kernel
theorem dX1_init_19 : decode cX1_init 19 = .ok (.putfield 18, 3) := by decide +kernel
theorem dX1_init_22 : decode cX1_init 22 = .ok (.aload_n 0, 1) := by decide +kernel
theorem dX1_init_23 : decode cX1_init 23 = .ok (.bipush 20, 2) := by decide +kernel
theorem dX1_init_25 : decode cX1_init 25 = .ok (.newarray .int, 2) := by decide +kernel
theorem dX1_init_27 : decode cX1_init 27 = .ok (.putfield 22, 3) := by decide +kernel
theorem dX1_init_30 : decode cX1_init 30 = .ok (.aload_n 0, 1) := by decide +kernel
theorem dX1_init_31 : decode cX1_init 31 = .ok (.bipush 20, 2) := by decide +kernel
theorem dX1_init_33 : decode cX1_init 33 = .ok (.newarray .int, 2) := by decide +kernel
theorem dX1_init_35 : decode cX1_init 35 = .ok (.putfield 25, 3) := by decide +kernel
theorem dX1_init_38 : decode cX1_init 38 = .ok (.aload_n 0, 1) := by decide +kernel
theorem dX1_init_39 : decode cX1_init 39 = .ok (.bipush 20, 2) := by decide +kernel
theorem dX1_init_41 : decode cX1_init 41 = .ok (.newarray .int, 2) := by decide +kernel
theorem dX1_init_43 : decode cX1_init 43 = .ok (.putfield 28, 3) := by decide +kernel
theorem dX1_init_46 : decode cX1_init 46 = .ok (.aload_n 0, 1) := by decide +kernel
theorem dX1_init_47 : decode cX1_init 47 = .ok (.bipush 20, 2) := by decide +kernel
theorem dX1_init_49 : decode cX1_init 49 = .ok (.newarray .int, 2) := by decide +kernel
theorem dX1_init_51 : decode cX1_init 51 = .ok (.putfield 31, 3) := by decide +kernel
theorem dX1_init_54 : decode cX1_init 54 = .ok (.aload_n 0, 1) := by decide +kernel
theorem dX1_init_55 : decode cX1_init 55 = .ok (.bipush 20, 2) := by decide +kernel
theorem dX1_init_57 : decode cX1_init 57 = .ok (.newarray .int, 2) := by decide +kernel
theorem dX1_init_59 : decode cX1_init 59 = .ok (.putfield 34, 3) := by decide +kernel
theorem dX1_init_62 : decode cX1_init 62 = .ok (.aload_n 0, 1) := by decide +kernel
theorem dX1_init_63 : decode cX1_init 63 = .ok (.bipush 20, 2) := by decide +kernel
theorem dX1_init_65 : decode cX1_init 65 = .ok (.newarray .int, 2) := by decide +kernel
theorem dX1_init_67 : decode cX1_init 67 = .ok (.putfield 37, 3) := by decide +kernel
theorem dX1_init_70 : decode cX1_init 70 = .ok (.aload_n 0, 1) := by decide +kernel
theorem dX1_init_71 : decode cX1_init 71 = .ok (.bipush 20, 2) := by decide +kernel
theorem dX1_init_73 : decode cX1_init 73 = .ok (.newarray .boolean, 2) := by decide +kernel
theorem dX1_init_75 : decode cX1_init 75 = .ok (.putfield 40, 3) := by decide +kernel
theorem dX1_init_78 : decode cX1_init 78 = .ok (.aload_n 0, 1) := by decide +kernel
theorem dX1_init_79 : decode cX1_init 79 = .ok (.bipush 6, 2) := by decide +kernel
theorem dX1_init_81 : decode cX1_init 81 = .ok (.newarray .int, 2) := by decide +kernel
theorem dX1_init_83 : decode cX1_init 83 = .ok (.dup, 1) := by decide +kernel
theorem dX1_init_84 : decode cX1_init 84 = .ok (.iconst 0, 1) := by decide +kernel
theorem dX1_init_85 : decode cX1_init 85 = .ok (.bipush 10, 2) := by decide +kernel
theorem dX1_init_87 : decode cX1_init 87 = .ok (.iastore, 1) := by decide +kernel
theorem dX1_init_88 : decode cX1_init 88 = .ok (.dup, 1) := by decide +kernel
theorem dX1_init_89 : decode cX1_init 89 = .ok (.iconst 1, 1) := by decide +kernel
theorem dX1_init_90 : decode cX1_init 90 = .ok (.iconst 0, 1) := by decide +kernel
theorem dX1_init_91 : decode cX1_init 91 = .ok (.iastore, 1) := by decide +kernel
theorem dX1_init_92 : decode cX1_init 92 = .ok (.dup, 1) := by decide +kernel
theorem dX1_init_93 : decode cX1_init 93 = .ok (.iconst 2, 1) := by decide +kernel
theorem dX1_init_94 : decode cX1_init 94 = .ok (.iconst 0, 1) := by decide +kernel
theorem dX1_init_95 : decode cX1_init 95 = .ok (.iastore, 1) := by decide +kernel
theorem dX1_init_96 : decode cX1_init 96 = .ok (.dup, 1) := by decide +kernel
theorem dX1_init_97 : decode cX1_init 97 = .ok (.iconst 3, 1) := by decide +kernel
theorem dX1_init_98 : decode cX1_init 98 = .ok (.iconst 0, 1) := by decide +kernel
theorem dX1_init_99 : decode cX1_init 99 = .ok (.iastore, 1) := by decide +kernel
theorem dX1_init_100 : decode cX1_init 100 = .ok (.dup, 1) := by decide +kernel
theorem dX1_init_101 : decode cX1_init 101 = .ok (.iconst 4, 1) := by decide +kernel
theorem dX1_init_102 : decode cX1_init 102 = .ok (.iconst 5, 1) := by decide +kernel
theorem dX1_init_103 : decode cX1_init 103 = .ok (.iastore, 1) := by decide +kernel
theorem dX1_init_104 : decode cX1_init 104 = .ok (.dup, 1) := by decide +kernel
theorem dX1_init_105 : decode cX1_init 105 = .ok (.iconst 5, 1) := by decide +kernel
theorem dX1_init_106 : decode cX1_init 106 = .ok (.iconst 0, 1) := by decide +kernel
theorem dX1_init_107 : decode cX1_init 107 = .ok (.iastore, 1) := by decide +kernel
theorem dX1_init_108 : decode cX1_init 108 = .ok (.putfield 44, 3) := by decide +kernel
theorem dX1_init_111 : decode cX1_init 111 = .ok (.aload_n 0, 1) := by decide +kernel
theorem dX1_init_112 : decode cX1_init 112 = .ok (.iconst 1, 1) := by decide +kernel
theorem dX1_init_113 : decode cX1_init 113 = .ok (.putfield 47, 3) := by decide +kernel
theorem dX1_init_116 : decode cX1_init 116 = .ok (.return_, 1) := by decide +kernel
theorem dX1_takeFrom_0 : decode cX1_takeFrom 0 = .ok (.aload_n 0, 1) := by decide +kernel
theorem dX1_takeFrom_1 : decode cX1_takeFrom 1 = .ok (.aload_n 1, 1) := by decide +kernel
theorem dX1_takeFrom_2 : decode cX1_takeFrom 2 = .ok (.getfield 9, 3) := by decide +kernel
theorem dX1_takeFrom_5 : decode cX1_takeFrom 5 = .ok (.putfield 9, 3) := by decide +kernel
theorem dX1_takeFrom_8 : decode cX1_takeFrom 8 = .ok (.aload_n 0, 1) := by decide +kernel
theorem dX1_takeFrom_9 : decode cX1_takeFrom 9 = .ok (.aload_n 1, 1) := by decide +kernel
theorem dX1_takeFrom_10 : decode cX1_takeFrom 10 = .ok (.getfield 15, 3) := by decide +kernel
theorem dX1_takeFrom_13 : decode cX1_takeFrom 13 = .ok (.putfield 15, 3) := by decide +kernel
theorem dX1_takeFrom_16 : decode cX1_takeFrom 16 = .ok (.aload_n 0, 1) := by decide +kernel
theorem dX1_takeFrom_17 : decode cX1_takeFrom 17 = .ok (.aload_n 1, 1) := by decide +kernel
theorem dX1_takeFrom_18 : decode cX1_takeFrom 18 = .ok (.getfield 47, 3) := by decide +kernel
theorem dX1_takeFrom_21 : decode cX1_takeFrom 21 = .ok (.putfield 47, 3) := by decide +kernel
theorem dX1_takeFrom_24 : decode cX1_takeFrom 24 = .ok (.aload_n 1, 1) := by decide +kernel
theorem dX1_takeFrom_25 : decode cX1_takeFrom 25 = .ok (.getfield 44, 3) := by decide +kernel
theorem dX1_takeFrom_28 : decode cX1_takeFrom 28 = .ok (.iconst 0, 1) := by decide +kernel
theorem dX1_takeFrom_29 : decode cX1_takeFrom 29 = .ok (.aload_n 0, 1) := by decide +kernel
theorem dX1_takeFrom_30 : decode cX1_takeFrom 30 = .ok (.getfield 44, 3) := by decide +kernel
theorem dX1_takeFrom_33 : decode cX1_takeFrom 33 = .ok (.iconst 0, 1) := by decide +kernel
theorem dX1_takeFrom_34 : decode cX1_takeFrom 34 = .ok (.bipush 6, 2) := by decide +kernel
theorem dX1_takeFrom_36 : decode cX1_takeFrom 36 = .ok (.invokestatic 50, 3) := by decide +kernel
theorem dX1_takeFrom_39 : decode cX1_takeFrom 39 = .ok (.aload_n 1, 1) := by decide +kernel
theorem dX1_takeFrom_40 : decode cX1_takeFrom 40 = .ok (.getfield 18, 3) := by decide +kernel
theorem dX1_takeFrom_43 : decode cX1_takeFrom 43 = .ok (.iconst 0, 1) := by decide +kernel
theorem dX1_takeFrom_44 : decode cX1_takeFrom 44 = .ok (.aload_n 0, 1) := by decide +kernel
theorem dX1_takeFrom_45 : decode cX1_takeFrom 45 = .ok (.getfield 18, 3) := by decide +kernel
theorem dX1_takeFrom_48 : decode cX1_takeFrom 48 = .ok (.iconst 0, 1) := by decide +kernel
theorem dX1_takeFrom_49 : decode cX1_takeFrom 49 = .ok (.bipush 20, 2) := by decide +kernel
theorem dX1_takeFrom_51 : decode cX1_takeFrom 51 = .ok (.invokestatic 50, 3) := by decide +kernel
theorem dX1_takeFrom_54 : decode cX1_takeFrom 54 = .ok (.aload_n 1, 1) := by decide +kernel
theorem dX1_takeFrom_55 : decode cX1_takeFrom 55 = .ok (.getfield 22, 3) := by decide +kernel
theorem dX1_takeFrom_58 : decode cX1_takeFrom 58 = .ok (.iconst 0, 1) := by decide +kernel
theorem dX1_takeFrom_59 : decode cX1_takeFrom 59 = .ok (.aload_n 0, 1) := by decide +kernel
theorem dX1_takeFrom_60 : decode cX1_takeFrom 60 = .ok (.getfield 22, 3) := by decide +kernel
theorem dX1_takeFrom_63 : decode cX1_takeFrom 63 = .ok (.iconst 0, 1) := by decide +kernel
theorem dX1_takeFrom_64 : decode cX1_takeFrom 64 = .ok (.bipush 20, 2) := by decide +kernel
theorem dX1_takeFrom_66 : decode cX1_takeFrom 66 = .ok (.invokestatic 50, 3) := by decide +kernel
theorem dX1_takeFrom_69 : decode cX1_takeFrom 69 = .ok (.aload_n 1, 1) := by decide +kernel
theorem dX1_takeFrom_70 : decode cX1_takeFrom 70 = .ok (.getfield 25, 3) := by decide +kernel
theorem dX1_takeFrom_73 : decode cX1_takeFrom 73 = .ok (.iconst 0, 1) := by decide +kernel
theorem dX1_takeFrom_74 : decode cX1_takeFrom 74 = .ok (.aload_n 0, 1) := by decide +kernel
theorem dX1_takeFrom_75 : decode cX1_takeFrom 75 = .ok (.getfield 25, 3) := by decide +kernel
theorem dX1_takeFrom_78 : decode cX1_takeFrom 78 = .ok (.iconst 0, 1) := by decide +kernel
theorem dX1_takeFrom_79 : decode cX1_takeFrom 79 = .ok (.bipush 20, 2) := by decide +kernel
theorem dX1_takeFrom_81 : decode cX1_takeFrom 81 = .ok (.invokestatic 50, 3) := by decide +kernel
theorem dX1_takeFrom_84 : decode cX1_takeFrom 84 = .ok (.aload_n 1, 1) := by decide +kernel
theorem dX1_takeFrom_85 : decode cX1_takeFrom 85 = .ok (.getfield 28, 3) := by decide +kernel
theorem dX1_takeFrom_88 : decode cX1_takeFrom 88 = .ok (.iconst 0, 1) := by decide +kernel
theorem dX1_takeFrom_89 : decode cX1_takeFrom 89 = .ok (.aload_n 0, 1) := by decide +kernel
theorem dX1_takeFrom_90 : decode cX1_takeFrom 90 = .ok (.getfield 28, 3) := by decide +kernel
theorem dX1_takeFrom_93 : decode cX1_takeFrom 93 = .ok (.iconst 0, 1) := by decide +kernel
theorem dX1_takeFrom_94 : decode cX1_takeFrom 94 = .ok (.bipush 20, 2) := by decide +kernel
theorem dX1_takeFrom_96 : decode cX1_takeFrom 96 = .ok (.invokestatic 50, 3) := by decide +kernel
theorem dX1_takeFrom_99 : decode cX1_takeFrom 99 = .ok (.aload_n 1, 1) := by decide +kernel
theorem dX1_takeFrom_100 : decode cX1_takeFrom 100 = .ok (.getfield 31, 3) := by decide +kernel
theorem dX1_takeFrom_103 : decode cX1_takeFrom 103 = .ok (.iconst 0, 1) := by decide +kernel
theorem dX1_takeFrom_104 : decode cX1_takeFrom 104 = .ok (.aload_n 0, 1) := by decide +kernel
theorem dX1_takeFrom_105 : decode cX1_takeFrom 105 = .ok (.getfield 31, 3) := by decide +kernel
theorem dX1_takeFrom_108 : decode cX1_takeFrom 108 = .ok (.iconst 0, 1) := by decide +kernel
theorem dX1_takeFrom_109 : decode cX1_takeFrom 109 = .ok (.bipush 20, 2) := by decide +kernel
theorem dX1_takeFrom_111 : decode cX1_takeFrom 111 = .ok (.invokestatic 50, 3) := by decide +kernel
theorem dX1_takeFrom_114 : decode cX1_takeFrom 114 = .ok (.aload_n 1, 1) := by decide +kernel
theorem dX1_takeFrom_115 : decode cX1_takeFrom 115 = .ok (.getfield 34, 3) := by decide +kernel
theorem dX1_takeFrom_118 : decode cX1_takeFrom 118 = .ok (.iconst 0, 1) := by decide +kernel
theorem dX1_takeFrom_119 : decode cX1_takeFrom 119 = .ok (.aload_n 0, 1) := by decide +kernel
theorem dX1_takeFrom_120 : decode cX1_takeFrom 120 = .ok (.getfield 34, 3) := by decide +kernel
theorem dX1_takeFrom_123 : decode cX1_takeFrom 123 = .ok (.iconst 0, 1) := by decide +kernel
theorem dX1_takeFrom_124 : decode cX1_takeFrom 124 = .ok (.bipush 20, 2) := by decide +kernel
theorem dX1_takeFrom_126 : decode cX1_takeFrom 126 = .ok (.invokestatic 50, 3) := by decide +kernel
theorem dX1_takeFrom_129 : decode cX1_takeFrom 129 = .ok (.aload_n 1, 1) := by decide +kernel
theorem dX1_takeFrom_130 : decode cX1_takeFrom 130 = .ok (.getfield 37, 3) := by decide +kernel
theorem dX1_takeFrom_133 : decode cX1_takeFrom 133 = .ok (.iconst 0, 1) := by decide +kernel
theorem dX1_takeFrom_134 : decode cX1_takeFrom 134 = .ok (.aload_n 0, 1) := by decide +kernel
theorem dX1_takeFrom_135 : decode cX1_takeFrom 135 = .ok (.getfield 37, 3) := by decide +kernel
theorem dX1_takeFrom_138 : decode cX1_takeFrom 138 = .ok (.iconst 0, 1) := by decide +kernel
theorem dX1_takeFrom_139 : decode cX1_takeFrom 139 = .ok (.bipush 20, 2) := by decide +kernel
theorem dX1_takeFrom_141 : decode cX1_takeFrom 141 = .ok (.invokestatic 50, 3) := by decide +kernel
theorem dX1_takeFrom_144 : decode cX1_takeFrom 144 = .ok (.iconst 0, 1) := by decide +kernel
theorem dX1_takeFrom_145 : decode cX1_takeFrom 145 = .ok (.istore_n 2, 1) := by decide +kernel
theorem dX1_takeFrom_146 : decode cX1_takeFrom 146 = .ok (.iload_n 2, 1) := by decide +kernel
theorem dX1_takeFrom_147 : decode cX1_takeFrom 147 = .ok (.bipush 20, 2) := by decide +kernel
theorem dX1_takeFrom_149 : decode cX1_takeFrom 149 = .ok (.if_icmp .ge 21, 3) := by decide +kernel
theorem dX1_takeFrom_152 : decode cX1_takeFrom 152 = .ok (.aload_n 0, 1) := by decide +kernel
theorem dX1_takeFrom_153 : decode cX1_takeFrom 153 = .ok (.getfield 40, 3) := by decide +kernel
theorem dX1_takeFrom_156 : decode cX1_takeFrom 156 = .ok (.iload_n 2, 1) := by decide +kernel
theorem dX1_takeFrom_157 : decode cX1_takeFrom 157 = .ok (.aload_n 1, 1) := by decide +kernel
theorem dX1_takeFrom_158 : decode cX1_takeFrom 158 = .ok (.getfield 40, 3) := by decide +kernel
theorem dX1_takeFrom_161 : decode cX1_takeFrom 161 = .ok (.iload_n 2, 1) := by decide +kernel
theorem dX1_takeFrom_162 : decode cX1_takeFrom 162 = .ok (.baload, 1) := by decide +kernel
theorem dX1_takeFrom_163 : decode cX1_takeFrom 163 = .ok (.bastore, 1) := by decide +kernel
theorem dX1_takeFrom_164 : decode cX1_takeFrom 164 = .ok (.iinc 2 1, 3) := by decide +kernel
theorem dX1_takeFrom_167 : decode cX1_takeFrom 167 = .ok (.goto (-21), 3) := by decide +kernel
theorem dX1_takeFrom_170 : decode cX1_takeFrom 170 = .ok (.return_, 1) := by decide +kernel
theorem dX1_hasRoom_0 : decode cX1_hasRoom 0 = .ok (.iload_n 1, 1) := by decide +kernel
theorem dX1_hasRoom_1 : decode cX1_hasRoom 1 = .ok (.ifCond .lt 15, 3) := by decide +kernel
theorem dX1_hasRoom_4 : decode cX1_hasRoom 4 = .ok (.iload_n 1, 1) := by decide +kernel
theorem dX1_hasRoom_5 : decode cX1_hasRoom 5 = .ok (.aload_n 0, 1) := by decide +kernel
theorem dX1_hasRoom_6 : decode cX1_hasRoom 6 = .ok (.getfield 9, 3) := by decide +kernel
theorem dX1_hasRoom_9 : decode cX1_hasRoom 9 = .ok (.if_icmp .ge 7, 3) := by decide +kernel
theorem dX1_hasRoom_12 : decode cX1_hasRoom 12 = .ok (.iconst 1, 1) := by decide +kernel
theorem dX1_hasRoom_13 : decode cX1_hasRoom 13 = .ok (.goto 4, 3) := by decide +kernel
theorem dX1_hasRoom_16 : decode cX1_hasRoom 16 = .ok (.iconst 0, 1) := by decide +kernel
theorem dX1_hasRoom_17 : decode cX1_hasRoom 17 = .ok (.ireturn, 1) := by decide +kernel
theorem dX1_hasGap_0 : decode cX1_hasGap 0 = .ok (.iload_n 1, 1) := by decide +kernel
theorem dX1_hasGap_1 : decode cX1_hasGap 1 = .ok (.ifCond .lt 15, 3) := by decide +kernel
theorem dX1_hasGap_4 : decode cX1_hasGap 4 = .ok (.iload_n 1, 1) := by decide +kernel
theorem dX1_hasGap_5 : decode cX1_hasGap 5 = .ok (.aload_n 0, 1) := by decide +kernel
theorem dX1_hasGap_6 : decode cX1_hasGap 6 = .ok (.getfield 15, 3) := by decide +kernel
theorem dX1_hasGap_9 : decode cX1_hasGap 9 = .ok (.if_icmp .ge 7, 3) := by decide +kernel
theorem dX1_hasGap_12 : decode cX1_hasGap 12 = .ok (.iconst 1, 1) := by decide +kernel
theorem dX1_hasGap_13 : decode cX1_hasGap 13 = .ok (.goto 4, 3) := by decide +kernel
theorem dX1_hasGap_16 : decode cX1_hasGap 16 = .ok (.iconst 0, 1) := by decide +kernel
theorem dX1_hasGap_17 : decode cX1_hasGap 17 = .ok (.ireturn, 1) := by decide +kernel
theorem dX1_addRoom_0 : decode cX1_addRoom 0 = .ok (.aload_n 0, 1) := by decide +kernel
theorem dX1_addRoom_1 : decode cX1_addRoom 1 = .ok (.getfield 9, 3) := by decide +kernel
theorem dX1_addRoom_4 : decode cX1_addRoom 4 = .ok (.bipush 6, 2) := by decide +kernel
theorem dX1_addRoom_6 : decode cX1_addRoom 6 = .ok (.if_icmp .ge 13, 3) := by decide +kernel
theorem dX1_addRoom_9 : decode cX1_addRoom 9 = .ok (.aload_n 0, 1) := by decide +kernel
theorem dX1_addRoom_10 : decode cX1_addRoom 10 = .ok (.dup, 1) := by decide +kernel
theorem dX1_addRoom_11 : decode cX1_addRoom 11 = .ok (.getfield 9, 3) := by decide +kernel
theorem dX1_addRoom_14 : decode cX1_addRoom 14 = .ok (.iconst 1, 1) := by decide +kernel
theorem dX1_addRoom_15 : decode cX1_addRoom 15 = .ok (.iadd, 1) := by decide +kernel
theorem dX1_addRoom_16 : decode cX1_addRoom 16 = .ok (.putfield 9, 3) := by decide +kernel
theorem dX1_addRoom_19 : decode cX1_addRoom 19 = .ok (.return_, 1) := by decide +kernel
theorem dX1_addGap_0 : decode cX1_addGap 0 = .ok (.aload_n 0, 1) := by decide +kernel
theorem dX1_addGap_1 : decode cX1_addGap 1 = .ok (.getfield 15, 3) := by decide +kernel
theorem dX1_addGap_4 : decode cX1_addGap 4 = .ok (.istore 4, 2) := by decide +kernel
theorem dX1_addGap_6 : decode cX1_addGap 6 = .ok (.iload 4, 2) := by decide +kernel
theorem dX1_addGap_8 : decode cX1_addGap 8 = .ok (.bipush 20, 2) := by decide +kernel
theorem dX1_addGap_10 : decode cX1_addGap 10 = .ok (.if_icmp .lt 5, 3) := by decide +kernel
theorem dX1_addGap_13 : decode cX1_addGap 13 = .ok (.iconst (-1), 1) := by decide +kernel
theorem dX1_addGap_14 : decode cX1_addGap 14 = .ok (.ireturn, 1) := by decide +kernel
theorem dX1_addGap_15 : decode cX1_addGap 15 = .ok (.aload_n 0, 1) := by decide +kernel
theorem dX1_addGap_16 : decode cX1_addGap 16 = .ok (.dup, 1) := by decide +kernel
theorem dX1_addGap_17 : decode cX1_addGap 17 = .ok (.getfield 15, 3) := by decide +kernel
theorem dX1_addGap_20 : decode cX1_addGap 20 = .ok (.iconst 1, 1) := by decide +kernel
theorem dX1_addGap_21 : decode cX1_addGap 21 = .ok (.iadd, 1) := by decide +kernel
theorem dX1_addGap_22 : decode cX1_addGap 22 = .ok (.putfield 15, 3) := by decide +kernel
theorem dX1_addGap_25 : decode cX1_addGap 25 = .ok (.aload_n 0, 1) := by decide +kernel
theorem dX1_addGap_26 : decode cX1_addGap 26 = .ok (.getfield 18, 3) := by decide +kernel
theorem dX1_addGap_29 : decode cX1_addGap 29 = .ok (.iload 4, 2) := by decide +kernel
theorem dX1_addGap_31 : decode cX1_addGap 31 = .ok (.iload_n 1, 1) := by decide +kernel
theorem dX1_addGap_32 : decode cX1_addGap 32 = .ok (.iastore, 1) := by decide +kernel
theorem dX1_addGap_33 : decode cX1_addGap 33 = .ok (.aload_n 0, 1) := by decide +kernel
theorem dX1_addGap_34 : decode cX1_addGap 34 = .ok (.getfield 22, 3) := by decide +kernel
theorem dX1_addGap_37 : decode cX1_addGap 37 = .ok (.iload 4, 2) := by decide +kernel
theorem dX1_addGap_39 : decode cX1_addGap 39 = .ok (.iload_n 2, 1) := by decide +kernel
theorem dX1_addGap_40 : decode cX1_addGap 40 = .ok (.iastore, 1) := by decide +kernel
theorem dX1_addGap_41 : decode cX1_addGap 41 = .ok (.aload_n 0, 1) := by decide +kernel
theorem dX1_addGap_42 : decode cX1_addGap 42 = .ok (.getfield 25, 3) := by decide +kernel
theorem dX1_addGap_45 : decode cX1_addGap 45 = .ok (.iload 4, 2) := by decide +kernel
theorem dX1_addGap_47 : decode cX1_addGap 47 = .ok (.iload_n 3, 1) := by decide +kernel
theorem dX1_addGap_48 : decode cX1_addGap 48 = .ok (.iastore, 1) := by decide +kernel
theorem dX1_addGap_49 : decode cX1_addGap 49 = .ok (.aload_n 0, 1) := by decide +kernel
theorem dX1_addGap_50 : decode cX1_addGap 50 = .ok (.getfield 40, 3) := by decide +kernel
theorem dX1_addGap_53 : decode cX1_addGap 53 = .ok (.iload 4, 2) := by decide +kernel
theorem dX1_addGap_55 : decode cX1_addGap 55 = .ok (.iconst 0, 1) := by decide +kernel
theorem dX1_addGap_56 : decode cX1_addGap 56 = .ok (.bastore, 1) := by decide +kernel
theorem dX1_addGap_57 : decode cX1_addGap 57 = .ok (.iload 4, 2) := by decide +kernel
theorem dX1_addGap_59 : decode cX1_addGap 59 = .ok (.ireturn, 1) := by decide +kernel
theorem dX1_measure_0 : decode cX1_measure 0 = .ok (.aload_n 0, 1) := by decide +kernel
theorem dX1_measure_1 : decode cX1_measure 1 = .ok (.iload_n 1, 1) := by decide +kernel
theorem dX1_measure_2 : decode cX1_measure 2 = .ok (.invokevirtual 56, 3) := by decide +kernel
theorem dX1_measure_5 : decode cX1_measure 5 = .ok (.ifCond .ne 4, 3) := by decide +kernel
theorem dX1_measure_8 : decode cX1_measure 8 = .ok (.return_, 1) := by decide +kernel
theorem dX1_measure_9 : decode cX1_measure 9 = .ok (.aload_n 0, 1) := by decide +kernel
theorem dX1_measure_10 : decode cX1_measure 10 = .ok (.getfield 28, 3) := by decide +kernel
theorem dX1_measure_13 : decode cX1_measure 13 = .ok (.iload_n 1, 1) := by decide +kernel
theorem dX1_measure_14 : decode cX1_measure 14 = .ok (.iload_n 2, 1) := by decide +kernel
theorem dX1_measure_15 : decode cX1_measure 15 = .ok (.iastore, 1) := by decide +kernel
theorem dX1_measure_16 : decode cX1_measure 16 = .ok (.aload_n 0, 1) := by decide +kernel
theorem dX1_measure_17 : decode cX1_measure 17 = .ok (.getfield 31, 3) := by decide +kernel
theorem dX1_measure_20 : decode cX1_measure 20 = .ok (.iload_n 1, 1) := by decide +kernel
theorem dX1_measure_21 : decode cX1_measure 21 = .ok (.iload_n 3, 1) := by decide +kernel
theorem dX1_measure_22 : decode cX1_measure 22 = .ok (.iastore, 1) := by decide +kernel
theorem dX1_measure_23 : decode cX1_measure 23 = .ok (.aload_n 0, 1) := by decide +kernel
theorem dX1_measure_24 : decode cX1_measure 24 = .ok (.getfield 34, 3) := by decide +kernel
theorem dX1_measure_27 : decode cX1_measure 27 = .ok (.iload_n 1, 1) := by decide +kernel
theorem dX1_measure_28 : decode cX1_measure 28 = .ok (.iload 4, 2) := by decide +kernel
theorem dX1_measure_30 : decode cX1_measure 30 = .ok (.iastore, 1) := by decide +kernel
theorem dX1_measure_31 : decode cX1_measure 31 = .ok (.aload_n 0, 1) := by decide +kernel
theorem dX1_measure_32 : decode cX1_measure 32 = .ok (.getfield 37, 3) := by decide +kernel
theorem dX1_measure_35 : decode cX1_measure 35 = .ok (.iload_n 1, 1) := by decide +kernel
theorem dX1_measure_36 : decode cX1_measure 36 = .ok (.iload 5, 2) := by decide +kernel
theorem dX1_measure_38 : decode cX1_measure 38 = .ok (.iastore, 1) := by decide +kernel
theorem dX1_measure_39 : decode cX1_measure 39 = .ok (.return_, 1) := by decide +kernel
theorem dX1_breadthOf_0 : decode cX1_breadthOf 0 = .ok (.aload_n 0, 1) := by decide +kernel
theorem dX1_breadthOf_1 : decode cX1_breadthOf 1 = .ok (.getfield 40, 3) := by decide +kernel
theorem dX1_breadthOf_4 : decode cX1_breadthOf 4 = .ok (.iload_n 1, 1) := by decide +kernel
theorem dX1_breadthOf_5 : decode cX1_breadthOf 5 = .ok (.baload, 1) := by decide +kernel
theorem dX1_breadthOf_6 : decode cX1_breadthOf 6 = .ok (.ifCond .eq 5, 3) := by decide +kernel
theorem dX1_breadthOf_9 : decode cX1_breadthOf 9 = .ok (.iconst 0, 1) := by decide +kernel
theorem dX1_breadthOf_10 : decode cX1_breadthOf 10 = .ok (.ireturn, 1) := by decide +kernel
theorem dX1_breadthOf_11 : decode cX1_breadthOf 11 = .ok (.aload_n 0, 1) := by decide +kernel
theorem dX1_breadthOf_12 : decode cX1_breadthOf 12 = .ok (.getfield 18, 3) := by decide +kernel
theorem dX1_breadthOf_15 : decode cX1_breadthOf 15 = .ok (.iload_n 1, 1) := by decide +kernel
theorem dX1_breadthOf_16 : decode cX1_breadthOf 16 = .ok (.iaload, 1) := by decide +kernel
theorem dX1_breadthOf_17 : decode cX1_breadthOf 17 = .ok (.tableswitch 73 1 4 #[31, 73, 40, 47], 31) := by decide +kernel
theorem dX1_breadthOf_48 : decode cX1_breadthOf 48 = .ok (.aload_n 0, 1) := by decide +kernel
theorem dX1_breadthOf_49 : decode cX1_breadthOf 49 = .ok (.getfield 28, 3) := by decide +kernel
theorem dX1_breadthOf_52 : decode cX1_breadthOf 52 = .ok (.iload_n 1, 1) := by decide +kernel
theorem dX1_breadthOf_53 : decode cX1_breadthOf 53 = .ok (.iaload, 1) := by decide +kernel
theorem dX1_breadthOf_54 : decode cX1_breadthOf 54 = .ok (.iconst 2, 1) := by decide +kernel
theorem dX1_breadthOf_55 : decode cX1_breadthOf 55 = .ok (.idiv, 1) := by decide +kernel
theorem dX1_breadthOf_56 : decode cX1_breadthOf 56 = .ok (.ireturn, 1) := by decide +kernel
theorem dX1_breadthOf_57 : decode cX1_breadthOf 57 = .ok (.aload_n 0, 1) := by decide +kernel
theorem dX1_breadthOf_58 : decode cX1_breadthOf 58 = .ok (.getfield 44, 3) := by decide +kernel
theorem dX1_breadthOf_61 : decode cX1_breadthOf 61 = .ok (.iconst 4, 1) := by decide +kernel
theorem dX1_breadthOf_62 : decode cX1_breadthOf 62 = .ok (.iaload, 1) := by decide +kernel
theorem dX1_breadthOf_63 : decode cX1_breadthOf 63 = .ok (.ireturn, 1) := by decide +kernel
theorem dX1_breadthOf_64 : decode cX1_breadthOf 64 = .ok (.aload_n 0, 1) := by decide +kernel
theorem dX1_breadthOf_65 : decode cX1_breadthOf 65 = .ok (.iload_n 1, 1) := by decide +kernel
theorem dX1_breadthOf_66 : decode cX1_breadthOf 66 = .ok (.invokevirtual 60, 3) := by decide +kernel
theorem dX1_breadthOf_69 : decode cX1_breadthOf 69 = .ok (.ifCond .eq 14, 3) := by decide +kernel
theorem dX1_breadthOf_72 : decode cX1_breadthOf 72 = .ok (.iconst 2, 1) := by decide +kernel
theorem dX1_breadthOf_73 : decode cX1_breadthOf 73 = .ok (.aload_n 0, 1) := by decide +kernel
theorem dX1_breadthOf_74 : decode cX1_breadthOf 74 = .ok (.getfield 28, 3) := by decide +kernel
theorem dX1_breadthOf_77 : decode cX1_breadthOf 77 = .ok (.iload_n 1, 1) := by decide +kernel
theorem dX1_breadthOf_78 : decode cX1_breadthOf 78 = .ok (.iaload, 1) := by decide +kernel
theorem dX1_breadthOf_79 : decode cX1_breadthOf 79 = .ok (.imul, 1) := by decide +kernel
theorem dX1_breadthOf_80 : decode cX1_breadthOf 80 = .ok (.goto 9, 3) := by decide +kernel
theorem dX1_breadthOf_83 : decode cX1_breadthOf 83 = .ok (.aload_n 0, 1) := by decide +kernel
theorem dX1_breadthOf_84 : decode cX1_breadthOf 84 = .ok (.getfield 28, 3) := by decide +kernel
theorem dX1_breadthOf_87 : decode cX1_breadthOf 87 = .ok (.iload_n 1, 1) := by decide +kernel
theorem dX1_breadthOf_88 : decode cX1_breadthOf 88 = .ok (.iaload, 1) := by decide +kernel
theorem dX1_breadthOf_89 : decode cX1_breadthOf 89 = .ok (.ireturn, 1) := by decide +kernel
theorem dX1_breadthOf_90 : decode cX1_breadthOf 90 = .ok (.aload_n 0, 1) := by decide +kernel
theorem dX1_breadthOf_91 : decode cX1_breadthOf 91 = .ok (.getfield 28, 3) := by decide +kernel
theorem dX1_breadthOf_94 : decode cX1_breadthOf 94 = .ok (.iload_n 1, 1) := by decide +kernel
theorem dX1_breadthOf_95 : decode cX1_breadthOf 95 = .ok (.iaload, 1) := by decide +kernel
theorem dX1_breadthOf_96 : decode cX1_breadthOf 96 = .ok (.ireturn, 1) := by decide +kernel
theorem dX1_pushOf_0 : decode cX1_pushOf 0 = .ok (.aload_n 0, 1) := by decide +kernel
theorem dX1_pushOf_1 : decode cX1_pushOf 1 = .ok (.getfield 25, 3) := by decide +kernel
theorem dX1_pushOf_4 : decode cX1_pushOf 4 = .ok (.iload_n 1, 1) := by decide +kernel
theorem dX1_pushOf_5 : decode cX1_pushOf 5 = .ok (.iaload, 1) := by decide +kernel
theorem dX1_pushOf_6 : decode cX1_pushOf 6 = .ok (.iconst (-1), 1) := by decide +kernel
theorem dX1_pushOf_7 : decode cX1_pushOf 7 = .ok (.if_icmp .eq 5, 3) := by decide +kernel
theorem dX1_pushOf_10 : decode cX1_pushOf 10 = .ok (.iconst 0, 1) := by decide +kernel
theorem dX1_pushOf_11 : decode cX1_pushOf 11 = .ok (.ireturn, 1) := by decide +kernel
theorem dX1_pushOf_12 : decode cX1_pushOf 12 = .ok (.aload_n 0, 1) := by decide +kernel
theorem dX1_pushOf_13 : decode cX1_pushOf 13 = .ok (.getfield 44, 3) := by decide +kernel
theorem dX1_pushOf_16 : decode cX1_pushOf 16 = .ok (.iconst 0, 1) := by decide +kernel
theorem dX1_pushOf_17 : decode cX1_pushOf 17 = .ok (.iaload, 1) := by decide +kernel
theorem dX1_pushOf_18 : decode cX1_pushOf 18 = .ok (.iconst 5, 1) := by decide +kernel
theorem dX1_pushOf_19 : decode cX1_pushOf 19 = .ok (.aload_n 0, 1) := by decide +kernel
theorem dX1_pushOf_20 : decode cX1_pushOf 20 = .ok (.getfield 31, 3) := by decide +kernel
theorem dX1_pushOf_23 : decode cX1_pushOf 23 = .ok (.iload_n 1, 1) := by decide +kernel
theorem dX1_pushOf_24 : decode cX1_pushOf 24 = .ok (.iaload, 1) := by decide +kernel
theorem dX1_pushOf_25 : decode cX1_pushOf 25 = .ok (.isub, 1) := by decide +kernel
theorem dX1_pushOf_26 : decode cX1_pushOf 26 = .ok (.imul, 1) := by decide +kernel
theorem dX1_pushOf_27 : decode cX1_pushOf 27 = .ok (.aload_n 0, 1) := by decide +kernel
theorem dX1_pushOf_28 : decode cX1_pushOf 28 = .ok (.aload_n 0, 1) := by decide +kernel
theorem dX1_pushOf_29 : decode cX1_pushOf 29 = .ok (.getfield 34, 3) := by decide +kernel
theorem dX1_pushOf_32 : decode cX1_pushOf 32 = .ok (.iload_n 1, 1) := by decide +kernel
theorem dX1_pushOf_33 : decode cX1_pushOf 33 = .ok (.iaload, 1) := by decide +kernel
theorem dX1_pushOf_34 : decode cX1_pushOf 34 = .ok (.invokevirtual 63, 3) := by decide +kernel
theorem dX1_pushOf_37 : decode cX1_pushOf 37 = .ok (.iadd, 1) := by decide +kernel
theorem dX1_pushOf_38 : decode cX1_pushOf 38 = .ok (.istore_n 2, 1) := by decide +kernel
theorem dX1_pushOf_39 : decode cX1_pushOf 39 = .ok (.aload_n 0, 1) := by decide +kernel
theorem dX1_pushOf_40 : decode cX1_pushOf 40 = .ok (.getfield 18, 3) := by decide +kernel
theorem dX1_pushOf_43 : decode cX1_pushOf 43 = .ok (.iload_n 1, 1) := by decide +kernel
theorem dX1_pushOf_44 : decode cX1_pushOf 44 = .ok (.iaload, 1) := by decide +kernel
theorem dX1_pushOf_45 : decode cX1_pushOf 45 = .ok (.iconst 5, 1) := by decide +kernel
theorem dX1_pushOf_46 : decode cX1_pushOf 46 = .ok (.if_icmp .ne 16, 3) := by decide +kernel
theorem dX1_pushOf_49 : decode cX1_pushOf 49 = .ok (.iload_n 2, 1) := by decide +kernel
theorem dX1_pushOf_50 : decode cX1_pushOf 50 = .ok (.iconst 3, 1) := by decide +kernel
theorem dX1_pushOf_51 : decode cX1_pushOf 51 = .ok (.aload_n 0, 1) := by decide +kernel
theorem dX1_pushOf_52 : decode cX1_pushOf 52 = .ok (.getfield 44, 3) := by decide +kernel
theorem dX1_pushOf_55 : decode cX1_pushOf 55 = .ok (.iconst 0, 1) := by decide +kernel
theorem dX1_pushOf_56 : decode cX1_pushOf 56 = .ok (.iaload, 1) := by decide +kernel
theorem dX1_pushOf_57 : decode cX1_pushOf 57 = .ok (.imul, 1) := by decide +kernel
theorem dX1_pushOf_58 : decode cX1_pushOf 58 = .ok (.isub, 1) := by decide +kernel
theorem dX1_pushOf_59 : decode cX1_pushOf 59 = .ok (.goto 4, 3) := by decide +kernel
theorem dX1_pushOf_62 : decode cX1_pushOf 62 = .ok (.iload_n 2, 1) := by decide +kernel
theorem dX1_pushOf_63 : decode cX1_pushOf 63 = .ok (.ireturn, 1) := by decide +kernel
theorem dX1_isOpenFire_0 : decode cX1_isOpenFire 0 = .ok (.aload_n 0, 1) := by decide +kernel
theorem dX1_isOpenFire_1 : decode cX1_isOpenFire 1 = .ok (.getfield 25, 3) := by decide +kernel
theorem dX1_isOpenFire_4 : decode cX1_isOpenFire 4 = .ok (.iload_n 1, 1) := by decide +kernel
theorem dX1_isOpenFire_5 : decode cX1_isOpenFire 5 = .ok (.iaload, 1) := by decide +kernel
theorem dX1_isOpenFire_6 : decode cX1_isOpenFire 6 = .ok (.iconst (-1), 1) := by decide +kernel
theorem dX1_isOpenFire_7 : decode cX1_isOpenFire 7 = .ok (.if_icmp .ne 29, 3) := by decide +kernel
theorem dX1_isOpenFire_10 : decode cX1_isOpenFire 10 = .ok (.aload_n 0, 1) := by decide +kernel
theorem dX1_isOpenFire_11 : decode cX1_isOpenFire 11 = .ok (.getfield 40, 3) := by decide +kernel
theorem dX1_isOpenFire_14 : decode cX1_isOpenFire 14 = .ok (.iload_n 1, 1) := by decide +kernel
theorem dX1_isOpenFire_15 : decode cX1_isOpenFire 15 = .ok (.baload, 1) := by decide +kernel
theorem dX1_isOpenFire_16 : decode cX1_isOpenFire 16 = .ok (.ifCond .ne 20, 3) := by decide +kernel
theorem dX1_isOpenFire_19 : decode cX1_isOpenFire 19 = .ok (.aload_n 0, 1) := by decide +kernel
theorem dX1_isOpenFire_20 : decode cX1_isOpenFire 20 = .ok (.getfield 18, 3) := by decide +kernel
theorem dX1_isOpenFire_23 : decode cX1_isOpenFire 23 = .ok (.iload_n 1, 1) := by decide +kernel
theorem dX1_isOpenFire_24 : decode cX1_isOpenFire 24 = .ok (.iaload, 1) := by decide +kernel
theorem dX1_isOpenFire_25 : decode cX1_isOpenFire 25 = .ok (.iconst 2, 1) := by decide +kernel
theorem dX1_isOpenFire_26 : decode cX1_isOpenFire 26 = .ok (.invokestatic 67, 3) := by decide +kernel
theorem dX1_isOpenFire_29 : decode cX1_isOpenFire 29 = .ok (.ifCond .eq 7, 3) := by decide +kernel
theorem dX1_isOpenFire_32 : decode cX1_isOpenFire 32 = .ok (.iconst 1, 1) := by decide +kernel
theorem dX1_isOpenFire_33 : decode cX1_isOpenFire 33 = .ok (.goto 4, 3) := by decide +kernel
theorem dX1_isOpenFire_36 : decode cX1_isOpenFire 36 = .ok (.iconst 0, 1) := by decide +kernel
theorem dX1_isOpenFire_37 : decode cX1_isOpenFire 37 = .ok (.ireturn, 1) := by decide +kernel
theorem dX1_isOpenLeak_0 : decode cX1_isOpenLeak 0 = .ok (.aload_n 0, 1) := by decide +kernel
theorem dX1_isOpenLeak_1 : decode cX1_isOpenLeak 1 = .ok (.getfield 25, 3) := by decide +kernel
theorem dX1_isOpenLeak_4 : decode cX1_isOpenLeak 4 = .ok (.iload_n 1, 1) := by decide +kernel
theorem dX1_isOpenLeak_5 : decode cX1_isOpenLeak 5 = .ok (.iaload, 1) := by decide +kernel
theorem dX1_isOpenLeak_6 : decode cX1_isOpenLeak 6 = .ok (.iconst (-1), 1) := by decide +kernel
theorem dX1_isOpenLeak_7 : decode cX1_isOpenLeak 7 = .ok (.if_icmp .ne 29, 3) := by decide +kernel
theorem dX1_isOpenLeak_10 : decode cX1_isOpenLeak 10 = .ok (.aload_n 0, 1) := by decide +kernel
theorem dX1_isOpenLeak_11 : decode cX1_isOpenLeak 11 = .ok (.getfield 40, 3) := by decide +kernel
theorem dX1_isOpenLeak_14 : decode cX1_isOpenLeak 14 = .ok (.iload_n 1, 1) := by decide +kernel
theorem dX1_isOpenLeak_15 : decode cX1_isOpenLeak 15 = .ok (.baload, 1) := by decide +kernel
theorem dX1_isOpenLeak_16 : decode cX1_isOpenLeak 16 = .ok (.ifCond .ne 20, 3) := by decide +kernel
theorem dX1_isOpenLeak_19 : decode cX1_isOpenLeak 19 = .ok (.aload_n 0, 1) := by decide +kernel
theorem dX1_isOpenLeak_20 : decode cX1_isOpenLeak 20 = .ok (.getfield 18, 3) := by decide +kernel
theorem dX1_isOpenLeak_23 : decode cX1_isOpenLeak 23 = .ok (.iload_n 1, 1) := by decide +kernel
theorem dX1_isOpenLeak_24 : decode cX1_isOpenLeak 24 = .ok (.iaload, 1) := by decide +kernel
theorem dX1_isOpenLeak_25 : decode cX1_isOpenLeak 25 = .ok (.iconst 2, 1) := by decide +kernel
theorem dX1_isOpenLeak_26 : decode cX1_isOpenLeak 26 = .ok (.invokestatic 67, 3) := by decide +kernel
theorem dX1_isOpenLeak_29 : decode cX1_isOpenLeak 29 = .ok (.ifCond .ne 7, 3) := by decide +kernel
theorem dX1_isOpenLeak_32 : decode cX1_isOpenLeak 32 = .ok (.iconst 1, 1) := by decide +kernel
theorem dX1_isOpenLeak_33 : decode cX1_isOpenLeak 33 = .ok (.goto 4, 3) := by decide +kernel
theorem dX1_isOpenLeak_36 : decode cX1_isOpenLeak 36 = .ok (.iconst 0, 1) := by decide +kernel
theorem dX1_isOpenLeak_37 : decode cX1_isOpenLeak 37 = .ok (.ireturn, 1) := by decide +kernel
theorem dX1_openCount_0 : decode cX1_openCount 0 = .ok (.iconst 0, 1) := by decide +kernel
theorem dX1_openCount_1 : decode cX1_openCount 1 = .ok (.istore_n 1, 1) := by decide +kernel
theorem dX1_openCount_2 : decode cX1_openCount 2 = .ok (.iconst 0, 1) := by decide +kernel
theorem dX1_openCount_3 : decode cX1_openCount 3 = .ok (.istore_n 2, 1) := by decide +kernel
theorem dX1_openCount_4 : decode cX1_openCount 4 = .ok (.iload_n 2, 1) := by decide +kernel
theorem dX1_openCount_5 : decode cX1_openCount 5 = .ok (.aload_n 0, 1) := by decide +kernel
theorem dX1_openCount_6 : decode cX1_openCount 6 = .ok (.getfield 15, 3) := by decide +kernel
theorem dX1_openCount_9 : decode cX1_openCount 9 = .ok (.if_icmp .ge 26, 3) := by decide +kernel
theorem dX1_openCount_12 : decode cX1_openCount 12 = .ok (.iload_n 1, 1) := by decide +kernel
theorem dX1_openCount_13 : decode cX1_openCount 13 = .ok (.aload_n 0, 1) := by decide +kernel
theorem dX1_openCount_14 : decode cX1_openCount 14 = .ok (.getfield 40, 3) := by decide +kernel
theorem dX1_openCount_17 : decode cX1_openCount 17 = .ok (.iload_n 2, 1) := by decide +kernel
theorem dX1_openCount_18 : decode cX1_openCount 18 = .ok (.baload, 1) := by decide +kernel
theorem dX1_openCount_19 : decode cX1_openCount 19 = .ok (.ifCond .eq 7, 3) := by decide +kernel
theorem dX1_openCount_22 : decode cX1_openCount 22 = .ok (.iconst 0, 1) := by decide +kernel
theorem dX1_openCount_23 : decode cX1_openCount 23 = .ok (.goto 4, 3) := by decide +kernel
theorem dX1_openCount_26 : decode cX1_openCount 26 = .ok (.iconst 1, 1) := by decide +kernel
theorem dX1_openCount_27 : decode cX1_openCount 27 = .ok (.iadd, 1) := by decide +kernel
theorem dX1_openCount_28 : decode cX1_openCount 28 = .ok (.istore_n 1, 1) := by decide +kernel
theorem dX1_openCount_29 : decode cX1_openCount 29 = .ok (.iinc 2 1, 3) := by decide +kernel
theorem dX1_openCount_32 : decode cX1_openCount 32 = .ok (.goto (-28), 3) := by decide +kernel
theorem dX1_openCount_35 : decode cX1_openCount 35 = .ok (.iload_n 1, 1) := by decide +kernel
theorem dX1_openCount_36 : decode cX1_openCount 36 = .ok (.ireturn, 1) := by decide +kernel
theorem dX1_openCosts_0 : decode cX1_openCosts 0 = .ok (.iconst 0, 1) := by decide +kernel
theorem dX1_openCosts_1 : decode cX1_openCosts 1 = .ok (.istore_n 1, 1) := by decide +kernel
theorem dX1_openCosts_2 : decode cX1_openCosts 2 = .ok (.iconst 0, 1) := by decide +kernel
theorem dX1_openCosts_3 : decode cX1_openCosts 3 = .ok (.istore_n 2, 1) := by decide +kernel
theorem dX1_openCosts_4 : decode cX1_openCosts 4 = .ok (.iload_n 2, 1) := by decide +kernel
theorem dX1_openCosts_5 : decode cX1_openCosts 5 = .ok (.aload_n 0, 1) := by decide +kernel
theorem dX1_openCosts_6 : decode cX1_openCosts 6 = .ok (.getfield 15, 3) := by decide +kernel
theorem dX1_openCosts_9 : decode cX1_openCosts 9 = .ok (.if_icmp .ge 31, 3) := by decide +kernel
theorem dX1_openCosts_12 : decode cX1_openCosts 12 = .ok (.iload_n 1, 1) := by decide +kernel
theorem dX1_openCosts_13 : decode cX1_openCosts 13 = .ok (.aload_n 0, 1) := by decide +kernel
theorem dX1_openCosts_14 : decode cX1_openCosts 14 = .ok (.getfield 40, 3) := by decide +kernel
theorem dX1_openCosts_17 : decode cX1_openCosts 17 = .ok (.iload_n 2, 1) := by decide +kernel
theorem dX1_openCosts_18 : decode cX1_openCosts 18 = .ok (.baload, 1) := by decide +kernel
theorem dX1_openCosts_19 : decode cX1_openCosts 19 = .ok (.ifCond .eq 7, 3) := by decide +kernel
theorem dX1_openCosts_22 : decode cX1_openCosts 22 = .ok (.iconst 0, 1) := by decide +kernel
theorem dX1_openCosts_23 : decode cX1_openCosts 23 = .ok (.goto 9, 3) := by decide +kernel
theorem dX1_openCosts_26 : decode cX1_openCosts 26 = .ok (.aload_n 0, 1) := by decide +kernel
theorem dX1_openCosts_27 : decode cX1_openCosts 27 = .ok (.getfield 37, 3) := by decide +kernel
theorem dX1_openCosts_30 : decode cX1_openCosts 30 = .ok (.iload_n 2, 1) := by decide +kernel
theorem dX1_openCosts_31 : decode cX1_openCosts 31 = .ok (.iaload, 1) := by decide +kernel
theorem dX1_openCosts_32 : decode cX1_openCosts 32 = .ok (.iadd, 1) := by decide +kernel
theorem dX1_openCosts_33 : decode cX1_openCosts 33 = .ok (.istore_n 1, 1) := by decide +kernel
theorem dX1_openCosts_34 : decode cX1_openCosts 34 = .ok (.iinc 2 1, 3) := by decide +kernel
theorem dX1_openCosts_37 : decode cX1_openCosts 37 = .ok (.goto (-33), 3) := by decide +kernel
theorem dX1_openCosts_40 : decode cX1_openCosts 40 = .ok (.iload_n 1, 1) := by decide +kernel
theorem dX1_openCosts_41 : decode cX1_openCosts 41 = .ok (.ireturn, 1) := by decide +kernel
theorem dX1_allWidths_0 : decode cX1_allWidths 0 = .ok (.iconst 0, 1) := by decide +kernel
theorem dX1_allWidths_1 : decode cX1_allWidths 1 = .ok (.istore_n 1, 1) := by decide +kernel
theorem dX1_allWidths_2 : decode cX1_allWidths 2 = .ok (.iconst 0, 1) := by decide +kernel
theorem dX1_allWidths_3 : decode cX1_allWidths 3 = .ok (.istore_n 2, 1) := by decide +kernel
theorem dX1_allWidths_4 : decode cX1_allWidths 4 = .ok (.iload_n 2, 1) := by decide +kernel
theorem dX1_allWidths_5 : decode cX1_allWidths 5 = .ok (.aload_n 0, 1) := by decide +kernel
theorem dX1_allWidths_6 : decode cX1_allWidths 6 = .ok (.getfield 15, 3) := by decide +kernel
theorem dX1_allWidths_9 : decode cX1_allWidths 9 = .ok (.if_icmp .ge 18, 3) := by decide +kernel
theorem dX1_allWidths_12 : decode cX1_allWidths 12 = .ok (.iload_n 1, 1) := by decide +kernel
theorem dX1_allWidths_13 : decode cX1_allWidths 13 = .ok (.aload_n 0, 1) := by decide +kernel
theorem dX1_allWidths_14 : decode cX1_allWidths 14 = .ok (.getfield 28, 3) := by decide +kernel
theorem dX1_allWidths_17 : decode cX1_allWidths 17 = .ok (.iload_n 2, 1) := by decide +kernel
theorem dX1_allWidths_18 : decode cX1_allWidths 18 = .ok (.iaload, 1) := by decide +kernel
theorem dX1_allWidths_19 : decode cX1_allWidths 19 = .ok (.iadd, 1) := by decide +kernel
theorem dX1_allWidths_20 : decode cX1_allWidths 20 = .ok (.istore_n 1, 1) := by decide +kernel
theorem dX1_allWidths_21 : decode cX1_allWidths 21 = .ok (.iinc 2 1, 3) := by decide +kernel
theorem dX1_allWidths_24 : decode cX1_allWidths 24 = .ok (.goto (-20), 3) := by decide +kernel
theorem dX1_allWidths_27 : decode cX1_allWidths 27 = .ok (.iload_n 1, 1) := by decide +kernel
theorem dX1_allWidths_28 : decode cX1_allWidths 28 = .ok (.ireturn, 1) := by decide +kernel
theorem dX1_isTurned_0 : decode cX1_isTurned 0 = .ok (.aload_n 0, 1) := by decide +kernel
theorem dX1_isTurned_1 : decode cX1_isTurned 1 = .ok (.getfield 25, 3) := by decide +kernel
theorem dX1_isTurned_4 : decode cX1_isTurned 4 = .ok (.iload_n 1, 1) := by decide +kernel
theorem dX1_isTurned_5 : decode cX1_isTurned 5 = .ok (.iaload, 1) := by decide +kernel
theorem dX1_isTurned_6 : decode cX1_isTurned 6 = .ok (.iconst (-1), 1) := by decide +kernel
theorem dX1_isTurned_7 : decode cX1_isTurned 7 = .ok (.if_icmp .ne 31, 3) := by decide +kernel
theorem dX1_isTurned_10 : decode cX1_isTurned 10 = .ok (.aload_n 0, 1) := by decide +kernel
theorem dX1_isTurned_11 : decode cX1_isTurned 11 = .ok (.getfield 44, 3) := by decide +kernel
theorem dX1_isTurned_14 : decode cX1_isTurned 14 = .ok (.iconst 1, 1) := by decide +kernel
theorem dX1_isTurned_15 : decode cX1_isTurned 15 = .ok (.iaload, 1) := by decide +kernel
theorem dX1_isTurned_16 : decode cX1_isTurned 16 = .ok (.ifCond .le 22, 3) := by decide +kernel
theorem dX1_isTurned_19 : decode cX1_isTurned 19 = .ok (.aload_n 0, 1) := by decide +kernel
theorem dX1_isTurned_20 : decode cX1_isTurned 20 = .ok (.getfield 44, 3) := by decide +kernel
theorem dX1_isTurned_23 : decode cX1_isTurned 23 = .ok (.iconst 2, 1) := by decide +kernel
theorem dX1_isTurned_24 : decode cX1_isTurned 24 = .ok (.iaload, 1) := by decide +kernel
theorem dX1_isTurned_25 : decode cX1_isTurned 25 = .ok (.aload_n 0, 1) := by decide +kernel
theorem dX1_isTurned_26 : decode cX1_isTurned 26 = .ok (.getfield 34, 3) := by decide +kernel
theorem dX1_isTurned_29 : decode cX1_isTurned 29 = .ok (.iload_n 1, 1) := by decide +kernel
theorem dX1_isTurned_30 : decode cX1_isTurned 30 = .ok (.iaload, 1) := by decide +kernel
theorem dX1_isTurned_31 : decode cX1_isTurned 31 = .ok (.if_icmp .ne 7, 3) := by decide +kernel
theorem dX1_isTurned_34 : decode cX1_isTurned 34 = .ok (.iconst 1, 1) := by decide +kernel
theorem dX1_isTurned_35 : decode cX1_isTurned 35 = .ok (.goto 4, 3) := by decide +kernel
theorem dX1_isTurned_38 : decode cX1_isTurned 38 = .ok (.iconst 0, 1) := by decide +kernel
theorem dX1_isTurned_39 : decode cX1_isTurned 39 = .ok (.ireturn, 1) := by decide +kernel
theorem dX1_windOn_0 : decode cX1_windOn 0 = .ok (.aload_n 0, 1) := by decide +kernel
theorem dX1_windOn_1 : decode cX1_windOn 1 = .ok (.getfield 44, 3) := by decide +kernel
theorem dX1_windOn_4 : decode cX1_windOn 4 = .ok (.iconst 1, 1) := by decide +kernel
theorem dX1_windOn_5 : decode cX1_windOn 5 = .ok (.iaload, 1) := by decide +kernel
theorem dX1_windOn_6 : decode cX1_windOn 6 = .ok (.istore_n 2, 1) := by decide +kernel
theorem dX1_windOn_7 : decode cX1_windOn 7 = .ok (.aload_n 0, 1) := by decide +kernel
theorem dX1_windOn_8 : decode cX1_windOn 8 = .ok (.getfield 44, 3) := by decide +kernel
theorem dX1_windOn_11 : decode cX1_windOn 11 = .ok (.iconst 2, 1) := by decide +kernel
theorem dX1_windOn_12 : decode cX1_windOn 12 = .ok (.iaload, 1) := by decide +kernel
theorem dX1_windOn_13 : decode cX1_windOn 13 = .ok (.iload_n 1, 1) := by decide +kernel
theorem dX1_windOn_14 : decode cX1_windOn 14 = .ok (.if_icmp .ne 5, 3) := by decide +kernel
theorem dX1_windOn_17 : decode cX1_windOn 17 = .ok (.iload_n 2, 1) := by decide +kernel
theorem dX1_windOn_18 : decode cX1_windOn 18 = .ok (.ireturn, 1) := by decide +kernel
theorem dX1_windOn_19 : decode cX1_windOn 19 = .ok (.aload_n 0, 1) := by decide +kernel
theorem dX1_windOn_20 : decode cX1_windOn 20 = .ok (.getfield 44, 3) := by decide +kernel
theorem dX1_windOn_23 : decode cX1_windOn 23 = .ok (.iconst 2, 1) := by decide +kernel
theorem dX1_windOn_24 : decode cX1_windOn 24 = .ok (.iaload, 1) := by decide +kernel
theorem dX1_windOn_25 : decode cX1_windOn 25 = .ok (.iload_n 1, 1) := by decide +kernel
theorem dX1_windOn_26 : decode cX1_windOn 26 = .ok (.iconst 2, 1) := by decide +kernel
theorem dX1_windOn_27 : decode cX1_windOn 27 = .ok (.iadd, 1) := by decide +kernel
theorem dX1_windOn_28 : decode cX1_windOn 28 = .ok (.iconst 4, 1) := by decide +kernel
theorem dX1_windOn_29 : decode cX1_windOn 29 = .ok (.irem, 1) := by decide +kernel
theorem dX1_windOn_30 : decode cX1_windOn 30 = .ok (.if_icmp .ne 10, 3) := by decide +kernel
theorem dX1_windOn_33 : decode cX1_windOn 33 = .ok (.iload_n 2, 1) := by decide +kernel
theorem dX1_windOn_34 : decode cX1_windOn 34 = .ok (.iconst 2, 1) := by decide +kernel
theorem dX1_windOn_35 : decode cX1_windOn 35 = .ok (.idiv, 1) := by decide +kernel
theorem dX1_windOn_36 : decode cX1_windOn 36 = .ok (.ineg, 1) := by decide +kernel
theorem dX1_windOn_37 : decode cX1_windOn 37 = .ok (.goto 7, 3) := by decide +kernel
theorem dX1_windOn_40 : decode cX1_windOn 40 = .ok (.iload_n 2, 1) := by decide +kernel
theorem dX1_windOn_41 : decode cX1_windOn 41 = .ok (.iconst 4, 1) := by decide +kernel
theorem dX1_windOn_42 : decode cX1_windOn 42 = .ok (.idiv, 1) := by decide +kernel
theorem dX1_windOn_43 : decode cX1_windOn 43 = .ok (.ineg, 1) := by decide +kernel
theorem dX1_windOn_44 : decode cX1_windOn 44 = .ok (.ireturn, 1) := by decide +kernel
theorem dX2_init_0 : decode cX2_init 0 = .ok (.aload_n 0, 1) := by decide +kernel
theorem dX2_init_1 : decode cX2_init 1 = .ok (.invokespecial 3, 3) := by decide +kernel
theorem dX2_init_4 : decode cX2_init 4 = .ok (.aload_n 0, 1) := by decide +kernel
theorem dX2_init_5 : decode cX2_init 5 = .ok (.bipush 40, 2) := by decide +kernel
theorem dX2_init_7 : decode cX2_init 7 = .ok (.newarray .long, 2) := by decide +kernel
theorem dX2_init_9 : decode cX2_init 9 = .ok (.putfield 9, 3) := by decide +kernel
theorem dX2_init_12 : decode cX2_init 12 = .ok (.aload_n 0, 1) := by decide +kernel
theorem dX2_init_13 : decode cX2_init 13 = .ok (.iconst 0, 1) := by decide +kernel
theorem dX2_init_14 : decode cX2_init 14 = .ok (.putfield 15, 3) := by decide +kernel
theorem dX2_init_17 : decode cX2_init 17 = .ok (.aload_n 0, 1) := by decide +kernel
theorem dX2_init_18 : decode cX2_init 18 = .ok (.iconst 0, 1) := by decide +kernel
theorem dX2_init_19 : decode cX2_init 19 = .ok (.putfield 19, 3) := by decide +kernel
theorem dX2_init_22 : decode cX2_init 22 = .ok (.return_, 1) := by decide +kernel
theorem dX2_lay_0 : decode cX2_lay 0 = .ok (.iconst 0, 1) := by decide +kernel
theorem dX2_lay_1 : decode cX2_lay 1 = .ok (.istore_n 3, 1) := by decide +kernel
theorem dX2_lay_2 : decode cX2_lay 2 = .ok (.iload_n 3, 1) := by decide +kernel
theorem dX2_lay_3 : decode cX2_lay 3 = .ok (.bipush 40, 2) := by decide +kernel
theorem dX2_lay_5 : decode cX2_lay 5 = .ok (.if_icmp .ge 16, 3) := by decide +kernel
theorem dX2_lay_8 : decode cX2_lay 8 = .ok (.aload_n 0, 1) := by decide +kernel
theorem dX2_lay_9 : decode cX2_lay 9 = .ok (.getfield 9, 3) := by decide +kernel
theorem dX2_lay_12 : decode cX2_lay 12 = .ok (.iload_n 3, 1) := by decide +kernel
theorem dX2_lay_13 : decode cX2_lay 13 = .ok (.lconst 0, 1) := by decide +kernel
theorem dX2_lay_14 : decode cX2_lay 14 = .ok (.lastore, 1) := by decide +kernel
theorem dX2_lay_15 : decode cX2_lay 15 = .ok (.iinc 3 1, 3) := by decide +kernel
theorem dX2_lay_18 : decode cX2_lay 18 = .ok (.goto (-16), 3) := by decide +kernel
theorem dX2_lay_21 : decode cX2_lay 21 = .ok (.aload_n 0, 1) := by decide +kernel
theorem dX2_lay_22 : decode cX2_lay 22 = .ok (.iload_n 1, 1) := by decide +kernel
theorem dX2_lay_23 : decode cX2_lay 23 = .ok (.putfield 15, 3) := by decide +kernel
theorem dX2_lay_26 : decode cX2_lay 26 = .ok (.aload_n 0, 1) := by decide +kernel
theorem dX2_lay_27 : decode cX2_lay 27 = .ok (.iload_n 2, 1) := by decide +kernel
theorem dX2_lay_28 : decode cX2_lay 28 = .ok (.putfield 19, 3) := by decide +kernel
theorem dX2_lay_31 : decode cX2_lay 31 = .ok (.return_, 1) := by decide +kernel
theorem dX2_put_0 : decode cX2_put 0 = .ok (.iload_n 1, 1) := by decide +kernel
theorem dX2_put_1 : decode cX2_put 1 = .ok (.ifCond .lt 11, 3) := by decide +kernel
theorem dX2_put_4 : decode cX2_put 4 = .ok (.iload_n 1, 1) := by decide +kernel
theorem dX2_put_5 : decode cX2_put 5 = .ok (.aload_n 0, 1) := by decide +kernel
theorem dX2_put_6 : decode cX2_put 6 = .ok (.getfield 19, 3) := by decide +kernel
theorem dX2_put_9 : decode cX2_put 9 = .ok (.if_icmp .lt 4, 3) := by decide +kernel
theorem dX2_put_12 : decode cX2_put 12 = .ok (.return_, 1) := by decide +kernel
theorem dX2_put_13 : decode cX2_put 13 = .ok (.aload_n 0, 1) := by decide +kernel
theorem dX2_put_14 : decode cX2_put 14 = .ok (.getfield 15, 3) := by decide +kernel
theorem dX2_put_17 : decode cX2_put 17 = .ok (.lookupswitch 53 #[(8, 27), (16, 40)], 27) := by decide +kernel
theorem dX2_put_44 : decode cX2_put 44 = .ok (.aload_n 0, 1) := by decide +kernel
theorem dX2_put_45 : decode cX2_put 45 = .ok (.getfield 9, 3) := by decide +kernel
theorem dX2_put_48 : decode cX2_put 48 = .ok (.iload_n 1, 1) := by decide +kernel
theorem dX2_put_49 : decode cX2_put 49 = .ok (.lload_n 2, 1) := by decide +kernel
theorem dX2_put_50 : decode cX2_put 50 = .ok (.l2i, 1) := by decide +kernel
theorem dX2_put_51 : decode cX2_put 51 = .ok (.i2b, 1) := by decide +kernel
theorem dX2_put_52 : decode cX2_put 52 = .ok (.i2l, 1) := by decide +kernel
theorem dX2_put_53 : decode cX2_put 53 = .ok (.lastore, 1) := by decide +kernel
theorem dX2_put_54 : decode cX2_put 54 = .ok (.goto 23, 3) := by decide +kernel
theorem dX2_put_57 : decode cX2_put 57 = .ok (.aload_n 0, 1) := by decide +kernel
theorem dX2_put_58 : decode cX2_put 58 = .ok (.getfield 9, 3) := by decide +kernel
theorem dX2_put_61 : decode cX2_put 61 = .ok (.iload_n 1, 1) := by decide +kernel
theorem dX2_put_62 : decode cX2_put 62 = .ok (.lload_n 2, 1) := by decide +kernel
theorem dX2_put_63 : decode cX2_put 63 = .ok (.l2i, 1) := by decide +kernel
theorem dX2_put_64 : decode cX2_put 64 = .ok (.i2s, 1) := by decide +kernel
theorem dX2_put_65 : decode cX2_put 65 = .ok (.i2l, 1) := by decide +kernel
theorem dX2_put_66 : decode cX2_put 66 = .ok (.lastore, 1) := by decide +kernel
theorem dX2_put_67 : decode cX2_put 67 = .ok (.goto 10, 3) := by decide +kernel
theorem dX2_put_70 : decode cX2_put 70 = .ok (.aload_n 0, 1) := by decide +kernel
theorem dX2_put_71 : decode cX2_put 71 = .ok (.getfield 9, 3) := by decide +kernel
theorem dX2_put_74 : decode cX2_put 74 = .ok (.iload_n 1, 1) := by decide +kernel
theorem dX2_put_75 : decode cX2_put 75 = .ok (.lload_n 2, 1) := by decide +kernel
theorem dX2_put_76 : decode cX2_put 76 = .ok (.lastore, 1) := by decide +kernel
theorem dX2_put_77 : decode cX2_put 77 = .ok (.return_, 1) := by decide +kernel
theorem dX2_hasRow_0 : decode cX2_hasRow 0 = .ok (.iload_n 1, 1) := by decide +kernel
theorem dX2_hasRow_1 : decode cX2_hasRow 1 = .ok (.ifCond .lt 29, 3) := by decide +kernel
theorem dX2_hasRow_4 : decode cX2_hasRow 4 = .ok (.iload_n 2, 1) := by decide +kernel
theorem dX2_hasRow_5 : decode cX2_hasRow 5 = .ok (.ifCond .lt 25, 3) := by decide +kernel
theorem dX2_hasRow_8 : decode cX2_hasRow 8 = .ok (.iload_n 2, 1) := by decide +kernel
theorem dX2_hasRow_9 : decode cX2_hasRow 9 = .ok (.aload_n 0, 1) := by decide +kernel
theorem dX2_hasRow_10 : decode cX2_hasRow 10 = .ok (.getfield 19, 3) := by decide +kernel
theorem dX2_hasRow_13 : decode cX2_hasRow 13 = .ok (.if_icmp .gt 17, 3) := by decide +kernel
theorem dX2_hasRow_16 : decode cX2_hasRow 16 = .ok (.iload_n 1, 1) := by decide +kernel
theorem dX2_hasRow_17 : decode cX2_hasRow 17 = .ok (.aload_n 0, 1) := by decide +kernel
theorem dX2_hasRow_18 : decode cX2_hasRow 18 = .ok (.getfield 19, 3) := by decide +kernel
theorem dX2_hasRow_21 : decode cX2_hasRow 21 = .ok (.iload_n 2, 1) := by decide +kernel
theorem dX2_hasRow_22 : decode cX2_hasRow 22 = .ok (.isub, 1) := by decide +kernel
theorem dX2_hasRow_23 : decode cX2_hasRow 23 = .ok (.if_icmp .gt 7, 3) := by decide +kernel
theorem dX2_hasRow_26 : decode cX2_hasRow 26 = .ok (.iconst 1, 1) := by decide +kernel
theorem dX2_hasRow_27 : decode cX2_hasRow 27 = .ok (.goto 4, 3) := by decide +kernel
theorem dX2_hasRow_30 : decode cX2_hasRow 30 = .ok (.iconst 0, 1) := by decide +kernel
theorem dX2_hasRow_31 : decode cX2_hasRow 31 = .ok (.ireturn, 1) := by decide +kernel
theorem dX3_init_0 : decode cX3_init 0 = .ok (.aload_n 0, 1) := by decide +kernel
theorem dX3_init_1 : decode cX3_init 1 = .ok (.invokespecial 3, 3) := by decide +kernel
theorem dX3_init_4 : decode cX3_init 4 = .ok (.aload_n 0, 1) := by decide +kernel
theorem dX3_init_5 : decode cX3_init 5 = .ok (.bipush 120, 2) := by decide +kernel
theorem dX3_init_7 : decode cX3_init 7 = .ok (.newarray .int, 2) := by decide +kernel
theorem dX3_init_9 : decode cX3_init 9 = .ok (.putfield 9, 3) := by decide +kernel
theorem dX3_init_12 : decode cX3_init 12 = .ok (.aload_n 0, 1) := by decide +kernel
theorem dX3_init_13 : decode cX3_init 13 = .ok (.iconst 0, 1) := by decide +kernel
theorem dX3_init_14 : decode cX3_init 14 = .ok (.putfield 15, 3) := by decide +kernel
theorem dX3_init_17 : decode cX3_init 17 = .ok (.return_, 1) := by decide +kernel
theorem dX3_put_0 : decode cX3_put 0 = .ok (.aload_n 0, 1) := by decide +kernel
theorem dX3_put_1 : decode cX3_put 1 = .ok (.getfield 15, 3) := by decide +kernel
theorem dX3_put_4 : decode cX3_put 4 = .ok (.bipush 120, 2) := by decide +kernel
theorem dX3_put_6 : decode cX3_put 6 = .ok (.if_icmp .ge 23, 3) := by decide +kernel
theorem dX3_put_9 : decode cX3_put 9 = .ok (.aload_n 0, 1) := by decide +kernel
theorem dX3_put_10 : decode cX3_put 10 = .ok (.getfield 9, 3) := by decide +kernel
theorem dX3_put_13 : decode cX3_put 13 = .ok (.aload_n 0, 1) := by decide +kernel
theorem dX3_put_14 : decode cX3_put 14 = .ok (.getfield 15, 3) := by decide +kernel
theorem dX3_put_17 : decode cX3_put 17 = .ok (.iload_n 1, 1) := by decide +kernel
theorem dX3_put_18 : decode cX3_put 18 = .ok (.iastore, 1) := by decide +kernel
theorem dX3_put_19 : decode cX3_put 19 = .ok (.aload_n 0, 1) := by decide +kernel
theorem dX3_put_20 : decode cX3_put 20 = .ok (.dup, 1) := by decide +kernel
theorem dX3_put_21 : decode cX3_put 21 = .ok (.getfield 15, 3) := by decide +kernel
theorem dX3_put_24 : decode cX3_put 24 = .ok (.iconst 1, 1) := by decide +kernel
theorem dX3_put_25 : decode cX3_put 25 = .ok (.iadd, 1) := by decide +kernel
theorem dX3_put_26 : decode cX3_put 26 = .ok (.putfield 15, 3) := by decide +kernel
theorem dX3_put_29 : decode cX3_put 29 = .ok (.return_, 1) := by decide +kernel
theorem dX3_at_0 : decode cX3_at 0 = .ok (.iload_n 1, 1) := by decide +kernel
theorem dX3_at_1 : decode cX3_at 1 = .ok (.ifCond .lt 20, 3) := by decide +kernel
theorem dX3_at_4 : decode cX3_at 4 = .ok (.iload_n 1, 1) := by decide +kernel
theorem dX3_at_5 : decode cX3_at 5 = .ok (.aload_n 0, 1) := by decide +kernel
theorem dX3_at_6 : decode cX3_at 6 = .ok (.getfield 15, 3) := by decide +kernel
theorem dX3_at_9 : decode cX3_at 9 = .ok (.if_icmp .ge 12, 3) := by decide +kernel
theorem dX3_at_12 : decode cX3_at 12 = .ok (.aload_n 0, 1) := by decide +kernel
theorem dX3_at_13 : decode cX3_at 13 = .ok (.getfield 9, 3) := by decide +kernel
theorem dX3_at_16 : decode cX3_at 16 = .ok (.iload_n 1, 1) := by decide +kernel
theorem dX3_at_17 : decode cX3_at 17 = .ok (.iaload, 1) := by decide +kernel
theorem dX3_at_18 : decode cX3_at 18 = .ok (.goto 4, 3) := by decide +kernel
theorem dX3_at_21 : decode cX3_at 21 = .ok (.iconst (-1), 1) := by decide +kernel
theorem dX3_at_22 : decode cX3_at 22 = .ok (.ireturn, 1) := by decide +kernel
theorem dX4_init_0 : decode cX4_init 0 = .ok (.aload_n 0, 1) := by decide +kernel
theorem dX4_init_1 : decode cX4_init 1 = .ok (.invokespecial 3, 3) := by decide +kernel
theorem dX4_init_4 : decode cX4_init 4 = .ok (.aload_n 0, 1) := by decide +kernel
theorem dX4_init_5 : decode cX4_init 5 = .ok (.new 9, 3) := by decide +kernel
theorem dX4_init_8 : decode cX4_init 8 = .ok (.dup, 1) := by decide +kernel
theorem dX4_init_9 : decode cX4_init 9 = .ok (.invokespecial 11, 3) := by decide +kernel
theorem dX4_init_12 : decode cX4_init 12 = .ok (.putfield 12, 3) := by decide +kernel
theorem dX4_init_15 : decode cX4_init 15 = .ok (.aload_n 0, 1) := by decide +kernel
theorem dX4_init_16 : decode cX4_init 16 = .ok (.iconst 0, 1) := by decide +kernel
theorem dX4_init_17 : decode cX4_init 17 = .ok (.putfield 18, 3) := by decide +kernel
theorem dX4_init_20 : decode cX4_init 20 = .ok (.aload_n 0, 1) := by decide +kernel
theorem dX4_init_21 : decode cX4_init 21 = .ok (.iconst 0, 1) := by decide +kernel
theorem dX4_init_22 : decode cX4_init 22 = .ok (.putfield 22, 3) := by decide +kernel
theorem dX4_init_25 : decode cX4_init 25 = .ok (.aload_n 0, 1) := by decide +kernel
theorem dX4_init_26 : decode cX4_init 26 = .ok (.iconst 0, 1) := by decide +kernel
theorem dX4_init_27 : decode cX4_init 27 = .ok (.putfield 25, 3) := by decide +kernel
theorem dX4_init_30 : decode cX4_init 30 = .ok (.aload_n 0, 1) := by decide +kernel
theorem dX4_init_31 : decode cX4_init 31 = .ok (.iconst 0, 1) := by decide +kernel
theorem dX4_init_32 : decode cX4_init 32 = .ok (.putfield 28, 3) := by decide +kernel
theorem dX4_init_35 : decode cX4_init 35 = .ok (.return_, 1) := by decide +kernel
theorem dX4_tell_0 : decode cX4_tell 0 = .ok (.aload_n 0, 1) := by decide +kernel
theorem dX4_tell_1 : decode cX4_tell 1 = .ok (.iconst 0, 1) := by decide +kernel
theorem dX4_tell_2 : decode cX4_tell 2 = .ok (.putfield 22, 3) := by decide +kernel
theorem dX4_tell_5 : decode cX4_tell 5 = .ok (.aload_n 0, 1) := by decide +kernel
theorem dX4_tell_6 : decode cX4_tell 6 = .ok (.invokevirtual 31, 3) := by decide +kernel
theorem dX4_tell_9 : decode cX4_tell 9 = .ok (.iconst 1, 1) := by decide +kernel
theorem dX4_tell_10 : decode cX4_tell 10 = .ok (.istore_n 2, 1) := by decide +kernel
theorem dX4_tell_11 : decode cX4_tell 11 = .ok (.iload_n 2, 1) := by decide +kernel
theorem dX4_tell_12 : decode cX4_tell 12 = .ok (.bipush 120, 2) := by decide +kernel
theorem dX4_tell_14 : decode cX4_tell 14 = .ok (.if_icmp .gt 42, 3) := by decide +kernel
theorem dX4_tell_17 : decode cX4_tell 17 = .ok (.aload_n 0, 1) := by decide +kernel
theorem dX4_tell_18 : decode cX4_tell 18 = .ok (.aload_n 1, 1) := by decide +kernel
theorem dX4_tell_19 : decode cX4_tell 19 = .ok (.invokevirtual 34, 3) := by decide +kernel
theorem dX4_tell_22 : decode cX4_tell 22 = .ok (.ifCond .ne 5, 3) := by decide +kernel
theorem dX4_tell_25 : decode cX4_tell 25 = .ok (.iconst (-1), 1) := by decide +kernel
theorem dX4_tell_26 : decode cX4_tell 26 = .ok (.ireturn, 1) := by decide +kernel
theorem dX4_tell_27 : decode cX4_tell 27 = .ok (.aload_n 0, 1) := by decide +kernel
theorem dX4_tell_28 : decode cX4_tell 28 = .ok (.getfield 25, 3) := by decide +kernel
theorem dX4_tell_31 : decode cX4_tell 31 = .ok (.ifCond .ne 5, 3) := by decide +kernel
theorem dX4_tell_34 : decode cX4_tell 34 = .ok (.iload_n 2, 1) := by decide +kernel
theorem dX4_tell_35 : decode cX4_tell 35 = .ok (.ireturn, 1) := by decide +kernel
theorem dX4_tell_36 : decode cX4_tell 36 = .ok (.aload_n 0, 1) := by decide +kernel
theorem dX4_tell_37 : decode cX4_tell 37 = .ok (.getfield 25, 3) := by decide +kernel
theorem dX4_tell_40 : decode cX4_tell 40 = .ok (.iconst 3, 1) := by decide +kernel
theorem dX4_tell_41 : decode cX4_tell 41 = .ok (.if_icmp .eq 5, 3) := by decide +kernel
theorem dX4_tell_44 : decode cX4_tell 44 = .ok (.iconst (-1), 1) := by decide +kernel
theorem dX4_tell_45 : decode cX4_tell 45 = .ok (.ireturn, 1) := by decide +kernel
theorem dX4_tell_46 : decode cX4_tell 46 = .ok (.aload_n 0, 1) := by decide +kernel
theorem dX4_tell_47 : decode cX4_tell 47 = .ok (.invokevirtual 31, 3) := by decide +kernel
theorem dX4_tell_50 : decode cX4_tell 50 = .ok (.iinc 2 1, 3) := by decide +kernel
theorem dX4_tell_53 : decode cX4_tell 53 = .ok (.goto (-42), 3) := by decide +kernel
theorem dX4_tell_56 : decode cX4_tell 56 = .ok (.iconst (-1), 1) := by decide +kernel
theorem dX4_tell_57 : decode cX4_tell 57 = .ok (.ireturn, 1) := by decide +kernel
theorem dX4_tellItem_0 : decode cX4_tellItem 0 = .ok (.aload_n 0, 1) := by decide +kernel
theorem dX4_tellItem_1 : decode cX4_tellItem 1 = .ok (.ldc 38, 2) := by decide +kernel
theorem dX4_tellItem_3 : decode cX4_tellItem 3 = .ok (.invokevirtual 40, 3) := by decide +kernel
theorem dX4_tellItem_6 : decode cX4_tellItem 6 = .ok (.ifCond .eq 9, 3) := by decide +kernel
theorem dX4_tellItem_9 : decode cX4_tellItem 9 = .ok (.aload_n 0, 1) := by decide +kernel
theorem dX4_tellItem_10 : decode cX4_tellItem 10 = .ok (.aload_n 1, 1) := by decide +kernel
theorem dX4_tellItem_11 : decode cX4_tellItem 11 = .ok (.invokevirtual 44, 3) := by decide +kernel
theorem dX4_tellItem_14 : decode cX4_tellItem 14 = .ok (.ireturn, 1) := by decide +kernel
theorem dX4_tellItem_15 : decode cX4_tellItem 15 = .ok (.aload_n 0, 1) := by decide +kernel
theorem dX4_tellItem_16 : decode cX4_tellItem 16 = .ok (.invokevirtual 47, 3) := by decide +kernel
theorem dX4_tellItem_19 : decode cX4_tellItem 19 = .ok (.istore_n 2, 1) := by decide +kernel
theorem dX4_tellItem_20 : decode cX4_tellItem 20 = .ok (.iload_n 2, 1) := by decide +kernel
theorem dX4_tellItem_21 : decode cX4_tellItem 21 = .ok (.ifCond .lt 10, 3) := by decide +kernel
theorem dX4_tellItem_24 : decode cX4_tellItem 24 = .ok (.aload_n 0, 1) := by decide +kernel
theorem dX4_tellItem_25 : decode cX4_tellItem 25 = .ok (.aload_n 1, 1) := by decide +kernel
theorem dX4_tellItem_26 : decode cX4_tellItem 26 = .ok (.iload_n 2, 1) := by decide +kernel
theorem dX4_tellItem_27 : decode cX4_tellItem 27 = .ok (.invokevirtual 51, 3) := by decide +kernel
theorem dX4_tellItem_30 : decode cX4_tellItem 30 = .ok (.ireturn, 1) := by decide +kernel
theorem dX4_tellItem_31 : decode cX4_tellItem 31 = .ok (.aload_n 0, 1) := by decide +kernel
theorem dX4_tellItem_32 : decode cX4_tellItem 32 = .ok (.invokevirtual 55, 3) := by decide +kernel
theorem dX4_tellItem_35 : decode cX4_tellItem 35 = .ok (.istore_n 3, 1) := by decide +kernel
theorem dX4_tellItem_36 : decode cX4_tellItem 36 = .ok (.iload_n 3, 1) := by decide +kernel
theorem dX4_tellItem_37 : decode cX4_tellItem 37 = .ok (.ifCond .lt 16, 3) := by decide +kernel
theorem dX4_tellItem_40 : decode cX4_tellItem 40 = .ok (.aload_n 0, 1) := by decide +kernel
theorem dX4_tellItem_41 : decode cX4_tellItem 41 = .ok (.aload_n 1, 1) := by decide +kernel
theorem dX4_tellItem_42 : decode cX4_tellItem 42 = .ok (.iload_n 3, 1) := by decide +kernel
theorem dX4_tellItem_43 : decode cX4_tellItem 43 = .ok (.invokevirtual 58, 3) := by decide +kernel
theorem dX4_tellItem_46 : decode cX4_tellItem 46 = .ok (.ifCond .eq 7, 3) := by decide +kernel
theorem dX4_tellItem_49 : decode cX4_tellItem 49 = .ok (.iconst 1, 1) := by decide +kernel
theorem dX4_tellItem_50 : decode cX4_tellItem 50 = .ok (.goto 4, 3) := by decide +kernel
theorem dX4_tellItem_53 : decode cX4_tellItem 53 = .ok (.iconst 0, 1) := by decide +kernel
theorem dX4_tellItem_54 : decode cX4_tellItem 54 = .ok (.ireturn, 1) := by decide +kernel
theorem dX4_tellRoom_0 : decode cX4_tellRoom 0 = .ok (.aload_n 1, 1) := by decide +kernel
theorem dX4_tellRoom_1 : decode cX4_tellRoom 1 = .ok (.getfield 61, 3) := by decide +kernel
theorem dX4_tellRoom_4 : decode cX4_tellRoom 4 = .ok (.bipush 6, 2) := by decide +kernel
theorem dX4_tellRoom_6 : decode cX4_tellRoom 6 = .ok (.if_icmp .lt 5, 3) := by decide +kernel
theorem dX4_tellRoom_9 : decode cX4_tellRoom 9 = .ok (.iconst 0, 1) := by decide +kernel
theorem dX4_tellRoom_10 : decode cX4_tellRoom 10 = .ok (.ireturn, 1) := by decide +kernel
theorem dX4_tellRoom_11 : decode cX4_tellRoom 11 = .ok (.aload_n 1, 1) := by decide +kernel
theorem dX4_tellRoom_12 : decode cX4_tellRoom 12 = .ok (.invokevirtual 66, 3) := by decide +kernel
theorem dX4_tellRoom_15 : decode cX4_tellRoom 15 = .ok (.aload_n 0, 1) := by decide +kernel
theorem dX4_tellRoom_16 : decode cX4_tellRoom 16 = .ok (.invokevirtual 31, 3) := by decide +kernel
theorem dX4_tellRoom_19 : decode cX4_tellRoom 19 = .ok (.iconst 1, 1) := by decide +kernel
theorem dX4_tellRoom_20 : decode cX4_tellRoom 20 = .ok (.ireturn, 1) := by decide +kernel
theorem dX4_tellNight_0 : decode cX4_tellNight 0 = .ok (.aload_n 0, 1) := by decide +kernel
theorem dX4_tellNight_1 : decode cX4_tellNight 1 = .ok (.invokevirtual 31, 3) := by decide +kernel
theorem dX4_tellNight_4 : decode cX4_tellNight 4 = .ok (.aload_n 0, 1) := by decide +kernel
theorem dX4_tellNight_5 : decode cX4_tellNight 5 = .ok (.getstatic 69, 3) := by decide +kernel
theorem dX4_tellNight_8 : decode cX4_tellNight 8 = .ok (.iload_n 2, 1) := by decide +kernel
theorem dX4_tellNight_9 : decode cX4_tellNight 9 = .ok (.iaload, 1) := by decide +kernel
theorem dX4_tellNight_10 : decode cX4_tellNight 10 = .ok (.invokevirtual 73, 3) := by decide +kernel
theorem dX4_tellNight_13 : decode cX4_tellNight 13 = .ok (.istore_n 3, 1) := by decide +kernel
theorem dX4_tellNight_14 : decode cX4_tellNight 14 = .ok (.iload_n 3, 1) := by decide +kernel
theorem dX4_tellNight_15 : decode cX4_tellNight 15 = .ok (.ifCond .ge 5, 3) := by decide +kernel
theorem dX4_tellNight_18 : decode cX4_tellNight 18 = .ok (.iconst 0, 1) := by decide +kernel
theorem dX4_tellNight_19 : decode cX4_tellNight 19 = .ok (.ireturn, 1) := by decide +kernel
theorem dX4_tellNight_20 : decode cX4_tellNight 20 = .ok (.aload_n 1, 1) := by decide +kernel
theorem dX4_tellNight_21 : decode cX4_tellNight 21 = .ok (.getfield 77, 3) := by decide +kernel
theorem dX4_tellNight_24 : decode cX4_tellNight 24 = .ok (.iload_n 2, 1) := by decide +kernel
theorem dX4_tellNight_25 : decode cX4_tellNight 25 = .ok (.iload_n 3, 1) := by decide +kernel
theorem dX4_tellNight_26 : decode cX4_tellNight 26 = .ok (.iastore, 1) := by decide +kernel
theorem dX4_tellNight_27 : decode cX4_tellNight 27 = .ok (.iconst 1, 1) := by decide +kernel
theorem dX4_tellNight_28 : decode cX4_tellNight 28 = .ok (.ireturn, 1) := by decide +kernel
theorem dX4_tellGap_0 : decode cX4_tellGap 0 = .ok (.aload_n 1, 1) := by decide +kernel
theorem dX4_tellGap_1 : decode cX4_tellGap 1 = .ok (.getfield 80, 3) := by decide +kernel
theorem dX4_tellGap_4 : decode cX4_tellGap 4 = .ok (.bipush 20, 2) := by decide +kernel
theorem dX4_tellGap_6 : decode cX4_tellGap 6 = .ok (.if_icmp .lt 5, 3) := by decide +kernel
theorem dX4_tellGap_9 : decode cX4_tellGap 9 = .ok (.iconst 0, 1) := by decide +kernel
theorem dX4_tellGap_10 : decode cX4_tellGap 10 = .ok (.ireturn, 1) := by decide +kernel
theorem dX4_tellGap_11 : decode cX4_tellGap 11 = .ok (.aload_n 0, 1) := by decide +kernel
theorem dX4_tellGap_12 : decode cX4_tellGap 12 = .ok (.invokevirtual 31, 3) := by decide +kernel
theorem dX4_tellGap_15 : decode cX4_tellGap 15 = .ok (.aload_n 0, 1) := by decide +kernel
theorem dX4_tellGap_16 : decode cX4_tellGap 16 = .ok (.aload_n 1, 1) := by decide +kernel
theorem dX4_tellGap_17 : decode cX4_tellGap 17 = .ok (.getfield 61, 3) := by decide +kernel
theorem dX4_tellGap_20 : decode cX4_tellGap 20 = .ok (.iconst 1, 1) := by decide +kernel
theorem dX4_tellGap_21 : decode cX4_tellGap 21 = .ok (.isub, 1) := by decide +kernel
theorem dX4_tellGap_22 : decode cX4_tellGap 22 = .ok (.invokevirtual 73, 3) := by decide +kernel
theorem dX4_tellGap_25 : decode cX4_tellGap 25 = .ok (.istore_n 3, 1) := by decide +kernel
theorem dX4_tellGap_26 : decode cX4_tellGap 26 = .ok (.iload_n 3, 1) := by decide +kernel
theorem dX4_tellGap_27 : decode cX4_tellGap 27 = .ok (.ifCond .ge 5, 3) := by decide +kernel
theorem dX4_tellGap_30 : decode cX4_tellGap 30 = .ok (.iconst 0, 1) := by decide +kernel
theorem dX4_tellGap_31 : decode cX4_tellGap 31 = .ok (.ireturn, 1) := by decide +kernel
theorem dX4_tellGap_32 : decode cX4_tellGap 32 = .ok (.aload_n 0, 1) := by decide +kernel
theorem dX4_tellGap_33 : decode cX4_tellGap 33 = .ok (.aload_n 1, 1) := by decide +kernel
theorem dX4_tellGap_34 : decode cX4_tellGap 34 = .ok (.getfield 61, 3) := by decide +kernel
theorem dX4_tellGap_37 : decode cX4_tellGap 37 = .ok (.iconst 1, 1) := by decide +kernel
theorem dX4_tellGap_38 : decode cX4_tellGap 38 = .ok (.isub, 1) := by decide +kernel
theorem dX4_tellGap_39 : decode cX4_tellGap 39 = .ok (.iload_n 3, 1) := by decide +kernel
theorem dX4_tellGap_40 : decode cX4_tellGap 40 = .ok (.invokevirtual 83, 3) := by decide +kernel
theorem dX4_tellGap_43 : decode cX4_tellGap 43 = .ok (.istore 4, 2) := by decide +kernel
theorem dX4_tellGap_45 : decode cX4_tellGap 45 = .ok (.iload 4, 2) := by decide +kernel
theorem dX4_tellGap_47 : decode cX4_tellGap 47 = .ok (.iconst (-1), 1) := by decide +kernel
theorem dX4_tellGap_48 : decode cX4_tellGap 48 = .ok (.if_icmp .ge 5, 3) := by decide +kernel
theorem dX4_tellGap_51 : decode cX4_tellGap 51 = .ok (.iconst 0, 1) := by decide +kernel
theorem dX4_tellGap_52 : decode cX4_tellGap 52 = .ok (.ireturn, 1) := by decide +kernel
theorem dX4_tellGap_53 : decode cX4_tellGap 53 = .ok (.aload_n 0, 1) := by decide +kernel
theorem dX4_tellGap_54 : decode cX4_tellGap 54 = .ok (.bipush 99, 2) := by decide +kernel
theorem dX4_tellGap_56 : decode cX4_tellGap 56 = .ok (.invokevirtual 73, 3) := by decide +kernel
theorem dX4_tellGap_59 : decode cX4_tellGap 59 = .ok (.istore 5, 2) := by decide +kernel
theorem dX4_tellGap_61 : decode cX4_tellGap 61 = .ok (.iload 5, 2) := by decide +kernel
theorem dX4_tellGap_63 : decode cX4_tellGap 63 = .ok (.ifCond .ge 7, 3) := by decide +kernel
theorem dX4_tellGap_66 : decode cX4_tellGap 66 = .ok (.iconst (-1), 1) := by decide +kernel
theorem dX4_tellGap_67 : decode cX4_tellGap 67 = .ok (.goto 11, 3) := by decide +kernel
theorem dX4_tellGap_70 : decode cX4_tellGap 70 = .ok (.aload_n 0, 1) := by decide +kernel
theorem dX4_tellGap_71 : decode cX4_tellGap 71 = .ok (.ldc 87, 2) := by decide +kernel
theorem dX4_tellGap_73 : decode cX4_tellGap 73 = .ok (.bipush 9, 2) := by decide +kernel
theorem dX4_tellGap_75 : decode cX4_tellGap 75 = .ok (.invokevirtual 89, 3) := by decide +kernel
theorem dX4_tellGap_78 : decode cX4_tellGap 78 = .ok (.istore 6, 2) := by decide +kernel
theorem dX4_tellGap_80 : decode cX4_tellGap 80 = .ok (.iload 6, 2) := by decide +kernel
theorem dX4_tellGap_82 : decode cX4_tellGap 82 = .ok (.ifCond .ge 7, 3) := by decide +kernel
theorem dX4_tellGap_85 : decode cX4_tellGap 85 = .ok (.iconst (-1), 1) := by decide +kernel
theorem dX4_tellGap_86 : decode cX4_tellGap 86 = .ok (.goto 10, 3) := by decide +kernel
theorem dX4_tellGap_89 : decode cX4_tellGap 89 = .ok (.aload_n 0, 1) := by decide +kernel
theorem dX4_tellGap_90 : decode cX4_tellGap 90 = .ok (.ldc 93, 2) := by decide +kernel
theorem dX4_tellGap_92 : decode cX4_tellGap 92 = .ok (.iconst 3, 1) := by decide +kernel
theorem dX4_tellGap_93 : decode cX4_tellGap 93 = .ok (.invokevirtual 89, 3) := by decide +kernel
theorem dX4_tellGap_96 : decode cX4_tellGap 96 = .ok (.istore 7, 2) := by decide +kernel
theorem dX4_tellGap_98 : decode cX4_tellGap 98 = .ok (.iload 7, 2) := by decide +kernel
theorem dX4_tellGap_100 : decode cX4_tellGap 100 = .ok (.ifCond .ge 7, 3) := by decide +kernel
theorem dX4_tellGap_103 : decode cX4_tellGap 103 = .ok (.iconst (-1), 1) := by decide +kernel
theorem dX4_tellGap_104 : decode cX4_tellGap 104 = .ok (.goto 11, 3) := by decide +kernel
theorem dX4_tellGap_107 : decode cX4_tellGap 107 = .ok (.aload_n 0, 1) := by decide +kernel
theorem dX4_tellGap_108 : decode cX4_tellGap 108 = .ok (.ldc 95, 2) := by decide +kernel
theorem dX4_tellGap_110 : decode cX4_tellGap 110 = .ok (.bipush 99, 2) := by decide +kernel
theorem dX4_tellGap_112 : decode cX4_tellGap 112 = .ok (.invokevirtual 89, 3) := by decide +kernel
theorem dX4_tellGap_115 : decode cX4_tellGap 115 = .ok (.istore 8, 2) := by decide +kernel
theorem dX4_tellGap_117 : decode cX4_tellGap 117 = .ok (.iload 8, 2) := by decide +kernel
theorem dX4_tellGap_119 : decode cX4_tellGap 119 = .ok (.ifCond .ge 5, 3) := by decide +kernel
theorem dX4_tellGap_122 : decode cX4_tellGap 122 = .ok (.iconst 0, 1) := by decide +kernel
theorem dX4_tellGap_123 : decode cX4_tellGap 123 = .ok (.ireturn, 1) := by decide +kernel
theorem dX4_tellGap_124 : decode cX4_tellGap 124 = .ok (.aload_n 1, 1) := by decide +kernel
theorem dX4_tellGap_125 : decode cX4_tellGap 125 = .ok (.aload_n 1, 1) := by decide +kernel
theorem dX4_tellGap_126 : decode cX4_tellGap 126 = .ok (.iload_n 2, 1) := by decide +kernel
theorem dX4_tellGap_127 : decode cX4_tellGap 127 = .ok (.iload_n 3, 1) := by decide +kernel
theorem dX4_tellGap_128 : decode cX4_tellGap 128 = .ok (.iload 4, 2) := by decide +kernel
theorem dX4_tellGap_130 : decode cX4_tellGap 130 = .ok (.invokevirtual 97, 3) := by decide +kernel
theorem dX4_tellGap_133 : decode cX4_tellGap 133 = .ok (.iload 5, 2) := by decide +kernel
theorem dX4_tellGap_135 : decode cX4_tellGap 135 = .ok (.iload 6, 2) := by decide +kernel
theorem dX4_tellGap_137 : decode cX4_tellGap 137 = .ok (.iload 7, 2) := by decide +kernel
theorem dX4_tellGap_139 : decode cX4_tellGap 139 = .ok (.iload 8, 2) := by decide +kernel
theorem dX4_tellGap_141 : decode cX4_tellGap 141 = .ok (.invokevirtual 101, 3) := by decide +kernel
theorem dX4_tellGap_144 : decode cX4_tellGap 144 = .ok (.iconst 1, 1) := by decide +kernel
theorem dX4_tellGap_145 : decode cX4_tellGap 145 = .ok (.ireturn, 1) := by decide +kernel
theorem dX4_takeOther_0 : decode cX4_takeOther 0 = .ok (.aload_n 0, 1) := by decide +kernel
theorem dX4_takeOther_1 : decode cX4_takeOther 1 = .ok (.ldc 105, 2) := by decide +kernel
theorem dX4_takeOther_3 : decode cX4_takeOther 3 = .ok (.invokevirtual 40, 3) := by decide +kernel
theorem dX4_takeOther_6 : decode cX4_takeOther 6 = .ok (.ifCond .eq 9, 3) := by decide +kernel
theorem dX4_takeOther_9 : decode cX4_takeOther 9 = .ok (.aload_n 0, 1) := by decide +kernel
theorem dX4_takeOther_10 : decode cX4_takeOther 10 = .ok (.invokevirtual 31, 3) := by decide +kernel
theorem dX4_takeOther_13 : decode cX4_takeOther 13 = .ok (.iconst (-1), 1) := by decide +kernel
theorem dX4_takeOther_14 : decode cX4_takeOther 14 = .ok (.ireturn, 1) := by decide +kernel
theorem dX4_takeOther_15 : decode cX4_takeOther 15 = .ok (.aload_n 0, 1) := by decide +kernel
theorem dX4_takeOther_16 : decode cX4_takeOther 16 = .ok (.getfield 25, 3) := by decide +kernel
theorem dX4_takeOther_19 : decode cX4_takeOther 19 = .ok (.iconst 2, 1) := by decide +kernel
theorem dX4_takeOther_20 : decode cX4_takeOther 20 = .ok (.if_icmp .ne 15, 3) := by decide +kernel
theorem dX4_takeOther_23 : decode cX4_takeOther 23 = .ok (.aload_n 0, 1) := by decide +kernel
theorem dX4_takeOther_24 : decode cX4_takeOther 24 = .ok (.getfield 28, 3) := by decide +kernel
theorem dX4_takeOther_27 : decode cX4_takeOther 27 = .ok (.iload_n 2, 1) := by decide +kernel
theorem dX4_takeOther_28 : decode cX4_takeOther 28 = .ok (.if_icmp .ne 7, 3) := by decide +kernel
theorem dX4_takeOther_31 : decode cX4_takeOther 31 = .ok (.iconst (-1), 1) := by decide +kernel
theorem dX4_takeOther_32 : decode cX4_takeOther 32 = .ok (.goto 8, 3) := by decide +kernel
theorem dX4_takeOther_35 : decode cX4_takeOther 35 = .ok (.aload_n 0, 1) := by decide +kernel
theorem dX4_takeOther_36 : decode cX4_takeOther 36 = .ok (.iload_n 1, 1) := by decide +kernel
theorem dX4_takeOther_37 : decode cX4_takeOther 37 = .ok (.invokevirtual 73, 3) := by decide +kernel
theorem dX4_takeOther_40 : decode cX4_takeOther 40 = .ok (.istore_n 3, 1) := by decide +kernel
theorem dX4_takeOther_41 : decode cX4_takeOther 41 = .ok (.iload_n 3, 1) := by decide +kernel
theorem dX4_takeOther_42 : decode cX4_takeOther 42 = .ok (.ifCond .ge 8, 3) := by decide +kernel
theorem dX4_takeOther_45 : decode cX4_takeOther 45 = .ok (.bipush (-2), 2) := by decide +kernel
theorem dX4_takeOther_47 : decode cX4_takeOther 47 = .ok (.goto 4, 3) := by decide +kernel
theorem dX4_takeOther_50 : decode cX4_takeOther 50 = .ok (.iload_n 3, 1) := by decide +kernel
theorem dX4_takeOther_51 : decode cX4_takeOther 51 = .ok (.ireturn, 1) := by decide +kernel
theorem dX4_takePerhaps_0 : decode cX4_takePerhaps 0 = .ok (.aload_n 0, 1) := by decide +kernel
theorem dX4_takePerhaps_1 : decode cX4_takePerhaps 1 = .ok (.aload_n 1, 1) := by decide +kernel
theorem dX4_takePerhaps_2 : decode cX4_takePerhaps 2 = .ok (.invokevirtual 40, 3) := by decide +kernel
theorem dX4_takePerhaps_5 : decode cX4_takePerhaps 5 = .ok (.ifCond .ne 5, 3) := by decide +kernel
theorem dX4_takePerhaps_8 : decode cX4_takePerhaps 8 = .ok (.iconst 0, 1) := by decide +kernel
theorem dX4_takePerhaps_9 : decode cX4_takePerhaps 9 = .ok (.ireturn, 1) := by decide +kernel
theorem dX4_takePerhaps_10 : decode cX4_takePerhaps 10 = .ok (.aload_n 0, 1) := by decide +kernel
theorem dX4_takePerhaps_11 : decode cX4_takePerhaps 11 = .ok (.invokevirtual 31, 3) := by decide +kernel
theorem dX4_takePerhaps_14 : decode cX4_takePerhaps 14 = .ok (.aload_n 0, 1) := by decide +kernel
theorem dX4_takePerhaps_15 : decode cX4_takePerhaps 15 = .ok (.iload_n 2, 1) := by decide +kernel
theorem dX4_takePerhaps_16 : decode cX4_takePerhaps 16 = .ok (.invokevirtual 73, 3) := by decide +kernel
theorem dX4_takePerhaps_19 : decode cX4_takePerhaps 19 = .ok (.ireturn, 1) := by decide +kernel
theorem dX4_takeNumber_0 : decode cX4_takeNumber 0 = .ok (.aload_n 0, 1) := by decide +kernel
theorem dX4_takeNumber_1 : decode cX4_takeNumber 1 = .ok (.getfield 25, 3) := by decide +kernel
theorem dX4_takeNumber_4 : decode cX4_takeNumber 4 = .ok (.iconst 2, 1) := by decide +kernel
theorem dX4_takeNumber_5 : decode cX4_takeNumber 5 = .ok (.if_icmp .ne 11, 3) := by decide +kernel
theorem dX4_takeNumber_8 : decode cX4_takeNumber 8 = .ok (.aload_n 0, 1) := by decide +kernel
theorem dX4_takeNumber_9 : decode cX4_takeNumber 9 = .ok (.getfield 28, 3) := by decide +kernel
theorem dX4_takeNumber_12 : decode cX4_takeNumber 12 = .ok (.iload_n 1, 1) := by decide +kernel
theorem dX4_takeNumber_13 : decode cX4_takeNumber 13 = .ok (.if_icmp .le 5, 3) := by decide +kernel
theorem dX4_takeNumber_16 : decode cX4_takeNumber 16 = .ok (.iconst (-1), 1) := by decide +kernel
theorem dX4_takeNumber_17 : decode cX4_takeNumber 17 = .ok (.ireturn, 1) := by decide +kernel
theorem dX4_takeNumber_18 : decode cX4_takeNumber 18 = .ok (.aload_n 0, 1) := by decide +kernel
theorem dX4_takeNumber_19 : decode cX4_takeNumber 19 = .ok (.getfield 28, 3) := by decide +kernel
theorem dX4_takeNumber_22 : decode cX4_takeNumber 22 = .ok (.istore_n 2, 1) := by decide +kernel
theorem dX4_takeNumber_23 : decode cX4_takeNumber 23 = .ok (.aload_n 0, 1) := by decide +kernel
theorem dX4_takeNumber_24 : decode cX4_takeNumber 24 = .ok (.invokevirtual 31, 3) := by decide +kernel
theorem dX4_takeNumber_27 : decode cX4_takeNumber 27 = .ok (.iload_n 2, 1) := by decide +kernel
theorem dX4_takeNumber_28 : decode cX4_takeNumber 28 = .ok (.ireturn, 1) := by decide +kernel
theorem dX4_kindTold_0 : decode cX4_kindTold 0 = .ok (.aload_n 0, 1) := by decide +kernel
theorem dX4_kindTold_1 : decode cX4_kindTold 1 = .ok (.ldc 107, 2) := by decide +kernel
theorem dX4_kindTold_3 : decode cX4_kindTold 3 = .ok (.invokevirtual 40, 3) := by decide +kernel
theorem dX4_kindTold_6 : decode cX4_kindTold 6 = .ok (.ifCond .eq 5, 3) := by decide +kernel
theorem dX4_kindTold_9 : decode cX4_kindTold 9 = .ok (.iconst 0, 1) := by decide +kernel
theorem dX4_kindTold_10 : decode cX4_kindTold 10 = .ok (.ireturn, 1) := by decide +kernel
theorem dX4_kindTold_11 : decode cX4_kindTold 11 = .ok (.aload_n 0, 1) := by decide +kernel
theorem dX4_kindTold_12 : decode cX4_kindTold 12 = .ok (.ldc 109, 2) := by decide +kernel
theorem dX4_kindTold_14 : decode cX4_kindTold 14 = .ok (.invokevirtual 40, 3) := by decide +kernel
theorem dX4_kindTold_17 : decode cX4_kindTold 17 = .ok (.ifCond .eq 5, 3) := by decide +kernel
theorem dX4_kindTold_20 : decode cX4_kindTold 20 = .ok (.iconst 1, 1) := by decide +kernel
theorem dX4_kindTold_21 : decode cX4_kindTold 21 = .ok (.ireturn, 1) := by decide +kernel
theorem dX4_kindTold_22 : decode cX4_kindTold 22 = .ok (.aload_n 0, 1) := by decide +kernel
theorem dX4_kindTold_23 : decode cX4_kindTold 23 = .ok (.ldc 111, 2) := by decide +kernel
theorem dX4_kindTold_25 : decode cX4_kindTold 25 = .ok (.invokevirtual 40, 3) := by decide +kernel
theorem dX4_kindTold_28 : decode cX4_kindTold 28 = .ok (.ifCond .eq 5, 3) := by decide +kernel
theorem dX4_kindTold_31 : decode cX4_kindTold 31 = .ok (.iconst 2, 1) := by decide +kernel
theorem dX4_kindTold_32 : decode cX4_kindTold 32 = .ok (.ireturn, 1) := by decide +kernel
theorem dX4_kindTold_33 : decode cX4_kindTold 33 = .ok (.aload_n 0, 1) := by decide +kernel
theorem dX4_kindTold_34 : decode cX4_kindTold 34 = .ok (.ldc 113, 2) := by decide +kernel
theorem dX4_kindTold_36 : decode cX4_kindTold 36 = .ok (.invokevirtual 40, 3) := by decide +kernel
theorem dX4_kindTold_39 : decode cX4_kindTold 39 = .ok (.ifCond .eq 5, 3) := by decide +kernel
theorem dX4_kindTold_42 : decode cX4_kindTold 42 = .ok (.iconst 3, 1) := by decide +kernel
theorem dX4_kindTold_43 : decode cX4_kindTold 43 = .ok (.ireturn, 1) := by decide +kernel
theorem dX4_kindTold_44 : decode cX4_kindTold 44 = .ok (.aload_n 0, 1) := by decide +kernel
theorem dX4_kindTold_45 : decode cX4_kindTold 45 = .ok (.ldc 115, 2) := by decide +kernel
theorem dX4_kindTold_47 : decode cX4_kindTold 47 = .ok (.invokevirtual 40, 3) := by decide +kernel
theorem dX4_kindTold_50 : decode cX4_kindTold 50 = .ok (.ifCond .eq 5, 3) := by decide +kernel
theorem dX4_kindTold_53 : decode cX4_kindTold 53 = .ok (.iconst 4, 1) := by decide +kernel
theorem dX4_kindTold_54 : decode cX4_kindTold 54 = .ok (.ireturn, 1) := by decide +kernel
theorem dX4_kindTold_55 : decode cX4_kindTold 55 = .ok (.aload_n 0, 1) := by decide +kernel
theorem dX4_kindTold_56 : decode cX4_kindTold 56 = .ok (.ldc 117, 2) := by decide +kernel
theorem dX4_kindTold_58 : decode cX4_kindTold 58 = .ok (.invokevirtual 40, 3) := by decide +kernel
theorem dX4_kindTold_61 : decode cX4_kindTold 61 = .ok (.ifCond .eq 7, 3) := by decide +kernel
theorem dX4_kindTold_64 : decode cX4_kindTold 64 = .ok (.iconst 5, 1) := by decide +kernel
theorem dX4_kindTold_65 : decode cX4_kindTold 65 = .ok (.goto 4, 3) := by decide +kernel
theorem dX4_kindTold_68 : decode cX4_kindTold 68 = .ok (.iconst (-1), 1) := by decide +kernel
theorem dX4_kindTold_69 : decode cX4_kindTold 69 = .ok (.ireturn, 1) := by decide +kernel
theorem dX4_partTold_0 : decode cX4_partTold 0 = .ok (.aload_n 0, 1) := by decide +kernel
theorem dX4_partTold_1 : decode cX4_partTold 1 = .ok (.ldc 119, 2) := by decide +kernel
theorem dX4_partTold_3 : decode cX4_partTold 3 = .ok (.invokevirtual 40, 3) := by decide +kernel
theorem dX4_partTold_6 : decode cX4_partTold 6 = .ok (.ifCond .eq 5, 3) := by decide +kernel
theorem dX4_partTold_9 : decode cX4_partTold 9 = .ok (.iconst 0, 1) := by decide +kernel
theorem dX4_partTold_10 : decode cX4_partTold 10 = .ok (.ireturn, 1) := by decide +kernel
theorem dX4_partTold_11 : decode cX4_partTold 11 = .ok (.aload_n 0, 1) := by decide +kernel
theorem dX4_partTold_12 : decode cX4_partTold 12 = .ok (.ldc 121, 2) := by decide +kernel
theorem dX4_partTold_14 : decode cX4_partTold 14 = .ok (.invokevirtual 40, 3) := by decide +kernel
theorem dX4_partTold_17 : decode cX4_partTold 17 = .ok (.ifCond .eq 5, 3) := by decide +kernel
theorem dX4_partTold_20 : decode cX4_partTold 20 = .ok (.iconst 1, 1) := by decide +kernel
theorem dX4_partTold_21 : decode cX4_partTold 21 = .ok (.ireturn, 1) := by decide +kernel
theorem dX4_partTold_22 : decode cX4_partTold 22 = .ok (.aload_n 0, 1) := by decide +kernel
theorem dX4_partTold_23 : decode cX4_partTold 23 = .ok (.ldc 123, 2) := by decide +kernel
theorem dX4_partTold_25 : decode cX4_partTold 25 = .ok (.invokevirtual 40, 3) := by decide +kernel
theorem dX4_partTold_28 : decode cX4_partTold 28 = .ok (.ifCond .eq 7, 3) := by decide +kernel
theorem dX4_partTold_31 : decode cX4_partTold 31 = .ok (.iconst 4, 1) := by decide +kernel
theorem dX4_partTold_32 : decode cX4_partTold 32 = .ok (.goto 4, 3) := by decide +kernel
theorem dX4_partTold_35 : decode cX4_partTold 35 = .ok (.iconst (-1), 1) := by decide +kernel
theorem dX4_partTold_36 : decode cX4_partTold 36 = .ok (.ireturn, 1) := by decide +kernel
theorem dX4_isWord_0 : decode cX4_isWord 0 = .ok (.aload_n 0, 1) := by decide +kernel
theorem dX4_isWord_1 : decode cX4_isWord 1 = .ok (.getfield 25, 3) := by decide +kernel
theorem dX4_isWord_4 : decode cX4_isWord 4 = .ok (.iconst 1, 1) := by decide +kernel
theorem dX4_isWord_5 : decode cX4_isWord 5 = .ok (.if_icmp .ne 19, 3) := by decide +kernel
theorem dX4_isWord_8 : decode cX4_isWord 8 = .ok (.aload_n 0, 1) := by decide +kernel
theorem dX4_isWord_9 : decode cX4_isWord 9 = .ok (.getfield 22, 3) := by decide +kernel
theorem dX4_isWord_12 : decode cX4_isWord 12 = .ok (.aload_n 0, 1) := by decide +kernel
theorem dX4_isWord_13 : decode cX4_isWord 13 = .ok (.getfield 18, 3) := by decide +kernel
theorem dX4_isWord_16 : decode cX4_isWord 16 = .ok (.isub, 1) := by decide +kernel
theorem dX4_isWord_17 : decode cX4_isWord 17 = .ok (.aload_n 1, 1) := by decide +kernel
theorem dX4_isWord_18 : decode cX4_isWord 18 = .ok (.invokevirtual 125, 3) := by decide +kernel
theorem dX4_isWord_21 : decode cX4_isWord 21 = .ok (.if_icmp .eq 5, 3) := by decide +kernel
theorem dX4_isWord_24 : decode cX4_isWord 24 = .ok (.iconst 0, 1) := by decide +kernel
theorem dX4_isWord_25 : decode cX4_isWord 25 = .ok (.ireturn, 1) := by decide +kernel
theorem dX4_isWord_26 : decode cX4_isWord 26 = .ok (.iconst 0, 1) := by decide +kernel
theorem dX4_isWord_27 : decode cX4_isWord 27 = .ok (.istore_n 2, 1) := by decide +kernel
theorem dX4_isWord_28 : decode cX4_isWord 28 = .ok (.iload_n 2, 1) := by decide +kernel
theorem dX4_isWord_29 : decode cX4_isWord 29 = .ok (.aload_n 1, 1) := by decide +kernel
theorem dX4_isWord_30 : decode cX4_isWord 30 = .ok (.invokevirtual 125, 3) := by decide +kernel
theorem dX4_isWord_33 : decode cX4_isWord 33 = .ok (.if_icmp .ge 32, 3) := by decide +kernel
theorem dX4_isWord_36 : decode cX4_isWord 36 = .ok (.aload_n 0, 1) := by decide +kernel
theorem dX4_isWord_37 : decode cX4_isWord 37 = .ok (.getfield 12, 3) := by decide +kernel
theorem dX4_isWord_40 : decode cX4_isWord 40 = .ok (.aload_n 0, 1) := by decide +kernel
theorem dX4_isWord_41 : decode cX4_isWord 41 = .ok (.getfield 18, 3) := by decide +kernel
theorem dX4_isWord_44 : decode cX4_isWord 44 = .ok (.iload_n 2, 1) := by decide +kernel
theorem dX4_isWord_45 : decode cX4_isWord 45 = .ok (.iadd, 1) := by decide +kernel
theorem dX4_isWord_46 : decode cX4_isWord 46 = .ok (.invokevirtual 130, 3) := by decide +kernel
theorem dX4_isWord_49 : decode cX4_isWord 49 = .ok (.aload_n 1, 1) := by decide +kernel
theorem dX4_isWord_50 : decode cX4_isWord 50 = .ok (.iload_n 2, 1) := by decide +kernel
theorem dX4_isWord_51 : decode cX4_isWord 51 = .ok (.invokevirtual 133, 3) := by decide +kernel
theorem dX4_isWord_54 : decode cX4_isWord 54 = .ok (.if_icmp .eq 5, 3) := by decide +kernel
theorem dX4_isWord_57 : decode cX4_isWord 57 = .ok (.iconst 0, 1) := by decide +kernel
theorem dX4_isWord_58 : decode cX4_isWord 58 = .ok (.ireturn, 1) := by decide +kernel
theorem dX4_isWord_59 : decode cX4_isWord 59 = .ok (.iinc 2 1, 3) := by decide +kernel
theorem dX4_isWord_62 : decode cX4_isWord 62 = .ok (.goto (-34), 3) := by decide +kernel
theorem dX4_isWord_65 : decode cX4_isWord 65 = .ok (.iconst 1, 1) := by decide +kernel
theorem dX4_isWord_66 : decode cX4_isWord 66 = .ok (.ireturn, 1) := by decide +kernel
theorem dX4_nextToken_0 : decode cX4_nextToken 0 = .ok (.aload_n 0, 1) := by decide +kernel
theorem dX4_nextToken_1 : decode cX4_nextToken 1 = .ok (.getfield 22, 3) := by decide +kernel
theorem dX4_nextToken_4 : decode cX4_nextToken 4 = .ok (.aload_n 0, 1) := by decide +kernel
theorem dX4_nextToken_5 : decode cX4_nextToken 5 = .ok (.getfield 12, 3) := by decide +kernel
theorem dX4_nextToken_8 : decode cX4_nextToken 8 = .ok (.getfield 137, 3) := by decide +kernel
theorem dX4_nextToken_11 : decode cX4_nextToken 11 = .ok (.if_icmp .ge 32, 3) := by decide +kernel
theorem dX4_nextToken_14 : decode cX4_nextToken 14 = .ok (.aload_n 0, 1) := by decide +kernel
theorem dX4_nextToken_15 : decode cX4_nextToken 15 = .ok (.getfield 12, 3) := by decide +kernel
theorem dX4_nextToken_18 : decode cX4_nextToken 18 = .ok (.aload_n 0, 1) := by decide +kernel
theorem dX4_nextToken_19 : decode cX4_nextToken 19 = .ok (.getfield 22, 3) := by decide +kernel
theorem dX4_nextToken_22 : decode cX4_nextToken 22 = .ok (.invokevirtual 130, 3) := by decide +kernel
theorem dX4_nextToken_25 : decode cX4_nextToken 25 = .ok (.bipush 32, 2) := by decide +kernel
theorem dX4_nextToken_27 : decode cX4_nextToken 27 = .ok (.if_icmp .ne 16, 3) := by decide +kernel
theorem dX4_nextToken_30 : decode cX4_nextToken 30 = .ok (.aload_n 0, 1) := by decide +kernel
theorem dX4_nextToken_31 : decode cX4_nextToken 31 = .ok (.dup, 1) := by decide +kernel
theorem dX4_nextToken_32 : decode cX4_nextToken 32 = .ok (.getfield 22, 3) := by decide +kernel
theorem dX4_nextToken_35 : decode cX4_nextToken 35 = .ok (.iconst 1, 1) := by decide +kernel
theorem dX4_nextToken_36 : decode cX4_nextToken 36 = .ok (.iadd, 1) := by decide +kernel
theorem dX4_nextToken_37 : decode cX4_nextToken 37 = .ok (.putfield 22, 3) := by decide +kernel
theorem dX4_nextToken_40 : decode cX4_nextToken 40 = .ok (.goto (-40), 3) := by decide +kernel
theorem dX4_nextToken_43 : decode cX4_nextToken 43 = .ok (.aload_n 0, 1) := by decide +kernel
theorem dX4_nextToken_44 : decode cX4_nextToken 44 = .ok (.aload_n 0, 1) := by decide +kernel
theorem dX4_nextToken_45 : decode cX4_nextToken 45 = .ok (.getfield 22, 3) := by decide +kernel
theorem dX4_nextToken_48 : decode cX4_nextToken 48 = .ok (.putfield 18, 3) := by decide +kernel
theorem dX4_nextToken_51 : decode cX4_nextToken 51 = .ok (.aload_n 0, 1) := by decide +kernel
theorem dX4_nextToken_52 : decode cX4_nextToken 52 = .ok (.aload_n 0, 1) := by decide +kernel
theorem dX4_nextToken_53 : decode cX4_nextToken 53 = .ok (.getfield 12, 3) := by decide +kernel
theorem dX4_nextToken_56 : decode cX4_nextToken 56 = .ok (.aload_n 0, 1) := by decide +kernel
theorem dX4_nextToken_57 : decode cX4_nextToken 57 = .ok (.getfield 18, 3) := by decide +kernel
theorem dX4_nextToken_60 : decode cX4_nextToken 60 = .ok (.invokevirtual 130, 3) := by decide +kernel
theorem dX4_nextToken_63 : decode cX4_nextToken 63 = .ok (.invokestatic 139, 3) := by decide +kernel
theorem dX4_nextToken_66 : decode cX4_nextToken 66 = .ok (.putfield 25, 3) := by decide +kernel
theorem dX4_nextToken_69 : decode cX4_nextToken 69 = .ok (.aload_n 0, 1) := by decide +kernel
theorem dX4_nextToken_70 : decode cX4_nextToken 70 = .ok (.iconst 0, 1) := by decide +kernel
theorem dX4_nextToken_71 : decode cX4_nextToken 71 = .ok (.putfield 28, 3) := by decide +kernel
theorem dX4_nextToken_74 : decode cX4_nextToken 74 = .ok (.aload_n 0, 1) := by decide +kernel
theorem dX4_nextToken_75 : decode cX4_nextToken 75 = .ok (.getfield 25, 3) := by decide +kernel
theorem dX4_nextToken_78 : decode cX4_nextToken 78 = .ok (.ifCond .eq 7, 3) := by decide +kernel
theorem dX4_nextToken_81 : decode cX4_nextToken 81 = .ok (.iconst 1, 1) := by decide +kernel
theorem dX4_nextToken_82 : decode cX4_nextToken 82 = .ok (.goto 4, 3) := by decide +kernel
theorem dX4_nextToken_85 : decode cX4_nextToken 85 = .ok (.iconst 0, 1) := by decide +kernel
theorem dX4_nextToken_86 : decode cX4_nextToken 86 = .ok (.istore_n 1, 1) := by decide +kernel
theorem dX4_nextToken_87 : decode cX4_nextToken 87 = .ok (.iload_n 1, 1) := by decide +kernel
theorem dX4_nextToken_88 : decode cX4_nextToken 88 = .ok (.ifCond .eq 113, 3) := by decide +kernel
theorem dX4_nextToken_91 : decode cX4_nextToken 91 = .ok (.aload_n 0, 1) := by decide +kernel
theorem dX4_nextToken_92 : decode cX4_nextToken 92 = .ok (.getfield 22, 3) := by decide +kernel
theorem dX4_nextToken_95 : decode cX4_nextToken 95 = .ok (.aload_n 0, 1) := by decide +kernel
theorem dX4_nextToken_96 : decode cX4_nextToken 96 = .ok (.getfield 12, 3) := by decide +kernel
theorem dX4_nextToken_99 : decode cX4_nextToken 99 = .ok (.getfield 137, 3) := by decide +kernel
theorem dX4_nextToken_102 : decode cX4_nextToken 102 = .ok (.if_icmp .ge 99, 3) := by decide +kernel
theorem dX4_nextToken_105 : decode cX4_nextToken 105 = .ok (.aload_n 0, 1) := by decide +kernel
theorem dX4_nextToken_106 : decode cX4_nextToken 106 = .ok (.getfield 25, 3) := by decide +kernel
theorem dX4_nextToken_109 : decode cX4_nextToken 109 = .ok (.iconst 2, 1) := by decide +kernel
theorem dX4_nextToken_110 : decode cX4_nextToken 110 = .ok (.if_icmp .ne 35, 3) := by decide +kernel
theorem dX4_nextToken_113 : decode cX4_nextToken 113 = .ok (.aload_n 0, 1) := by decide +kernel
theorem dX4_nextToken_114 : decode cX4_nextToken 114 = .ok (.aload_n 0, 1) := by decide +kernel
theorem dX4_nextToken_115 : decode cX4_nextToken 115 = .ok (.getfield 28, 3) := by decide +kernel
theorem dX4_nextToken_118 : decode cX4_nextToken 118 = .ok (.bipush 10, 2) := by decide +kernel
theorem dX4_nextToken_120 : decode cX4_nextToken 120 = .ok (.imul, 1) := by decide +kernel
theorem dX4_nextToken_121 : decode cX4_nextToken 121 = .ok (.aload_n 0, 1) := by decide +kernel
theorem dX4_nextToken_122 : decode cX4_nextToken 122 = .ok (.getfield 12, 3) := by decide +kernel
theorem dX4_nextToken_125 : decode cX4_nextToken 125 = .ok (.aload_n 0, 1) := by decide +kernel
theorem dX4_nextToken_126 : decode cX4_nextToken 126 = .ok (.getfield 22, 3) := by decide +kernel
theorem dX4_nextToken_129 : decode cX4_nextToken 129 = .ok (.invokevirtual 130, 3) := by decide +kernel
theorem dX4_nextToken_132 : decode cX4_nextToken 132 = .ok (.bipush 48, 2) := by decide +kernel
theorem dX4_nextToken_134 : decode cX4_nextToken 134 = .ok (.isub, 1) := by decide +kernel
theorem dX4_nextToken_135 : decode cX4_nextToken 135 = .ok (.iadd, 1) := by decide +kernel
theorem dX4_nextToken_136 : decode cX4_nextToken 136 = .ok (.sipush 1000, 3) := by decide +kernel
theorem dX4_nextToken_139 : decode cX4_nextToken 139 = .ok (.invokestatic 142, 3) := by decide +kernel
theorem dX4_nextToken_142 : decode cX4_nextToken 142 = .ok (.putfield 28, 3) := by decide +kernel
theorem dX4_nextToken_145 : decode cX4_nextToken 145 = .ok (.aload_n 0, 1) := by decide +kernel
theorem dX4_nextToken_146 : decode cX4_nextToken 146 = .ok (.dup, 1) := by decide +kernel
theorem dX4_nextToken_147 : decode cX4_nextToken 147 = .ok (.getfield 22, 3) := by decide +kernel
theorem dX4_nextToken_150 : decode cX4_nextToken 150 = .ok (.iconst 1, 1) := by decide +kernel
theorem dX4_nextToken_151 : decode cX4_nextToken 151 = .ok (.iadd, 1) := by decide +kernel
theorem dX4_nextToken_152 : decode cX4_nextToken 152 = .ok (.putfield 22, 3) := by decide +kernel
theorem dX4_nextToken_155 : decode cX4_nextToken 155 = .ok (.aload_n 0, 1) := by decide +kernel
theorem dX4_nextToken_156 : decode cX4_nextToken 156 = .ok (.getfield 25, 3) := by decide +kernel
theorem dX4_nextToken_159 : decode cX4_nextToken 159 = .ok (.iconst 1, 1) := by decide +kernel
theorem dX4_nextToken_160 : decode cX4_nextToken 160 = .ok (.if_icmp .eq 11, 3) := by decide +kernel
theorem dX4_nextToken_163 : decode cX4_nextToken 163 = .ok (.aload_n 0, 1) := by decide +kernel
theorem dX4_nextToken_164 : decode cX4_nextToken 164 = .ok (.getfield 25, 3) := by decide +kernel
theorem dX4_nextToken_167 : decode cX4_nextToken 167 = .ok (.iconst 2, 1) := by decide +kernel
theorem dX4_nextToken_168 : decode cX4_nextToken 168 = .ok (.if_icmp .ne 28, 3) := by decide +kernel
theorem dX4_nextToken_171 : decode cX4_nextToken 171 = .ok (.aload_n 0, 1) := by decide +kernel
theorem dX4_nextToken_172 : decode cX4_nextToken 172 = .ok (.getfield 12, 3) := by decide +kernel
theorem dX4_nextToken_175 : decode cX4_nextToken 175 = .ok (.aload_n 0, 1) := by decide +kernel
theorem dX4_nextToken_176 : decode cX4_nextToken 176 = .ok (.getfield 22, 3) := by decide +kernel
theorem dX4_nextToken_179 : decode cX4_nextToken 179 = .ok (.invokevirtual 130, 3) := by decide +kernel
theorem dX4_nextToken_182 : decode cX4_nextToken 182 = .ok (.invokestatic 139, 3) := by decide +kernel
theorem dX4_nextToken_185 : decode cX4_nextToken 185 = .ok (.aload_n 0, 1) := by decide +kernel
theorem dX4_nextToken_186 : decode cX4_nextToken 186 = .ok (.getfield 25, 3) := by decide +kernel
theorem dX4_nextToken_189 : decode cX4_nextToken 189 = .ok (.if_icmp .ne 7, 3) := by decide +kernel
theorem dX4_nextToken_192 : decode cX4_nextToken 192 = .ok (.iconst 1, 1) := by decide +kernel
theorem dX4_nextToken_193 : decode cX4_nextToken 193 = .ok (.goto 4, 3) := by decide +kernel
theorem dX4_nextToken_196 : decode cX4_nextToken 196 = .ok (.iconst 0, 1) := by decide +kernel
theorem dX4_nextToken_197 : decode cX4_nextToken 197 = .ok (.istore_n 1, 1) := by decide +kernel
theorem dX4_nextToken_198 : decode cX4_nextToken 198 = .ok (.goto (-111), 3) := by decide +kernel
theorem dX4_nextToken_201 : decode cX4_nextToken 201 = .ok (.return_, 1) := by decide +kernel
theorem dX4_sortOf_0 : decode cX4_sortOf 0 = .ok (.iload_n 0, 1) := by decide +kernel
theorem dX4_sortOf_1 : decode cX4_sortOf 1 = .ok (.ifCond .ge 5, 3) := by decide +kernel
theorem dX4_sortOf_4 : decode cX4_sortOf 4 = .ok (.iconst 0, 1) := by decide +kernel
theorem dX4_sortOf_5 : decode cX4_sortOf 5 = .ok (.ireturn, 1) := by decide +kernel
theorem dX4_sortOf_6 : decode cX4_sortOf 6 = .ok (.iload_n 0, 1) := by decide +kernel
theorem dX4_sortOf_7 : decode cX4_sortOf 7 = .ok (.bipush 97, 2) := by decide +kernel
theorem dX4_sortOf_9 : decode cX4_sortOf 9 = .ok (.if_icmp .lt 11, 3) := by decide +kernel
theorem dX4_sortOf_12 : decode cX4_sortOf 12 = .ok (.iload_n 0, 1) := by decide +kernel
theorem dX4_sortOf_13 : decode cX4_sortOf 13 = .ok (.bipush 122, 2) := by decide +kernel
theorem dX4_sortOf_15 : decode cX4_sortOf 15 = .ok (.if_icmp .gt 5, 3) := by decide +kernel
theorem dX4_sortOf_18 : decode cX4_sortOf 18 = .ok (.iconst 1, 1) := by decide +kernel
theorem dX4_sortOf_19 : decode cX4_sortOf 19 = .ok (.ireturn, 1) := by decide +kernel
theorem dX4_sortOf_20 : decode cX4_sortOf 20 = .ok (.iload_n 0, 1) := by decide +kernel
theorem dX4_sortOf_21 : decode cX4_sortOf 21 = .ok (.bipush 48, 2) := by decide +kernel
theorem dX4_sortOf_23 : decode cX4_sortOf 23 = .ok (.if_icmp .lt 11, 3) := by decide +kernel
theorem dX4_sortOf_26 : decode cX4_sortOf 26 = .ok (.iload_n 0, 1) := by decide +kernel
theorem dX4_sortOf_27 : decode cX4_sortOf 27 = .ok (.bipush 57, 2) := by decide +kernel
theorem dX4_sortOf_29 : decode cX4_sortOf 29 = .ok (.if_icmp .gt 5, 3) := by decide +kernel
theorem dX4_sortOf_32 : decode cX4_sortOf 32 = .ok (.iconst 2, 1) := by decide +kernel
theorem dX4_sortOf_33 : decode cX4_sortOf 33 = .ok (.ireturn, 1) := by decide +kernel
theorem dX4_sortOf_34 : decode cX4_sortOf 34 = .ok (.iload_n 0, 1) := by decide +kernel
theorem dX4_sortOf_35 : decode cX4_sortOf 35 = .ok (.bipush 44, 2) := by decide +kernel
theorem dX4_sortOf_37 : decode cX4_sortOf 37 = .ok (.if_icmp .ne 7, 3) := by decide +kernel
theorem dX4_sortOf_40 : decode cX4_sortOf 40 = .ok (.iconst 3, 1) := by decide +kernel
theorem dX4_sortOf_41 : decode cX4_sortOf 41 = .ok (.goto 4, 3) := by decide +kernel
theorem dX4_sortOf_44 : decode cX4_sortOf 44 = .ok (.iconst 4, 1) := by decide +kernel
theorem dX4_sortOf_45 : decode cX4_sortOf 45 = .ok (.ireturn, 1) := by decide +kernel
theorem dX5_init_0 : decode cX5_init 0 = .ok (.aload_n 0, 1) := by decide +kernel
theorem dX5_init_1 : decode cX5_init 1 = .ok (.invokespecial 3, 3) := by decide +kernel
theorem dX5_init_4 : decode cX5_init 4 = .ok (.aload_n 0, 1) := by decide +kernel
theorem dX5_init_5 : decode cX5_init 5 = .ok (.new 9, 3) := by decide +kernel
theorem dX5_init_8 : decode cX5_init 8 = .ok (.dup, 1) := by decide +kernel
theorem dX5_init_9 : decode cX5_init 9 = .ok (.invokespecial 11, 3) := by decide +kernel
theorem dX5_init_12 : decode cX5_init 12 = .ok (.putfield 12, 3) := by decide +kernel
theorem dX5_init_15 : decode cX5_init 15 = .ok (.aload_n 0, 1) := by decide +kernel
theorem dX5_init_16 : decode cX5_init 16 = .ok (.iconst 0, 1) := by decide +kernel
theorem dX5_init_17 : decode cX5_init 17 = .ok (.putfield 18, 3) := by decide +kernel
theorem dX5_init_20 : decode cX5_init 20 = .ok (.aload_n 0, 1) := by decide +kernel
theorem dX5_init_21 : decode cX5_init 21 = .ok (.iconst 0, 1) := by decide +kernel
theorem dX5_init_22 : decode cX5_init 22 = .ok (.putfield 22, 3) := by decide +kernel
theorem dX5_init_25 : decode cX5_init 25 = .ok (.aload_n 0, 1) := by decide +kernel
theorem dX5_init_26 : decode cX5_init 26 = .ok (.iconst 0, 1) := by decide +kernel
theorem dX5_init_27 : decode cX5_init 27 = .ok (.putfield 25, 3) := by decide +kernel
theorem dX5_init_30 : decode cX5_init 30 = .ok (.aload_n 0, 1) := by decide +kernel
theorem dX5_init_31 : decode cX5_init 31 = .ok (.iconst (-1), 1) := by decide +kernel
theorem dX5_init_32 : decode cX5_init 32 = .ok (.putfield 28, 3) := by decide +kernel
theorem dX5_init_35 : decode cX5_init 35 = .ok (.aload_n 0, 1) := by decide +kernel
theorem dX5_init_36 : decode cX5_init 36 = .ok (.iconst 0, 1) := by decide +kernel
theorem dX5_init_37 : decode cX5_init 37 = .ok (.putfield 31, 3) := by decide +kernel
theorem dX5_init_40 : decode cX5_init 40 = .ok (.aload_n 0, 1) := by decide +kernel
theorem dX5_init_41 : decode cX5_init 41 = .ok (.iconst 0, 1) := by decide +kernel
theorem dX5_init_42 : decode cX5_init 42 = .ok (.putfield 34, 3) := by decide +kernel
theorem dX5_init_45 : decode cX5_init 45 = .ok (.aload_n 0, 1) := by decide +kernel
theorem dX5_init_46 : decode cX5_init 46 = .ok (.iconst 0, 1) := by decide +kernel
theorem dX5_init_47 : decode cX5_init 47 = .ok (.putfield 37, 3) := by decide +kernel
theorem dX5_init_50 : decode cX5_init 50 = .ok (.aload_n 0, 1) := by decide +kernel
theorem dX5_init_51 : decode cX5_init 51 = .ok (.bipush 20, 2) := by decide +kernel
theorem dX5_init_53 : decode cX5_init 53 = .ok (.newarray .int, 2) := by decide +kernel
theorem dX5_init_55 : decode cX5_init 55 = .ok (.putfield 40, 3) := by decide +kernel
theorem dX5_init_58 : decode cX5_init 58 = .ok (.aload_n 0, 1) := by decide +kernel
theorem dX5_init_59 : decode cX5_init 59 = .ok (.bipush 21, 2) := by decide +kernel
theorem dX5_init_61 : decode cX5_init 61 = .ok (.newarray .int, 2) := by decide +kernel
theorem dX5_init_63 : decode cX5_init 63 = .ok (.putfield 44, 3) := by decide +kernel
theorem dX5_init_66 : decode cX5_init 66 = .ok (.aload_n 0, 1) := by decide +kernel
theorem dX5_init_67 : decode cX5_init 67 = .ok (.new 47, 3) := by decide +kernel
theorem dX5_init_70 : decode cX5_init 70 = .ok (.dup, 1) := by decide +kernel
theorem dX5_init_71 : decode cX5_init 71 = .ok (.invokespecial 49, 3) := by decide +kernel
theorem dX5_init_74 : decode cX5_init 74 = .ok (.putfield 50, 3) := by decide +kernel
theorem dX5_init_77 : decode cX5_init 77 = .ok (.return_, 1) := by decide +kernel
theorem dX5_settleWithout_0 : decode cX5_settleWithout 0 = .ok (.aload_n 0, 1) := by decide +kernel
theorem dX5_settleWithout_1 : decode cX5_settleWithout 1 = .ok (.getfield 50, 3) := by decide +kernel
theorem dX5_settleWithout_4 : decode cX5_settleWithout 4 = .ok (.aload_n 1, 1) := by decide +kernel
theorem dX5_settleWithout_5 : decode cX5_settleWithout 5 = .ok (.invokevirtual 54, 3) := by decide +kernel
theorem dX5_settleWithout_8 : decode cX5_settleWithout 8 = .ok (.aload_n 0, 1) := by decide +kernel
theorem dX5_settleWithout_9 : decode cX5_settleWithout 9 = .ok (.getfield 50, 3) := by decide +kernel
theorem dX5_settleWithout_12 : decode cX5_settleWithout 12 = .ok (.getfield 58, 3) := by decide +kernel
theorem dX5_settleWithout_15 : decode cX5_settleWithout 15 = .ok (.iload_n 2, 1) := by decide +kernel
theorem dX5_settleWithout_16 : decode cX5_settleWithout 16 = .ok (.iconst 1, 1) := by decide +kernel
theorem dX5_settleWithout_17 : decode cX5_settleWithout 17 = .ok (.bastore, 1) := by decide +kernel
theorem dX5_settleWithout_18 : decode cX5_settleWithout 18 = .ok (.aload_n 0, 1) := by decide +kernel
theorem dX5_settleWithout_19 : decode cX5_settleWithout 19 = .ok (.getfield 12, 3) := by decide +kernel
theorem dX5_settleWithout_22 : decode cX5_settleWithout 22 = .ok (.aload_n 0, 1) := by decide +kernel
theorem dX5_settleWithout_23 : decode cX5_settleWithout 23 = .ok (.getfield 50, 3) := by decide +kernel
theorem dX5_settleWithout_26 : decode cX5_settleWithout 26 = .ok (.invokevirtual 62, 3) := by decide +kernel
theorem dX5_settleWithout_29 : decode cX5_settleWithout 29 = .ok (.return_, 1) := by decide +kernel
theorem dX5_findWidths_0 : decode cX5_findWidths 0 = .ok (.aload_n 0, 1) := by decide +kernel
theorem dX5_findWidths_1 : decode cX5_findWidths 1 = .ok (.getfield 50, 3) := by decide +kernel
theorem dX5_findWidths_4 : decode cX5_findWidths 4 = .ok (.aload_n 1, 1) := by decide +kernel
theorem dX5_findWidths_5 : decode cX5_findWidths 5 = .ok (.invokevirtual 54, 3) := by decide +kernel
theorem dX5_findWidths_8 : decode cX5_findWidths 8 = .ok (.aload_n 0, 1) := by decide +kernel
theorem dX5_findWidths_9 : decode cX5_findWidths 9 = .ok (.iconst 0, 1) := by decide +kernel
theorem dX5_findWidths_10 : decode cX5_findWidths 10 = .ok (.putfield 18, 3) := by decide +kernel
theorem dX5_findWidths_13 : decode cX5_findWidths 13 = .ok (.iconst 0, 1) := by decide +kernel
theorem dX5_findWidths_14 : decode cX5_findWidths 14 = .ok (.istore 4, 2) := by decide +kernel
theorem dX5_findWidths_16 : decode cX5_findWidths 16 = .ok (.iload 4, 2) := by decide +kernel
theorem dX5_findWidths_18 : decode cX5_findWidths 18 = .ok (.bipush 99, 2) := by decide +kernel
theorem dX5_findWidths_20 : decode cX5_findWidths 20 = .ok (.if_icmp .gt 83, 3) := by decide +kernel
theorem dX5_findWidths_23 : decode cX5_findWidths 23 = .ok (.aload_n 0, 1) := by decide +kernel
theorem dX5_findWidths_24 : decode cX5_findWidths 24 = .ok (.getfield 50, 3) := by decide +kernel
theorem dX5_findWidths_27 : decode cX5_findWidths 27 = .ok (.getfield 65, 3) := by decide +kernel
theorem dX5_findWidths_30 : decode cX5_findWidths 30 = .ok (.iload_n 2, 1) := by decide +kernel
theorem dX5_findWidths_31 : decode cX5_findWidths 31 = .ok (.iload 4, 2) := by decide +kernel
theorem dX5_findWidths_33 : decode cX5_findWidths 33 = .ok (.iastore, 1) := by decide +kernel
theorem dX5_findWidths_34 : decode cX5_findWidths 34 = .ok (.aload_n 0, 1) := by decide +kernel
theorem dX5_findWidths_35 : decode cX5_findWidths 35 = .ok (.getfield 12, 3) := by decide +kernel
theorem dX5_findWidths_38 : decode cX5_findWidths 38 = .ok (.aload_n 0, 1) := by decide +kernel
theorem dX5_findWidths_39 : decode cX5_findWidths 39 = .ok (.getfield 50, 3) := by decide +kernel
theorem dX5_findWidths_42 : decode cX5_findWidths 42 = .ok (.invokevirtual 62, 3) := by decide +kernel
theorem dX5_findWidths_45 : decode cX5_findWidths 45 = .ok (.aload_n 0, 1) := by decide +kernel
theorem dX5_findWidths_46 : decode cX5_findWidths 46 = .ok (.getfield 12, 3) := by decide +kernel
theorem dX5_findWidths_49 : decode cX5_findWidths 49 = .ok (.getfield 68, 3) := by decide +kernel
theorem dX5_findWidths_52 : decode cX5_findWidths 52 = .ok (.iload_n 2, 1) := by decide +kernel
theorem dX5_findWidths_53 : decode cX5_findWidths 53 = .ok (.iaload, 1) := by decide +kernel
theorem dX5_findWidths_54 : decode cX5_findWidths 54 = .ok (.invokestatic 71, 3) := by decide +kernel
theorem dX5_findWidths_57 : decode cX5_findWidths 57 = .ok (.iload_n 3, 1) := by decide +kernel
theorem dX5_findWidths_58 : decode cX5_findWidths 58 = .ok (.if_icmp .ne 39, 3) := by decide +kernel
theorem dX5_findWidths_61 : decode cX5_findWidths 61 = .ok (.aload_n 0, 1) := by decide +kernel
theorem dX5_findWidths_62 : decode cX5_findWidths 62 = .ok (.aload_n 0, 1) := by decide +kernel
theorem dX5_findWidths_63 : decode cX5_findWidths 63 = .ok (.getfield 18, 3) := by decide +kernel
theorem dX5_findWidths_66 : decode cX5_findWidths 66 = .ok (.ifCond .ne 8, 3) := by decide +kernel
theorem dX5_findWidths_69 : decode cX5_findWidths 69 = .ok (.iload 4, 2) := by decide +kernel
theorem dX5_findWidths_71 : decode cX5_findWidths 71 = .ok (.goto 7, 3) := by decide +kernel
theorem dX5_findWidths_74 : decode cX5_findWidths 74 = .ok (.aload_n 0, 1) := by decide +kernel
theorem dX5_findWidths_75 : decode cX5_findWidths 75 = .ok (.getfield 22, 3) := by decide +kernel
theorem dX5_findWidths_78 : decode cX5_findWidths 78 = .ok (.putfield 22, 3) := by decide +kernel
theorem dX5_findWidths_81 : decode cX5_findWidths 81 = .ok (.aload_n 0, 1) := by decide +kernel
theorem dX5_findWidths_82 : decode cX5_findWidths 82 = .ok (.iload 4, 2) := by decide +kernel
theorem dX5_findWidths_84 : decode cX5_findWidths 84 = .ok (.putfield 25, 3) := by decide +kernel
theorem dX5_findWidths_87 : decode cX5_findWidths 87 = .ok (.aload_n 0, 1) := by decide +kernel
theorem dX5_findWidths_88 : decode cX5_findWidths 88 = .ok (.dup, 1) := by decide +kernel
theorem dX5_findWidths_89 : decode cX5_findWidths 89 = .ok (.getfield 18, 3) := by decide +kernel
theorem dX5_findWidths_92 : decode cX5_findWidths 92 = .ok (.iconst 1, 1) := by decide +kernel
theorem dX5_findWidths_93 : decode cX5_findWidths 93 = .ok (.iadd, 1) := by decide +kernel
theorem dX5_findWidths_94 : decode cX5_findWidths 94 = .ok (.putfield 18, 3) := by decide +kernel
theorem dX5_findWidths_97 : decode cX5_findWidths 97 = .ok (.iinc 4 1, 3) := by decide +kernel
theorem dX5_findWidths_100 : decode cX5_findWidths 100 = .ok (.goto (-84), 3) := by decide +kernel
theorem dX5_findWidths_103 : decode cX5_findWidths 103 = .ok (.return_, 1) := by decide +kernel
theorem dX5_findStop_0 : decode cX5_findStop 0 = .ok (.aload_n 0, 1) := by decide +kernel
theorem dX5_findStop_1 : decode cX5_findStop 1 = .ok (.getfield 50, 3) := by decide +kernel
theorem dX5_findStop_4 : decode cX5_findStop 4 = .ok (.aload_n 1, 1) := by decide +kernel
theorem dX5_findStop_5 : decode cX5_findStop 5 = .ok (.invokevirtual 54, 3) := by decide +kernel
theorem dX5_findStop_8 : decode cX5_findStop 8 = .ok (.aload_n 0, 1) := by decide +kernel
theorem dX5_findStop_9 : decode cX5_findStop 9 = .ok (.iconst (-1), 1) := by decide +kernel
theorem dX5_findStop_10 : decode cX5_findStop 10 = .ok (.putfield 28, 3) := by decide +kernel
theorem dX5_findStop_13 : decode cX5_findStop 13 = .ok (.iconst 1, 1) := by decide +kernel
theorem dX5_findStop_14 : decode cX5_findStop 14 = .ok (.iload_n 2, 1) := by decide +kernel
theorem dX5_findStop_15 : decode cX5_findStop 15 = .ok (.invokestatic 75, 3) := by decide +kernel
theorem dX5_findStop_18 : decode cX5_findStop 18 = .ok (.ishl, 1) := by decide +kernel
theorem dX5_findStop_19 : decode cX5_findStop 19 = .ok (.istore 5, 2) := by decide +kernel
theorem dX5_findStop_21 : decode cX5_findStop 21 = .ok (.iconst 0, 1) := by decide +kernel
theorem dX5_findStop_22 : decode cX5_findStop 22 = .ok (.istore 6, 2) := by decide +kernel
theorem dX5_findStop_24 : decode cX5_findStop 24 = .ok (.iconst 0, 1) := by decide +kernel
theorem dX5_findStop_25 : decode cX5_findStop 25 = .ok (.istore 7, 2) := by decide +kernel
theorem dX5_findStop_27 : decode cX5_findStop 27 = .ok (.iload 7, 2) := by decide +kernel
theorem dX5_findStop_29 : decode cX5_findStop 29 = .ok (.iload 5, 2) := by decide +kernel
theorem dX5_findStop_31 : decode cX5_findStop 31 = .ok (.if_icmp .ge 33, 3) := by decide +kernel
theorem dX5_findStop_34 : decode cX5_findStop 34 = .ok (.aload_n 0, 1) := by decide +kernel
theorem dX5_findStop_35 : decode cX5_findStop 35 = .ok (.iload 6, 2) := by decide +kernel
theorem dX5_findStop_37 : decode cX5_findStop 37 = .ok (.aload_n 0, 1) := by decide +kernel
theorem dX5_findStop_38 : decode cX5_findStop 38 = .ok (.iload_n 2, 1) := by decide +kernel
theorem dX5_findStop_39 : decode cX5_findStop 39 = .ok (.iload 6, 2) := by decide +kernel
theorem dX5_findStop_41 : decode cX5_findStop 41 = .ok (.invokevirtual 80, 3) := by decide +kernel
theorem dX5_findStop_44 : decode cX5_findStop 44 = .ok (.iload_n 3, 1) := by decide +kernel
theorem dX5_findStop_45 : decode cX5_findStop 45 = .ok (.iload 4, 2) := by decide +kernel
theorem dX5_findStop_47 : decode cX5_findStop 47 = .ok (.invokevirtual 84, 3) := by decide +kernel
theorem dX5_findStop_50 : decode cX5_findStop 50 = .ok (.iload 6, 2) := by decide +kernel
theorem dX5_findStop_52 : decode cX5_findStop 52 = .ok (.iload_n 2, 1) := by decide +kernel
theorem dX5_findStop_53 : decode cX5_findStop 53 = .ok (.isub, 1) := by decide +kernel
theorem dX5_findStop_54 : decode cX5_findStop 54 = .ok (.iload_n 2, 1) := by decide +kernel
theorem dX5_findStop_55 : decode cX5_findStop 55 = .ok (.iand, 1) := by decide +kernel
theorem dX5_findStop_56 : decode cX5_findStop 56 = .ok (.istore 6, 2) := by decide +kernel
theorem dX5_findStop_58 : decode cX5_findStop 58 = .ok (.iinc 7 1, 3) := by decide +kernel
theorem dX5_findStop_61 : decode cX5_findStop 61 = .ok (.goto (-34), 3) := by decide +kernel
theorem dX5_findStop_64 : decode cX5_findStop 64 = .ok (.aload_n 0, 1) := by decide +kernel
theorem dX5_findStop_65 : decode cX5_findStop 65 = .ok (.getfield 28, 3) := by decide +kernel
theorem dX5_findStop_68 : decode cX5_findStop 68 = .ok (.ifCond .lt 7, 3) := by decide +kernel
theorem dX5_findStop_71 : decode cX5_findStop 71 = .ok (.iconst 1, 1) := by decide +kernel
theorem dX5_findStop_72 : decode cX5_findStop 72 = .ok (.goto 4, 3) := by decide +kernel
theorem dX5_findStop_75 : decode cX5_findStop 75 = .ok (.iconst 0, 1) := by decide +kernel
theorem dX5_findStop_76 : decode cX5_findStop 76 = .ok (.ireturn, 1) := by decide +kernel
theorem dX5_shutJust_0 : decode cX5_shutJust 0 = .ok (.iconst 0, 1) := by decide +kernel
theorem dX5_shutJust_1 : decode cX5_shutJust 1 = .ok (.istore_n 3, 1) := by decide +kernel
theorem dX5_shutJust_2 : decode cX5_shutJust 2 = .ok (.iconst 0, 1) := by decide +kernel
theorem dX5_shutJust_3 : decode cX5_shutJust 3 = .ok (.istore 4, 2) := by decide +kernel
theorem dX5_shutJust_5 : decode cX5_shutJust 5 = .ok (.iload 4, 2) := by decide +kernel
theorem dX5_shutJust_7 : decode cX5_shutJust 7 = .ok (.aload_n 0, 1) := by decide +kernel
theorem dX5_shutJust_8 : decode cX5_shutJust 8 = .ok (.getfield 50, 3) := by decide +kernel
theorem dX5_shutJust_11 : decode cX5_shutJust 11 = .ok (.getfield 88, 3) := by decide +kernel
theorem dX5_shutJust_14 : decode cX5_shutJust 14 = .ok (.if_icmp .ge 64, 3) := by decide +kernel
theorem dX5_shutJust_17 : decode cX5_shutJust 17 = .ok (.iload_n 1, 1) := by decide +kernel
theorem dX5_shutJust_18 : decode cX5_shutJust 18 = .ok (.iload 4, 2) := by decide +kernel
theorem dX5_shutJust_20 : decode cX5_shutJust 20 = .ok (.invokestatic 91, 3) := by decide +kernel
theorem dX5_shutJust_23 : decode cX5_shutJust 23 = .ok (.ifCond .eq 49, 3) := by decide +kernel
theorem dX5_shutJust_26 : decode cX5_shutJust 26 = .ok (.aload_n 0, 1) := by decide +kernel
theorem dX5_shutJust_27 : decode cX5_shutJust 27 = .ok (.getfield 50, 3) := by decide +kernel
theorem dX5_shutJust_30 : decode cX5_shutJust 30 = .ok (.getfield 58, 3) := by decide +kernel
theorem dX5_shutJust_33 : decode cX5_shutJust 33 = .ok (.iload 4, 2) := by decide +kernel
theorem dX5_shutJust_35 : decode cX5_shutJust 35 = .ok (.iload_n 2, 1) := by decide +kernel
theorem dX5_shutJust_36 : decode cX5_shutJust 36 = .ok (.iload 4, 2) := by decide +kernel
theorem dX5_shutJust_38 : decode cX5_shutJust 38 = .ok (.invokestatic 91, 3) := by decide +kernel
theorem dX5_shutJust_41 : decode cX5_shutJust 41 = .ok (.bastore, 1) := by decide +kernel
theorem dX5_shutJust_42 : decode cX5_shutJust 42 = .ok (.iload_n 3, 1) := by decide +kernel
theorem dX5_shutJust_43 : decode cX5_shutJust 43 = .ok (.aload_n 0, 1) := by decide +kernel
theorem dX5_shutJust_44 : decode cX5_shutJust 44 = .ok (.getfield 50, 3) := by decide +kernel
theorem dX5_shutJust_47 : decode cX5_shutJust 47 = .ok (.getfield 58, 3) := by decide +kernel
theorem dX5_shutJust_50 : decode cX5_shutJust 50 = .ok (.iload 4, 2) := by decide +kernel
theorem dX5_shutJust_52 : decode cX5_shutJust 52 = .ok (.baload, 1) := by decide +kernel
theorem dX5_shutJust_53 : decode cX5_shutJust 53 = .ok (.ifCond .eq 16, 3) := by decide +kernel
theorem dX5_shutJust_56 : decode cX5_shutJust 56 = .ok (.aload_n 0, 1) := by decide +kernel
theorem dX5_shutJust_57 : decode cX5_shutJust 57 = .ok (.getfield 50, 3) := by decide +kernel
theorem dX5_shutJust_60 : decode cX5_shutJust 60 = .ok (.getfield 95, 3) := by decide +kernel
theorem dX5_shutJust_63 : decode cX5_shutJust 63 = .ok (.iload 4, 2) := by decide +kernel
theorem dX5_shutJust_65 : decode cX5_shutJust 65 = .ok (.iaload, 1) := by decide +kernel
theorem dX5_shutJust_66 : decode cX5_shutJust 66 = .ok (.goto 4, 3) := by decide +kernel
theorem dX5_shutJust_69 : decode cX5_shutJust 69 = .ok (.iconst 0, 1) := by decide +kernel
theorem dX5_shutJust_70 : decode cX5_shutJust 70 = .ok (.iadd, 1) := by decide +kernel
theorem dX5_shutJust_71 : decode cX5_shutJust 71 = .ok (.istore_n 3, 1) := by decide +kernel
theorem dX5_shutJust_72 : decode cX5_shutJust 72 = .ok (.iinc 4 1, 3) := by decide +kernel
theorem dX5_shutJust_75 : decode cX5_shutJust 75 = .ok (.goto (-70), 3) := by decide +kernel
theorem dX5_shutJust_78 : decode cX5_shutJust 78 = .ok (.iload_n 3, 1) := by decide +kernel
theorem dX5_shutJust_79 : decode cX5_shutJust 79 = .ok (.ireturn, 1) := by decide +kernel
theorem dX5_tryStop_0 : decode cX5_tryStop 0 = .ok (.iload_n 2, 1) := by decide +kernel
theorem dX5_tryStop_1 : decode cX5_tryStop 1 = .ok (.iload_n 3, 1) := by decide +kernel
theorem dX5_tryStop_2 : decode cX5_tryStop 2 = .ok (.if_icmp .le 4, 3) := by decide +kernel
theorem dX5_tryStop_5 : decode cX5_tryStop 5 = .ok (.return_, 1) := by decide +kernel
theorem dX5_tryStop_6 : decode cX5_tryStop 6 = .ok (.aload_n 0, 1) := by decide +kernel
theorem dX5_tryStop_7 : decode cX5_tryStop 7 = .ok (.getfield 12, 3) := by decide +kernel
theorem dX5_tryStop_10 : decode cX5_tryStop 10 = .ok (.aload_n 0, 1) := by decide +kernel
theorem dX5_tryStop_11 : decode cX5_tryStop 11 = .ok (.getfield 50, 3) := by decide +kernel
theorem dX5_tryStop_14 : decode cX5_tryStop 14 = .ok (.invokevirtual 62, 3) := by decide +kernel
theorem dX5_tryStop_17 : decode cX5_tryStop 17 = .ok (.aload_n 0, 1) := by decide +kernel
theorem dX5_tryStop_18 : decode cX5_tryStop 18 = .ok (.getfield 12, 3) := by decide +kernel
theorem dX5_tryStop_21 : decode cX5_tryStop 21 = .ok (.getfield 98, 3) := by decide +kernel
theorem dX5_tryStop_24 : decode cX5_tryStop 24 = .ok (.iload 4, 2) := by decide +kernel
theorem dX5_tryStop_26 : decode cX5_tryStop 26 = .ok (.if_icmp .lt 42, 3) := by decide +kernel
theorem dX5_tryStop_29 : decode cX5_tryStop 29 = .ok (.aload_n 0, 1) := by decide +kernel
theorem dX5_tryStop_30 : decode cX5_tryStop 30 = .ok (.getfield 12, 3) := by decide +kernel
theorem dX5_tryStop_33 : decode cX5_tryStop 33 = .ok (.getfield 101, 3) := by decide +kernel
theorem dX5_tryStop_36 : decode cX5_tryStop 36 = .ok (.ifCond .ne 32, 3) := by decide +kernel
theorem dX5_tryStop_39 : decode cX5_tryStop 39 = .ok (.aload_n 0, 1) := by decide +kernel
theorem dX5_tryStop_40 : decode cX5_tryStop 40 = .ok (.iload_n 1, 1) := by decide +kernel
theorem dX5_tryStop_41 : decode cX5_tryStop 41 = .ok (.invokevirtual 105, 3) := by decide +kernel
theorem dX5_tryStop_44 : decode cX5_tryStop 44 = .ok (.ifCond .eq 24, 3) := by decide +kernel
theorem dX5_tryStop_47 : decode cX5_tryStop 47 = .ok (.aload_n 0, 1) := by decide +kernel
theorem dX5_tryStop_48 : decode cX5_tryStop 48 = .ok (.iload_n 1, 1) := by decide +kernel
theorem dX5_tryStop_49 : decode cX5_tryStop 49 = .ok (.putfield 28, 3) := by decide +kernel
theorem dX5_tryStop_52 : decode cX5_tryStop 52 = .ok (.aload_n 0, 1) := by decide +kernel
theorem dX5_tryStop_53 : decode cX5_tryStop 53 = .ok (.aload_n 0, 1) := by decide +kernel
theorem dX5_tryStop_54 : decode cX5_tryStop 54 = .ok (.getfield 12, 3) := by decide +kernel
theorem dX5_tryStop_57 : decode cX5_tryStop 57 = .ok (.getfield 109, 3) := by decide +kernel
theorem dX5_tryStop_60 : decode cX5_tryStop 60 = .ok (.putfield 31, 3) := by decide +kernel
theorem dX5_tryStop_63 : decode cX5_tryStop 63 = .ok (.aload_n 0, 1) := by decide +kernel
theorem dX5_tryStop_64 : decode cX5_tryStop 64 = .ok (.iload_n 2, 1) := by decide +kernel
theorem dX5_tryStop_65 : decode cX5_tryStop 65 = .ok (.putfield 34, 3) := by decide +kernel
theorem dX5_tryStop_68 : decode cX5_tryStop 68 = .ok (.return_, 1) := by decide +kernel
theorem dX5_isBetterStop_0 : decode cX5_isBetterStop 0 = .ok (.aload_n 0, 1) := by decide +kernel
theorem dX5_isBetterStop_1 : decode cX5_isBetterStop 1 = .ok (.getfield 28, 3) := by decide +kernel
theorem dX5_isBetterStop_4 : decode cX5_isBetterStop 4 = .ok (.ifCond .lt 17, 3) := by decide +kernel
theorem dX5_isBetterStop_7 : decode cX5_isBetterStop 7 = .ok (.aload_n 0, 1) := by decide +kernel
theorem dX5_isBetterStop_8 : decode cX5_isBetterStop 8 = .ok (.getfield 12, 3) := by decide +kernel
theorem dX5_isBetterStop_11 : decode cX5_isBetterStop 11 = .ok (.getfield 109, 3) := by decide +kernel
theorem dX5_isBetterStop_14 : decode cX5_isBetterStop 14 = .ok (.aload_n 0, 1) := by decide +kernel
theorem dX5_isBetterStop_15 : decode cX5_isBetterStop 15 = .ok (.getfield 31, 3) := by decide +kernel
theorem dX5_isBetterStop_18 : decode cX5_isBetterStop 18 = .ok (.if_icmp .eq 30, 3) := by decide +kernel
theorem dX5_isBetterStop_21 : decode cX5_isBetterStop 21 = .ok (.aload_n 0, 1) := by decide +kernel
theorem dX5_isBetterStop_22 : decode cX5_isBetterStop 22 = .ok (.getfield 28, 3) := by decide +kernel
theorem dX5_isBetterStop_25 : decode cX5_isBetterStop 25 = .ok (.ifCond .lt 17, 3) := by decide +kernel
theorem dX5_isBetterStop_28 : decode cX5_isBetterStop 28 = .ok (.aload_n 0, 1) := by decide +kernel
theorem dX5_isBetterStop_29 : decode cX5_isBetterStop 29 = .ok (.getfield 12, 3) := by decide +kernel
theorem dX5_isBetterStop_32 : decode cX5_isBetterStop 32 = .ok (.getfield 109, 3) := by decide +kernel
theorem dX5_isBetterStop_35 : decode cX5_isBetterStop 35 = .ok (.aload_n 0, 1) := by decide +kernel
theorem dX5_isBetterStop_36 : decode cX5_isBetterStop 36 = .ok (.getfield 31, 3) := by decide +kernel
theorem dX5_isBetterStop_39 : decode cX5_isBetterStop 39 = .ok (.if_icmp .ge 7, 3) := by decide +kernel
theorem dX5_isBetterStop_42 : decode cX5_isBetterStop 42 = .ok (.iconst 1, 1) := by decide +kernel
theorem dX5_isBetterStop_43 : decode cX5_isBetterStop 43 = .ok (.goto 4, 3) := by decide +kernel
theorem dX5_isBetterStop_46 : decode cX5_isBetterStop 46 = .ok (.iconst 0, 1) := by decide +kernel
theorem dX5_isBetterStop_47 : decode cX5_isBetterStop 47 = .ok (.ireturn, 1) := by decide +kernel
theorem dX5_isBetterStop_48 : decode cX5_isBetterStop 48 = .ok (.iload_n 1, 1) := by decide +kernel
theorem dX5_isBetterStop_49 : decode cX5_isBetterStop 49 = .ok (.invokestatic 75, 3) := by decide +kernel
theorem dX5_isBetterStop_52 : decode cX5_isBetterStop 52 = .ok (.aload_n 0, 1) := by decide +kernel
theorem dX5_isBetterStop_53 : decode cX5_isBetterStop 53 = .ok (.getfield 28, 3) := by decide +kernel
theorem dX5_isBetterStop_56 : decode cX5_isBetterStop 56 = .ok (.invokestatic 75, 3) := by decide +kernel
theorem dX5_isBetterStop_59 : decode cX5_isBetterStop 59 = .ok (.if_icmp .ge 7, 3) := by decide +kernel
theorem dX5_isBetterStop_62 : decode cX5_isBetterStop 62 = .ok (.iconst 1, 1) := by decide +kernel
theorem dX5_isBetterStop_63 : decode cX5_isBetterStop 63 = .ok (.goto 4, 3) := by decide +kernel
theorem dX5_isBetterStop_66 : decode cX5_isBetterStop 66 = .ok (.iconst 0, 1) := by decide +kernel
theorem dX5_isBetterStop_67 : decode cX5_isBetterStop 67 = .ok (.ireturn, 1) := by decide +kernel
theorem dX5_findOrder_0 : decode cX5_findOrder 0 = .ok (.aload_n 0, 1) := by decide +kernel
theorem dX5_findOrder_1 : decode cX5_findOrder 1 = .ok (.getfield 50, 3) := by decide +kernel
theorem dX5_findOrder_4 : decode cX5_findOrder 4 = .ok (.aload_n 1, 1) := by decide +kernel
theorem dX5_findOrder_5 : decode cX5_findOrder 5 = .ok (.invokevirtual 54, 3) := by decide +kernel
theorem dX5_findOrder_8 : decode cX5_findOrder 8 = .ok (.aload_n 0, 1) := by decide +kernel
theorem dX5_findOrder_9 : decode cX5_findOrder 9 = .ok (.getfield 12, 3) := by decide +kernel
theorem dX5_findOrder_12 : decode cX5_findOrder 12 = .ok (.aload_n 0, 1) := by decide +kernel
theorem dX5_findOrder_13 : decode cX5_findOrder 13 = .ok (.getfield 50, 3) := by decide +kernel
theorem dX5_findOrder_16 : decode cX5_findOrder 16 = .ok (.invokevirtual 62, 3) := by decide +kernel
theorem dX5_findOrder_19 : decode cX5_findOrder 19 = .ok (.aload_n 0, 1) := by decide +kernel
theorem dX5_findOrder_20 : decode cX5_findOrder 20 = .ok (.iconst 0, 1) := by decide +kernel
theorem dX5_findOrder_21 : decode cX5_findOrder 21 = .ok (.putfield 37, 3) := by decide +kernel
theorem dX5_findOrder_24 : decode cX5_findOrder 24 = .ok (.aload_n 0, 1) := by decide +kernel
theorem dX5_findOrder_25 : decode cX5_findOrder 25 = .ok (.getfield 44, 3) := by decide +kernel
theorem dX5_findOrder_28 : decode cX5_findOrder 28 = .ok (.iconst 0, 1) := by decide +kernel
theorem dX5_findOrder_29 : decode cX5_findOrder 29 = .ok (.aload_n 0, 1) := by decide +kernel
theorem dX5_findOrder_30 : decode cX5_findOrder 30 = .ok (.getfield 12, 3) := by decide +kernel
theorem dX5_findOrder_33 : decode cX5_findOrder 33 = .ok (.getfield 109, 3) := by decide +kernel
theorem dX5_findOrder_36 : decode cX5_findOrder 36 = .ok (.iastore, 1) := by decide +kernel
theorem dX5_findOrder_37 : decode cX5_findOrder 37 = .ok (.iconst 1, 1) := by decide +kernel
theorem dX5_findOrder_38 : decode cX5_findOrder 38 = .ok (.istore_n 2, 1) := by decide +kernel
theorem dX5_findOrder_39 : decode cX5_findOrder 39 = .ok (.iconst 0, 1) := by decide +kernel
theorem dX5_findOrder_40 : decode cX5_findOrder 40 = .ok (.istore_n 3, 1) := by decide +kernel
theorem dX5_findOrder_41 : decode cX5_findOrder 41 = .ok (.iload_n 3, 1) := by decide +kernel
theorem dX5_findOrder_42 : decode cX5_findOrder 42 = .ok (.bipush 20, 2) := by decide +kernel
theorem dX5_findOrder_44 : decode cX5_findOrder 44 = .ok (.if_icmp .ge 18, 3) := by decide +kernel
theorem dX5_findOrder_47 : decode cX5_findOrder 47 = .ok (.iload_n 2, 1) := by decide +kernel
theorem dX5_findOrder_48 : decode cX5_findOrder 48 = .ok (.ifCond .eq 14, 3) := by decide +kernel
theorem dX5_findOrder_51 : decode cX5_findOrder 51 = .ok (.aload_n 0, 1) := by decide +kernel
theorem dX5_findOrder_52 : decode cX5_findOrder 52 = .ok (.invokevirtual 112, 3) := by decide +kernel
theorem dX5_findOrder_55 : decode cX5_findOrder 55 = .ok (.istore_n 2, 1) := by decide +kernel
theorem dX5_findOrder_56 : decode cX5_findOrder 56 = .ok (.iinc 3 1, 3) := by decide +kernel
theorem dX5_findOrder_59 : decode cX5_findOrder 59 = .ok (.goto (-18), 3) := by decide +kernel
theorem dX5_findOrder_62 : decode cX5_findOrder 62 = .ok (.return_, 1) := by decide +kernel
theorem dX5_takeStep_0 : decode cX5_takeStep 0 = .ok (.iconst (-1), 1) := by decide +kernel
theorem dX5_takeStep_1 : decode cX5_takeStep 1 = .ok (.istore_n 1, 1) := by decide +kernel
theorem dX5_takeStep_2 : decode cX5_takeStep 2 = .ok (.aload_n 0, 1) := by decide +kernel
theorem dX5_takeStep_3 : decode cX5_takeStep 3 = .ok (.getfield 44, 3) := by decide +kernel
theorem dX5_takeStep_6 : decode cX5_takeStep 6 = .ok (.aload_n 0, 1) := by decide +kernel
theorem dX5_takeStep_7 : decode cX5_takeStep 7 = .ok (.getfield 37, 3) := by decide +kernel
theorem dX5_takeStep_10 : decode cX5_takeStep 10 = .ok (.iaload, 1) := by decide +kernel
theorem dX5_takeStep_11 : decode cX5_takeStep 11 = .ok (.istore_n 2, 1) := by decide +kernel
theorem dX5_takeStep_12 : decode cX5_takeStep 12 = .ok (.iconst 0, 1) := by decide +kernel
theorem dX5_takeStep_13 : decode cX5_takeStep 13 = .ok (.istore_n 3, 1) := by decide +kernel
theorem dX5_takeStep_14 : decode cX5_takeStep 14 = .ok (.iload_n 3, 1) := by decide +kernel
theorem dX5_takeStep_15 : decode cX5_takeStep 15 = .ok (.aload_n 0, 1) := by decide +kernel
theorem dX5_takeStep_16 : decode cX5_takeStep 16 = .ok (.getfield 50, 3) := by decide +kernel
theorem dX5_takeStep_19 : decode cX5_takeStep 19 = .ok (.getfield 88, 3) := by decide +kernel
theorem dX5_takeStep_22 : decode cX5_takeStep 22 = .ok (.if_icmp .ge 85, 3) := by decide +kernel
theorem dX5_takeStep_25 : decode cX5_takeStep 25 = .ok (.aload_n 0, 1) := by decide +kernel
theorem dX5_takeStep_26 : decode cX5_takeStep 26 = .ok (.getfield 50, 3) := by decide +kernel
theorem dX5_takeStep_29 : decode cX5_takeStep 29 = .ok (.iload_n 3, 1) := by decide +kernel
theorem dX5_takeStep_30 : decode cX5_takeStep 30 = .ok (.invokevirtual 116, 3) := by decide +kernel
theorem dX5_takeStep_33 : decode cX5_takeStep 33 = .ok (.ifCond .ne 6, 3) := by decide +kernel
theorem dX5_takeStep_36 : decode cX5_takeStep 36 = .ok (.goto 65, 3) := by decide +kernel
theorem dX5_takeStep_39 : decode cX5_takeStep 39 = .ok (.aload_n 0, 1) := by decide +kernel
theorem dX5_takeStep_40 : decode cX5_takeStep 40 = .ok (.getfield 50, 3) := by decide +kernel
theorem dX5_takeStep_43 : decode cX5_takeStep 43 = .ok (.getfield 58, 3) := by decide +kernel
theorem dX5_takeStep_46 : decode cX5_takeStep 46 = .ok (.iload_n 3, 1) := by decide +kernel
theorem dX5_takeStep_47 : decode cX5_takeStep 47 = .ok (.iconst 1, 1) := by decide +kernel
theorem dX5_takeStep_48 : decode cX5_takeStep 48 = .ok (.bastore, 1) := by decide +kernel
theorem dX5_takeStep_49 : decode cX5_takeStep 49 = .ok (.aload_n 0, 1) := by decide +kernel
theorem dX5_takeStep_50 : decode cX5_takeStep 50 = .ok (.getfield 12, 3) := by decide +kernel
theorem dX5_takeStep_53 : decode cX5_takeStep 53 = .ok (.aload_n 0, 1) := by decide +kernel
theorem dX5_takeStep_54 : decode cX5_takeStep 54 = .ok (.getfield 50, 3) := by decide +kernel
theorem dX5_takeStep_57 : decode cX5_takeStep 57 = .ok (.invokevirtual 62, 3) := by decide +kernel
theorem dX5_takeStep_60 : decode cX5_takeStep 60 = .ok (.aload_n 0, 1) := by decide +kernel
theorem dX5_takeStep_61 : decode cX5_takeStep 61 = .ok (.getfield 50, 3) := by decide +kernel
theorem dX5_takeStep_64 : decode cX5_takeStep 64 = .ok (.getfield 58, 3) := by decide +kernel
theorem dX5_takeStep_67 : decode cX5_takeStep 67 = .ok (.iload_n 3, 1) := by decide +kernel
theorem dX5_takeStep_68 : decode cX5_takeStep 68 = .ok (.iconst 0, 1) := by decide +kernel
theorem dX5_takeStep_69 : decode cX5_takeStep 69 = .ok (.bastore, 1) := by decide +kernel
theorem dX5_takeStep_70 : decode cX5_takeStep 70 = .ok (.aload_n 0, 1) := by decide +kernel
theorem dX5_takeStep_71 : decode cX5_takeStep 71 = .ok (.getfield 12, 3) := by decide +kernel
theorem dX5_takeStep_74 : decode cX5_takeStep 74 = .ok (.getfield 109, 3) := by decide +kernel
theorem dX5_takeStep_77 : decode cX5_takeStep 77 = .ok (.iload_n 2, 1) := by decide +kernel
theorem dX5_takeStep_78 : decode cX5_takeStep 78 = .ok (.if_icmp .ge 23, 3) := by decide +kernel
theorem dX5_takeStep_81 : decode cX5_takeStep 81 = .ok (.aload_n 0, 1) := by decide +kernel
theorem dX5_takeStep_82 : decode cX5_takeStep 82 = .ok (.getfield 12, 3) := by decide +kernel
theorem dX5_takeStep_85 : decode cX5_takeStep 85 = .ok (.getfield 101, 3) := by decide +kernel
theorem dX5_takeStep_88 : decode cX5_takeStep 88 = .ok (.ifCond .ne 13, 3) := by decide +kernel
theorem dX5_takeStep_91 : decode cX5_takeStep 91 = .ok (.iload_n 3, 1) := by decide +kernel
theorem dX5_takeStep_92 : decode cX5_takeStep 92 = .ok (.istore_n 1, 1) := by decide +kernel
theorem dX5_takeStep_93 : decode cX5_takeStep 93 = .ok (.aload_n 0, 1) := by decide +kernel
theorem dX5_takeStep_94 : decode cX5_takeStep 94 = .ok (.getfield 12, 3) := by decide +kernel
theorem dX5_takeStep_97 : decode cX5_takeStep 97 = .ok (.getfield 109, 3) := by decide +kernel
theorem dX5_takeStep_100 : decode cX5_takeStep 100 = .ok (.istore_n 2, 1) := by decide +kernel
theorem dX5_takeStep_101 : decode cX5_takeStep 101 = .ok (.iinc 3 1, 3) := by decide +kernel
theorem dX5_takeStep_104 : decode cX5_takeStep 104 = .ok (.goto (-90), 3) := by decide +kernel
theorem dX5_takeStep_107 : decode cX5_takeStep 107 = .ok (.iload_n 1, 1) := by decide +kernel
theorem dX5_takeStep_108 : decode cX5_takeStep 108 = .ok (.ifCond .lt 12, 3) := by decide +kernel
theorem dX5_takeStep_111 : decode cX5_takeStep 111 = .ok (.aload_n 0, 1) := by decide +kernel
theorem dX5_takeStep_112 : decode cX5_takeStep 112 = .ok (.getfield 37, 3) := by decide +kernel
theorem dX5_takeStep_115 : decode cX5_takeStep 115 = .ok (.bipush 20, 2) := by decide +kernel
theorem dX5_takeStep_117 : decode cX5_takeStep 117 = .ok (.if_icmp .lt 5, 3) := by decide +kernel
theorem dX5_takeStep_120 : decode cX5_takeStep 120 = .ok (.iconst 0, 1) := by decide +kernel
theorem dX5_takeStep_121 : decode cX5_takeStep 121 = .ok (.ireturn, 1) := by decide +kernel
theorem dX5_takeStep_122 : decode cX5_takeStep 122 = .ok (.aload_n 0, 1) := by decide +kernel
theorem dX5_takeStep_123 : decode cX5_takeStep 123 = .ok (.getfield 50, 3) := by decide +kernel
theorem dX5_takeStep_126 : decode cX5_takeStep 126 = .ok (.getfield 58, 3) := by decide +kernel
theorem dX5_takeStep_129 : decode cX5_takeStep 129 = .ok (.iload_n 1, 1) := by decide +kernel
theorem dX5_takeStep_130 : decode cX5_takeStep 130 = .ok (.iconst 1, 1) := by decide +kernel
theorem dX5_takeStep_131 : decode cX5_takeStep 131 = .ok (.bastore, 1) := by decide +kernel
theorem dX5_takeStep_132 : decode cX5_takeStep 132 = .ok (.aload_n 0, 1) := by decide +kernel
theorem dX5_takeStep_133 : decode cX5_takeStep 133 = .ok (.getfield 40, 3) := by decide +kernel
theorem dX5_takeStep_136 : decode cX5_takeStep 136 = .ok (.aload_n 0, 1) := by decide +kernel
theorem dX5_takeStep_137 : decode cX5_takeStep 137 = .ok (.getfield 37, 3) := by decide +kernel
theorem dX5_takeStep_140 : decode cX5_takeStep 140 = .ok (.iload_n 1, 1) := by decide +kernel
theorem dX5_takeStep_141 : decode cX5_takeStep 141 = .ok (.iastore, 1) := by decide +kernel
theorem dX5_takeStep_142 : decode cX5_takeStep 142 = .ok (.aload_n 0, 1) := by decide +kernel
theorem dX5_takeStep_143 : decode cX5_takeStep 143 = .ok (.dup, 1) := by decide +kernel
theorem dX5_takeStep_144 : decode cX5_takeStep 144 = .ok (.getfield 37, 3) := by decide +kernel
theorem dX5_takeStep_147 : decode cX5_takeStep 147 = .ok (.iconst 1, 1) := by decide +kernel
theorem dX5_takeStep_148 : decode cX5_takeStep 148 = .ok (.iadd, 1) := by decide +kernel
theorem dX5_takeStep_149 : decode cX5_takeStep 149 = .ok (.putfield 37, 3) := by decide +kernel
theorem dX5_takeStep_152 : decode cX5_takeStep 152 = .ok (.aload_n 0, 1) := by decide +kernel
theorem dX5_takeStep_153 : decode cX5_takeStep 153 = .ok (.getfield 44, 3) := by decide +kernel
theorem dX5_takeStep_156 : decode cX5_takeStep 156 = .ok (.aload_n 0, 1) := by decide +kernel
theorem dX5_takeStep_157 : decode cX5_takeStep 157 = .ok (.getfield 37, 3) := by decide +kernel
theorem dX5_takeStep_160 : decode cX5_takeStep 160 = .ok (.iload_n 2, 1) := by decide +kernel
theorem dX5_takeStep_161 : decode cX5_takeStep 161 = .ok (.iastore, 1) := by decide +kernel
theorem dX5_takeStep_162 : decode cX5_takeStep 162 = .ok (.iconst 1, 1) := by decide +kernel
theorem dX5_takeStep_163 : decode cX5_takeStep 163 = .ok (.ireturn, 1) := by decide +kernel
theorem dX5_findLine_0 : decode cX5_findLine 0 = .ok (.aload_n 0, 1) := by decide +kernel
theorem dX5_findLine_1 : decode cX5_findLine 1 = .ok (.getfield 50, 3) := by decide +kernel
theorem dX5_findLine_4 : decode cX5_findLine 4 = .ok (.aload_n 1, 1) := by decide +kernel
theorem dX5_findLine_5 : decode cX5_findLine 5 = .ok (.invokevirtual 54, 3) := by decide +kernel
theorem dX5_findLine_8 : decode cX5_findLine 8 = .ok (.iconst 0, 1) := by decide +kernel
theorem dX5_findLine_9 : decode cX5_findLine 9 = .ok (.istore_n 2, 1) := by decide +kernel
theorem dX5_findLine_10 : decode cX5_findLine 10 = .ok (.iload_n 2, 1) := by decide +kernel
theorem dX5_findLine_11 : decode cX5_findLine 11 = .ok (.getstatic 119, 3) := by decide +kernel
theorem dX5_findLine_14 : decode cX5_findLine 14 = .ok (.iconst 1, 1) := by decide +kernel
theorem dX5_findLine_15 : decode cX5_findLine 15 = .ok (.iaload, 1) := by decide +kernel
theorem dX5_findLine_16 : decode cX5_findLine 16 = .ok (.if_icmp .gt 42, 3) := by decide +kernel
theorem dX5_findLine_19 : decode cX5_findLine 19 = .ok (.aload_n 0, 1) := by decide +kernel
theorem dX5_findLine_20 : decode cX5_findLine 20 = .ok (.getfield 50, 3) := by decide +kernel
theorem dX5_findLine_23 : decode cX5_findLine 23 = .ok (.getfield 122, 3) := by decide +kernel
theorem dX5_findLine_26 : decode cX5_findLine 26 = .ok (.iconst 1, 1) := by decide +kernel
theorem dX5_findLine_27 : decode cX5_findLine 27 = .ok (.iload_n 2, 1) := by decide +kernel
theorem dX5_findLine_28 : decode cX5_findLine 28 = .ok (.iastore, 1) := by decide +kernel
theorem dX5_findLine_29 : decode cX5_findLine 29 = .ok (.aload_n 0, 1) := by decide +kernel
theorem dX5_findLine_30 : decode cX5_findLine 30 = .ok (.getfield 12, 3) := by decide +kernel
theorem dX5_findLine_33 : decode cX5_findLine 33 = .ok (.aload_n 0, 1) := by decide +kernel
theorem dX5_findLine_34 : decode cX5_findLine 34 = .ok (.getfield 50, 3) := by decide +kernel
theorem dX5_findLine_37 : decode cX5_findLine 37 = .ok (.invokevirtual 62, 3) := by decide +kernel
theorem dX5_findLine_40 : decode cX5_findLine 40 = .ok (.aload_n 0, 1) := by decide +kernel
theorem dX5_findLine_41 : decode cX5_findLine 41 = .ok (.getfield 12, 3) := by decide +kernel
theorem dX5_findLine_44 : decode cX5_findLine 44 = .ok (.getfield 101, 3) := by decide +kernel
theorem dX5_findLine_47 : decode cX5_findLine 47 = .ok (.ifCond .eq 5, 3) := by decide +kernel
theorem dX5_findLine_50 : decode cX5_findLine 50 = .ok (.iload_n 2, 1) := by decide +kernel
theorem dX5_findLine_51 : decode cX5_findLine 51 = .ok (.ireturn, 1) := by decide +kernel
theorem dX5_findLine_52 : decode cX5_findLine 52 = .ok (.iinc 2 1, 3) := by decide +kernel
theorem dX5_findLine_55 : decode cX5_findLine 55 = .ok (.goto (-45), 3) := by decide +kernel
theorem dX5_findLine_58 : decode cX5_findLine 58 = .ok (.iconst (-1), 1) := by decide +kernel
theorem dX5_findLine_59 : decode cX5_findLine 59 = .ok (.ireturn, 1) := by decide +kernel
theorem dX5_findWorst_0 : decode cX5_findWorst 0 = .ok (.aload_n 0, 1) := by decide +kernel
theorem dX5_findWorst_1 : decode cX5_findWorst 1 = .ok (.getfield 50, 3) := by decide +kernel
theorem dX5_findWorst_4 : decode cX5_findWorst 4 = .ok (.aload_n 1, 1) := by decide +kernel
theorem dX5_findWorst_5 : decode cX5_findWorst 5 = .ok (.invokevirtual 54, 3) := by decide +kernel
theorem dX5_findWorst_8 : decode cX5_findWorst 8 = .ok (.iconst 0, 1) := by decide +kernel
theorem dX5_findWorst_9 : decode cX5_findWorst 9 = .ok (.istore_n 2, 1) := by decide +kernel
theorem dX5_findWorst_10 : decode cX5_findWorst 10 = .ok (.iconst (-1), 1) := by decide +kernel
theorem dX5_findWorst_11 : decode cX5_findWorst 11 = .ok (.istore_n 3, 1) := by decide +kernel
theorem dX5_findWorst_12 : decode cX5_findWorst 12 = .ok (.iconst 0, 1) := by decide +kernel
theorem dX5_findWorst_13 : decode cX5_findWorst 13 = .ok (.istore 4, 2) := by decide +kernel
theorem dX5_findWorst_15 : decode cX5_findWorst 15 = .ok (.iload 4, 2) := by decide +kernel
theorem dX5_findWorst_17 : decode cX5_findWorst 17 = .ok (.iconst 4, 1) := by decide +kernel
theorem dX5_findWorst_18 : decode cX5_findWorst 18 = .ok (.if_icmp .ge 53, 3) := by decide +kernel
theorem dX5_findWorst_21 : decode cX5_findWorst 21 = .ok (.aload_n 0, 1) := by decide +kernel
theorem dX5_findWorst_22 : decode cX5_findWorst 22 = .ok (.getfield 50, 3) := by decide +kernel
theorem dX5_findWorst_25 : decode cX5_findWorst 25 = .ok (.getfield 122, 3) := by decide +kernel
theorem dX5_findWorst_28 : decode cX5_findWorst 28 = .ok (.iconst 2, 1) := by decide +kernel
theorem dX5_findWorst_29 : decode cX5_findWorst 29 = .ok (.iload 4, 2) := by decide +kernel
theorem dX5_findWorst_31 : decode cX5_findWorst 31 = .ok (.iastore, 1) := by decide +kernel
theorem dX5_findWorst_32 : decode cX5_findWorst 32 = .ok (.aload_n 0, 1) := by decide +kernel
theorem dX5_findWorst_33 : decode cX5_findWorst 33 = .ok (.getfield 12, 3) := by decide +kernel
theorem dX5_findWorst_36 : decode cX5_findWorst 36 = .ok (.aload_n 0, 1) := by decide +kernel
theorem dX5_findWorst_37 : decode cX5_findWorst 37 = .ok (.getfield 50, 3) := by decide +kernel
theorem dX5_findWorst_40 : decode cX5_findWorst 40 = .ok (.invokevirtual 62, 3) := by decide +kernel
theorem dX5_findWorst_43 : decode cX5_findWorst 43 = .ok (.aload_n 0, 1) := by decide +kernel
theorem dX5_findWorst_44 : decode cX5_findWorst 44 = .ok (.getfield 12, 3) := by decide +kernel
theorem dX5_findWorst_47 : decode cX5_findWorst 47 = .ok (.getfield 109, 3) := by decide +kernel
theorem dX5_findWorst_50 : decode cX5_findWorst 50 = .ok (.iload_n 3, 1) := by decide +kernel
theorem dX5_findWorst_51 : decode cX5_findWorst 51 = .ok (.if_icmp .le 14, 3) := by decide +kernel
theorem dX5_findWorst_54 : decode cX5_findWorst 54 = .ok (.iload 4, 2) := by decide +kernel
theorem dX5_findWorst_56 : decode cX5_findWorst 56 = .ok (.istore_n 2, 1) := by decide +kernel
theorem dX5_findWorst_57 : decode cX5_findWorst 57 = .ok (.aload_n 0, 1) := by decide +kernel
theorem dX5_findWorst_58 : decode cX5_findWorst 58 = .ok (.getfield 12, 3) := by decide +kernel
theorem dX5_findWorst_61 : decode cX5_findWorst 61 = .ok (.getfield 109, 3) := by decide +kernel
theorem dX5_findWorst_64 : decode cX5_findWorst 64 = .ok (.istore_n 3, 1) := by decide +kernel
theorem dX5_findWorst_65 : decode cX5_findWorst 65 = .ok (.iinc 4 1, 3) := by decide +kernel
theorem dX5_findWorst_68 : decode cX5_findWorst 68 = .ok (.goto (-53), 3) := by decide +kernel
theorem dX5_findWorst_71 : decode cX5_findWorst 71 = .ok (.iload_n 2, 1) := by decide +kernel
theorem dX5_findWorst_72 : decode cX5_findWorst 72 = .ok (.ireturn, 1) := by decide +kernel
theorem dX6_init_0 : decode cX6_init 0 = .ok (.aload_n 0, 1) := by decide +kernel
theorem dX6_init_1 : decode cX6_init 1 = .ok (.invokespecial 1, 3) := by decide +kernel
theorem dX6_init_4 : decode cX6_init 4 = .ok (.aload_n 0, 1) := by decide +kernel
theorem dX6_init_5 : decode cX6_init 5 = .ok (.new 7, 3) := by decide +kernel
theorem dX6_init_8 : decode cX6_init 8 = .ok (.dup, 1) := by decide +kernel
theorem dX6_init_9 : decode cX6_init 9 = .ok (.invokespecial 9, 3) := by decide +kernel
theorem dX6_init_12 : decode cX6_init 12 = .ok (.putfield 10, 3) := by decide +kernel
theorem dX6_init_15 : decode cX6_init 15 = .ok (.aload_n 0, 1) := by decide +kernel
theorem dX6_init_16 : decode cX6_init 16 = .ok (.new 7, 3) := by decide +kernel
theorem dX6_init_19 : decode cX6_init 19 = .ok (.dup, 1) := by decide +kernel
theorem dX6_init_20 : decode cX6_init 20 = .ok (.invokespecial 9, 3) := by decide +kernel
theorem dX6_init_23 : decode cX6_init 23 = .ok (.putfield 16, 3) := by decide +kernel
theorem dX6_init_26 : decode cX6_init 26 = .ok (.aload_n 0, 1) := by decide +kernel
theorem dX6_init_27 : decode cX6_init 27 = .ok (.iconst 0, 1) := by decide +kernel
theorem dX6_init_28 : decode cX6_init 28 = .ok (.putfield 19, 3) := by decide +kernel
theorem dX6_init_31 : decode cX6_init 31 = .ok (.aload_n 0, 1) := by decide +kernel
theorem dX6_init_32 : decode cX6_init 32 = .ok (.new 7, 3) := by decide +kernel
theorem dX6_init_35 : decode cX6_init 35 = .ok (.dup, 1) := by decide +kernel
theorem dX6_init_36 : decode cX6_init 36 = .ok (.invokespecial 9, 3) := by decide +kernel
theorem dX6_init_39 : decode cX6_init 39 = .ok (.putfield 23, 3) := by decide +kernel
theorem dX6_init_42 : decode cX6_init 42 = .ok (.aload_n 0, 1) := by decide +kernel
theorem dX6_init_43 : decode cX6_init 43 = .ok (.new 26, 3) := by decide +kernel
theorem dX6_init_46 : decode cX6_init 46 = .ok (.dup, 1) := by decide +kernel
theorem dX6_init_47 : decode cX6_init 47 = .ok (.invokespecial 28, 3) := by decide +kernel
theorem dX6_init_50 : decode cX6_init 50 = .ok (.putfield 29, 3) := by decide +kernel
theorem dX6_init_53 : decode cX6_init 53 = .ok (.aload_n 0, 1) := by decide +kernel
theorem dX6_init_54 : decode cX6_init 54 = .ok (.new 33, 3) := by decide +kernel
theorem dX6_init_57 : decode cX6_init 57 = .ok (.dup, 1) := by decide +kernel
theorem dX6_init_58 : decode cX6_init 58 = .ok (.invokespecial 35, 3) := by decide +kernel
theorem dX6_init_61 : decode cX6_init 61 = .ok (.putfield 36, 3) := by decide +kernel
theorem dX6_init_64 : decode cX6_init 64 = .ok (.aload_n 0, 1) := by decide +kernel
theorem dX6_init_65 : decode cX6_init 65 = .ok (.new 40, 3) := by decide +kernel
theorem dX6_init_68 : decode cX6_init 68 = .ok (.dup, 1) := by decide +kernel
theorem dX6_init_69 : decode cX6_init 69 = .ok (.invokespecial 42, 3) := by decide +kernel
theorem dX6_init_72 : decode cX6_init 72 = .ok (.putfield 43, 3) := by decide +kernel
theorem dX6_init_75 : decode cX6_init 75 = .ok (.aload_n 0, 1) := by decide +kernel
theorem dX6_init_76 : decode cX6_init 76 = .ok (.iconst 4, 1) := by decide +kernel
theorem dX6_init_77 : decode cX6_init 77 = .ok (.anewarray 47, 3) := by decide +kernel
theorem dX6_init_80 : decode cX6_init 80 = .ok (.putfield 49, 3) := by decide +kernel
theorem dX6_init_83 : decode cX6_init 83 = .ok (.aload_n 0, 1) := by decide +kernel
theorem dX6_init_84 : decode cX6_init 84 = .ok (.bipush 7, 2) := by decide +kernel
theorem dX6_init_86 : decode cX6_init 86 = .ok (.newarray .int, 2) := by decide +kernel
theorem dX6_init_88 : decode cX6_init 88 = .ok (.putfield 53, 3) := by decide +kernel
theorem dX6_init_91 : decode cX6_init 91 = .ok (.iconst 0, 1) := by decide +kernel
theorem dX6_init_92 : decode cX6_init 92 = .ok (.istore_n 1, 1) := by decide +kernel
theorem dX6_init_93 : decode cX6_init 93 = .ok (.iload_n 1, 1) := by decide +kernel
theorem dX6_init_94 : decode cX6_init 94 = .ok (.iconst 4, 1) := by decide +kernel
theorem dX6_init_95 : decode cX6_init 95 = .ok (.if_icmp .ge 22, 3) := by decide +kernel
theorem dX6_init_98 : decode cX6_init 98 = .ok (.aload_n 0, 1) := by decide +kernel
theorem dX6_init_99 : decode cX6_init 99 = .ok (.getfield 49, 3) := by decide +kernel
theorem dX6_init_102 : decode cX6_init 102 = .ok (.iload_n 1, 1) := by decide +kernel
theorem dX6_init_103 : decode cX6_init 103 = .ok (.new 47, 3) := by decide +kernel
theorem dX6_init_106 : decode cX6_init 106 = .ok (.dup, 1) := by decide +kernel
theorem dX6_init_107 : decode cX6_init 107 = .ok (.invokespecial 57, 3) := by decide +kernel
theorem dX6_init_110 : decode cX6_init 110 = .ok (.aastore, 1) := by decide +kernel
theorem dX6_init_111 : decode cX6_init 111 = .ok (.iinc 1 1, 3) := by decide +kernel
theorem dX6_init_114 : decode cX6_init 114 = .ok (.goto (-21), 3) := by decide +kernel
theorem dX6_init_117 : decode cX6_init 117 = .ok (.return_, 1) := by decide +kernel
theorem dX6_room_0 : decode cX6_room 0 = .ok (.aload_n 0, 1) := by decide +kernel
theorem dX6_room_1 : decode cX6_room 1 = .ok (.getfield 10, 3) := by decide +kernel
theorem dX6_room_4 : decode cX6_room 4 = .ok (.getfield 58, 3) := by decide +kernel
theorem dX6_room_7 : decode cX6_room 7 = .ok (.bipush 6, 2) := by decide +kernel
theorem dX6_room_9 : decode cX6_room 9 = .ok (.if_icmp .lt 9, 3) := by decide +kernel
theorem dX6_room_12 : decode cX6_room 12 = .ok (.aload_n 0, 1) := by decide +kernel
theorem dX6_room_13 : decode cX6_room 13 = .ok (.iconst 1, 1) := by decide +kernel
theorem dX6_room_14 : decode cX6_room 14 = .ok (.invokevirtual 62, 3) := by decide +kernel
theorem dX6_room_17 : decode cX6_room 17 = .ok (.ireturn, 1) := by decide +kernel
theorem dX6_room_18 : decode cX6_room 18 = .ok (.aload_n 0, 1) := by decide +kernel
theorem dX6_room_19 : decode cX6_room 19 = .ok (.getfield 10, 3) := by decide +kernel
theorem dX6_room_22 : decode cX6_room 22 = .ok (.invokevirtual 66, 3) := by decide +kernel
theorem dX6_room_25 : decode cX6_room 25 = .ok (.aload_n 0, 1) := by decide +kernel
theorem dX6_room_26 : decode cX6_room 26 = .ok (.getfield 10, 3) := by decide +kernel
theorem dX6_room_29 : decode cX6_room 29 = .ok (.getfield 58, 3) := by decide +kernel
theorem dX6_room_32 : decode cX6_room 32 = .ok (.iconst 1, 1) := by decide +kernel
theorem dX6_room_33 : decode cX6_room 33 = .ok (.isub, 1) := by decide +kernel
theorem dX6_room_34 : decode cX6_room 34 = .ok (.ireturn, 1) := by decide +kernel
theorem dX6_gap_0 : decode cX6_gap 0 = .ok (.iload_n 1, 1) := by decide +kernel
theorem dX6_gap_1 : decode cX6_gap 1 = .ok (.invokestatic 69, 3) := by decide +kernel
theorem dX6_gap_4 : decode cX6_gap 4 = .ok (.ifCond .eq 43, 3) := by decide +kernel
theorem dX6_gap_7 : decode cX6_gap 7 = .ok (.aload_n 0, 1) := by decide +kernel
theorem dX6_gap_8 : decode cX6_gap 8 = .ok (.getfield 10, 3) := by decide +kernel
theorem dX6_gap_11 : decode cX6_gap 11 = .ok (.iload_n 2, 1) := by decide +kernel
theorem dX6_gap_12 : decode cX6_gap 12 = .ok (.invokevirtual 73, 3) := by decide +kernel
theorem dX6_gap_15 : decode cX6_gap 15 = .ok (.ifCond .eq 32, 3) := by decide +kernel
theorem dX6_gap_18 : decode cX6_gap 18 = .ok (.iload_n 3, 1) := by decide +kernel
theorem dX6_gap_19 : decode cX6_gap 19 = .ok (.iconst (-1), 1) := by decide +kernel
theorem dX6_gap_20 : decode cX6_gap 20 = .ok (.if_icmp .eq 14, 3) := by decide +kernel
theorem dX6_gap_23 : decode cX6_gap 23 = .ok (.aload_n 0, 1) := by decide +kernel
theorem dX6_gap_24 : decode cX6_gap 24 = .ok (.getfield 10, 3) := by decide +kernel
theorem dX6_gap_27 : decode cX6_gap 27 = .ok (.iload_n 3, 1) := by decide +kernel
theorem dX6_gap_28 : decode cX6_gap 28 = .ok (.invokevirtual 73, 3) := by decide +kernel
theorem dX6_gap_31 : decode cX6_gap 31 = .ok (.ifCond .eq 16, 3) := by decide +kernel
theorem dX6_gap_34 : decode cX6_gap 34 = .ok (.iload_n 3, 1) := by decide +kernel
theorem dX6_gap_35 : decode cX6_gap 35 = .ok (.iload_n 2, 1) := by decide +kernel
theorem dX6_gap_36 : decode cX6_gap 36 = .ok (.if_icmp .eq 11, 3) := by decide +kernel
theorem dX6_gap_39 : decode cX6_gap 39 = .ok (.iload 4, 2) := by decide +kernel
theorem dX6_gap_41 : decode cX6_gap 41 = .ok (.invokestatic 76, 3) := by decide +kernel
theorem dX6_gap_44 : decode cX6_gap 44 = .ok (.ifCond .ne 9, 3) := by decide +kernel
theorem dX6_gap_47 : decode cX6_gap 47 = .ok (.aload_n 0, 1) := by decide +kernel
theorem dX6_gap_48 : decode cX6_gap 48 = .ok (.iconst 0, 1) := by decide +kernel
theorem dX6_gap_49 : decode cX6_gap 49 = .ok (.invokevirtual 62, 3) := by decide +kernel
theorem dX6_gap_52 : decode cX6_gap 52 = .ok (.ireturn, 1) := by decide +kernel
theorem dX6_gap_53 : decode cX6_gap 53 = .ok (.aload_n 0, 1) := by decide +kernel
theorem dX6_gap_54 : decode cX6_gap 54 = .ok (.getfield 10, 3) := by decide +kernel
theorem dX6_gap_57 : decode cX6_gap 57 = .ok (.getfield 79, 3) := by decide +kernel
theorem dX6_gap_60 : decode cX6_gap 60 = .ok (.bipush 20, 2) := by decide +kernel
theorem dX6_gap_62 : decode cX6_gap 62 = .ok (.if_icmp .lt 9, 3) := by decide +kernel
theorem dX6_gap_65 : decode cX6_gap 65 = .ok (.aload_n 0, 1) := by decide +kernel
theorem dX6_gap_66 : decode cX6_gap 66 = .ok (.iconst 1, 1) := by decide +kernel
theorem dX6_gap_67 : decode cX6_gap 67 = .ok (.invokevirtual 62, 3) := by decide +kernel
theorem dX6_gap_70 : decode cX6_gap 70 = .ok (.ireturn, 1) := by decide +kernel
theorem dX6_gap_71 : decode cX6_gap 71 = .ok (.aload_n 0, 1) := by decide +kernel
theorem dX6_gap_72 : decode cX6_gap 72 = .ok (.getfield 10, 3) := by decide +kernel
theorem dX6_gap_75 : decode cX6_gap 75 = .ok (.iload_n 1, 1) := by decide +kernel
theorem dX6_gap_76 : decode cX6_gap 76 = .ok (.iload_n 2, 1) := by decide +kernel
theorem dX6_gap_77 : decode cX6_gap 77 = .ok (.iload_n 3, 1) := by decide +kernel
theorem dX6_gap_78 : decode cX6_gap 78 = .ok (.invokevirtual 82, 3) := by decide +kernel
theorem dX6_gap_81 : decode cX6_gap 81 = .ok (.istore 5, 2) := by decide +kernel
theorem dX6_gap_83 : decode cX6_gap 83 = .ok (.aload_n 0, 1) := by decide +kernel
theorem dX6_gap_84 : decode cX6_gap 84 = .ok (.getfield 10, 3) := by decide +kernel
theorem dX6_gap_87 : decode cX6_gap 87 = .ok (.iload 5, 2) := by decide +kernel
theorem dX6_gap_89 : decode cX6_gap 89 = .ok (.iload 4, 2) := by decide +kernel
theorem dX6_gap_91 : decode cX6_gap 91 = .ok (.sipush 10000, 3) := by decide +kernel
theorem dX6_gap_94 : decode cX6_gap 94 = .ok (.idiv, 1) := by decide +kernel
theorem dX6_gap_95 : decode cX6_gap 95 = .ok (.iload 4, 2) := by decide +kernel
theorem dX6_gap_97 : decode cX6_gap 97 = .ok (.sipush 1000, 3) := by decide +kernel
theorem dX6_gap_100 : decode cX6_gap 100 = .ok (.idiv, 1) := by decide +kernel
theorem dX6_gap_101 : decode cX6_gap 101 = .ok (.bipush 10, 2) := by decide +kernel
theorem dX6_gap_103 : decode cX6_gap 103 = .ok (.irem, 1) := by decide +kernel
theorem dX6_gap_104 : decode cX6_gap 104 = .ok (.iload 4, 2) := by decide +kernel
theorem dX6_gap_106 : decode cX6_gap 106 = .ok (.bipush 100, 2) := by decide +kernel
theorem dX6_gap_108 : decode cX6_gap 108 = .ok (.idiv, 1) := by decide +kernel
theorem dX6_gap_109 : decode cX6_gap 109 = .ok (.bipush 10, 2) := by decide +kernel
theorem dX6_gap_111 : decode cX6_gap 111 = .ok (.irem, 1) := by decide +kernel
theorem dX6_gap_112 : decode cX6_gap 112 = .ok (.iload 4, 2) := by decide +kernel
theorem dX6_gap_114 : decode cX6_gap 114 = .ok (.bipush 100, 2) := by decide +kernel
theorem dX6_gap_116 : decode cX6_gap 116 = .ok (.irem, 1) := by decide +kernel
theorem dX6_gap_117 : decode cX6_gap 117 = .ok (.invokevirtual 86, 3) := by decide +kernel
theorem dX6_gap_120 : decode cX6_gap 120 = .ok (.iload 5, 2) := by decide +kernel
theorem dX6_gap_122 : decode cX6_gap 122 = .ok (.ireturn, 1) := by decide +kernel
theorem dX6_of_0 : decode cX6_of 0 = .ok (.aload_n 0, 1) := by decide +kernel
theorem dX6_of_1 : decode cX6_of 1 = .ok (.getfield 10, 3) := by decide +kernel
theorem dX6_of_4 : decode cX6_of 4 = .ok (.iload_n 1, 1) := by decide +kernel
theorem dX6_of_5 : decode cX6_of 5 = .ok (.invokevirtual 90, 3) := by decide +kernel
theorem dX6_of_8 : decode cX6_of 8 = .ok (.ifCond .ne 9, 3) := by decide +kernel
theorem dX6_of_11 : decode cX6_of 11 = .ok (.aload_n 0, 1) := by decide +kernel
theorem dX6_of_12 : decode cX6_of 12 = .ok (.iconst 0, 1) := by decide +kernel
theorem dX6_of_13 : decode cX6_of 13 = .ok (.invokevirtual 62, 3) := by decide +kernel
theorem dX6_of_16 : decode cX6_of 16 = .ok (.ireturn, 1) := by decide +kernel
theorem dX6_of_17 : decode cX6_of 17 = .ok (.iload_n 2, 1) := by decide +kernel
theorem dX6_of_18 : decode cX6_of 18 = .ok (.tableswitch 160 0 9 #[54, 64, 74, 84, 94, 104, 114, 124, 142, 151], 54) := by decide +kernel
theorem dX6_of_72 : decode cX6_of 72 = .ok (.aload_n 0, 1) := by decide +kernel
theorem dX6_of_73 : decode cX6_of 73 = .ok (.getfield 10, 3) := by decide +kernel
theorem dX6_of_76 : decode cX6_of 76 = .ok (.getfield 93, 3) := by decide +kernel
theorem dX6_of_79 : decode cX6_of 79 = .ok (.iload_n 1, 1) := by decide +kernel
theorem dX6_of_80 : decode cX6_of 80 = .ok (.iaload, 1) := by decide +kernel
theorem dX6_of_81 : decode cX6_of 81 = .ok (.ireturn, 1) := by decide +kernel
theorem dX6_of_82 : decode cX6_of 82 = .ok (.aload_n 0, 1) := by decide +kernel
theorem dX6_of_83 : decode cX6_of 83 = .ok (.getfield 10, 3) := by decide +kernel
theorem dX6_of_86 : decode cX6_of 86 = .ok (.getfield 96, 3) := by decide +kernel
theorem dX6_of_89 : decode cX6_of 89 = .ok (.iload_n 1, 1) := by decide +kernel
theorem dX6_of_90 : decode cX6_of 90 = .ok (.iaload, 1) := by decide +kernel
theorem dX6_of_91 : decode cX6_of 91 = .ok (.ireturn, 1) := by decide +kernel
theorem dX6_of_92 : decode cX6_of 92 = .ok (.aload_n 0, 1) := by decide +kernel
theorem dX6_of_93 : decode cX6_of 93 = .ok (.getfield 10, 3) := by decide +kernel
theorem dX6_of_96 : decode cX6_of 96 = .ok (.getfield 99, 3) := by decide +kernel
theorem dX6_of_99 : decode cX6_of 99 = .ok (.iload_n 1, 1) := by decide +kernel
theorem dX6_of_100 : decode cX6_of 100 = .ok (.iaload, 1) := by decide +kernel
theorem dX6_of_101 : decode cX6_of 101 = .ok (.ireturn, 1) := by decide +kernel
theorem dX6_of_102 : decode cX6_of 102 = .ok (.aload_n 0, 1) := by decide +kernel
theorem dX6_of_103 : decode cX6_of 103 = .ok (.getfield 10, 3) := by decide +kernel
theorem dX6_of_106 : decode cX6_of 106 = .ok (.getfield 102, 3) := by decide +kernel
theorem dX6_of_109 : decode cX6_of 109 = .ok (.iload_n 1, 1) := by decide +kernel
theorem dX6_of_110 : decode cX6_of 110 = .ok (.iaload, 1) := by decide +kernel
theorem dX6_of_111 : decode cX6_of 111 = .ok (.ireturn, 1) := by decide +kernel
theorem dX6_of_112 : decode cX6_of 112 = .ok (.aload_n 0, 1) := by decide +kernel
theorem dX6_of_113 : decode cX6_of 113 = .ok (.getfield 10, 3) := by decide +kernel
theorem dX6_of_116 : decode cX6_of 116 = .ok (.getfield 105, 3) := by decide +kernel
theorem dX6_of_119 : decode cX6_of 119 = .ok (.iload_n 1, 1) := by decide +kernel
theorem dX6_of_120 : decode cX6_of 120 = .ok (.iaload, 1) := by decide +kernel
theorem dX6_of_121 : decode cX6_of 121 = .ok (.ireturn, 1) := by decide +kernel
theorem dX6_of_122 : decode cX6_of 122 = .ok (.aload_n 0, 1) := by decide +kernel
theorem dX6_of_123 : decode cX6_of 123 = .ok (.getfield 10, 3) := by decide +kernel
theorem dX6_of_126 : decode cX6_of 126 = .ok (.getfield 108, 3) := by decide +kernel
theorem dX6_of_129 : decode cX6_of 129 = .ok (.iload_n 1, 1) := by decide +kernel
theorem dX6_of_130 : decode cX6_of 130 = .ok (.iaload, 1) := by decide +kernel
theorem dX6_of_131 : decode cX6_of 131 = .ok (.ireturn, 1) := by decide +kernel
theorem dX6_of_132 : decode cX6_of 132 = .ok (.aload_n 0, 1) := by decide +kernel
theorem dX6_of_133 : decode cX6_of 133 = .ok (.getfield 10, 3) := by decide +kernel
theorem dX6_of_136 : decode cX6_of 136 = .ok (.getfield 111, 3) := by decide +kernel
theorem dX6_of_139 : decode cX6_of 139 = .ok (.iload_n 1, 1) := by decide +kernel
theorem dX6_of_140 : decode cX6_of 140 = .ok (.iaload, 1) := by decide +kernel
theorem dX6_of_141 : decode cX6_of 141 = .ok (.ireturn, 1) := by decide +kernel
theorem dX6_of_142 : decode cX6_of 142 = .ok (.aload_n 0, 1) := by decide +kernel
theorem dX6_of_143 : decode cX6_of 143 = .ok (.getfield 10, 3) := by decide +kernel
theorem dX6_of_146 : decode cX6_of 146 = .ok (.getfield 114, 3) := by decide +kernel
theorem dX6_of_149 : decode cX6_of 149 = .ok (.iload_n 1, 1) := by decide +kernel
theorem dX6_of_150 : decode cX6_of 150 = .ok (.baload, 1) := by decide +kernel
theorem dX6_of_151 : decode cX6_of 151 = .ok (.ifCond .eq 7, 3) := by decide +kernel
theorem dX6_of_154 : decode cX6_of 154 = .ok (.iconst 1, 1) := by decide +kernel
theorem dX6_of_155 : decode cX6_of 155 = .ok (.goto 4, 3) := by decide +kernel
theorem dX6_of_158 : decode cX6_of 158 = .ok (.iconst 0, 1) := by decide +kernel
theorem dX6_of_159 : decode cX6_of 159 = .ok (.ireturn, 1) := by decide +kernel
theorem dX6_of_160 : decode cX6_of 160 = .ok (.aload_n 0, 1) := by decide +kernel
theorem dX6_of_161 : decode cX6_of 161 = .ok (.getfield 10, 3) := by decide +kernel
theorem dX6_of_164 : decode cX6_of 164 = .ok (.iload_n 1, 1) := by decide +kernel
theorem dX6_of_165 : decode cX6_of 165 = .ok (.invokevirtual 118, 3) := by decide +kernel
theorem dX6_of_168 : decode cX6_of 168 = .ok (.ireturn, 1) := by decide +kernel
theorem dX6_of_169 : decode cX6_of 169 = .ok (.aload_n 0, 1) := by decide +kernel
theorem dX6_of_170 : decode cX6_of 170 = .ok (.getfield 10, 3) := by decide +kernel
theorem dX6_of_173 : decode cX6_of 173 = .ok (.iload_n 1, 1) := by decide +kernel
theorem dX6_of_174 : decode cX6_of 174 = .ok (.invokevirtual 121, 3) := by decide +kernel
theorem dX6_of_177 : decode cX6_of 177 = .ok (.ireturn, 1) := by decide +kernel
theorem dX6_of_178 : decode cX6_of 178 = .ok (.aload_n 0, 1) := by decide +kernel
theorem dX6_of_179 : decode cX6_of 179 = .ok (.iconst 0, 1) := by decide +kernel
theorem dX6_of_180 : decode cX6_of 180 = .ok (.invokevirtual 62, 3) := by decide +kernel
theorem dX6_of_183 : decode cX6_of 183 = .ok (.ireturn, 1) := by decide +kernel
theorem dX6_width_0 : decode cX6_width 0 = .ok (.aload_n 0, 1) := by decide +kernel
theorem dX6_width_1 : decode cX6_width 1 = .ok (.getfield 10, 3) := by decide +kernel
theorem dX6_width_4 : decode cX6_width 4 = .ok (.iload_n 1, 1) := by decide +kernel
theorem dX6_width_5 : decode cX6_width 5 = .ok (.invokevirtual 90, 3) := by decide +kernel
theorem dX6_width_8 : decode cX6_width 8 = .ok (.ifCond .eq 13, 3) := by decide +kernel
theorem dX6_width_11 : decode cX6_width 11 = .ok (.iload_n 2, 1) := by decide +kernel
theorem dX6_width_12 : decode cX6_width 12 = .ok (.ifCond .lt 9, 3) := by decide +kernel
theorem dX6_width_15 : decode cX6_width 15 = .ok (.iload_n 2, 1) := by decide +kernel
theorem dX6_width_16 : decode cX6_width 16 = .ok (.bipush 99, 2) := by decide +kernel
theorem dX6_width_18 : decode cX6_width 18 = .ok (.if_icmp .le 9, 3) := by decide +kernel
theorem dX6_width_21 : decode cX6_width 21 = .ok (.aload_n 0, 1) := by decide +kernel
theorem dX6_width_22 : decode cX6_width 22 = .ok (.iconst 0, 1) := by decide +kernel
theorem dX6_width_23 : decode cX6_width 23 = .ok (.invokevirtual 62, 3) := by decide +kernel
theorem dX6_width_26 : decode cX6_width 26 = .ok (.ireturn, 1) := by decide +kernel
theorem dX6_width_27 : decode cX6_width 27 = .ok (.aload_n 0, 1) := by decide +kernel
theorem dX6_width_28 : decode cX6_width 28 = .ok (.getfield 10, 3) := by decide +kernel
theorem dX6_width_31 : decode cX6_width 31 = .ok (.getfield 102, 3) := by decide +kernel
theorem dX6_width_34 : decode cX6_width 34 = .ok (.iload_n 1, 1) := by decide +kernel
theorem dX6_width_35 : decode cX6_width 35 = .ok (.iaload, 1) := by decide +kernel
theorem dX6_width_36 : decode cX6_width 36 = .ok (.istore_n 3, 1) := by decide +kernel
theorem dX6_width_37 : decode cX6_width 37 = .ok (.aload_n 0, 1) := by decide +kernel
theorem dX6_width_38 : decode cX6_width 38 = .ok (.getfield 10, 3) := by decide +kernel
theorem dX6_width_41 : decode cX6_width 41 = .ok (.getfield 102, 3) := by decide +kernel
theorem dX6_width_44 : decode cX6_width 44 = .ok (.iload_n 1, 1) := by decide +kernel
theorem dX6_width_45 : decode cX6_width 45 = .ok (.iload_n 2, 1) := by decide +kernel
theorem dX6_width_46 : decode cX6_width 46 = .ok (.iastore, 1) := by decide +kernel
theorem dX6_width_47 : decode cX6_width 47 = .ok (.iload_n 3, 1) := by decide +kernel
theorem dX6_width_48 : decode cX6_width 48 = .ok (.ireturn, 1) := by decide +kernel
theorem dX6_shut_0 : decode cX6_shut 0 = .ok (.aload_n 0, 1) := by decide +kernel
theorem dX6_shut_1 : decode cX6_shut 1 = .ok (.getfield 10, 3) := by decide +kernel
theorem dX6_shut_4 : decode cX6_shut 4 = .ok (.iload_n 1, 1) := by decide +kernel
theorem dX6_shut_5 : decode cX6_shut 5 = .ok (.invokevirtual 90, 3) := by decide +kernel
theorem dX6_shut_8 : decode cX6_shut 8 = .ok (.ifCond .ne 9, 3) := by decide +kernel
theorem dX6_shut_11 : decode cX6_shut 11 = .ok (.aload_n 0, 1) := by decide +kernel
theorem dX6_shut_12 : decode cX6_shut 12 = .ok (.iconst 0, 1) := by decide +kernel
theorem dX6_shut_13 : decode cX6_shut 13 = .ok (.invokevirtual 62, 3) := by decide +kernel
theorem dX6_shut_16 : decode cX6_shut 16 = .ok (.ireturn, 1) := by decide +kernel
theorem dX6_shut_17 : decode cX6_shut 17 = .ok (.aload_n 0, 1) := by decide +kernel
theorem dX6_shut_18 : decode cX6_shut 18 = .ok (.getfield 10, 3) := by decide +kernel
theorem dX6_shut_21 : decode cX6_shut 21 = .ok (.getfield 114, 3) := by decide +kernel
theorem dX6_shut_24 : decode cX6_shut 24 = .ok (.iload_n 1, 1) := by decide +kernel
theorem dX6_shut_25 : decode cX6_shut 25 = .ok (.baload, 1) := by decide +kernel
theorem dX6_shut_26 : decode cX6_shut 26 = .ok (.istore_n 3, 1) := by decide +kernel
theorem dX6_shut_27 : decode cX6_shut 27 = .ok (.aload_n 0, 1) := by decide +kernel
theorem dX6_shut_28 : decode cX6_shut 28 = .ok (.getfield 10, 3) := by decide +kernel
theorem dX6_shut_31 : decode cX6_shut 31 = .ok (.getfield 114, 3) := by decide +kernel
theorem dX6_shut_34 : decode cX6_shut 34 = .ok (.iload_n 1, 1) := by decide +kernel
theorem dX6_shut_35 : decode cX6_shut 35 = .ok (.iload_n 2, 1) := by decide +kernel
theorem dX6_shut_36 : decode cX6_shut 36 = .ok (.bastore, 1) := by decide +kernel
theorem dX6_shut_37 : decode cX6_shut 37 = .ok (.iload_n 3, 1) := by decide +kernel
theorem dX6_shut_38 : decode cX6_shut 38 = .ok (.iload_n 2, 1) := by decide +kernel
theorem dX6_shut_39 : decode cX6_shut 39 = .ok (.if_icmp .ne 7, 3) := by decide +kernel
theorem dX6_shut_42 : decode cX6_shut 42 = .ok (.iconst 0, 1) := by decide +kernel
theorem dX6_shut_43 : decode cX6_shut 43 = .ok (.goto 4, 3) := by decide +kernel
theorem dX6_shut_46 : decode cX6_shut 46 = .ok (.iconst 1, 1) := by decide +kernel
theorem dX6_shut_47 : decode cX6_shut 47 = .ok (.ireturn, 1) := by decide +kernel
theorem dX6_as_0 : decode cX6_as 0 = .ok (.aload_n 0, 1) := by decide +kernel
theorem dX6_as_1 : decode cX6_as 1 = .ok (.getfield 10, 3) := by decide +kernel
theorem dX6_as_4 : decode cX6_as 4 = .ok (.iload_n 1, 1) := by decide +kernel
theorem dX6_as_5 : decode cX6_as 5 = .ok (.invokevirtual 90, 3) := by decide +kernel
theorem dX6_as_8 : decode cX6_as 8 = .ok (.ifCond .eq 10, 3) := by decide +kernel
theorem dX6_as_11 : decode cX6_as 11 = .ok (.iload_n 2, 1) := by decide +kernel
theorem dX6_as_12 : decode cX6_as 12 = .ok (.invokestatic 69, 3) := by decide +kernel
theorem dX6_as_15 : decode cX6_as 15 = .ok (.ifCond .ne 9, 3) := by decide +kernel
theorem dX6_as_18 : decode cX6_as 18 = .ok (.aload_n 0, 1) := by decide +kernel
theorem dX6_as_19 : decode cX6_as 19 = .ok (.iconst 0, 1) := by decide +kernel
theorem dX6_as_20 : decode cX6_as 20 = .ok (.invokevirtual 62, 3) := by decide +kernel
theorem dX6_as_23 : decode cX6_as 23 = .ok (.ireturn, 1) := by decide +kernel
theorem dX6_as_24 : decode cX6_as 24 = .ok (.aload_n 0, 1) := by decide +kernel
theorem dX6_as_25 : decode cX6_as 25 = .ok (.getfield 10, 3) := by decide +kernel
theorem dX6_as_28 : decode cX6_as 28 = .ok (.getfield 93, 3) := by decide +kernel
theorem dX6_as_31 : decode cX6_as 31 = .ok (.iload_n 1, 1) := by decide +kernel
theorem dX6_as_32 : decode cX6_as 32 = .ok (.iaload, 1) := by decide +kernel
theorem dX6_as_33 : decode cX6_as 33 = .ok (.iload_n 2, 1) := by decide +kernel
theorem dX6_as_34 : decode cX6_as 34 = .ok (.invokestatic 124, 3) := by decide +kernel
theorem dX6_as_37 : decode cX6_as 37 = .ok (.ifCond .ne 9, 3) := by decide +kernel
theorem dX6_as_40 : decode cX6_as 40 = .ok (.aload_n 0, 1) := by decide +kernel
theorem dX6_as_41 : decode cX6_as 41 = .ok (.iconst 2, 1) := by decide +kernel
theorem dX6_as_42 : decode cX6_as 42 = .ok (.invokevirtual 62, 3) := by decide +kernel
theorem dX6_as_45 : decode cX6_as 45 = .ok (.ireturn, 1) := by decide +kernel
theorem dX6_as_46 : decode cX6_as 46 = .ok (.aload_n 0, 1) := by decide +kernel
theorem dX6_as_47 : decode cX6_as 47 = .ok (.getfield 10, 3) := by decide +kernel
theorem dX6_as_50 : decode cX6_as 50 = .ok (.iload_n 1, 1) := by decide +kernel
theorem dX6_as_51 : decode cX6_as 51 = .ok (.invokevirtual 118, 3) := by decide +kernel
theorem dX6_as_54 : decode cX6_as 54 = .ok (.ireturn, 1) := by decide +kernel
theorem dX6_night_0 : decode cX6_night 0 = .ok (.iload_n 1, 1) := by decide +kernel
theorem dX6_night_1 : decode cX6_night 1 = .ok (.ifCond .lt 27, 3) := by decide +kernel
theorem dX6_night_4 : decode cX6_night 4 = .ok (.iload_n 1, 1) := by decide +kernel
theorem dX6_night_5 : decode cX6_night 5 = .ok (.bipush 6, 2) := by decide +kernel
theorem dX6_night_7 : decode cX6_night 7 = .ok (.if_icmp .ge 21, 3) := by decide +kernel
theorem dX6_night_10 : decode cX6_night 10 = .ok (.iload_n 2, 1) := by decide +kernel
theorem dX6_night_11 : decode cX6_night 11 = .ok (.getstatic 128, 3) := by decide +kernel
theorem dX6_night_14 : decode cX6_night 14 = .ok (.iload_n 1, 1) := by decide +kernel
theorem dX6_night_15 : decode cX6_night 15 = .ok (.iaload, 1) := by decide +kernel
theorem dX6_night_16 : decode cX6_night 16 = .ok (.if_icmp .lt 12, 3) := by decide +kernel
theorem dX6_night_19 : decode cX6_night 19 = .ok (.iload_n 2, 1) := by decide +kernel
theorem dX6_night_20 : decode cX6_night 20 = .ok (.getstatic 131, 3) := by decide +kernel
theorem dX6_night_23 : decode cX6_night 23 = .ok (.iload_n 1, 1) := by decide +kernel
theorem dX6_night_24 : decode cX6_night 24 = .ok (.iaload, 1) := by decide +kernel
theorem dX6_night_25 : decode cX6_night 25 = .ok (.if_icmp .le 9, 3) := by decide +kernel
theorem dX6_night_28 : decode cX6_night 28 = .ok (.aload_n 0, 1) := by decide +kernel
theorem dX6_night_29 : decode cX6_night 29 = .ok (.iconst 0, 1) := by decide +kernel
theorem dX6_night_30 : decode cX6_night 30 = .ok (.invokevirtual 62, 3) := by decide +kernel
theorem dX6_night_33 : decode cX6_night 33 = .ok (.ireturn, 1) := by decide +kernel
theorem dX6_night_34 : decode cX6_night 34 = .ok (.aload_n 0, 1) := by decide +kernel
theorem dX6_night_35 : decode cX6_night 35 = .ok (.getfield 10, 3) := by decide +kernel
theorem dX6_night_38 : decode cX6_night 38 = .ok (.getfield 134, 3) := by decide +kernel
theorem dX6_night_41 : decode cX6_night 41 = .ok (.iload_n 1, 1) := by decide +kernel
theorem dX6_night_42 : decode cX6_night 42 = .ok (.iaload, 1) := by decide +kernel
theorem dX6_night_43 : decode cX6_night 43 = .ok (.istore_n 3, 1) := by decide +kernel
theorem dX6_night_44 : decode cX6_night 44 = .ok (.aload_n 0, 1) := by decide +kernel
theorem dX6_night_45 : decode cX6_night 45 = .ok (.getfield 10, 3) := by decide +kernel
theorem dX6_night_48 : decode cX6_night 48 = .ok (.getfield 134, 3) := by decide +kernel
theorem dX6_night_51 : decode cX6_night 51 = .ok (.iload_n 1, 1) := by decide +kernel
theorem dX6_night_52 : decode cX6_night 52 = .ok (.iload_n 2, 1) := by decide +kernel
theorem dX6_night_53 : decode cX6_night 53 = .ok (.iastore, 1) := by decide +kernel
theorem dX6_night_54 : decode cX6_night 54 = .ok (.iload_n 3, 1) := by decide +kernel
theorem dX6_night_55 : decode cX6_night 55 = .ok (.ireturn, 1) := by decide +kernel
theorem dX6_feed_0 : decode cX6_feed 0 = .ok (.iload_n 2, 1) := by decide +kernel
theorem dX6_feed_1 : decode cX6_feed 1 = .ok (.iconst 1, 1) := by decide +kernel
theorem dX6_feed_2 : decode cX6_feed 2 = .ok (.if_icmp .lt 8, 3) := by decide +kernel
theorem dX6_feed_5 : decode cX6_feed 5 = .ok (.iload_n 2, 1) := by decide +kernel
theorem dX6_feed_6 : decode cX6_feed 6 = .ok (.iconst 4, 1) := by decide +kernel
theorem dX6_feed_7 : decode cX6_feed 7 = .ok (.if_icmp .le 9, 3) := by decide +kernel
theorem dX6_feed_10 : decode cX6_feed 10 = .ok (.aload_n 0, 1) := by decide +kernel
theorem dX6_feed_11 : decode cX6_feed 11 = .ok (.iconst 0, 1) := by decide +kernel
theorem dX6_feed_12 : decode cX6_feed 12 = .ok (.invokevirtual 62, 3) := by decide +kernel
theorem dX6_feed_15 : decode cX6_feed 15 = .ok (.ireturn, 1) := by decide +kernel
theorem dX6_feed_16 : decode cX6_feed 16 = .ok (.aload_n 0, 1) := by decide +kernel
theorem dX6_feed_17 : decode cX6_feed 17 = .ok (.getfield 43, 3) := by decide +kernel
theorem dX6_feed_20 : decode cX6_feed 20 = .ok (.getfield 137, 3) := by decide +kernel
theorem dX6_feed_23 : decode cX6_feed 23 = .ok (.getfield 141, 3) := by decide +kernel
theorem dX6_feed_26 : decode cX6_feed 26 = .ok (.bipush 120, 2) := by decide +kernel
theorem dX6_feed_28 : decode cX6_feed 28 = .ok (.iload_n 2, 1) := by decide +kernel
theorem dX6_feed_29 : decode cX6_feed 29 = .ok (.isub, 1) := by decide +kernel
theorem dX6_feed_30 : decode cX6_feed 30 = .ok (.if_icmp .le 9, 3) := by decide +kernel
theorem dX6_feed_33 : decode cX6_feed 33 = .ok (.aload_n 0, 1) := by decide +kernel
theorem dX6_feed_34 : decode cX6_feed 34 = .ok (.iconst 1, 1) := by decide +kernel
theorem dX6_feed_35 : decode cX6_feed 35 = .ok (.invokevirtual 62, 3) := by decide +kernel
theorem dX6_feed_38 : decode cX6_feed 38 = .ok (.ireturn, 1) := by decide +kernel
theorem dX6_feed_39 : decode cX6_feed 39 = .ok (.iload_n 2, 1) := by decide +kernel
theorem dX6_feed_40 : decode cX6_feed 40 = .ok (.iconst 1, 1) := by decide +kernel
theorem dX6_feed_41 : decode cX6_feed 41 = .ok (.isub, 1) := by decide +kernel
theorem dX6_feed_42 : decode cX6_feed 42 = .ok (.istore_n 3, 1) := by decide +kernel
theorem dX6_feed_43 : decode cX6_feed 43 = .ok (.iload_n 3, 1) := by decide +kernel
theorem dX6_feed_44 : decode cX6_feed 44 = .ok (.ifCond .lt 29, 3) := by decide +kernel
theorem dX6_feed_47 : decode cX6_feed 47 = .ok (.aload_n 0, 1) := by decide +kernel
theorem dX6_feed_48 : decode cX6_feed 48 = .ok (.getfield 43, 3) := by decide +kernel
theorem dX6_feed_51 : decode cX6_feed 51 = .ok (.getfield 137, 3) := by decide +kernel
theorem dX6_feed_54 : decode cX6_feed 54 = .ok (.iload_n 1, 1) := by decide +kernel
theorem dX6_feed_55 : decode cX6_feed 55 = .ok (.bipush 8, 2) := by decide +kernel
theorem dX6_feed_57 : decode cX6_feed 57 = .ok (.iload_n 3, 1) := by decide +kernel
theorem dX6_feed_58 : decode cX6_feed 58 = .ok (.imul, 1) := by decide +kernel
theorem dX6_feed_59 : decode cX6_feed 59 = .ok (.iushr, 1) := by decide +kernel
theorem dX6_feed_60 : decode cX6_feed 60 = .ok (.sipush 255, 3) := by decide +kernel
theorem dX6_feed_63 : decode cX6_feed 63 = .ok (.iand, 1) := by decide +kernel
theorem dX6_feed_64 : decode cX6_feed 64 = .ok (.invokevirtual 146, 3) := by decide +kernel
theorem dX6_feed_67 : decode cX6_feed 67 = .ok (.iinc 3 (-1), 3) := by decide +kernel
theorem dX6_feed_70 : decode cX6_feed 70 = .ok (.goto (-27), 3) := by decide +kernel
theorem dX6_feed_73 : decode cX6_feed 73 = .ok (.aload_n 0, 1) := by decide +kernel
theorem dX6_feed_74 : decode cX6_feed 74 = .ok (.getfield 43, 3) := by decide +kernel
theorem dX6_feed_77 : decode cX6_feed 77 = .ok (.getfield 137, 3) := by decide +kernel
theorem dX6_feed_80 : decode cX6_feed 80 = .ok (.getfield 141, 3) := by decide +kernel
theorem dX6_feed_83 : decode cX6_feed 83 = .ok (.ireturn, 1) := by decide +kernel
theorem dX6_wipe_0 : decode cX6_wipe 0 = .ok (.aload_n 0, 1) := by decide +kernel
theorem dX6_wipe_1 : decode cX6_wipe 1 = .ok (.getfield 43, 3) := by decide +kernel
theorem dX6_wipe_4 : decode cX6_wipe 4 = .ok (.getfield 137, 3) := by decide +kernel
theorem dX6_wipe_7 : decode cX6_wipe 7 = .ok (.getfield 141, 3) := by decide +kernel
theorem dX6_wipe_10 : decode cX6_wipe 10 = .ok (.istore_n 1, 1) := by decide +kernel
theorem dX6_wipe_11 : decode cX6_wipe 11 = .ok (.aload_n 0, 1) := by decide +kernel
theorem dX6_wipe_12 : decode cX6_wipe 12 = .ok (.getfield 43, 3) := by decide +kernel
theorem dX6_wipe_15 : decode cX6_wipe 15 = .ok (.getfield 137, 3) := by decide +kernel
theorem dX6_wipe_18 : decode cX6_wipe 18 = .ok (.iconst 0, 1) := by decide +kernel
theorem dX6_wipe_19 : decode cX6_wipe 19 = .ok (.putfield 141, 3) := by decide +kernel
theorem dX6_wipe_22 : decode cX6_wipe 22 = .ok (.iload_n 1, 1) := by decide +kernel
theorem dX6_wipe_23 : decode cX6_wipe 23 = .ok (.ireturn, 1) := by decide +kernel
theorem dX6_house_0 : decode cX6_house 0 = .ok (.aload_n 0, 1) := by decide +kernel
theorem dX6_house_1 : decode cX6_house 1 = .ok (.getfield 23, 3) := by decide +kernel
theorem dX6_house_4 : decode cX6_house 4 = .ok (.aload_n 0, 1) := by decide +kernel
theorem dX6_house_5 : decode cX6_house 5 = .ok (.getfield 10, 3) := by decide +kernel
theorem dX6_house_8 : decode cX6_house 8 = .ok (.invokevirtual 150, 3) := by decide +kernel
theorem dX6_house_11 : decode cX6_house 11 = .ok (.aload_n 0, 1) := by decide +kernel
theorem dX6_house_12 : decode cX6_house 12 = .ok (.getfield 43, 3) := by decide +kernel
theorem dX6_house_15 : decode cX6_house 15 = .ok (.aload_n 0, 1) := by decide +kernel
theorem dX6_house_16 : decode cX6_house 16 = .ok (.getfield 23, 3) := by decide +kernel
theorem dX6_house_19 : decode cX6_house 19 = .ok (.invokevirtual 154, 3) := by decide +kernel
theorem dX6_house_22 : decode cX6_house 22 = .ok (.istore_n 1, 1) := by decide +kernel
theorem dX6_house_23 : decode cX6_house 23 = .ok (.aload_n 0, 1) := by decide +kernel
theorem dX6_house_24 : decode cX6_house 24 = .ok (.getfield 43, 3) := by decide +kernel
theorem dX6_house_27 : decode cX6_house 27 = .ok (.getfield 137, 3) := by decide +kernel
theorem dX6_house_30 : decode cX6_house 30 = .ok (.iconst 0, 1) := by decide +kernel
theorem dX6_house_31 : decode cX6_house 31 = .ok (.putfield 141, 3) := by decide +kernel
theorem dX6_house_34 : decode cX6_house 34 = .ok (.iload_n 1, 1) := by decide +kernel
theorem dX6_house_35 : decode cX6_house 35 = .ok (.ifCond .ge 13, 3) := by decide +kernel
theorem dX6_house_38 : decode cX6_house 38 = .ok (.iconst (-1), 1) := by decide +kernel
theorem dX6_house_39 : decode cX6_house 39 = .ok (.aload_n 0, 1) := by decide +kernel
theorem dX6_house_40 : decode cX6_house 40 = .ok (.getfield 43, 3) := by decide +kernel
theorem dX6_house_43 : decode cX6_house 43 = .ok (.getfield 158, 3) := by decide +kernel
theorem dX6_house_46 : decode cX6_house 46 = .ok (.isub, 1) := by decide +kernel
theorem dX6_house_47 : decode cX6_house 47 = .ok (.ireturn, 1) := by decide +kernel
theorem dX6_house_48 : decode cX6_house 48 = .ok (.aload_n 0, 1) := by decide +kernel
theorem dX6_house_49 : decode cX6_house 49 = .ok (.getfield 10, 3) := by decide +kernel
theorem dX6_house_52 : decode cX6_house 52 = .ok (.aload_n 0, 1) := by decide +kernel
theorem dX6_house_53 : decode cX6_house 53 = .ok (.getfield 23, 3) := by decide +kernel
theorem dX6_house_56 : decode cX6_house 56 = .ok (.invokevirtual 150, 3) := by decide +kernel
theorem dX6_house_59 : decode cX6_house 59 = .ok (.iload_n 1, 1) := by decide +kernel
theorem dX6_house_60 : decode cX6_house 60 = .ok (.ireturn, 1) := by decide +kernel
theorem dX6_pressure_0 : decode cX6_pressure 0 = .ok (.aload_n 0, 1) := by decide +kernel
theorem dX6_pressure_1 : decode cX6_pressure 1 = .ok (.getfield 10, 3) := by decide +kernel
theorem dX6_pressure_4 : decode cX6_pressure 4 = .ok (.iload_n 1, 1) := by decide +kernel
theorem dX6_pressure_5 : decode cX6_pressure 5 = .ok (.invokevirtual 73, 3) := by decide +kernel
theorem dX6_pressure_8 : decode cX6_pressure 8 = .ok (.ifCond .ne 9, 3) := by decide +kernel
theorem dX6_pressure_11 : decode cX6_pressure 11 = .ok (.aload_n 0, 1) := by decide +kernel
theorem dX6_pressure_12 : decode cX6_pressure 12 = .ok (.iconst 0, 1) := by decide +kernel
theorem dX6_pressure_13 : decode cX6_pressure 13 = .ok (.invokevirtual 62, 3) := by decide +kernel
theorem dX6_pressure_16 : decode cX6_pressure 16 = .ok (.ireturn, 1) := by decide +kernel
theorem dX6_pressure_17 : decode cX6_pressure 17 = .ok (.aload_n 0, 1) := by decide +kernel
theorem dX6_pressure_18 : decode cX6_pressure 18 = .ok (.getfield 29, 3) := by decide +kernel
theorem dX6_pressure_21 : decode cX6_pressure 21 = .ok (.aload_n 0, 1) := by decide +kernel
theorem dX6_pressure_22 : decode cX6_pressure 22 = .ok (.getfield 10, 3) := by decide +kernel
theorem dX6_pressure_25 : decode cX6_pressure 25 = .ok (.invokevirtual 161, 3) := by decide +kernel
theorem dX6_pressure_28 : decode cX6_pressure 28 = .ok (.aload_n 0, 1) := by decide +kernel
theorem dX6_pressure_29 : decode cX6_pressure 29 = .ok (.getfield 29, 3) := by decide +kernel
theorem dX6_pressure_32 : decode cX6_pressure 32 = .ok (.getfield 164, 3) := by decide +kernel
theorem dX6_pressure_35 : decode cX6_pressure 35 = .ok (.iload_n 1, 1) := by decide +kernel
theorem dX6_pressure_36 : decode cX6_pressure 36 = .ok (.iaload, 1) := by decide +kernel
theorem dX6_pressure_37 : decode cX6_pressure 37 = .ok (.ireturn, 1) := by decide +kernel
theorem dX6_flow_0 : decode cX6_flow 0 = .ok (.aload_n 0, 1) := by decide +kernel
theorem dX6_flow_1 : decode cX6_flow 1 = .ok (.getfield 10, 3) := by decide +kernel
theorem dX6_flow_4 : decode cX6_flow 4 = .ok (.iload_n 1, 1) := by decide +kernel
theorem dX6_flow_5 : decode cX6_flow 5 = .ok (.invokevirtual 90, 3) := by decide +kernel
theorem dX6_flow_8 : decode cX6_flow 8 = .ok (.ifCond .ne 9, 3) := by decide +kernel
theorem dX6_flow_11 : decode cX6_flow 11 = .ok (.aload_n 0, 1) := by decide +kernel
theorem dX6_flow_12 : decode cX6_flow 12 = .ok (.iconst 0, 1) := by decide +kernel
theorem dX6_flow_13 : decode cX6_flow 13 = .ok (.invokevirtual 62, 3) := by decide +kernel
theorem dX6_flow_16 : decode cX6_flow 16 = .ok (.ireturn, 1) := by decide +kernel
theorem dX6_flow_17 : decode cX6_flow 17 = .ok (.aload_n 0, 1) := by decide +kernel
theorem dX6_flow_18 : decode cX6_flow 18 = .ok (.getfield 29, 3) := by decide +kernel
theorem dX6_flow_21 : decode cX6_flow 21 = .ok (.aload_n 0, 1) := by decide +kernel
theorem dX6_flow_22 : decode cX6_flow 22 = .ok (.getfield 10, 3) := by decide +kernel
theorem dX6_flow_25 : decode cX6_flow 25 = .ok (.invokevirtual 161, 3) := by decide +kernel
theorem dX6_flow_28 : decode cX6_flow 28 = .ok (.aload_n 0, 1) := by decide +kernel
theorem dX6_flow_29 : decode cX6_flow 29 = .ok (.getfield 29, 3) := by decide +kernel
theorem dX6_flow_32 : decode cX6_flow 32 = .ok (.getfield 167, 3) := by decide +kernel
theorem dX6_flow_35 : decode cX6_flow 35 = .ok (.iload_n 1, 1) := by decide +kernel
theorem dX6_flow_36 : decode cX6_flow 36 = .ok (.iaload, 1) := by decide +kernel
theorem dX6_flow_37 : decode cX6_flow 37 = .ok (.ireturn, 1) := by decide +kernel
theorem dX6_lean_0 : decode cX6_lean 0 = .ok (.aload_n 0, 1) := by decide +kernel
theorem dX6_lean_1 : decode cX6_lean 1 = .ok (.getfield 10, 3) := by decide +kernel
theorem dX6_lean_4 : decode cX6_lean 4 = .ok (.iload_n 1, 1) := by decide +kernel
theorem dX6_lean_5 : decode cX6_lean 5 = .ok (.invokevirtual 90, 3) := by decide +kernel
theorem dX6_lean_8 : decode cX6_lean 8 = .ok (.ifCond .ne 9, 3) := by decide +kernel
theorem dX6_lean_11 : decode cX6_lean 11 = .ok (.aload_n 0, 1) := by decide +kernel
theorem dX6_lean_12 : decode cX6_lean 12 = .ok (.iconst 0, 1) := by decide +kernel
theorem dX6_lean_13 : decode cX6_lean 13 = .ok (.invokevirtual 62, 3) := by decide +kernel
theorem dX6_lean_16 : decode cX6_lean 16 = .ok (.ireturn, 1) := by decide +kernel
theorem dX6_lean_17 : decode cX6_lean 17 = .ok (.aload_n 0, 1) := by decide +kernel
theorem dX6_lean_18 : decode cX6_lean 18 = .ok (.getfield 29, 3) := by decide +kernel
theorem dX6_lean_21 : decode cX6_lean 21 = .ok (.aload_n 0, 1) := by decide +kernel
theorem dX6_lean_22 : decode cX6_lean 22 = .ok (.getfield 10, 3) := by decide +kernel
theorem dX6_lean_25 : decode cX6_lean 25 = .ok (.invokevirtual 161, 3) := by decide +kernel
theorem dX6_lean_28 : decode cX6_lean 28 = .ok (.aload_n 0, 1) := by decide +kernel
theorem dX6_lean_29 : decode cX6_lean 29 = .ok (.getfield 29, 3) := by decide +kernel
theorem dX6_lean_32 : decode cX6_lean 32 = .ok (.getfield 167, 3) := by decide +kernel
theorem dX6_lean_35 : decode cX6_lean 35 = .ok (.iload_n 1, 1) := by decide +kernel
theorem dX6_lean_36 : decode cX6_lean 36 = .ok (.iaload, 1) := by decide +kernel
theorem dX6_lean_37 : decode cX6_lean 37 = .ok (.invokestatic 170, 3) := by decide +kernel
theorem dX6_lean_40 : decode cX6_lean 40 = .ok (.ireturn, 1) := by decide +kernel
theorem dX6_rounds_0 : decode cX6_rounds 0 = .ok (.aload_n 0, 1) := by decide +kernel
theorem dX6_rounds_1 : decode cX6_rounds 1 = .ok (.getfield 29, 3) := by decide +kernel
theorem dX6_rounds_4 : decode cX6_rounds 4 = .ok (.aload_n 0, 1) := by decide +kernel
theorem dX6_rounds_5 : decode cX6_rounds 5 = .ok (.getfield 10, 3) := by decide +kernel
theorem dX6_rounds_8 : decode cX6_rounds 8 = .ok (.invokevirtual 161, 3) := by decide +kernel
theorem dX6_rounds_11 : decode cX6_rounds 11 = .ok (.aload_n 0, 1) := by decide +kernel
theorem dX6_rounds_12 : decode cX6_rounds 12 = .ok (.getfield 29, 3) := by decide +kernel
theorem dX6_rounds_15 : decode cX6_rounds 15 = .ok (.getfield 173, 3) := by decide +kernel
theorem dX6_rounds_18 : decode cX6_rounds 18 = .ok (.ireturn, 1) := by decide +kernel
theorem dX6_rest_0 : decode cX6_rest 0 = .ok (.aload_n 0, 1) := by decide +kernel
theorem dX6_rest_1 : decode cX6_rest 1 = .ok (.getfield 10, 3) := by decide +kernel
theorem dX6_rest_4 : decode cX6_rest 4 = .ok (.iload_n 1, 1) := by decide +kernel
theorem dX6_rest_5 : decode cX6_rest 5 = .ok (.invokevirtual 73, 3) := by decide +kernel
theorem dX6_rest_8 : decode cX6_rest 8 = .ok (.ifCond .ne 9, 3) := by decide +kernel
theorem dX6_rest_11 : decode cX6_rest 11 = .ok (.aload_n 0, 1) := by decide +kernel
theorem dX6_rest_12 : decode cX6_rest 12 = .ok (.iconst 0, 1) := by decide +kernel
theorem dX6_rest_13 : decode cX6_rest 13 = .ok (.invokevirtual 62, 3) := by decide +kernel
theorem dX6_rest_16 : decode cX6_rest 16 = .ok (.ireturn, 1) := by decide +kernel
theorem dX6_rest_17 : decode cX6_rest 17 = .ok (.aload_n 0, 1) := by decide +kernel
theorem dX6_rest_18 : decode cX6_rest 18 = .ok (.getfield 29, 3) := by decide +kernel
theorem dX6_rest_21 : decode cX6_rest 21 = .ok (.aload_n 0, 1) := by decide +kernel
theorem dX6_rest_22 : decode cX6_rest 22 = .ok (.getfield 10, 3) := by decide +kernel
theorem dX6_rest_25 : decode cX6_rest 25 = .ok (.invokevirtual 161, 3) := by decide +kernel
theorem dX6_rest_28 : decode cX6_rest 28 = .ok (.iconst 0, 1) := by decide +kernel
theorem dX6_rest_29 : decode cX6_rest 29 = .ok (.istore_n 2, 1) := by decide +kernel
theorem dX6_rest_30 : decode cX6_rest 30 = .ok (.iconst 0, 1) := by decide +kernel
theorem dX6_rest_31 : decode cX6_rest 31 = .ok (.istore_n 3, 1) := by decide +kernel
theorem dX6_rest_32 : decode cX6_rest 32 = .ok (.iload_n 3, 1) := by decide +kernel
theorem dX6_rest_33 : decode cX6_rest 33 = .ok (.aload_n 0, 1) := by decide +kernel
theorem dX6_rest_34 : decode cX6_rest 34 = .ok (.getfield 10, 3) := by decide +kernel
theorem dX6_rest_37 : decode cX6_rest 37 = .ok (.getfield 79, 3) := by decide +kernel
theorem dX6_rest_40 : decode cX6_rest 40 = .ok (.if_icmp .ge 62, 3) := by decide +kernel
theorem dX6_rest_43 : decode cX6_rest 43 = .ok (.aload_n 0, 1) := by decide +kernel
theorem dX6_rest_44 : decode cX6_rest 44 = .ok (.getfield 10, 3) := by decide +kernel
theorem dX6_rest_47 : decode cX6_rest 47 = .ok (.getfield 96, 3) := by decide +kernel
theorem dX6_rest_50 : decode cX6_rest 50 = .ok (.iload_n 3, 1) := by decide +kernel
theorem dX6_rest_51 : decode cX6_rest 51 = .ok (.iaload, 1) := by decide +kernel
theorem dX6_rest_52 : decode cX6_rest 52 = .ok (.iload_n 1, 1) := by decide +kernel
theorem dX6_rest_53 : decode cX6_rest 53 = .ok (.if_icmp .ne 18, 3) := by decide +kernel
theorem dX6_rest_56 : decode cX6_rest 56 = .ok (.iload_n 2, 1) := by decide +kernel
theorem dX6_rest_57 : decode cX6_rest 57 = .ok (.aload_n 0, 1) := by decide +kernel
theorem dX6_rest_58 : decode cX6_rest 58 = .ok (.getfield 29, 3) := by decide +kernel
theorem dX6_rest_61 : decode cX6_rest 61 = .ok (.getfield 167, 3) := by decide +kernel
theorem dX6_rest_64 : decode cX6_rest 64 = .ok (.iload_n 3, 1) := by decide +kernel
theorem dX6_rest_65 : decode cX6_rest 65 = .ok (.iaload, 1) := by decide +kernel
theorem dX6_rest_66 : decode cX6_rest 66 = .ok (.iadd, 1) := by decide +kernel
theorem dX6_rest_67 : decode cX6_rest 67 = .ok (.istore_n 2, 1) := by decide +kernel
theorem dX6_rest_68 : decode cX6_rest 68 = .ok (.goto 28, 3) := by decide +kernel
theorem dX6_rest_71 : decode cX6_rest 71 = .ok (.aload_n 0, 1) := by decide +kernel
theorem dX6_rest_72 : decode cX6_rest 72 = .ok (.getfield 10, 3) := by decide +kernel
theorem dX6_rest_75 : decode cX6_rest 75 = .ok (.getfield 99, 3) := by decide +kernel
theorem dX6_rest_78 : decode cX6_rest 78 = .ok (.iload_n 3, 1) := by decide +kernel
theorem dX6_rest_79 : decode cX6_rest 79 = .ok (.iaload, 1) := by decide +kernel
theorem dX6_rest_80 : decode cX6_rest 80 = .ok (.iload_n 1, 1) := by decide +kernel
theorem dX6_rest_81 : decode cX6_rest 81 = .ok (.if_icmp .ne 15, 3) := by decide +kernel
theorem dX6_rest_84 : decode cX6_rest 84 = .ok (.iload_n 2, 1) := by decide +kernel
theorem dX6_rest_85 : decode cX6_rest 85 = .ok (.aload_n 0, 1) := by decide +kernel
theorem dX6_rest_86 : decode cX6_rest 86 = .ok (.getfield 29, 3) := by decide +kernel
theorem dX6_rest_89 : decode cX6_rest 89 = .ok (.getfield 167, 3) := by decide +kernel
theorem dX6_rest_92 : decode cX6_rest 92 = .ok (.iload_n 3, 1) := by decide +kernel
theorem dX6_rest_93 : decode cX6_rest 93 = .ok (.iaload, 1) := by decide +kernel
theorem dX6_rest_94 : decode cX6_rest 94 = .ok (.isub, 1) := by decide +kernel
theorem dX6_rest_95 : decode cX6_rest 95 = .ok (.istore_n 2, 1) := by decide +kernel
theorem dX6_rest_96 : decode cX6_rest 96 = .ok (.iinc 3 1, 3) := by decide +kernel
theorem dX6_rest_99 : decode cX6_rest 99 = .ok (.goto (-67), 3) := by decide +kernel
theorem dX6_rest_102 : decode cX6_rest 102 = .ok (.iload_n 2, 1) := by decide +kernel
theorem dX6_rest_103 : decode cX6_rest 103 = .ok (.ireturn, 1) := by decide +kernel
theorem dX6_air_0 : decode cX6_air 0 = .ok (.iload_n 1, 1) := by decide +kernel
theorem dX6_air_1 : decode cX6_air 1 = .ok (.ifCond .lt 8, 3) := by decide +kernel
theorem dX6_air_4 : decode cX6_air 4 = .ok (.iload_n 1, 1) := by decide +kernel
theorem dX6_air_5 : decode cX6_air 5 = .ok (.iconst 3, 1) := by decide +kernel
theorem dX6_air_6 : decode cX6_air 6 = .ok (.if_icmp .le 9, 3) := by decide +kernel
theorem dX6_air_9 : decode cX6_air 9 = .ok (.aload_n 0, 1) := by decide +kernel
theorem dX6_air_10 : decode cX6_air 10 = .ok (.iconst 0, 1) := by decide +kernel
theorem dX6_air_11 : decode cX6_air 11 = .ok (.invokevirtual 62, 3) := by decide +kernel
theorem dX6_air_14 : decode cX6_air 14 = .ok (.ireturn, 1) := by decide +kernel
theorem dX6_air_15 : decode cX6_air 15 = .ok (.aload_n 0, 1) := by decide +kernel
theorem dX6_air_16 : decode cX6_air 16 = .ok (.getfield 29, 3) := by decide +kernel
theorem dX6_air_19 : decode cX6_air 19 = .ok (.aload_n 0, 1) := by decide +kernel
theorem dX6_air_20 : decode cX6_air 20 = .ok (.getfield 10, 3) := by decide +kernel
theorem dX6_air_23 : decode cX6_air 23 = .ok (.invokevirtual 161, 3) := by decide +kernel
theorem dX6_air_26 : decode cX6_air 26 = .ok (.iload_n 1, 1) := by decide +kernel
theorem dX6_air_27 : decode cX6_air 27 = .ok (.tableswitch 57 0 2 #[25, 33, 41], 25) := by decide +kernel
theorem dX6_air_52 : decode cX6_air 52 = .ok (.aload_n 0, 1) := by decide +kernel
theorem dX6_air_53 : decode cX6_air 53 = .ok (.getfield 29, 3) := by decide +kernel
theorem dX6_air_56 : decode cX6_air 56 = .ok (.getfield 176, 3) := by decide +kernel
theorem dX6_air_59 : decode cX6_air 59 = .ok (.ireturn, 1) := by decide +kernel
theorem dX6_air_60 : decode cX6_air 60 = .ok (.aload_n 0, 1) := by decide +kernel
theorem dX6_air_61 : decode cX6_air 61 = .ok (.getfield 29, 3) := by decide +kernel
theorem dX6_air_64 : decode cX6_air 64 = .ok (.getfield 179, 3) := by decide +kernel
theorem dX6_air_67 : decode cX6_air 67 = .ok (.ireturn, 1) := by decide +kernel
theorem dX6_air_68 : decode cX6_air 68 = .ok (.aload_n 0, 1) := by decide +kernel
theorem dX6_air_69 : decode cX6_air 69 = .ok (.getfield 29, 3) := by decide +kernel
theorem dX6_air_72 : decode cX6_air 72 = .ok (.getfield 182, 3) := by decide +kernel
theorem dX6_air_75 : decode cX6_air 75 = .ok (.ifCond .eq 7, 3) := by decide +kernel
theorem dX6_air_78 : decode cX6_air 78 = .ok (.iconst 1, 1) := by decide +kernel
theorem dX6_air_79 : decode cX6_air 79 = .ok (.goto 4, 3) := by decide +kernel
theorem dX6_air_82 : decode cX6_air 82 = .ok (.iconst 0, 1) := by decide +kernel
theorem dX6_air_83 : decode cX6_air 83 = .ok (.ireturn, 1) := by decide +kernel
theorem dX6_air_84 : decode cX6_air 84 = .ok (.aload_n 0, 1) := by decide +kernel
theorem dX6_air_85 : decode cX6_air 85 = .ok (.getfield 29, 3) := by decide +kernel
theorem dX6_air_88 : decode cX6_air 88 = .ok (.getfield 185, 3) := by decide +kernel
theorem dX6_air_91 : decode cX6_air 91 = .ok (.ifCond .eq 7, 3) := by decide +kernel
theorem dX6_air_94 : decode cX6_air 94 = .ok (.iconst 1, 1) := by decide +kernel
theorem dX6_air_95 : decode cX6_air 95 = .ok (.goto 4, 3) := by decide +kernel
theorem dX6_air_98 : decode cX6_air 98 = .ok (.iconst 0, 1) := by decide +kernel
theorem dX6_air_99 : decode cX6_air 99 = .ok (.ireturn, 1) := by decide +kernel
theorem dX6_seed_0 : decode cX6_seed 0 = .ok (.aload_n 0, 1) := by decide +kernel
theorem dX6_seed_1 : decode cX6_seed 1 = .ok (.getfield 10, 3) := by decide +kernel
theorem dX6_seed_4 : decode cX6_seed 4 = .ok (.getfield 188, 3) := by decide +kernel
theorem dX6_seed_7 : decode cX6_seed 7 = .ok (.istore_n 2, 1) := by decide +kernel
theorem dX6_seed_8 : decode cX6_seed 8 = .ok (.aload_n 0, 1) := by decide +kernel
theorem dX6_seed_9 : decode cX6_seed 9 = .ok (.getfield 10, 3) := by decide +kernel
theorem dX6_seed_12 : decode cX6_seed 12 = .ok (.iload_n 1, 1) := by decide +kernel
theorem dX6_seed_13 : decode cX6_seed 13 = .ok (.putfield 188, 3) := by decide +kernel
theorem dX6_seed_16 : decode cX6_seed 16 = .ok (.iload_n 2, 1) := by decide +kernel
theorem dX6_seed_17 : decode cX6_seed 17 = .ok (.ireturn, 1) := by decide +kernel
theorem dX6_stick_0 : decode cX6_stick 0 = .ok (.aload_n 0, 1) := by decide +kernel
theorem dX6_stick_1 : decode cX6_stick 1 = .ok (.getfield 10, 3) := by decide +kernel
theorem dX6_stick_4 : decode cX6_stick 4 = .ok (.iload_n 1, 1) := by decide +kernel
theorem dX6_stick_5 : decode cX6_stick 5 = .ok (.invokevirtual 90, 3) := by decide +kernel
theorem dX6_stick_8 : decode cX6_stick 8 = .ok (.ifCond .ne 9, 3) := by decide +kernel
theorem dX6_stick_11 : decode cX6_stick 11 = .ok (.aload_n 0, 1) := by decide +kernel
theorem dX6_stick_12 : decode cX6_stick 12 = .ok (.iconst 0, 1) := by decide +kernel
theorem dX6_stick_13 : decode cX6_stick 13 = .ok (.invokevirtual 62, 3) := by decide +kernel
theorem dX6_stick_16 : decode cX6_stick 16 = .ok (.ireturn, 1) := by decide +kernel
theorem dX6_stick_17 : decode cX6_stick 17 = .ok (.aload_n 0, 1) := by decide +kernel
theorem dX6_stick_18 : decode cX6_stick 18 = .ok (.getfield 29, 3) := by decide +kernel
theorem dX6_stick_21 : decode cX6_stick 21 = .ok (.aload_n 0, 1) := by decide +kernel
theorem dX6_stick_22 : decode cX6_stick 22 = .ok (.getfield 10, 3) := by decide +kernel
theorem dX6_stick_25 : decode cX6_stick 25 = .ok (.invokevirtual 161, 3) := by decide +kernel
theorem dX6_stick_28 : decode cX6_stick 28 = .ok (.aload_n 0, 1) := by decide +kernel
theorem dX6_stick_29 : decode cX6_stick 29 = .ok (.iload_n 1, 1) := by decide +kernel
theorem dX6_stick_30 : decode cX6_stick 30 = .ok (.invokevirtual 191, 3) := by decide +kernel
theorem dX6_stick_33 : decode cX6_stick 33 = .ok (.ireturn, 1) := by decide +kernel
theorem dX6_sticks_0 : decode cX6_sticks 0 = .ok (.aload_n 0, 1) := by decide +kernel
theorem dX6_sticks_1 : decode cX6_sticks 1 = .ok (.iload_n 1, 1) := by decide +kernel
theorem dX6_sticks_2 : decode cX6_sticks 2 = .ok (.invokevirtual 194, 3) := by decide +kernel
theorem dX6_sticks_5 : decode cX6_sticks 5 = .ok (.ifCond .ne 9, 3) := by decide +kernel
theorem dX6_sticks_8 : decode cX6_sticks 8 = .ok (.aload_n 0, 1) := by decide +kernel
theorem dX6_sticks_9 : decode cX6_sticks 9 = .ok (.iconst 0, 1) := by decide +kernel
theorem dX6_sticks_10 : decode cX6_sticks 10 = .ok (.invokevirtual 62, 3) := by decide +kernel
theorem dX6_sticks_13 : decode cX6_sticks 13 = .ok (.ireturn, 1) := by decide +kernel
theorem dX6_sticks_14 : decode cX6_sticks 14 = .ok (.aload_n 0, 1) := by decide +kernel
theorem dX6_sticks_15 : decode cX6_sticks 15 = .ok (.getfield 49, 3) := by decide +kernel
theorem dX6_sticks_18 : decode cX6_sticks 18 = .ok (.iload_n 1, 1) := by decide +kernel
theorem dX6_sticks_19 : decode cX6_sticks 19 = .ok (.aaload, 1) := by decide +kernel
theorem dX6_sticks_20 : decode cX6_sticks 20 = .ok (.astore_n 2, 1) := by decide +kernel
theorem dX6_sticks_21 : decode cX6_sticks 21 = .ok (.aload_n 2, 1) := by decide +kernel
theorem dX6_sticks_22 : decode cX6_sticks 22 = .ok (.getfield 197, 3) := by decide +kernel
theorem dX6_sticks_25 : decode cX6_sticks 25 = .ok (.ifCond .ne 9, 3) := by decide +kernel
theorem dX6_sticks_28 : decode cX6_sticks 28 = .ok (.aload_n 0, 1) := by decide +kernel
theorem dX6_sticks_29 : decode cX6_sticks 29 = .ok (.iconst 5, 1) := by decide +kernel
theorem dX6_sticks_30 : decode cX6_sticks 30 = .ok (.invokevirtual 62, 3) := by decide +kernel
theorem dX6_sticks_33 : decode cX6_sticks 33 = .ok (.ireturn, 1) := by decide +kernel
theorem dX6_sticks_34 : decode cX6_sticks 34 = .ok (.aload_n 0, 1) := by decide +kernel
theorem dX6_sticks_35 : decode cX6_sticks 35 = .ok (.getfield 29, 3) := by decide +kernel
theorem dX6_sticks_38 : decode cX6_sticks 38 = .ok (.aload_n 0, 1) := by decide +kernel
theorem dX6_sticks_39 : decode cX6_sticks 39 = .ok (.getfield 10, 3) := by decide +kernel
theorem dX6_sticks_42 : decode cX6_sticks 42 = .ok (.invokevirtual 161, 3) := by decide +kernel
theorem dX6_sticks_45 : decode cX6_sticks 45 = .ok (.aload_n 0, 1) := by decide +kernel
theorem dX6_sticks_46 : decode cX6_sticks 46 = .ok (.getfield 10, 3) := by decide +kernel
theorem dX6_sticks_49 : decode cX6_sticks 49 = .ok (.getfield 79, 3) := by decide +kernel
theorem dX6_sticks_52 : decode cX6_sticks 52 = .ok (.aload_n 2, 1) := by decide +kernel
theorem dX6_sticks_53 : decode cX6_sticks 53 = .ok (.getfield 200, 3) := by decide +kernel
theorem dX6_sticks_56 : decode cX6_sticks 56 = .ok (.invokestatic 203, 3) := by decide +kernel
theorem dX6_sticks_59 : decode cX6_sticks 59 = .ok (.istore_n 3, 1) := by decide +kernel
theorem dX6_sticks_60 : decode cX6_sticks 60 = .ok (.iconst 0, 1) := by decide +kernel
theorem dX6_sticks_61 : decode cX6_sticks 61 = .ok (.istore 4, 2) := by decide +kernel
theorem dX6_sticks_63 : decode cX6_sticks 63 = .ok (.iload 4, 2) := by decide +kernel
theorem dX6_sticks_65 : decode cX6_sticks 65 = .ok (.iload_n 3, 1) := by decide +kernel
theorem dX6_sticks_66 : decode cX6_sticks 66 = .ok (.if_icmp .ge 22, 3) := by decide +kernel
theorem dX6_sticks_69 : decode cX6_sticks 69 = .ok (.aload_n 2, 1) := by decide +kernel
theorem dX6_sticks_70 : decode cX6_sticks 70 = .ok (.iload 4, 2) := by decide +kernel
theorem dX6_sticks_72 : decode cX6_sticks 72 = .ok (.aload_n 0, 1) := by decide +kernel
theorem dX6_sticks_73 : decode cX6_sticks 73 = .ok (.iload 4, 2) := by decide +kernel
theorem dX6_sticks_75 : decode cX6_sticks 75 = .ok (.invokevirtual 191, 3) := by decide +kernel
theorem dX6_sticks_78 : decode cX6_sticks 78 = .ok (.i2l, 1) := by decide +kernel
theorem dX6_sticks_79 : decode cX6_sticks 79 = .ok (.invokevirtual 209, 3) := by decide +kernel
theorem dX6_sticks_82 : decode cX6_sticks 82 = .ok (.iinc 4 1, 3) := by decide +kernel
theorem dX6_sticks_85 : decode cX6_sticks 85 = .ok (.goto (-22), 3) := by decide +kernel
theorem dX6_sticks_88 : decode cX6_sticks 88 = .ok (.iload_n 3, 1) := by decide +kernel
theorem dX6_sticks_89 : decode cX6_sticks 89 = .ok (.ireturn, 1) := by decide +kernel
theorem dX6_widths_0 : decode cX6_widths 0 = .ok (.aload_n 0, 1) := by decide +kernel
theorem dX6_widths_1 : decode cX6_widths 1 = .ok (.getfield 10, 3) := by decide +kernel
theorem dX6_widths_4 : decode cX6_widths 4 = .ok (.iload_n 1, 1) := by decide +kernel
theorem dX6_widths_5 : decode cX6_widths 5 = .ok (.invokevirtual 90, 3) := by decide +kernel
theorem dX6_widths_8 : decode cX6_widths 8 = .ok (.ifCond .eq 24, 3) := by decide +kernel
theorem dX6_widths_11 : decode cX6_widths 11 = .ok (.iload_n 2, 1) := by decide +kernel
theorem dX6_widths_12 : decode cX6_widths 12 = .ok (.bipush (-9), 2) := by decide +kernel
theorem dX6_widths_14 : decode cX6_widths 14 = .ok (.if_icmp .lt 18, 3) := by decide +kernel
theorem dX6_widths_17 : decode cX6_widths 17 = .ok (.iload_n 2, 1) := by decide +kernel
theorem dX6_widths_18 : decode cX6_widths 18 = .ok (.bipush 9, 2) := by decide +kernel
theorem dX6_widths_20 : decode cX6_widths 20 = .ok (.if_icmp .gt 12, 3) := by decide +kernel
theorem dX6_widths_23 : decode cX6_widths 23 = .ok (.iload_n 3, 1) := by decide +kernel
theorem dX6_widths_24 : decode cX6_widths 24 = .ok (.ifCond .lt 8, 3) := by decide +kernel
theorem dX6_widths_27 : decode cX6_widths 27 = .ok (.iload_n 3, 1) := by decide +kernel
theorem dX6_widths_28 : decode cX6_widths 28 = .ok (.iconst 2, 1) := by decide +kernel
theorem dX6_widths_29 : decode cX6_widths 29 = .ok (.if_icmp .le 9, 3) := by decide +kernel
theorem dX6_widths_32 : decode cX6_widths 32 = .ok (.aload_n 0, 1) := by decide +kernel
theorem dX6_widths_33 : decode cX6_widths 33 = .ok (.iconst 0, 1) := by decide +kernel
theorem dX6_widths_34 : decode cX6_widths 34 = .ok (.invokevirtual 62, 3) := by decide +kernel
theorem dX6_widths_37 : decode cX6_widths 37 = .ok (.ireturn, 1) := by decide +kernel
theorem dX6_widths_38 : decode cX6_widths 38 = .ok (.aload_n 0, 1) := by decide +kernel
theorem dX6_widths_39 : decode cX6_widths 39 = .ok (.getfield 36, 3) := by decide +kernel
theorem dX6_widths_42 : decode cX6_widths 42 = .ok (.aload_n 0, 1) := by decide +kernel
theorem dX6_widths_43 : decode cX6_widths 43 = .ok (.getfield 10, 3) := by decide +kernel
theorem dX6_widths_46 : decode cX6_widths 46 = .ok (.iload_n 1, 1) := by decide +kernel
theorem dX6_widths_47 : decode cX6_widths 47 = .ok (.iload_n 2, 1) := by decide +kernel
theorem dX6_widths_48 : decode cX6_widths 48 = .ok (.invokevirtual 212, 3) := by decide +kernel
theorem dX6_widths_51 : decode cX6_widths 51 = .ok (.iload_n 3, 1) := by decide +kernel
theorem dX6_widths_52 : decode cX6_widths 52 = .ok (.ifCond .ne 11, 3) := by decide +kernel
theorem dX6_widths_55 : decode cX6_widths 55 = .ok (.aload_n 0, 1) := by decide +kernel
theorem dX6_widths_56 : decode cX6_widths 56 = .ok (.getfield 36, 3) := by decide +kernel
theorem dX6_widths_59 : decode cX6_widths 59 = .ok (.getfield 216, 3) := by decide +kernel
theorem dX6_widths_62 : decode cX6_widths 62 = .ok (.ireturn, 1) := by decide +kernel
theorem dX6_widths_63 : decode cX6_widths 63 = .ok (.aload_n 0, 1) := by decide +kernel
theorem dX6_widths_64 : decode cX6_widths 64 = .ok (.getfield 36, 3) := by decide +kernel
theorem dX6_widths_67 : decode cX6_widths 67 = .ok (.getfield 216, 3) := by decide +kernel
theorem dX6_widths_70 : decode cX6_widths 70 = .ok (.ifCond .ne 9, 3) := by decide +kernel
theorem dX6_widths_73 : decode cX6_widths 73 = .ok (.aload_n 0, 1) := by decide +kernel
theorem dX6_widths_74 : decode cX6_widths 74 = .ok (.iconst 3, 1) := by decide +kernel
theorem dX6_widths_75 : decode cX6_widths 75 = .ok (.invokevirtual 62, 3) := by decide +kernel
theorem dX6_widths_78 : decode cX6_widths 78 = .ok (.ireturn, 1) := by decide +kernel
theorem dX6_widths_79 : decode cX6_widths 79 = .ok (.iload_n 3, 1) := by decide +kernel
theorem dX6_widths_80 : decode cX6_widths 80 = .ok (.iconst 1, 1) := by decide +kernel
theorem dX6_widths_81 : decode cX6_widths 81 = .ok (.if_icmp .ne 13, 3) := by decide +kernel
theorem dX6_widths_84 : decode cX6_widths 84 = .ok (.aload_n 0, 1) := by decide +kernel
theorem dX6_widths_85 : decode cX6_widths 85 = .ok (.getfield 36, 3) := by decide +kernel
theorem dX6_widths_88 : decode cX6_widths 88 = .ok (.getfield 219, 3) := by decide +kernel
theorem dX6_widths_91 : decode cX6_widths 91 = .ok (.goto 10, 3) := by decide +kernel
theorem dX6_widths_94 : decode cX6_widths 94 = .ok (.aload_n 0, 1) := by decide +kernel
theorem dX6_widths_95 : decode cX6_widths 95 = .ok (.getfield 36, 3) := by decide +kernel
theorem dX6_widths_98 : decode cX6_widths 98 = .ok (.getfield 222, 3) := by decide +kernel
theorem dX6_widths_101 : decode cX6_widths 101 = .ok (.ireturn, 1) := by decide +kernel
theorem dX6_most_0 : decode cX6_most 0 = .ok (.aload_n 0, 1) := by decide +kernel
theorem dX6_most_1 : decode cX6_most 1 = .ok (.getfield 10, 3) := by decide +kernel
theorem dX6_most_4 : decode cX6_most 4 = .ok (.getfield 79, 3) := by decide +kernel
theorem dX6_most_7 : decode cX6_most 7 = .ok (.ifCond .ne 9, 3) := by decide +kernel
theorem dX6_most_10 : decode cX6_most 10 = .ok (.aload_n 0, 1) := by decide +kernel
theorem dX6_most_11 : decode cX6_most 11 = .ok (.iconst 3, 1) := by decide +kernel
theorem dX6_most_12 : decode cX6_most 12 = .ok (.invokevirtual 62, 3) := by decide +kernel
theorem dX6_most_15 : decode cX6_most 15 = .ok (.ireturn, 1) := by decide +kernel
theorem dX6_most_16 : decode cX6_most 16 = .ok (.aload_n 0, 1) := by decide +kernel
theorem dX6_most_17 : decode cX6_most 17 = .ok (.getfield 29, 3) := by decide +kernel
theorem dX6_most_20 : decode cX6_most 20 = .ok (.aload_n 0, 1) := by decide +kernel
theorem dX6_most_21 : decode cX6_most 21 = .ok (.getfield 10, 3) := by decide +kernel
theorem dX6_most_24 : decode cX6_most 24 = .ok (.invokevirtual 161, 3) := by decide +kernel
theorem dX6_most_27 : decode cX6_most 27 = .ok (.iconst 0, 1) := by decide +kernel
theorem dX6_most_28 : decode cX6_most 28 = .ok (.istore_n 1, 1) := by decide +kernel
theorem dX6_most_29 : decode cX6_most 29 = .ok (.iconst 1, 1) := by decide +kernel
theorem dX6_most_30 : decode cX6_most 30 = .ok (.istore_n 2, 1) := by decide +kernel
theorem dX6_most_31 : decode cX6_most 31 = .ok (.iload_n 2, 1) := by decide +kernel
theorem dX6_most_32 : decode cX6_most 32 = .ok (.aload_n 0, 1) := by decide +kernel
theorem dX6_most_33 : decode cX6_most 33 = .ok (.getfield 10, 3) := by decide +kernel
theorem dX6_most_36 : decode cX6_most 36 = .ok (.getfield 79, 3) := by decide +kernel
theorem dX6_most_39 : decode cX6_most 39 = .ok (.if_icmp .ge 38, 3) := by decide +kernel
theorem dX6_most_42 : decode cX6_most 42 = .ok (.aload_n 0, 1) := by decide +kernel
theorem dX6_most_43 : decode cX6_most 43 = .ok (.getfield 29, 3) := by decide +kernel
theorem dX6_most_46 : decode cX6_most 46 = .ok (.getfield 167, 3) := by decide +kernel
theorem dX6_most_49 : decode cX6_most 49 = .ok (.iload_n 2, 1) := by decide +kernel
theorem dX6_most_50 : decode cX6_most 50 = .ok (.iaload, 1) := by decide +kernel
theorem dX6_most_51 : decode cX6_most 51 = .ok (.invokestatic 225, 3) := by decide +kernel
theorem dX6_most_54 : decode cX6_most 54 = .ok (.aload_n 0, 1) := by decide +kernel
theorem dX6_most_55 : decode cX6_most 55 = .ok (.getfield 29, 3) := by decide +kernel
theorem dX6_most_58 : decode cX6_most 58 = .ok (.getfield 167, 3) := by decide +kernel
theorem dX6_most_61 : decode cX6_most 61 = .ok (.iload_n 1, 1) := by decide +kernel
theorem dX6_most_62 : decode cX6_most 62 = .ok (.iaload, 1) := by decide +kernel
theorem dX6_most_63 : decode cX6_most 63 = .ok (.invokestatic 225, 3) := by decide +kernel
theorem dX6_most_66 : decode cX6_most 66 = .ok (.if_icmp .le 5, 3) := by decide +kernel
theorem dX6_most_69 : decode cX6_most 69 = .ok (.iload_n 2, 1) := by decide +kernel
theorem dX6_most_70 : decode cX6_most 70 = .ok (.istore_n 1, 1) := by decide +kernel
theorem dX6_most_71 : decode cX6_most 71 = .ok (.iinc 2 1, 3) := by decide +kernel
theorem dX6_most_74 : decode cX6_most 74 = .ok (.goto (-43), 3) := by decide +kernel
theorem dX6_most_77 : decode cX6_most 77 = .ok (.iload_n 1, 1) := by decide +kernel
theorem dX6_most_78 : decode cX6_most 78 = .ok (.ireturn, 1) := by decide +kernel
theorem dX6_stop_0 : decode cX6_stop 0 = .ok (.aload_n 0, 1) := by decide +kernel
theorem dX6_stop_1 : decode cX6_stop 1 = .ok (.iload_n 1, 1) := by decide +kernel
theorem dX6_stop_2 : decode cX6_stop 2 = .ok (.invokevirtual 228, 3) := by decide +kernel
theorem dX6_stop_5 : decode cX6_stop 5 = .ok (.ifCond .eq 35, 3) := by decide +kernel
theorem dX6_stop_8 : decode cX6_stop 8 = .ok (.iload_n 2, 1) := by decide +kernel
theorem dX6_stop_9 : decode cX6_stop 9 = .ok (.ifCond .lt 31, 3) := by decide +kernel
theorem dX6_stop_12 : decode cX6_stop 12 = .ok (.iload_n 2, 1) := by decide +kernel
theorem dX6_stop_13 : decode cX6_stop 13 = .ok (.sipush 999, 3) := by decide +kernel
theorem dX6_stop_16 : decode cX6_stop 16 = .ok (.if_icmp .gt 24, 3) := by decide +kernel
theorem dX6_stop_19 : decode cX6_stop 19 = .ok (.iload_n 3, 1) := by decide +kernel
theorem dX6_stop_20 : decode cX6_stop 20 = .ok (.ifCond .lt 20, 3) := by decide +kernel
theorem dX6_stop_23 : decode cX6_stop 23 = .ok (.iload_n 3, 1) := by decide +kernel
theorem dX6_stop_24 : decode cX6_stop 24 = .ok (.ldc 231, 2) := by decide +kernel
theorem dX6_stop_26 : decode cX6_stop 26 = .ok (.if_icmp .gt 14, 3) := by decide +kernel
theorem dX6_stop_29 : decode cX6_stop 29 = .ok (.iload 4, 2) := by decide +kernel
theorem dX6_stop_31 : decode cX6_stop 31 = .ok (.ifCond .lt 9, 3) := by decide +kernel
theorem dX6_stop_34 : decode cX6_stop 34 = .ok (.iload 4, 2) := by decide +kernel
theorem dX6_stop_36 : decode cX6_stop 36 = .ok (.iconst 2, 1) := by decide +kernel
theorem dX6_stop_37 : decode cX6_stop 37 = .ok (.if_icmp .le 9, 3) := by decide +kernel
theorem dX6_stop_40 : decode cX6_stop 40 = .ok (.aload_n 0, 1) := by decide +kernel
theorem dX6_stop_41 : decode cX6_stop 41 = .ok (.iconst 0, 1) := by decide +kernel
theorem dX6_stop_42 : decode cX6_stop 42 = .ok (.invokevirtual 62, 3) := by decide +kernel
theorem dX6_stop_45 : decode cX6_stop 45 = .ok (.ireturn, 1) := by decide +kernel
theorem dX6_stop_46 : decode cX6_stop 46 = .ok (.aload_n 0, 1) := by decide +kernel
theorem dX6_stop_47 : decode cX6_stop 47 = .ok (.getfield 36, 3) := by decide +kernel
theorem dX6_stop_50 : decode cX6_stop 50 = .ok (.aload_n 0, 1) := by decide +kernel
theorem dX6_stop_51 : decode cX6_stop 51 = .ok (.getfield 10, 3) := by decide +kernel
theorem dX6_stop_54 : decode cX6_stop 54 = .ok (.iload_n 1, 1) := by decide +kernel
theorem dX6_stop_55 : decode cX6_stop 55 = .ok (.iload_n 2, 1) := by decide +kernel
theorem dX6_stop_56 : decode cX6_stop 56 = .ok (.iload_n 3, 1) := by decide +kernel
theorem dX6_stop_57 : decode cX6_stop 57 = .ok (.invokevirtual 232, 3) := by decide +kernel
theorem dX6_stop_60 : decode cX6_stop 60 = .ok (.ifCond .ne 9, 3) := by decide +kernel
theorem dX6_stop_63 : decode cX6_stop 63 = .ok (.aload_n 0, 1) := by decide +kernel
theorem dX6_stop_64 : decode cX6_stop 64 = .ok (.iconst 3, 1) := by decide +kernel
theorem dX6_stop_65 : decode cX6_stop 65 = .ok (.invokevirtual 62, 3) := by decide +kernel
theorem dX6_stop_68 : decode cX6_stop 68 = .ok (.ireturn, 1) := by decide +kernel
theorem dX6_stop_69 : decode cX6_stop 69 = .ok (.iload 4, 2) := by decide +kernel
theorem dX6_stop_71 : decode cX6_stop 71 = .ok (.lookupswitch 41 #[(0, 25), (1, 33)], 25) := by decide +kernel
theorem dX6_stop_96 : decode cX6_stop 96 = .ok (.aload_n 0, 1) := by decide +kernel
theorem dX6_stop_97 : decode cX6_stop 97 = .ok (.getfield 36, 3) := by decide +kernel
theorem dX6_stop_100 : decode cX6_stop 100 = .ok (.getfield 236, 3) := by decide +kernel
theorem dX6_stop_103 : decode cX6_stop 103 = .ok (.ireturn, 1) := by decide +kernel
theorem dX6_stop_104 : decode cX6_stop 104 = .ok (.aload_n 0, 1) := by decide +kernel
theorem dX6_stop_105 : decode cX6_stop 105 = .ok (.getfield 36, 3) := by decide +kernel
theorem dX6_stop_108 : decode cX6_stop 108 = .ok (.getfield 239, 3) := by decide +kernel
theorem dX6_stop_111 : decode cX6_stop 111 = .ok (.ireturn, 1) := by decide +kernel
theorem dX6_stop_112 : decode cX6_stop 112 = .ok (.aload_n 0, 1) := by decide +kernel
theorem dX6_stop_113 : decode cX6_stop 113 = .ok (.getfield 36, 3) := by decide +kernel
theorem dX6_stop_116 : decode cX6_stop 116 = .ok (.getfield 242, 3) := by decide +kernel
theorem dX6_stop_119 : decode cX6_stop 119 = .ok (.ireturn, 1) := by decide +kernel
theorem dX6_order_0 : decode cX6_order 0 = .ok (.iload_n 1, 1) := by decide +kernel
theorem dX6_order_1 : decode cX6_order 1 = .ok (.ifCond .lt 9, 3) := by decide +kernel
theorem dX6_order_4 : decode cX6_order 4 = .ok (.iload_n 1, 1) := by decide +kernel
theorem dX6_order_5 : decode cX6_order 5 = .ok (.bipush 20, 2) := by decide +kernel
theorem dX6_order_7 : decode cX6_order 7 = .ok (.if_icmp .lt 9, 3) := by decide +kernel
theorem dX6_order_10 : decode cX6_order 10 = .ok (.aload_n 0, 1) := by decide +kernel
theorem dX6_order_11 : decode cX6_order 11 = .ok (.iconst 0, 1) := by decide +kernel
theorem dX6_order_12 : decode cX6_order 12 = .ok (.invokevirtual 62, 3) := by decide +kernel
theorem dX6_order_15 : decode cX6_order 15 = .ok (.ireturn, 1) := by decide +kernel
theorem dX6_order_16 : decode cX6_order 16 = .ok (.aload_n 0, 1) := by decide +kernel
theorem dX6_order_17 : decode cX6_order 17 = .ok (.getfield 36, 3) := by decide +kernel
theorem dX6_order_20 : decode cX6_order 20 = .ok (.aload_n 0, 1) := by decide +kernel
theorem dX6_order_21 : decode cX6_order 21 = .ok (.getfield 10, 3) := by decide +kernel
theorem dX6_order_24 : decode cX6_order 24 = .ok (.invokevirtual 245, 3) := by decide +kernel
theorem dX6_order_27 : decode cX6_order 27 = .ok (.iload_n 1, 1) := by decide +kernel
theorem dX6_order_28 : decode cX6_order 28 = .ok (.aload_n 0, 1) := by decide +kernel
theorem dX6_order_29 : decode cX6_order 29 = .ok (.getfield 36, 3) := by decide +kernel
theorem dX6_order_32 : decode cX6_order 32 = .ok (.getfield 248, 3) := by decide +kernel
theorem dX6_order_35 : decode cX6_order 35 = .ok (.if_icmp .ge 15, 3) := by decide +kernel
theorem dX6_order_38 : decode cX6_order 38 = .ok (.aload_n 0, 1) := by decide +kernel
theorem dX6_order_39 : decode cX6_order 39 = .ok (.getfield 36, 3) := by decide +kernel
theorem dX6_order_42 : decode cX6_order 42 = .ok (.getfield 251, 3) := by decide +kernel
theorem dX6_order_45 : decode cX6_order 45 = .ok (.iload_n 1, 1) := by decide +kernel
theorem dX6_order_46 : decode cX6_order 46 = .ok (.iaload, 1) := by decide +kernel
theorem dX6_order_47 : decode cX6_order 47 = .ok (.goto 8, 3) := by decide +kernel
theorem dX6_order_50 : decode cX6_order 50 = .ok (.aload_n 0, 1) := by decide +kernel
theorem dX6_order_51 : decode cX6_order 51 = .ok (.iconst 3, 1) := by decide +kernel
theorem dX6_order_52 : decode cX6_order 52 = .ok (.invokevirtual 62, 3) := by decide +kernel
theorem dX6_order_55 : decode cX6_order 55 = .ok (.ireturn, 1) := by decide +kernel
theorem dX6_saved_0 : decode cX6_saved 0 = .ok (.iload_n 1, 1) := by decide +kernel
theorem dX6_saved_1 : decode cX6_saved 1 = .ok (.ifCond .lt 9, 3) := by decide +kernel
theorem dX6_saved_4 : decode cX6_saved 4 = .ok (.iload_n 1, 1) := by decide +kernel
theorem dX6_saved_5 : decode cX6_saved 5 = .ok (.bipush 20, 2) := by decide +kernel
theorem dX6_saved_7 : decode cX6_saved 7 = .ok (.if_icmp .le 9, 3) := by decide +kernel
theorem dX6_saved_10 : decode cX6_saved 10 = .ok (.aload_n 0, 1) := by decide +kernel
theorem dX6_saved_11 : decode cX6_saved 11 = .ok (.iconst 0, 1) := by decide +kernel
theorem dX6_saved_12 : decode cX6_saved 12 = .ok (.invokevirtual 62, 3) := by decide +kernel
theorem dX6_saved_15 : decode cX6_saved 15 = .ok (.ireturn, 1) := by decide +kernel
theorem dX6_saved_16 : decode cX6_saved 16 = .ok (.aload_n 0, 1) := by decide +kernel
theorem dX6_saved_17 : decode cX6_saved 17 = .ok (.getfield 36, 3) := by decide +kernel
theorem dX6_saved_20 : decode cX6_saved 20 = .ok (.aload_n 0, 1) := by decide +kernel
theorem dX6_saved_21 : decode cX6_saved 21 = .ok (.getfield 10, 3) := by decide +kernel
theorem dX6_saved_24 : decode cX6_saved 24 = .ok (.invokevirtual 245, 3) := by decide +kernel
theorem dX6_saved_27 : decode cX6_saved 27 = .ok (.aload_n 0, 1) := by decide +kernel
theorem dX6_saved_28 : decode cX6_saved 28 = .ok (.getfield 36, 3) := by decide +kernel
theorem dX6_saved_31 : decode cX6_saved 31 = .ok (.getfield 254, 3) := by decide +kernel
theorem dX6_saved_34 : decode cX6_saved 34 = .ok (.iload_n 1, 1) := by decide +kernel
theorem dX6_saved_35 : decode cX6_saved 35 = .ok (.aload_n 0, 1) := by decide +kernel
theorem dX6_saved_36 : decode cX6_saved 36 = .ok (.getfield 36, 3) := by decide +kernel
theorem dX6_saved_39 : decode cX6_saved 39 = .ok (.getfield 248, 3) := by decide +kernel
theorem dX6_saved_42 : decode cX6_saved 42 = .ok (.invokestatic 203, 3) := by decide +kernel
theorem dX6_saved_45 : decode cX6_saved 45 = .ok (.iaload, 1) := by decide +kernel
theorem dX6_saved_46 : decode cX6_saved 46 = .ok (.ireturn, 1) := by decide +kernel
theorem dX6_line_0 : decode cX6_line 0 = .ok (.aload_n 0, 1) := by decide +kernel
theorem dX6_line_1 : decode cX6_line 1 = .ok (.getfield 36, 3) := by decide +kernel
theorem dX6_line_4 : decode cX6_line 4 = .ok (.aload_n 0, 1) := by decide +kernel
theorem dX6_line_5 : decode cX6_line 5 = .ok (.getfield 10, 3) := by decide +kernel
theorem dX6_line_8 : decode cX6_line 8 = .ok (.invokevirtual 257, 3) := by decide +kernel
theorem dX6_line_11 : decode cX6_line 11 = .ok (.istore_n 1, 1) := by decide +kernel
theorem dX6_line_12 : decode cX6_line 12 = .ok (.iload_n 1, 1) := by decide +kernel
theorem dX6_line_13 : decode cX6_line 13 = .ok (.ifCond .ge 11, 3) := by decide +kernel
theorem dX6_line_16 : decode cX6_line 16 = .ok (.aload_n 0, 1) := by decide +kernel
theorem dX6_line_17 : decode cX6_line 17 = .ok (.iconst 3, 1) := by decide +kernel
theorem dX6_line_18 : decode cX6_line 18 = .ok (.invokevirtual 62, 3) := by decide +kernel
theorem dX6_line_21 : decode cX6_line 21 = .ok (.goto 4, 3) := by decide +kernel
theorem dX6_line_24 : decode cX6_line 24 = .ok (.iload_n 1, 1) := by decide +kernel
theorem dX6_line_25 : decode cX6_line 25 = .ok (.ireturn, 1) := by decide +kernel
theorem dX6_alone_0 : decode cX6_alone 0 = .ok (.aload_n 0, 1) := by decide +kernel
theorem dX6_alone_1 : decode cX6_alone 1 = .ok (.getfield 10, 3) := by decide +kernel
theorem dX6_alone_4 : decode cX6_alone 4 = .ok (.iload_n 1, 1) := by decide +kernel
theorem dX6_alone_5 : decode cX6_alone 5 = .ok (.invokevirtual 90, 3) := by decide +kernel
theorem dX6_alone_8 : decode cX6_alone 8 = .ok (.ifCond .eq 19, 3) := by decide +kernel
theorem dX6_alone_11 : decode cX6_alone 11 = .ok (.aload_n 0, 1) := by decide +kernel
theorem dX6_alone_12 : decode cX6_alone 12 = .ok (.getfield 10, 3) := by decide +kernel
theorem dX6_alone_15 : decode cX6_alone 15 = .ok (.iload_n 2, 1) := by decide +kernel
theorem dX6_alone_16 : decode cX6_alone 16 = .ok (.invokevirtual 90, 3) := by decide +kernel
theorem dX6_alone_19 : decode cX6_alone 19 = .ok (.ifCond .eq 8, 3) := by decide +kernel
theorem dX6_alone_22 : decode cX6_alone 22 = .ok (.iload_n 1, 1) := by decide +kernel
theorem dX6_alone_23 : decode cX6_alone 23 = .ok (.iload_n 2, 1) := by decide +kernel
theorem dX6_alone_24 : decode cX6_alone 24 = .ok (.if_icmp .ne 9, 3) := by decide +kernel
theorem dX6_alone_27 : decode cX6_alone 27 = .ok (.aload_n 0, 1) := by decide +kernel
theorem dX6_alone_28 : decode cX6_alone 28 = .ok (.iconst 0, 1) := by decide +kernel
theorem dX6_alone_29 : decode cX6_alone 29 = .ok (.invokevirtual 62, 3) := by decide +kernel
theorem dX6_alone_32 : decode cX6_alone 32 = .ok (.ireturn, 1) := by decide +kernel
theorem dX6_alone_33 : decode cX6_alone 33 = .ok (.aload_n 0, 1) := by decide +kernel
theorem dX6_alone_34 : decode cX6_alone 34 = .ok (.getfield 29, 3) := by decide +kernel
theorem dX6_alone_37 : decode cX6_alone 37 = .ok (.aload_n 0, 1) := by decide +kernel
theorem dX6_alone_38 : decode cX6_alone 38 = .ok (.getfield 10, 3) := by decide +kernel
theorem dX6_alone_41 : decode cX6_alone 41 = .ok (.invokevirtual 161, 3) := by decide +kernel
theorem dX6_alone_44 : decode cX6_alone 44 = .ok (.aload_n 0, 1) := by decide +kernel
theorem dX6_alone_45 : decode cX6_alone 45 = .ok (.getfield 36, 3) := by decide +kernel
theorem dX6_alone_48 : decode cX6_alone 48 = .ok (.aload_n 0, 1) := by decide +kernel
theorem dX6_alone_49 : decode cX6_alone 49 = .ok (.getfield 10, 3) := by decide +kernel
theorem dX6_alone_52 : decode cX6_alone 52 = .ok (.iload_n 2, 1) := by decide +kernel
theorem dX6_alone_53 : decode cX6_alone 53 = .ok (.invokevirtual 260, 3) := by decide +kernel
theorem dX6_alone_56 : decode cX6_alone 56 = .ok (.aload_n 0, 1) := by decide +kernel
theorem dX6_alone_57 : decode cX6_alone 57 = .ok (.getfield 36, 3) := by decide +kernel
theorem dX6_alone_60 : decode cX6_alone 60 = .ok (.getfield 264, 3) := by decide +kernel
theorem dX6_alone_63 : decode cX6_alone 63 = .ok (.getfield 167, 3) := by decide +kernel
theorem dX6_alone_66 : decode cX6_alone 66 = .ok (.iload_n 1, 1) := by decide +kernel
theorem dX6_alone_67 : decode cX6_alone 67 = .ok (.iaload, 1) := by decide +kernel
theorem dX6_alone_68 : decode cX6_alone 68 = .ok (.aload_n 0, 1) := by decide +kernel
theorem dX6_alone_69 : decode cX6_alone 69 = .ok (.getfield 29, 3) := by decide +kernel
theorem dX6_alone_72 : decode cX6_alone 72 = .ok (.getfield 167, 3) := by decide +kernel
theorem dX6_alone_75 : decode cX6_alone 75 = .ok (.iload_n 1, 1) := by decide +kernel
theorem dX6_alone_76 : decode cX6_alone 76 = .ok (.iaload, 1) := by decide +kernel
theorem dX6_alone_77 : decode cX6_alone 77 = .ok (.isub, 1) := by decide +kernel
theorem dX6_alone_78 : decode cX6_alone 78 = .ok (.ireturn, 1) := by decide +kernel
theorem dX6_turns_0 : decode cX6_turns 0 = .ok (.aload_n 0, 1) := by decide +kernel
theorem dX6_turns_1 : decode cX6_turns 1 = .ok (.getfield 10, 3) := by decide +kernel
theorem dX6_turns_4 : decode cX6_turns 4 = .ok (.iload_n 1, 1) := by decide +kernel
theorem dX6_turns_5 : decode cX6_turns 5 = .ok (.invokevirtual 90, 3) := by decide +kernel
theorem dX6_turns_8 : decode cX6_turns 8 = .ok (.ifCond .ne 9, 3) := by decide +kernel
theorem dX6_turns_11 : decode cX6_turns 11 = .ok (.aload_n 0, 1) := by decide +kernel
theorem dX6_turns_12 : decode cX6_turns 12 = .ok (.iconst 0, 1) := by decide +kernel
theorem dX6_turns_13 : decode cX6_turns 13 = .ok (.invokevirtual 62, 3) := by decide +kernel
theorem dX6_turns_16 : decode cX6_turns 16 = .ok (.ireturn, 1) := by decide +kernel
theorem dX6_turns_17 : decode cX6_turns 17 = .ok (.aload_n 0, 1) := by decide +kernel
theorem dX6_turns_18 : decode cX6_turns 18 = .ok (.getfield 29, 3) := by decide +kernel
theorem dX6_turns_21 : decode cX6_turns 21 = .ok (.aload_n 0, 1) := by decide +kernel
theorem dX6_turns_22 : decode cX6_turns 22 = .ok (.getfield 10, 3) := by decide +kernel
theorem dX6_turns_25 : decode cX6_turns 25 = .ok (.invokevirtual 161, 3) := by decide +kernel
theorem dX6_turns_28 : decode cX6_turns 28 = .ok (.aload_n 0, 1) := by decide +kernel
theorem dX6_turns_29 : decode cX6_turns 29 = .ok (.getfield 36, 3) := by decide +kernel
theorem dX6_turns_32 : decode cX6_turns 32 = .ok (.aload_n 0, 1) := by decide +kernel
theorem dX6_turns_33 : decode cX6_turns 33 = .ok (.getfield 10, 3) := by decide +kernel
theorem dX6_turns_36 : decode cX6_turns 36 = .ok (.iload_n 1, 1) := by decide +kernel
theorem dX6_turns_37 : decode cX6_turns 37 = .ok (.invokevirtual 260, 3) := by decide +kernel
theorem dX6_turns_40 : decode cX6_turns 40 = .ok (.iconst 0, 1) := by decide +kernel
theorem dX6_turns_41 : decode cX6_turns 41 = .ok (.istore_n 2, 1) := by decide +kernel
theorem dX6_turns_42 : decode cX6_turns 42 = .ok (.iconst 0, 1) := by decide +kernel
theorem dX6_turns_43 : decode cX6_turns 43 = .ok (.istore_n 3, 1) := by decide +kernel
theorem dX6_turns_44 : decode cX6_turns 44 = .ok (.iload_n 3, 1) := by decide +kernel
theorem dX6_turns_45 : decode cX6_turns 45 = .ok (.aload_n 0, 1) := by decide +kernel
theorem dX6_turns_46 : decode cX6_turns 46 = .ok (.getfield 10, 3) := by decide +kernel
theorem dX6_turns_49 : decode cX6_turns 49 = .ok (.getfield 79, 3) := by decide +kernel
theorem dX6_turns_52 : decode cX6_turns 52 = .ok (.if_icmp .ge 46, 3) := by decide +kernel
theorem dX6_turns_55 : decode cX6_turns 55 = .ok (.aload_n 0, 1) := by decide +kernel
theorem dX6_turns_56 : decode cX6_turns 56 = .ok (.getfield 29, 3) := by decide +kernel
theorem dX6_turns_59 : decode cX6_turns 59 = .ok (.getfield 167, 3) := by decide +kernel
theorem dX6_turns_62 : decode cX6_turns 62 = .ok (.iload_n 3, 1) := by decide +kernel
theorem dX6_turns_63 : decode cX6_turns 63 = .ok (.iaload, 1) := by decide +kernel
theorem dX6_turns_64 : decode cX6_turns 64 = .ok (.invokestatic 170, 3) := by decide +kernel
theorem dX6_turns_67 : decode cX6_turns 67 = .ok (.aload_n 0, 1) := by decide +kernel
theorem dX6_turns_68 : decode cX6_turns 68 = .ok (.getfield 36, 3) := by decide +kernel
theorem dX6_turns_71 : decode cX6_turns 71 = .ok (.getfield 264, 3) := by decide +kernel
theorem dX6_turns_74 : decode cX6_turns 74 = .ok (.getfield 167, 3) := by decide +kernel
theorem dX6_turns_77 : decode cX6_turns 77 = .ok (.iload_n 3, 1) := by decide +kernel
theorem dX6_turns_78 : decode cX6_turns 78 = .ok (.iaload, 1) := by decide +kernel
theorem dX6_turns_79 : decode cX6_turns 79 = .ok (.invokestatic 170, 3) := by decide +kernel
theorem dX6_turns_82 : decode cX6_turns 82 = .ok (.imul, 1) := by decide +kernel
theorem dX6_turns_83 : decode cX6_turns 83 = .ok (.ifCond .ge 9, 3) := by decide +kernel
theorem dX6_turns_86 : decode cX6_turns 86 = .ok (.iload_n 2, 1) := by decide +kernel
theorem dX6_turns_87 : decode cX6_turns 87 = .ok (.iconst 1, 1) := by decide +kernel
theorem dX6_turns_88 : decode cX6_turns 88 = .ok (.iload_n 3, 1) := by decide +kernel
theorem dX6_turns_89 : decode cX6_turns 89 = .ok (.ishl, 1) := by decide +kernel
theorem dX6_turns_90 : decode cX6_turns 90 = .ok (.ior, 1) := by decide +kernel
theorem dX6_turns_91 : decode cX6_turns 91 = .ok (.istore_n 2, 1) := by decide +kernel
theorem dX6_turns_92 : decode cX6_turns 92 = .ok (.iinc 3 1, 3) := by decide +kernel
theorem dX6_turns_95 : decode cX6_turns 95 = .ok (.goto (-51), 3) := by decide +kernel
theorem dX6_turns_98 : decode cX6_turns 98 = .ok (.iload_n 2, 1) := by decide +kernel
theorem dX6_turns_99 : decode cX6_turns 99 = .ok (.ireturn, 1) := by decide +kernel
theorem dX6_worst_0 : decode cX6_worst 0 = .ok (.aload_n 0, 1) := by decide +kernel
theorem dX6_worst_1 : decode cX6_worst 1 = .ok (.getfield 36, 3) := by decide +kernel
theorem dX6_worst_4 : decode cX6_worst 4 = .ok (.aload_n 0, 1) := by decide +kernel
theorem dX6_worst_5 : decode cX6_worst 5 = .ok (.getfield 10, 3) := by decide +kernel
theorem dX6_worst_8 : decode cX6_worst 8 = .ok (.invokevirtual 267, 3) := by decide +kernel
theorem dX6_worst_11 : decode cX6_worst 11 = .ok (.ireturn, 1) := by decide +kernel
theorem dX6_sheet_0 : decode cX6_sheet 0 = .ok (.aload_n 0, 1) := by decide +kernel
theorem dX6_sheet_1 : decode cX6_sheet 1 = .ok (.iload_n 1, 1) := by decide +kernel
theorem dX6_sheet_2 : decode cX6_sheet 2 = .ok (.invokevirtual 194, 3) := by decide +kernel
theorem dX6_sheet_5 : decode cX6_sheet 5 = .ok (.ifCond .eq 25, 3) := by decide +kernel
theorem dX6_sheet_8 : decode cX6_sheet 8 = .ok (.iload_n 2, 1) := by decide +kernel
theorem dX6_sheet_9 : decode cX6_sheet 9 = .ok (.ifCond .eq 27, 3) := by decide +kernel
theorem dX6_sheet_12 : decode cX6_sheet 12 = .ok (.iload_n 2, 1) := by decide +kernel
theorem dX6_sheet_13 : decode cX6_sheet 13 = .ok (.bipush 8, 2) := by decide +kernel
theorem dX6_sheet_15 : decode cX6_sheet 15 = .ok (.if_icmp .eq 21, 3) := by decide +kernel
theorem dX6_sheet_18 : decode cX6_sheet 18 = .ok (.iload_n 2, 1) := by decide +kernel
theorem dX6_sheet_19 : decode cX6_sheet 19 = .ok (.bipush 16, 2) := by decide +kernel
theorem dX6_sheet_21 : decode cX6_sheet 21 = .ok (.if_icmp .eq 15, 3) := by decide +kernel
theorem dX6_sheet_24 : decode cX6_sheet 24 = .ok (.iload_n 2, 1) := by decide +kernel
theorem dX6_sheet_25 : decode cX6_sheet 25 = .ok (.bipush 64, 2) := by decide +kernel
theorem dX6_sheet_27 : decode cX6_sheet 27 = .ok (.if_icmp .eq 9, 3) := by decide +kernel
theorem dX6_sheet_30 : decode cX6_sheet 30 = .ok (.aload_n 0, 1) := by decide +kernel
theorem dX6_sheet_31 : decode cX6_sheet 31 = .ok (.iconst 0, 1) := by decide +kernel
theorem dX6_sheet_32 : decode cX6_sheet 32 = .ok (.invokevirtual 62, 3) := by decide +kernel
theorem dX6_sheet_35 : decode cX6_sheet 35 = .ok (.ireturn, 1) := by decide +kernel
theorem dX6_sheet_36 : decode cX6_sheet 36 = .ok (.iload_n 3, 1) := by decide +kernel
theorem dX6_sheet_37 : decode cX6_sheet 37 = .ok (.ifCond .ge 10, 3) := by decide +kernel
theorem dX6_sheet_40 : decode cX6_sheet 40 = .ok (.aload_n 0, 1) := by decide +kernel
theorem dX6_sheet_41 : decode cX6_sheet 41 = .ok (.bipush 6, 2) := by decide +kernel
theorem dX6_sheet_43 : decode cX6_sheet 43 = .ok (.invokevirtual 62, 3) := by decide +kernel
theorem dX6_sheet_46 : decode cX6_sheet 46 = .ok (.ireturn, 1) := by decide +kernel
theorem dX6_sheet_47 : decode cX6_sheet 47 = .ok (.iload_n 3, 1) := by decide +kernel
theorem dX6_sheet_48 : decode cX6_sheet 48 = .ok (.bipush 40, 2) := by decide +kernel
theorem dX6_sheet_50 : decode cX6_sheet 50 = .ok (.if_icmp .le 9, 3) := by decide +kernel
theorem dX6_sheet_53 : decode cX6_sheet 53 = .ok (.aload_n 0, 1) := by decide +kernel
theorem dX6_sheet_54 : decode cX6_sheet 54 = .ok (.iconst 0, 1) := by decide +kernel
theorem dX6_sheet_55 : decode cX6_sheet 55 = .ok (.invokevirtual 62, 3) := by decide +kernel
theorem dX6_sheet_58 : decode cX6_sheet 58 = .ok (.ireturn, 1) := by decide +kernel
theorem dX6_sheet_59 : decode cX6_sheet 59 = .ok (.aload_n 0, 1) := by decide +kernel
theorem dX6_sheet_60 : decode cX6_sheet 60 = .ok (.getfield 49, 3) := by decide +kernel
theorem dX6_sheet_63 : decode cX6_sheet 63 = .ok (.iload_n 1, 1) := by decide +kernel
theorem dX6_sheet_64 : decode cX6_sheet 64 = .ok (.aaload, 1) := by decide +kernel
theorem dX6_sheet_65 : decode cX6_sheet 65 = .ok (.iload_n 2, 1) := by decide +kernel
theorem dX6_sheet_66 : decode cX6_sheet 66 = .ok (.iload_n 2, 1) := by decide +kernel
theorem dX6_sheet_67 : decode cX6_sheet 67 = .ok (.ifCond .ne 7, 3) := by decide +kernel
theorem dX6_sheet_70 : decode cX6_sheet 70 = .ok (.iconst 0, 1) := by decide +kernel
theorem dX6_sheet_71 : decode cX6_sheet 71 = .ok (.goto 4, 3) := by decide +kernel
theorem dX6_sheet_74 : decode cX6_sheet 74 = .ok (.iload_n 3, 1) := by decide +kernel
theorem dX6_sheet_75 : decode cX6_sheet 75 = .ok (.invokevirtual 270, 3) := by decide +kernel
theorem dX6_sheet_78 : decode cX6_sheet 78 = .ok (.aload_n 0, 1) := by decide +kernel
theorem dX6_sheet_79 : decode cX6_sheet 79 = .ok (.getfield 49, 3) := by decide +kernel
theorem dX6_sheet_82 : decode cX6_sheet 82 = .ok (.iload_n 1, 1) := by decide +kernel
theorem dX6_sheet_83 : decode cX6_sheet 83 = .ok (.aaload, 1) := by decide +kernel
theorem dX6_sheet_84 : decode cX6_sheet 84 = .ok (.getfield 200, 3) := by decide +kernel
theorem dX6_sheet_87 : decode cX6_sheet 87 = .ok (.ireturn, 1) := by decide +kernel
theorem dX6_write_0 : decode cX6_write 0 = .ok (.aload_n 0, 1) := by decide +kernel
theorem dX6_write_1 : decode cX6_write 1 = .ok (.iload_n 1, 1) := by decide +kernel
theorem dX6_write_2 : decode cX6_write 2 = .ok (.invokevirtual 194, 3) := by decide +kernel
theorem dX6_write_5 : decode cX6_write 5 = .ok (.ifCond .ne 10, 3) := by decide +kernel
theorem dX6_write_8 : decode cX6_write 8 = .ok (.aload_n 0, 1) := by decide +kernel
theorem dX6_write_9 : decode cX6_write 9 = .ok (.iconst 0, 1) := by decide +kernel
theorem dX6_write_10 : decode cX6_write 10 = .ok (.invokevirtual 62, 3) := by decide +kernel
theorem dX6_write_13 : decode cX6_write 13 = .ok (.i2l, 1) := by decide +kernel
theorem dX6_write_14 : decode cX6_write 14 = .ok (.lreturn, 1) := by decide +kernel
theorem dX6_write_15 : decode cX6_write 15 = .ok (.aload_n 0, 1) := by decide +kernel
theorem dX6_write_16 : decode cX6_write 16 = .ok (.getfield 49, 3) := by decide +kernel
theorem dX6_write_19 : decode cX6_write 19 = .ok (.iload_n 1, 1) := by decide +kernel
theorem dX6_write_20 : decode cX6_write 20 = .ok (.aaload, 1) := by decide +kernel
theorem dX6_write_21 : decode cX6_write 21 = .ok (.astore 5, 2) := by decide +kernel
theorem dX6_write_23 : decode cX6_write 23 = .ok (.aload 5, 2) := by decide +kernel
theorem dX6_write_25 : decode cX6_write 25 = .ok (.getfield 197, 3) := by decide +kernel
theorem dX6_write_28 : decode cX6_write 28 = .ok (.ifCond .ne 10, 3) := by decide +kernel
theorem dX6_write_31 : decode cX6_write 31 = .ok (.aload_n 0, 1) := by decide +kernel
theorem dX6_write_32 : decode cX6_write 32 = .ok (.iconst 5, 1) := by decide +kernel
theorem dX6_write_33 : decode cX6_write 33 = .ok (.invokevirtual 62, 3) := by decide +kernel
theorem dX6_write_36 : decode cX6_write 36 = .ok (.i2l, 1) := by decide +kernel
theorem dX6_write_37 : decode cX6_write 37 = .ok (.lreturn, 1) := by decide +kernel
theorem dX6_write_38 : decode cX6_write 38 = .ok (.iload_n 2, 1) := by decide +kernel
theorem dX6_write_39 : decode cX6_write 39 = .ok (.ifCond .lt 12, 3) := by decide +kernel
theorem dX6_write_42 : decode cX6_write 42 = .ok (.iload_n 2, 1) := by decide +kernel
theorem dX6_write_43 : decode cX6_write 43 = .ok (.aload 5, 2) := by decide +kernel
theorem dX6_write_45 : decode cX6_write 45 = .ok (.getfield 200, 3) := by decide +kernel
theorem dX6_write_48 : decode cX6_write 48 = .ok (.if_icmp .lt 10, 3) := by decide +kernel
theorem dX6_write_51 : decode cX6_write 51 = .ok (.aload_n 0, 1) := by decide +kernel
theorem dX6_write_52 : decode cX6_write 52 = .ok (.iconst 0, 1) := by decide +kernel
theorem dX6_write_53 : decode cX6_write 53 = .ok (.invokevirtual 62, 3) := by decide +kernel
theorem dX6_write_56 : decode cX6_write 56 = .ok (.i2l, 1) := by decide +kernel
theorem dX6_write_57 : decode cX6_write 57 = .ok (.lreturn, 1) := by decide +kernel
theorem dX6_write_58 : decode cX6_write 58 = .ok (.aload 5, 2) := by decide +kernel
theorem dX6_write_60 : decode cX6_write 60 = .ok (.getfield 274, 3) := by decide +kernel
theorem dX6_write_63 : decode cX6_write 63 = .ok (.iload_n 2, 1) := by decide +kernel
theorem dX6_write_64 : decode cX6_write 64 = .ok (.laload, 1) := by decide +kernel
theorem dX6_write_65 : decode cX6_write 65 = .ok (.lstore 6, 2) := by decide +kernel
theorem dX6_write_67 : decode cX6_write 67 = .ok (.aload 5, 2) := by decide +kernel
theorem dX6_write_69 : decode cX6_write 69 = .ok (.iload_n 2, 1) := by decide +kernel
theorem dX6_write_70 : decode cX6_write 70 = .ok (.lload_n 3, 1) := by decide +kernel
theorem dX6_write_71 : decode cX6_write 71 = .ok (.invokevirtual 209, 3) := by decide +kernel
theorem dX6_write_74 : decode cX6_write 74 = .ok (.lload 6, 2) := by decide +kernel
theorem dX6_write_76 : decode cX6_write 76 = .ok (.lreturn, 1) := by decide +kernel
theorem dX6_copy_0 : decode cX6_copy 0 = .ok (.aload_n 0, 1) := by decide +kernel
theorem dX6_copy_1 : decode cX6_copy 1 = .ok (.iload_n 1, 1) := by decide +kernel
theorem dX6_copy_2 : decode cX6_copy 2 = .ok (.invokevirtual 194, 3) := by decide +kernel
theorem dX6_copy_5 : decode cX6_copy 5 = .ok (.ifCond .eq 11, 3) := by decide +kernel
theorem dX6_copy_8 : decode cX6_copy 8 = .ok (.aload_n 0, 1) := by decide +kernel
theorem dX6_copy_9 : decode cX6_copy 9 = .ok (.iload_n 3, 1) := by decide +kernel
theorem dX6_copy_10 : decode cX6_copy 10 = .ok (.invokevirtual 194, 3) := by decide +kernel
theorem dX6_copy_13 : decode cX6_copy 13 = .ok (.ifCond .ne 9, 3) := by decide +kernel
theorem dX6_copy_16 : decode cX6_copy 16 = .ok (.aload_n 0, 1) := by decide +kernel
theorem dX6_copy_17 : decode cX6_copy 17 = .ok (.iconst 0, 1) := by decide +kernel
theorem dX6_copy_18 : decode cX6_copy 18 = .ok (.invokevirtual 62, 3) := by decide +kernel
theorem dX6_copy_21 : decode cX6_copy 21 = .ok (.ireturn, 1) := by decide +kernel
theorem dX6_copy_22 : decode cX6_copy 22 = .ok (.aload_n 0, 1) := by decide +kernel
theorem dX6_copy_23 : decode cX6_copy 23 = .ok (.getfield 49, 3) := by decide +kernel
theorem dX6_copy_26 : decode cX6_copy 26 = .ok (.iload_n 1, 1) := by decide +kernel
theorem dX6_copy_27 : decode cX6_copy 27 = .ok (.aaload, 1) := by decide +kernel
theorem dX6_copy_28 : decode cX6_copy 28 = .ok (.astore 6, 2) := by decide +kernel
theorem dX6_copy_30 : decode cX6_copy 30 = .ok (.aload_n 0, 1) := by decide +kernel
theorem dX6_copy_31 : decode cX6_copy 31 = .ok (.getfield 49, 3) := by decide +kernel
theorem dX6_copy_34 : decode cX6_copy 34 = .ok (.iload_n 3, 1) := by decide +kernel
theorem dX6_copy_35 : decode cX6_copy 35 = .ok (.aaload, 1) := by decide +kernel
theorem dX6_copy_36 : decode cX6_copy 36 = .ok (.astore 7, 2) := by decide +kernel
theorem dX6_copy_38 : decode cX6_copy 38 = .ok (.aload 6, 2) := by decide +kernel
theorem dX6_copy_40 : decode cX6_copy 40 = .ok (.getfield 197, 3) := by decide +kernel
theorem dX6_copy_43 : decode cX6_copy 43 = .ok (.ifCond .eq 11, 3) := by decide +kernel
theorem dX6_copy_46 : decode cX6_copy 46 = .ok (.aload 7, 2) := by decide +kernel
theorem dX6_copy_48 : decode cX6_copy 48 = .ok (.getfield 197, 3) := by decide +kernel
theorem dX6_copy_51 : decode cX6_copy 51 = .ok (.ifCond .ne 9, 3) := by decide +kernel
theorem dX6_copy_54 : decode cX6_copy 54 = .ok (.aload_n 0, 1) := by decide +kernel
theorem dX6_copy_55 : decode cX6_copy 55 = .ok (.iconst 5, 1) := by decide +kernel
theorem dX6_copy_56 : decode cX6_copy 56 = .ok (.invokevirtual 62, 3) := by decide +kernel
theorem dX6_copy_59 : decode cX6_copy 59 = .ok (.ireturn, 1) := by decide +kernel
theorem dX6_copy_60 : decode cX6_copy 60 = .ok (.aload 6, 2) := by decide +kernel
theorem dX6_copy_62 : decode cX6_copy 62 = .ok (.getfield 197, 3) := by decide +kernel
theorem dX6_copy_65 : decode cX6_copy 65 = .ok (.aload 7, 2) := by decide +kernel
theorem dX6_copy_67 : decode cX6_copy 67 = .ok (.getfield 197, 3) := by decide +kernel
theorem dX6_copy_70 : decode cX6_copy 70 = .ok (.if_icmp .eq 9, 3) := by decide +kernel
theorem dX6_copy_73 : decode cX6_copy 73 = .ok (.aload_n 0, 1) := by decide +kernel
theorem dX6_copy_74 : decode cX6_copy 74 = .ok (.iconst 2, 1) := by decide +kernel
theorem dX6_copy_75 : decode cX6_copy 75 = .ok (.invokevirtual 62, 3) := by decide +kernel
theorem dX6_copy_78 : decode cX6_copy 78 = .ok (.ireturn, 1) := by decide +kernel
theorem dX6_copy_79 : decode cX6_copy 79 = .ok (.aload 6, 2) := by decide +kernel
theorem dX6_copy_81 : decode cX6_copy 81 = .ok (.iload_n 2, 1) := by decide +kernel
theorem dX6_copy_82 : decode cX6_copy 82 = .ok (.iload 5, 2) := by decide +kernel
theorem dX6_copy_84 : decode cX6_copy 84 = .ok (.invokevirtual 278, 3) := by decide +kernel
theorem dX6_copy_87 : decode cX6_copy 87 = .ok (.ifCond .eq 15, 3) := by decide +kernel
theorem dX6_copy_90 : decode cX6_copy 90 = .ok (.aload 7, 2) := by decide +kernel
theorem dX6_copy_92 : decode cX6_copy 92 = .ok (.iload 4, 2) := by decide +kernel
theorem dX6_copy_94 : decode cX6_copy 94 = .ok (.iload 5, 2) := by decide +kernel
theorem dX6_copy_96 : decode cX6_copy 96 = .ok (.invokevirtual 278, 3) := by decide +kernel
theorem dX6_copy_99 : decode cX6_copy 99 = .ok (.ifCond .ne 9, 3) := by decide +kernel
theorem dX6_copy_102 : decode cX6_copy 102 = .ok (.aload_n 0, 1) := by decide +kernel
theorem dX6_copy_103 : decode cX6_copy 103 = .ok (.iconst 0, 1) := by decide +kernel
theorem dX6_copy_104 : decode cX6_copy 104 = .ok (.invokevirtual 62, 3) := by decide +kernel
theorem dX6_copy_107 : decode cX6_copy 107 = .ok (.ireturn, 1) := by decide +kernel
theorem dX6_copy_108 : decode cX6_copy 108 = .ok (.aload 6, 2) := by decide +kernel
theorem dX6_copy_110 : decode cX6_copy 110 = .ok (.getfield 274, 3) := by decide +kernel
theorem dX6_copy_113 : decode cX6_copy 113 = .ok (.iload_n 2, 1) := by decide +kernel
theorem dX6_copy_114 : decode cX6_copy 114 = .ok (.aload 7, 2) := by decide +kernel
theorem dX6_copy_116 : decode cX6_copy 116 = .ok (.getfield 274, 3) := by decide +kernel
theorem dX6_copy_119 : decode cX6_copy 119 = .ok (.iload 4, 2) := by decide +kernel
theorem dX6_copy_121 : decode cX6_copy 121 = .ok (.iload 5, 2) := by decide +kernel
theorem dX6_copy_123 : decode cX6_copy 123 = .ok (.invokestatic 281, 3) := by decide +kernel
theorem dX6_copy_126 : decode cX6_copy 126 = .ok (.iload 5, 2) := by decide +kernel
theorem dX6_copy_128 : decode cX6_copy 128 = .ok (.ireturn, 1) := by decide +kernel
theorem dX6_lays_0 : decode cX6_lays 0 = .ok (.aload_n 0, 1) := by decide +kernel
theorem dX6_lays_1 : decode cX6_lays 1 = .ok (.iload_n 1, 1) := by decide +kernel
theorem dX6_lays_2 : decode cX6_lays 2 = .ok (.invokevirtual 194, 3) := by decide +kernel
theorem dX6_lays_5 : decode cX6_lays 5 = .ok (.ifCond .ne 9, 3) := by decide +kernel
theorem dX6_lays_8 : decode cX6_lays 8 = .ok (.aload_n 0, 1) := by decide +kernel
theorem dX6_lays_9 : decode cX6_lays 9 = .ok (.iconst 0, 1) := by decide +kernel
theorem dX6_lays_10 : decode cX6_lays 10 = .ok (.invokevirtual 62, 3) := by decide +kernel
theorem dX6_lays_13 : decode cX6_lays 13 = .ok (.ireturn, 1) := by decide +kernel
theorem dX6_lays_14 : decode cX6_lays 14 = .ok (.aload_n 0, 1) := by decide +kernel
theorem dX6_lays_15 : decode cX6_lays 15 = .ok (.getfield 49, 3) := by decide +kernel
theorem dX6_lays_18 : decode cX6_lays 18 = .ok (.iload_n 1, 1) := by decide +kernel
theorem dX6_lays_19 : decode cX6_lays 19 = .ok (.aaload, 1) := by decide +kernel
theorem dX6_lays_20 : decode cX6_lays 20 = .ok (.astore_n 2, 1) := by decide +kernel
theorem dX6_lays_21 : decode cX6_lays 21 = .ok (.aload_n 2, 1) := by decide +kernel
theorem dX6_lays_22 : decode cX6_lays 22 = .ok (.getfield 197, 3) := by decide +kernel
theorem dX6_lays_25 : decode cX6_lays 25 = .ok (.ifCond .ne 9, 3) := by decide +kernel
theorem dX6_lays_28 : decode cX6_lays 28 = .ok (.aload_n 0, 1) := by decide +kernel
theorem dX6_lays_29 : decode cX6_lays 29 = .ok (.iconst 5, 1) := by decide +kernel
theorem dX6_lays_30 : decode cX6_lays 30 = .ok (.invokevirtual 62, 3) := by decide +kernel
theorem dX6_lays_33 : decode cX6_lays 33 = .ok (.ireturn, 1) := by decide +kernel
theorem dX6_lays_34 : decode cX6_lays 34 = .ok (.iconst 0, 1) := by decide +kernel
theorem dX6_lays_35 : decode cX6_lays 35 = .ok (.istore_n 3, 1) := by decide +kernel
theorem dX6_lays_36 : decode cX6_lays 36 = .ok (.iconst 0, 1) := by decide +kernel
theorem dX6_lays_37 : decode cX6_lays 37 = .ok (.istore 4, 2) := by decide +kernel
theorem dX6_lays_39 : decode cX6_lays 39 = .ok (.iload 4, 2) := by decide +kernel
theorem dX6_lays_41 : decode cX6_lays 41 = .ok (.aload_n 2, 1) := by decide +kernel
theorem dX6_lays_42 : decode cX6_lays 42 = .ok (.getfield 200, 3) := by decide +kernel
theorem dX6_lays_45 : decode cX6_lays 45 = .ok (.if_icmp .ge 62, 3) := by decide +kernel
theorem dX6_lays_48 : decode cX6_lays 48 = .ok (.iload 4, 2) := by decide +kernel
theorem dX6_lays_50 : decode cX6_lays 50 = .ok (.aload_n 0, 1) := by decide +kernel
theorem dX6_lays_51 : decode cX6_lays 51 = .ok (.getfield 10, 3) := by decide +kernel
theorem dX6_lays_54 : decode cX6_lays 54 = .ok (.getfield 79, 3) := by decide +kernel
theorem dX6_lays_57 : decode cX6_lays 57 = .ok (.if_icmp .ge 50, 3) := by decide +kernel
theorem dX6_lays_60 : decode cX6_lays 60 = .ok (.aload_n 2, 1) := by decide +kernel
theorem dX6_lays_61 : decode cX6_lays 61 = .ok (.getfield 274, 3) := by decide +kernel
theorem dX6_lays_64 : decode cX6_lays 64 = .ok (.iload 4, 2) := by decide +kernel
theorem dX6_lays_66 : decode cX6_lays 66 = .ok (.laload, 1) := by decide +kernel
theorem dX6_lays_67 : decode cX6_lays 67 = .ok (.lstore 5, 2) := by decide +kernel
theorem dX6_lays_69 : decode cX6_lays 69 = .ok (.lload 5, 2) := by decide +kernel
theorem dX6_lays_71 : decode cX6_lays 71 = .ok (.lconst 0, 1) := by decide +kernel
theorem dX6_lays_72 : decode cX6_lays 72 = .ok (.lcmp, 1) := by decide +kernel
theorem dX6_lays_73 : decode cX6_lays 73 = .ok (.ifCond .lt 28, 3) := by decide +kernel
theorem dX6_lays_76 : decode cX6_lays 76 = .ok (.lload 5, 2) := by decide +kernel
theorem dX6_lays_78 : decode cX6_lays 78 = .ok (.ldc2_w 287, 3) := by decide +kernel
theorem dX6_lays_81 : decode cX6_lays 81 = .ok (.lcmp, 1) := by decide +kernel
theorem dX6_lays_82 : decode cX6_lays 82 = .ok (.ifCond .gt 19, 3) := by decide +kernel
theorem dX6_lays_85 : decode cX6_lays 85 = .ok (.aload_n 0, 1) := by decide +kernel
theorem dX6_lays_86 : decode cX6_lays 86 = .ok (.getfield 10, 3) := by decide +kernel
theorem dX6_lays_89 : decode cX6_lays 89 = .ok (.getfield 102, 3) := by decide +kernel
theorem dX6_lays_92 : decode cX6_lays 92 = .ok (.iload 4, 2) := by decide +kernel
theorem dX6_lays_94 : decode cX6_lays 94 = .ok (.lload 5, 2) := by decide +kernel
theorem dX6_lays_96 : decode cX6_lays 96 = .ok (.l2i, 1) := by decide +kernel
theorem dX6_lays_97 : decode cX6_lays 97 = .ok (.iastore, 1) := by decide +kernel
theorem dX6_lays_98 : decode cX6_lays 98 = .ok (.iinc 3 1, 3) := by decide +kernel
theorem dX6_lays_101 : decode cX6_lays 101 = .ok (.iinc 4 1, 3) := by decide +kernel
theorem dX6_lays_104 : decode cX6_lays 104 = .ok (.goto (-65), 3) := by decide +kernel
theorem dX6_lays_107 : decode cX6_lays 107 = .ok (.iload_n 3, 1) := by decide +kernel
theorem dX6_lays_108 : decode cX6_lays 108 = .ok (.ireturn, 1) := by decide +kernel
theorem dX6_read_0 : decode cX6_read 0 = .ok (.aload_n 0, 1) := by decide +kernel
theorem dX6_read_1 : decode cX6_read 1 = .ok (.iload_n 1, 1) := by decide +kernel
theorem dX6_read_2 : decode cX6_read 2 = .ok (.invokevirtual 194, 3) := by decide +kernel
theorem dX6_read_5 : decode cX6_read 5 = .ok (.ifCond .ne 9, 3) := by decide +kernel
theorem dX6_read_8 : decode cX6_read 8 = .ok (.aload_n 0, 1) := by decide +kernel
theorem dX6_read_9 : decode cX6_read 9 = .ok (.iconst 0, 1) := by decide +kernel
theorem dX6_read_10 : decode cX6_read 10 = .ok (.invokevirtual 62, 3) := by decide +kernel
theorem dX6_read_13 : decode cX6_read 13 = .ok (.ireturn, 1) := by decide +kernel
theorem dX6_read_14 : decode cX6_read 14 = .ok (.aload_n 0, 1) := by decide +kernel
theorem dX6_read_15 : decode cX6_read 15 = .ok (.getfield 49, 3) := by decide +kernel
theorem dX6_read_18 : decode cX6_read 18 = .ok (.iload_n 1, 1) := by decide +kernel
theorem dX6_read_19 : decode cX6_read 19 = .ok (.aaload, 1) := by decide +kernel
theorem dX6_read_20 : decode cX6_read 20 = .ok (.astore_n 2, 1) := by decide +kernel
theorem dX6_read_21 : decode cX6_read 21 = .ok (.aload_n 2, 1) := by decide +kernel
theorem dX6_read_22 : decode cX6_read 22 = .ok (.getfield 197, 3) := by decide +kernel
theorem dX6_read_25 : decode cX6_read 25 = .ok (.ifCond .ne 9, 3) := by decide +kernel
theorem dX6_read_28 : decode cX6_read 28 = .ok (.aload_n 0, 1) := by decide +kernel
theorem dX6_read_29 : decode cX6_read 29 = .ok (.iconst 5, 1) := by decide +kernel
theorem dX6_read_30 : decode cX6_read 30 = .ok (.invokevirtual 62, 3) := by decide +kernel
theorem dX6_read_33 : decode cX6_read 33 = .ok (.ireturn, 1) := by decide +kernel
theorem dX6_read_34 : decode cX6_read 34 = .ok (.aload_n 0, 1) := by decide +kernel
theorem dX6_read_35 : decode cX6_read 35 = .ok (.getfield 29, 3) := by decide +kernel
theorem dX6_read_38 : decode cX6_read 38 = .ok (.aload_n 0, 1) := by decide +kernel
theorem dX6_read_39 : decode cX6_read 39 = .ok (.getfield 10, 3) := by decide +kernel
theorem dX6_read_42 : decode cX6_read 42 = .ok (.invokevirtual 161, 3) := by decide +kernel
theorem dX6_read_45 : decode cX6_read 45 = .ok (.iconst 0, 1) := by decide +kernel
theorem dX6_read_46 : decode cX6_read 46 = .ok (.istore_n 3, 1) := by decide +kernel
theorem dX6_read_47 : decode cX6_read 47 = .ok (.iload_n 3, 1) := by decide +kernel
theorem dX6_read_48 : decode cX6_read 48 = .ok (.aload_n 2, 1) := by decide +kernel
theorem dX6_read_49 : decode cX6_read 49 = .ok (.getfield 200, 3) := by decide +kernel
theorem dX6_read_52 : decode cX6_read 52 = .ok (.if_icmp .ge 47, 3) := by decide +kernel
theorem dX6_read_55 : decode cX6_read 55 = .ok (.iload_n 3, 1) := by decide +kernel
theorem dX6_read_56 : decode cX6_read 56 = .ok (.aload_n 0, 1) := by decide +kernel
theorem dX6_read_57 : decode cX6_read 57 = .ok (.getfield 10, 3) := by decide +kernel
theorem dX6_read_60 : decode cX6_read 60 = .ok (.getfield 79, 3) := by decide +kernel
theorem dX6_read_63 : decode cX6_read 63 = .ok (.if_icmp .ge 26, 3) := by decide +kernel
theorem dX6_read_66 : decode cX6_read 66 = .ok (.aload_n 2, 1) := by decide +kernel
theorem dX6_read_67 : decode cX6_read 67 = .ok (.getfield 274, 3) := by decide +kernel
theorem dX6_read_70 : decode cX6_read 70 = .ok (.iload_n 3, 1) := by decide +kernel
theorem dX6_read_71 : decode cX6_read 71 = .ok (.laload, 1) := by decide +kernel
theorem dX6_read_72 : decode cX6_read 72 = .ok (.aload_n 0, 1) := by decide +kernel
theorem dX6_read_73 : decode cX6_read 73 = .ok (.getfield 29, 3) := by decide +kernel
theorem dX6_read_76 : decode cX6_read 76 = .ok (.getfield 167, 3) := by decide +kernel
theorem dX6_read_79 : decode cX6_read 79 = .ok (.iload_n 3, 1) := by decide +kernel
theorem dX6_read_80 : decode cX6_read 80 = .ok (.iaload, 1) := by decide +kernel
theorem dX6_read_81 : decode cX6_read 81 = .ok (.invokestatic 170, 3) := by decide +kernel
theorem dX6_read_84 : decode cX6_read 84 = .ok (.i2l, 1) := by decide +kernel
theorem dX6_read_85 : decode cX6_read 85 = .ok (.lcmp, 1) := by decide +kernel
theorem dX6_read_86 : decode cX6_read 86 = .ok (.ifCond .eq 7, 3) := by decide +kernel
theorem dX6_read_89 : decode cX6_read 89 = .ok (.iconst 1, 1) := by decide +kernel
theorem dX6_read_90 : decode cX6_read 90 = .ok (.iload_n 3, 1) := by decide +kernel
theorem dX6_read_91 : decode cX6_read 91 = .ok (.iadd, 1) := by decide +kernel
theorem dX6_read_92 : decode cX6_read 92 = .ok (.ireturn, 1) := by decide +kernel
theorem dX6_read_93 : decode cX6_read 93 = .ok (.iinc 3 1, 3) := by decide +kernel
theorem dX6_read_96 : decode cX6_read 96 = .ok (.goto (-49), 3) := by decide +kernel
theorem dX6_read_99 : decode cX6_read 99 = .ok (.iconst 0, 1) := by decide +kernel
theorem dX6_read_100 : decode cX6_read 100 = .ok (.ireturn, 1) := by decide +kernel
theorem dX6_image_0 : decode cX6_image 0 = .ok (.aload_n 0, 1) := by decide +kernel
theorem dX6_image_1 : decode cX6_image 1 = .ok (.getfield 16, 3) := by decide +kernel
theorem dX6_image_4 : decode cX6_image 4 = .ok (.aload_n 0, 1) := by decide +kernel
theorem dX6_image_5 : decode cX6_image 5 = .ok (.getfield 10, 3) := by decide +kernel
theorem dX6_image_8 : decode cX6_image 8 = .ok (.invokevirtual 150, 3) := by decide +kernel
theorem dX6_image_11 : decode cX6_image 11 = .ok (.aload_n 0, 1) := by decide +kernel
theorem dX6_image_12 : decode cX6_image 12 = .ok (.iconst 1, 1) := by decide +kernel
theorem dX6_image_13 : decode cX6_image 13 = .ok (.putfield 19, 3) := by decide +kernel
theorem dX6_image_16 : decode cX6_image 16 = .ok (.iconst 1, 1) := by decide +kernel
theorem dX6_image_17 : decode cX6_image 17 = .ok (.ireturn, 1) := by decide +kernel
theorem dX6_undo_0 : decode cX6_undo 0 = .ok (.aload_n 0, 1) := by decide +kernel
theorem dX6_undo_1 : decode cX6_undo 1 = .ok (.getfield 19, 3) := by decide +kernel
theorem dX6_undo_4 : decode cX6_undo 4 = .ok (.ifCond .ne 9, 3) := by decide +kernel
theorem dX6_undo_7 : decode cX6_undo 7 = .ok (.aload_n 0, 1) := by decide +kernel
theorem dX6_undo_8 : decode cX6_undo 8 = .ok (.iconst 3, 1) := by decide +kernel
theorem dX6_undo_9 : decode cX6_undo 9 = .ok (.invokevirtual 62, 3) := by decide +kernel
theorem dX6_undo_12 : decode cX6_undo 12 = .ok (.ireturn, 1) := by decide +kernel
theorem dX6_undo_13 : decode cX6_undo 13 = .ok (.aload_n 0, 1) := by decide +kernel
theorem dX6_undo_14 : decode cX6_undo 14 = .ok (.getfield 10, 3) := by decide +kernel
theorem dX6_undo_17 : decode cX6_undo 17 = .ok (.aload_n 0, 1) := by decide +kernel
theorem dX6_undo_18 : decode cX6_undo 18 = .ok (.getfield 16, 3) := by decide +kernel
theorem dX6_undo_21 : decode cX6_undo 21 = .ok (.invokevirtual 150, 3) := by decide +kernel
theorem dX6_undo_24 : decode cX6_undo 24 = .ok (.aload_n 0, 1) := by decide +kernel
theorem dX6_undo_25 : decode cX6_undo 25 = .ok (.getfield 10, 3) := by decide +kernel
theorem dX6_undo_28 : decode cX6_undo 28 = .ok (.getfield 79, 3) := by decide +kernel
theorem dX6_undo_31 : decode cX6_undo 31 = .ok (.ireturn, 1) := by decide +kernel
theorem dX6_tear_0 : decode cX6_tear 0 = .ok (.aload_n 0, 1) := by decide +kernel
theorem dX6_tear_1 : decode cX6_tear 1 = .ok (.getfield 19, 3) := by decide +kernel
theorem dX6_tear_4 : decode cX6_tear 4 = .ok (.ifCond .eq 7, 3) := by decide +kernel
theorem dX6_tear_7 : decode cX6_tear 7 = .ok (.iconst 1, 1) := by decide +kernel
theorem dX6_tear_8 : decode cX6_tear 8 = .ok (.goto 4, 3) := by decide +kernel
theorem dX6_tear_11 : decode cX6_tear 11 = .ok (.iconst 0, 1) := by decide +kernel
theorem dX6_tear_12 : decode cX6_tear 12 = .ok (.istore_n 1, 1) := by decide +kernel
theorem dX6_tear_13 : decode cX6_tear 13 = .ok (.aload_n 0, 1) := by decide +kernel
theorem dX6_tear_14 : decode cX6_tear 14 = .ok (.iconst 0, 1) := by decide +kernel
theorem dX6_tear_15 : decode cX6_tear 15 = .ok (.putfield 19, 3) := by decide +kernel
theorem dX6_tear_18 : decode cX6_tear 18 = .ok (.iload_n 1, 1) := by decide +kernel
theorem dX6_tear_19 : decode cX6_tear 19 = .ok (.ireturn, 1) := by decide +kernel
theorem dX6_count_0 : decode cX6_count 0 = .ok (.iload_n 1, 1) := by decide +kernel
theorem dX6_count_1 : decode cX6_count 1 = .ok (.tableswitch 102 0 6 #[43, 51, 59, 67, 78, 86, 94], 43) := by decide +kernel
theorem dX6_count_44 : decode cX6_count 44 = .ok (.aload_n 0, 1) := by decide +kernel
theorem dX6_count_45 : decode cX6_count 45 = .ok (.getfield 10, 3) := by decide +kernel
theorem dX6_count_48 : decode cX6_count 48 = .ok (.getfield 58, 3) := by decide +kernel
theorem dX6_count_51 : decode cX6_count 51 = .ok (.ireturn, 1) := by decide +kernel
theorem dX6_count_52 : decode cX6_count 52 = .ok (.aload_n 0, 1) := by decide +kernel
theorem dX6_count_53 : decode cX6_count 53 = .ok (.getfield 10, 3) := by decide +kernel
theorem dX6_count_56 : decode cX6_count 56 = .ok (.getfield 79, 3) := by decide +kernel
theorem dX6_count_59 : decode cX6_count 59 = .ok (.ireturn, 1) := by decide +kernel
theorem dX6_count_60 : decode cX6_count 60 = .ok (.aload_n 0, 1) := by decide +kernel
theorem dX6_count_61 : decode cX6_count 61 = .ok (.getfield 10, 3) := by decide +kernel
theorem dX6_count_64 : decode cX6_count 64 = .ok (.invokevirtual 289, 3) := by decide +kernel
theorem dX6_count_67 : decode cX6_count 67 = .ok (.ireturn, 1) := by decide +kernel
theorem dX6_count_68 : decode cX6_count 68 = .ok (.aload_n 0, 1) := by decide +kernel
theorem dX6_count_69 : decode cX6_count 69 = .ok (.getfield 43, 3) := by decide +kernel
theorem dX6_count_72 : decode cX6_count 72 = .ok (.getfield 137, 3) := by decide +kernel
theorem dX6_count_75 : decode cX6_count 75 = .ok (.getfield 141, 3) := by decide +kernel
theorem dX6_count_78 : decode cX6_count 78 = .ok (.ireturn, 1) := by decide +kernel
theorem dX6_count_79 : decode cX6_count 79 = .ok (.aload_n 0, 1) := by decide +kernel
theorem dX6_count_80 : decode cX6_count 80 = .ok (.getfield 10, 3) := by decide +kernel
theorem dX6_count_83 : decode cX6_count 83 = .ok (.getfield 188, 3) := by decide +kernel
theorem dX6_count_86 : decode cX6_count 86 = .ok (.ireturn, 1) := by decide +kernel
theorem dX6_count_87 : decode cX6_count 87 = .ok (.aload_n 0, 1) := by decide +kernel
theorem dX6_count_88 : decode cX6_count 88 = .ok (.getfield 10, 3) := by decide +kernel
theorem dX6_count_91 : decode cX6_count 91 = .ok (.invokevirtual 293, 3) := by decide +kernel
theorem dX6_count_94 : decode cX6_count 94 = .ok (.ireturn, 1) := by decide +kernel
theorem dX6_count_95 : decode cX6_count 95 = .ok (.aload_n 0, 1) := by decide +kernel
theorem dX6_count_96 : decode cX6_count 96 = .ok (.getfield 10, 3) := by decide +kernel
theorem dX6_count_99 : decode cX6_count 99 = .ok (.invokevirtual 296, 3) := by decide +kernel
theorem dX6_count_102 : decode cX6_count 102 = .ok (.ireturn, 1) := by decide +kernel
theorem dX6_count_103 : decode cX6_count 103 = .ok (.aload_n 0, 1) := by decide +kernel
theorem dX6_count_104 : decode cX6_count 104 = .ok (.iconst 0, 1) := by decide +kernel
theorem dX6_count_105 : decode cX6_count 105 = .ok (.invokevirtual 62, 3) := by decide +kernel
theorem dX6_count_108 : decode cX6_count 108 = .ok (.ireturn, 1) := by decide +kernel
theorem dX6_status_0 : decode cX6_status 0 = .ok (.iload_n 1, 1) := by decide +kernel
theorem dX6_status_1 : decode cX6_status 1 = .ok (.iconst (-1), 1) := by decide +kernel
theorem dX6_status_2 : decode cX6_status 2 = .ok (.if_icmp .lt 9, 3) := by decide +kernel
theorem dX6_status_5 : decode cX6_status 5 = .ok (.iload_n 1, 1) := by decide +kernel
theorem dX6_status_6 : decode cX6_status 6 = .ok (.bipush 7, 2) := by decide +kernel
theorem dX6_status_8 : decode cX6_status 8 = .ok (.if_icmp .lt 9, 3) := by decide +kernel
theorem dX6_status_11 : decode cX6_status 11 = .ok (.aload_n 0, 1) := by decide +kernel
theorem dX6_status_12 : decode cX6_status 12 = .ok (.iconst 0, 1) := by decide +kernel
theorem dX6_status_13 : decode cX6_status 13 = .ok (.invokevirtual 62, 3) := by decide +kernel
theorem dX6_status_16 : decode cX6_status 16 = .ok (.ireturn, 1) := by decide +kernel
theorem dX6_status_17 : decode cX6_status 17 = .ok (.iload_n 1, 1) := by decide +kernel
theorem dX6_status_18 : decode cX6_status 18 = .ok (.ifCond .lt 10, 3) := by decide +kernel
theorem dX6_status_21 : decode cX6_status 21 = .ok (.aload_n 0, 1) := by decide +kernel
theorem dX6_status_22 : decode cX6_status 22 = .ok (.getfield 53, 3) := by decide +kernel
theorem dX6_status_25 : decode cX6_status 25 = .ok (.iload_n 1, 1) := by decide +kernel
theorem dX6_status_26 : decode cX6_status 26 = .ok (.iaload, 1) := by decide +kernel
theorem dX6_status_27 : decode cX6_status 27 = .ok (.ireturn, 1) := by decide +kernel
theorem dX6_status_28 : decode cX6_status 28 = .ok (.iconst 0, 1) := by decide +kernel
theorem dX6_status_29 : decode cX6_status 29 = .ok (.istore_n 2, 1) := by decide +kernel
theorem dX6_status_30 : decode cX6_status 30 = .ok (.iconst 0, 1) := by decide +kernel
theorem dX6_status_31 : decode cX6_status 31 = .ok (.istore_n 3, 1) := by decide +kernel
theorem dX6_status_32 : decode cX6_status 32 = .ok (.iload_n 3, 1) := by decide +kernel
theorem dX6_status_33 : decode cX6_status 33 = .ok (.bipush 7, 2) := by decide +kernel
theorem dX6_status_35 : decode cX6_status 35 = .ok (.if_icmp .ge 18, 3) := by decide +kernel
theorem dX6_status_38 : decode cX6_status 38 = .ok (.iload_n 2, 1) := by decide +kernel
theorem dX6_status_39 : decode cX6_status 39 = .ok (.aload_n 0, 1) := by decide +kernel
theorem dX6_status_40 : decode cX6_status 40 = .ok (.getfield 53, 3) := by decide +kernel
theorem dX6_status_43 : decode cX6_status 43 = .ok (.iload_n 3, 1) := by decide +kernel
theorem dX6_status_44 : decode cX6_status 44 = .ok (.iaload, 1) := by decide +kernel
theorem dX6_status_45 : decode cX6_status 45 = .ok (.iadd, 1) := by decide +kernel
theorem dX6_status_46 : decode cX6_status 46 = .ok (.istore_n 2, 1) := by decide +kernel
theorem dX6_status_47 : decode cX6_status 47 = .ok (.iinc 3 1, 3) := by decide +kernel
theorem dX6_status_50 : decode cX6_status 50 = .ok (.goto (-18), 3) := by decide +kernel
theorem dX6_status_53 : decode cX6_status 53 = .ok (.iload_n 2, 1) := by decide +kernel
theorem dX6_status_54 : decode cX6_status 54 = .ok (.ireturn, 1) := by decide +kernel
theorem dX6_find_0 : decode cX6_find 0 = .ok (.iload_n 1, 1) := by decide +kernel
theorem dX6_find_1 : decode cX6_find 1 = .ok (.ifCond .lt 19, 3) := by decide +kernel
theorem dX6_find_4 : decode cX6_find 4 = .ok (.iload_n 1, 1) := by decide +kernel
theorem dX6_find_5 : decode cX6_find 5 = .ok (.bipush 7, 2) := by decide +kernel
theorem dX6_find_7 : decode cX6_find 7 = .ok (.if_icmp .ge 13, 3) := by decide +kernel
theorem dX6_find_10 : decode cX6_find 10 = .ok (.aload_n 0, 1) := by decide +kernel
theorem dX6_find_11 : decode cX6_find 11 = .ok (.getfield 53, 3) := by decide +kernel
theorem dX6_find_14 : decode cX6_find 14 = .ok (.iload_n 1, 1) := by decide +kernel
theorem dX6_find_15 : decode cX6_find 15 = .ok (.dup2, 1) := by decide +kernel
theorem dX6_find_16 : decode cX6_find 16 = .ok (.iaload, 1) := by decide +kernel
theorem dX6_find_17 : decode cX6_find 17 = .ok (.iconst 1, 1) := by decide +kernel
theorem dX6_find_18 : decode cX6_find 18 = .ok (.iadd, 1) := by decide +kernel
theorem dX6_find_19 : decode cX6_find 19 = .ok (.iastore, 1) := by decide +kernel
theorem dX6_find_20 : decode cX6_find 20 = .ok (.ldc_w 299, 3) := by decide +kernel
theorem dX6_find_23 : decode cX6_find 23 = .ok (.iload_n 1, 1) := by decide +kernel
theorem dX6_find_24 : decode cX6_find 24 = .ok (.isub, 1) := by decide +kernel
theorem dX6_find_25 : decode cX6_find 25 = .ok (.ireturn, 1) := by decide +kernel
theorem dX6_isSheet_0 : decode cX6_isSheet 0 = .ok (.iload_n 1, 1) := by decide +kernel
theorem dX6_isSheet_1 : decode cX6_isSheet 1 = .ok (.ifCond .lt 12, 3) := by decide +kernel
theorem dX6_isSheet_4 : decode cX6_isSheet 4 = .ok (.iload_n 1, 1) := by decide +kernel
theorem dX6_isSheet_5 : decode cX6_isSheet 5 = .ok (.iconst 4, 1) := by decide +kernel
theorem dX6_isSheet_6 : decode cX6_isSheet 6 = .ok (.if_icmp .ge 7, 3) := by decide +kernel
theorem dX6_isSheet_9 : decode cX6_isSheet 9 = .ok (.iconst 1, 1) := by decide +kernel
theorem dX6_isSheet_10 : decode cX6_isSheet 10 = .ok (.goto 4, 3) := by decide +kernel
theorem dX6_isSheet_13 : decode cX6_isSheet 13 = .ok (.iconst 0, 1) := by decide +kernel
theorem dX6_isSheet_14 : decode cX6_isSheet 14 = .ok (.ireturn, 1) := by decide +kernel
theorem dX6_isStopSet_0 : decode cX6_isStopSet 0 = .ok (.iload_n 1, 1) := by decide +kernel
theorem dX6_isStopSet_1 : decode cX6_isStopSet 1 = .ok (.ifCond .lt 24, 3) := by decide +kernel
theorem dX6_isStopSet_4 : decode cX6_isStopSet 4 = .ok (.iload_n 1, 1) := by decide +kernel
theorem dX6_isStopSet_5 : decode cX6_isStopSet 5 = .ok (.invokestatic 300, 3) := by decide +kernel
theorem dX6_isStopSet_8 : decode cX6_isStopSet 8 = .ok (.bipush 10, 2) := by decide +kernel
theorem dX6_isStopSet_10 : decode cX6_isStopSet 10 = .ok (.if_icmp .gt 15, 3) := by decide +kernel
theorem dX6_isStopSet_13 : decode cX6_isStopSet 13 = .ok (.iload_n 1, 1) := by decide +kernel
theorem dX6_isStopSet_14 : decode cX6_isStopSet 14 = .ok (.aload_n 0, 1) := by decide +kernel
theorem dX6_isStopSet_15 : decode cX6_isStopSet 15 = .ok (.getfield 10, 3) := by decide +kernel
theorem dX6_isStopSet_18 : decode cX6_isStopSet 18 = .ok (.getfield 79, 3) := by decide +kernel
theorem dX6_isStopSet_21 : decode cX6_isStopSet 21 = .ok (.iushr, 1) := by decide +kernel
theorem dX6_isStopSet_22 : decode cX6_isStopSet 22 = .ok (.ifCond .eq 5, 3) := by decide +kernel
theorem dX6_isStopSet_25 : decode cX6_isStopSet 25 = .ok (.iconst 0, 1) := by decide +kernel
theorem dX6_isStopSet_26 : decode cX6_isStopSet 26 = .ok (.ireturn, 1) := by decide +kernel
theorem dX6_isStopSet_27 : decode cX6_isStopSet 27 = .ok (.iconst 0, 1) := by decide +kernel
theorem dX6_isStopSet_28 : decode cX6_isStopSet 28 = .ok (.istore_n 2, 1) := by decide +kernel
theorem dX6_isStopSet_29 : decode cX6_isStopSet 29 = .ok (.iload_n 2, 1) := by decide +kernel
theorem dX6_isStopSet_30 : decode cX6_isStopSet 30 = .ok (.aload_n 0, 1) := by decide +kernel
theorem dX6_isStopSet_31 : decode cX6_isStopSet 31 = .ok (.getfield 10, 3) := by decide +kernel
theorem dX6_isStopSet_34 : decode cX6_isStopSet 34 = .ok (.getfield 79, 3) := by decide +kernel
theorem dX6_isStopSet_37 : decode cX6_isStopSet 37 = .ok (.if_icmp .ge 31, 3) := by decide +kernel
theorem dX6_isStopSet_40 : decode cX6_isStopSet 40 = .ok (.iload_n 1, 1) := by decide +kernel
theorem dX6_isStopSet_41 : decode cX6_isStopSet 41 = .ok (.iload_n 2, 1) := by decide +kernel
theorem dX6_isStopSet_42 : decode cX6_isStopSet 42 = .ok (.invokestatic 305, 3) := by decide +kernel
theorem dX6_isStopSet_45 : decode cX6_isStopSet 45 = .ok (.ifCond .eq 17, 3) := by decide +kernel
theorem dX6_isStopSet_48 : decode cX6_isStopSet 48 = .ok (.aload_n 0, 1) := by decide +kernel
theorem dX6_isStopSet_49 : decode cX6_isStopSet 49 = .ok (.getfield 10, 3) := by decide +kernel
theorem dX6_isStopSet_52 : decode cX6_isStopSet 52 = .ok (.getfield 114, 3) := by decide +kernel
theorem dX6_isStopSet_55 : decode cX6_isStopSet 55 = .ok (.iload_n 2, 1) := by decide +kernel
theorem dX6_isStopSet_56 : decode cX6_isStopSet 56 = .ok (.baload, 1) := by decide +kernel
theorem dX6_isStopSet_57 : decode cX6_isStopSet 57 = .ok (.ifCond .eq 5, 3) := by decide +kernel
theorem dX6_isStopSet_60 : decode cX6_isStopSet 60 = .ok (.iconst 0, 1) := by decide +kernel
theorem dX6_isStopSet_61 : decode cX6_isStopSet 61 = .ok (.ireturn, 1) := by decide +kernel
theorem dX6_isStopSet_62 : decode cX6_isStopSet 62 = .ok (.iinc 2 1, 3) := by decide +kernel
theorem dX6_isStopSet_65 : decode cX6_isStopSet 65 = .ok (.goto (-36), 3) := by decide +kernel
theorem dX6_isStopSet_68 : decode cX6_isStopSet 68 = .ok (.iconst 1, 1) := by decide +kernel
theorem dX6_isStopSet_69 : decode cX6_isStopSet 69 = .ok (.ireturn, 1) := by decide +kernel
theorem dX6_seenAt_0 : decode cX6_seenAt 0 = .ok (.aload_n 0, 1) := by decide +kernel
theorem dX6_seenAt_1 : decode cX6_seenAt 1 = .ok (.getfield 10, 3) := by decide +kernel
theorem dX6_seenAt_4 : decode cX6_seenAt 4 = .ok (.aload_n 0, 1) := by decide +kernel
theorem dX6_seenAt_5 : decode cX6_seenAt 5 = .ok (.getfield 10, 3) := by decide +kernel
theorem dX6_seenAt_8 : decode cX6_seenAt 8 = .ok (.getfield 188, 3) := by decide +kernel
theorem dX6_seenAt_11 : decode cX6_seenAt 11 = .ok (.ldc_w 308, 3) := by decide +kernel
theorem dX6_seenAt_14 : decode cX6_seenAt 14 = .ok (.imul, 1) := by decide +kernel
theorem dX6_seenAt_15 : decode cX6_seenAt 15 = .ok (.sipush 12345, 3) := by decide +kernel
theorem dX6_seenAt_18 : decode cX6_seenAt 18 = .ok (.iadd, 1) := by decide +kernel
theorem dX6_seenAt_19 : decode cX6_seenAt 19 = .ok (.putfield 188, 3) := by decide +kernel
theorem dX6_seenAt_22 : decode cX6_seenAt 22 = .ok (.aload_n 0, 1) := by decide +kernel
theorem dX6_seenAt_23 : decode cX6_seenAt 23 = .ok (.getfield 10, 3) := by decide +kernel
theorem dX6_seenAt_26 : decode cX6_seenAt 26 = .ok (.getfield 188, 3) := by decide +kernel
theorem dX6_seenAt_29 : decode cX6_seenAt 29 = .ok (.bipush 8, 2) := by decide +kernel
theorem dX6_seenAt_31 : decode cX6_seenAt 31 = .ok (.iushr, 1) := by decide +kernel
theorem dX6_seenAt_32 : decode cX6_seenAt 32 = .ok (.bipush 100, 2) := by decide +kernel
theorem dX6_seenAt_34 : decode cX6_seenAt 34 = .ok (.irem, 1) := by decide +kernel
theorem dX6_seenAt_35 : decode cX6_seenAt 35 = .ok (.istore_n 2, 1) := by decide +kernel
theorem dX6_seenAt_36 : decode cX6_seenAt 36 = .ok (.aload_n 0, 1) := by decide +kernel
theorem dX6_seenAt_37 : decode cX6_seenAt 37 = .ok (.getfield 10, 3) := by decide +kernel
theorem dX6_seenAt_40 : decode cX6_seenAt 40 = .ok (.getfield 93, 3) := by decide +kernel
theorem dX6_seenAt_43 : decode cX6_seenAt 43 = .ok (.iload_n 1, 1) := by decide +kernel
theorem dX6_seenAt_44 : decode cX6_seenAt 44 = .ok (.iaload, 1) := by decide +kernel
theorem dX6_seenAt_45 : decode cX6_seenAt 45 = .ok (.iconst 1, 1) := by decide +kernel
theorem dX6_seenAt_46 : decode cX6_seenAt 46 = .ok (.if_icmp .eq 16, 3) := by decide +kernel
theorem dX6_seenAt_49 : decode cX6_seenAt 49 = .ok (.iload_n 2, 1) := by decide +kernel
theorem dX6_seenAt_50 : decode cX6_seenAt 50 = .ok (.aload_n 0, 1) := by decide +kernel
theorem dX6_seenAt_51 : decode cX6_seenAt 51 = .ok (.getfield 10, 3) := by decide +kernel
theorem dX6_seenAt_54 : decode cX6_seenAt 54 = .ok (.getfield 134, 3) := by decide +kernel
theorem dX6_seenAt_57 : decode cX6_seenAt 57 = .ok (.iconst 5, 1) := by decide +kernel
theorem dX6_seenAt_58 : decode cX6_seenAt 58 = .ok (.iaload, 1) := by decide +kernel
theorem dX6_seenAt_59 : decode cX6_seenAt 59 = .ok (.if_icmp .ge 5, 3) := by decide +kernel
theorem dX6_seenAt_62 : decode cX6_seenAt 62 = .ok (.iconst 0, 1) := by decide +kernel
theorem dX6_seenAt_63 : decode cX6_seenAt 63 = .ok (.ireturn, 1) := by decide +kernel
theorem dX6_seenAt_64 : decode cX6_seenAt 64 = .ok (.aload_n 0, 1) := by decide +kernel
theorem dX6_seenAt_65 : decode cX6_seenAt 65 = .ok (.getfield 29, 3) := by decide +kernel
theorem dX6_seenAt_68 : decode cX6_seenAt 68 = .ok (.getfield 167, 3) := by decide +kernel
theorem dX6_seenAt_71 : decode cX6_seenAt 71 = .ok (.iload_n 1, 1) := by decide +kernel
theorem dX6_seenAt_72 : decode cX6_seenAt 72 = .ok (.iaload, 1) := by decide +kernel
theorem dX6_seenAt_73 : decode cX6_seenAt 73 = .ok (.invokestatic 170, 3) := by decide +kernel
theorem dX6_seenAt_76 : decode cX6_seenAt 76 = .ok (.ireturn, 1) := by decide +kernel
theorem dX6_isKind_0 : decode cX6_isKind 0 = .ok (.iload_n 0, 1) := by decide +kernel
theorem dX6_isKind_1 : decode cX6_isKind 1 = .ok (.ifCond .lt 13, 3) := by decide +kernel
theorem dX6_isKind_4 : decode cX6_isKind 4 = .ok (.iload_n 0, 1) := by decide +kernel
theorem dX6_isKind_5 : decode cX6_isKind 5 = .ok (.bipush 6, 2) := by decide +kernel
theorem dX6_isKind_7 : decode cX6_isKind 7 = .ok (.if_icmp .ge 7, 3) := by decide +kernel
theorem dX6_isKind_10 : decode cX6_isKind 10 = .ok (.iconst 1, 1) := by decide +kernel
theorem dX6_isKind_11 : decode cX6_isKind 11 = .ok (.goto 4, 3) := by decide +kernel
theorem dX6_isKind_14 : decode cX6_isKind 14 = .ok (.iconst 0, 1) := by decide +kernel
theorem dX6_isKind_15 : decode cX6_isKind 15 = .ok (.ireturn, 1) := by decide +kernel
theorem dX6_isUnder_0 : decode cX6_isUnder 0 = .ok (.iload_n 0, 1) := by decide +kernel
theorem dX6_isUnder_1 : decode cX6_isUnder 1 = .ok (.istore_n 2, 1) := by decide +kernel
theorem dX6_isUnder_2 : decode cX6_isUnder 2 = .ok (.iconst 0, 1) := by decide +kernel
theorem dX6_isUnder_3 : decode cX6_isUnder 3 = .ok (.istore_n 3, 1) := by decide +kernel
theorem dX6_isUnder_4 : decode cX6_isUnder 4 = .ok (.iload_n 3, 1) := by decide +kernel
theorem dX6_isUnder_5 : decode cX6_isUnder 5 = .ok (.bipush 6, 2) := by decide +kernel
theorem dX6_isUnder_7 : decode cX6_isUnder 7 = .ok (.if_icmp .ge 29, 3) := by decide +kernel
theorem dX6_isUnder_10 : decode cX6_isUnder 10 = .ok (.iload_n 2, 1) := by decide +kernel
theorem dX6_isUnder_11 : decode cX6_isUnder 11 = .ok (.invokestatic 69, 3) := by decide +kernel
theorem dX6_isUnder_14 : decode cX6_isUnder 14 = .ok (.ifCond .eq 22, 3) := by decide +kernel
theorem dX6_isUnder_17 : decode cX6_isUnder 17 = .ok (.iload_n 2, 1) := by decide +kernel
theorem dX6_isUnder_18 : decode cX6_isUnder 18 = .ok (.iload_n 1, 1) := by decide +kernel
theorem dX6_isUnder_19 : decode cX6_isUnder 19 = .ok (.if_icmp .ne 5, 3) := by decide +kernel
theorem dX6_isUnder_22 : decode cX6_isUnder 22 = .ok (.iconst 1, 1) := by decide +kernel
theorem dX6_isUnder_23 : decode cX6_isUnder 23 = .ok (.ireturn, 1) := by decide +kernel
theorem dX6_isUnder_24 : decode cX6_isUnder 24 = .ok (.getstatic 309, 3) := by decide +kernel
theorem dX6_isUnder_27 : decode cX6_isUnder 27 = .ok (.iload_n 2, 1) := by decide +kernel
theorem dX6_isUnder_28 : decode cX6_isUnder 28 = .ok (.iaload, 1) := by decide +kernel
theorem dX6_isUnder_29 : decode cX6_isUnder 29 = .ok (.istore_n 2, 1) := by decide +kernel
theorem dX6_isUnder_30 : decode cX6_isUnder 30 = .ok (.iinc 3 1, 3) := by decide +kernel
theorem dX6_isUnder_33 : decode cX6_isUnder 33 = .ok (.goto (-29), 3) := by decide +kernel
theorem dX6_isUnder_36 : decode cX6_isUnder 36 = .ok (.iconst 0, 1) := by decide +kernel
theorem dX6_isUnder_37 : decode cX6_isUnder 37 = .ok (.ireturn, 1) := by decide +kernel
theorem dX6_isMeasure_0 : decode cX6_isMeasure 0 = .ok (.iload_n 0, 1) := by decide +kernel
theorem dX6_isMeasure_1 : decode cX6_isMeasure 1 = .ok (.ifCond .lt 28, 3) := by decide +kernel
theorem dX6_isMeasure_4 : decode cX6_isMeasure 4 = .ok (.iload_n 0, 1) := by decide +kernel
theorem dX6_isMeasure_5 : decode cX6_isMeasure 5 = .ok (.sipush 10000, 3) := by decide +kernel
theorem dX6_isMeasure_8 : decode cX6_isMeasure 8 = .ok (.idiv, 1) := by decide +kernel
theorem dX6_isMeasure_9 : decode cX6_isMeasure 9 = .ok (.bipush 99, 2) := by decide +kernel
theorem dX6_isMeasure_11 : decode cX6_isMeasure 11 = .ok (.if_icmp .gt 18, 3) := by decide +kernel
theorem dX6_isMeasure_14 : decode cX6_isMeasure 14 = .ok (.iload_n 0, 1) := by decide +kernel
theorem dX6_isMeasure_15 : decode cX6_isMeasure 15 = .ok (.bipush 100, 2) := by decide +kernel
theorem dX6_isMeasure_17 : decode cX6_isMeasure 17 = .ok (.idiv, 1) := by decide +kernel
theorem dX6_isMeasure_18 : decode cX6_isMeasure 18 = .ok (.bipush 10, 2) := by decide +kernel
theorem dX6_isMeasure_20 : decode cX6_isMeasure 20 = .ok (.irem, 1) := by decide +kernel
theorem dX6_isMeasure_21 : decode cX6_isMeasure 21 = .ok (.iconst 4, 1) := by decide +kernel
theorem dX6_isMeasure_22 : decode cX6_isMeasure 22 = .ok (.if_icmp .ge 7, 3) := by decide +kernel
theorem dX6_isMeasure_25 : decode cX6_isMeasure 25 = .ok (.iconst 1, 1) := by decide +kernel
theorem dX6_isMeasure_26 : decode cX6_isMeasure 26 = .ok (.goto 4, 3) := by decide +kernel
theorem dX6_isMeasure_29 : decode cX6_isMeasure 29 = .ok (.iconst 0, 1) := by decide +kernel
theorem dX6_isMeasure_30 : decode cX6_isMeasure 30 = .ok (.ireturn, 1) := by decide +kernel
theorem dX6_isIn_0 : decode cX6_isIn 0 = .ok (.iload_n 0, 1) := by decide +kernel
theorem dX6_isIn_1 : decode cX6_isIn 1 = .ok (.iload_n 1, 1) := by decide +kernel
theorem dX6_isIn_2 : decode cX6_isIn 2 = .ok (.iushr, 1) := by decide +kernel
theorem dX6_isIn_3 : decode cX6_isIn 3 = .ok (.iconst 1, 1) := by decide +kernel
theorem dX6_isIn_4 : decode cX6_isIn 4 = .ok (.iand, 1) := by decide +kernel
theorem dX6_isIn_5 : decode cX6_isIn 5 = .ok (.iconst 1, 1) := by decide +kernel
theorem dX6_isIn_6 : decode cX6_isIn 6 = .ok (.if_icmp .ne 7, 3) := by decide +kernel
theorem dX6_isIn_9 : decode cX6_isIn 9 = .ok (.iconst 1, 1) := by decide +kernel
theorem dX6_isIn_10 : decode cX6_isIn 10 = .ok (.goto 4, 3) := by decide +kernel
theorem dX6_isIn_13 : decode cX6_isIn 13 = .ok (.iconst 0, 1) := by decide +kernel
theorem dX6_isIn_14 : decode cX6_isIn 14 = .ok (.ireturn, 1) := by decide +kernel
theorem dX6_leanOf_0 : decode cX6_leanOf 0 = .ok (.iload_n 0, 1) := by decide +kernel
theorem dX6_leanOf_1 : decode cX6_leanOf 1 = .ok (.invokestatic 225, 3) := by decide +kernel
theorem dX6_leanOf_4 : decode cX6_leanOf 4 = .ok (.istore_n 1, 1) := by decide +kernel
theorem dX6_leanOf_5 : decode cX6_leanOf 5 = .ok (.iload_n 1, 1) := by decide +kernel
theorem dX6_leanOf_6 : decode cX6_leanOf 6 = .ok (.iconst 5, 1) := by decide +kernel
theorem dX6_leanOf_7 : decode cX6_leanOf 7 = .ok (.if_icmp .ge 5, 3) := by decide +kernel
theorem dX6_leanOf_10 : decode cX6_leanOf 10 = .ok (.iconst 0, 1) := by decide +kernel
theorem dX6_leanOf_11 : decode cX6_leanOf 11 = .ok (.ireturn, 1) := by decide +kernel
theorem dX6_leanOf_12 : decode cX6_leanOf 12 = .ok (.iload_n 1, 1) := by decide +kernel
theorem dX6_leanOf_13 : decode cX6_leanOf 13 = .ok (.bipush 20, 2) := by decide +kernel
theorem dX6_leanOf_15 : decode cX6_leanOf 15 = .ok (.idiv, 1) := by decide +kernel
theorem dX6_leanOf_16 : decode cX6_leanOf 16 = .ok (.iconst 1, 1) := by decide +kernel
theorem dX6_leanOf_17 : decode cX6_leanOf 17 = .ok (.iadd, 1) := by decide +kernel
theorem dX6_leanOf_18 : decode cX6_leanOf 18 = .ok (.bipush 9, 2) := by decide +kernel
theorem dX6_leanOf_20 : decode cX6_leanOf 20 = .ok (.invokestatic 203, 3) := by decide +kernel
theorem dX6_leanOf_23 : decode cX6_leanOf 23 = .ok (.istore_n 2, 1) := by decide +kernel
theorem dX6_leanOf_24 : decode cX6_leanOf 24 = .ok (.iload_n 0, 1) := by decide +kernel
theorem dX6_leanOf_25 : decode cX6_leanOf 25 = .ok (.ifCond .ge 8, 3) := by decide +kernel
theorem dX6_leanOf_28 : decode cX6_leanOf 28 = .ok (.iload_n 2, 1) := by decide +kernel
theorem dX6_leanOf_29 : decode cX6_leanOf 29 = .ok (.ineg, 1) := by decide +kernel
theorem dX6_leanOf_30 : decode cX6_leanOf 30 = .ok (.goto 4, 3) := by decide +kernel
theorem dX6_leanOf_33 : decode cX6_leanOf 33 = .ok (.iload_n 2, 1) := by decide +kernel
theorem dX6_leanOf_34 : decode cX6_leanOf 34 = .ok (.ireturn, 1) := by decide +kernel
theorem dJ6_bitCount_0f7a4_0 : decode cJ6_bitCount_0f7a4 0 = .ok (.iload_n 0, 1) := by decide +kernel
theorem dJ6_bitCount_0f7a4_1 : decode cJ6_bitCount_0f7a4 1 = .ok (.iload_n 0, 1) := by decide +kernel
theorem dJ6_bitCount_0f7a4_2 : decode cJ6_bitCount_0f7a4 2 = .ok (.iconst 1, 1) := by decide +kernel
theorem dJ6_bitCount_0f7a4_3 : decode cJ6_bitCount_0f7a4 3 = .ok (.iushr, 1) := by decide +kernel
theorem dJ6_bitCount_0f7a4_4 : decode cJ6_bitCount_0f7a4 4 = .ok (.ldc_w 265, 3) := by decide +kernel
theorem dJ6_bitCount_0f7a4_7 : decode cJ6_bitCount_0f7a4 7 = .ok (.iand, 1) := by decide +kernel
theorem dJ6_bitCount_0f7a4_8 : decode cJ6_bitCount_0f7a4 8 = .ok (.isub, 1) := by decide +kernel
theorem dJ6_bitCount_0f7a4_9 : decode cJ6_bitCount_0f7a4 9 = .ok (.istore_n 0, 1) := by decide +kernel
theorem dJ6_bitCount_0f7a4_10 : decode cJ6_bitCount_0f7a4 10 = .ok (.iload_n 0, 1) := by decide +kernel
theorem dJ6_bitCount_0f7a4_11 : decode cJ6_bitCount_0f7a4 11 = .ok (.ldc_w 266, 3) := by decide +kernel
theorem dJ6_bitCount_0f7a4_14 : decode cJ6_bitCount_0f7a4 14 = .ok (.iand, 1) := by decide +kernel
theorem dJ6_bitCount_0f7a4_15 : decode cJ6_bitCount_0f7a4 15 = .ok (.iload_n 0, 1) := by decide +kernel
theorem dJ6_bitCount_0f7a4_16 : decode cJ6_bitCount_0f7a4 16 = .ok (.iconst 2, 1) := by decide +kernel
theorem dJ6_bitCount_0f7a4_17 : decode cJ6_bitCount_0f7a4 17 = .ok (.iushr, 1) := by decide +kernel
theorem dJ6_bitCount_0f7a4_18 : decode cJ6_bitCount_0f7a4 18 = .ok (.ldc_w 266, 3) := by decide +kernel
theorem dJ6_bitCount_0f7a4_21 : decode cJ6_bitCount_0f7a4 21 = .ok (.iand, 1) := by decide +kernel
theorem dJ6_bitCount_0f7a4_22 : decode cJ6_bitCount_0f7a4 22 = .ok (.iadd, 1) := by decide +kernel
theorem dJ6_bitCount_0f7a4_23 : decode cJ6_bitCount_0f7a4 23 = .ok (.istore_n 0, 1) := by decide +kernel
theorem dJ6_bitCount_0f7a4_24 : decode cJ6_bitCount_0f7a4 24 = .ok (.iload_n 0, 1) := by decide +kernel
theorem dJ6_bitCount_0f7a4_25 : decode cJ6_bitCount_0f7a4 25 = .ok (.iload_n 0, 1) := by decide +kernel
theorem dJ6_bitCount_0f7a4_26 : decode cJ6_bitCount_0f7a4 26 = .ok (.iconst 4, 1) := by decide +kernel
theorem dJ6_bitCount_0f7a4_27 : decode cJ6_bitCount_0f7a4 27 = .ok (.iushr, 1) := by decide +kernel
theorem dJ6_bitCount_0f7a4_28 : decode cJ6_bitCount_0f7a4 28 = .ok (.iadd, 1) := by decide +kernel
theorem dJ6_bitCount_0f7a4_29 : decode cJ6_bitCount_0f7a4 29 = .ok (.ldc_w 267, 3) := by decide +kernel
theorem dJ6_bitCount_0f7a4_32 : decode cJ6_bitCount_0f7a4 32 = .ok (.iand, 1) := by decide +kernel
theorem dJ6_bitCount_0f7a4_33 : decode cJ6_bitCount_0f7a4 33 = .ok (.istore_n 0, 1) := by decide +kernel
theorem dJ6_bitCount_0f7a4_34 : decode cJ6_bitCount_0f7a4 34 = .ok (.iload_n 0, 1) := by decide +kernel
theorem dJ6_bitCount_0f7a4_35 : decode cJ6_bitCount_0f7a4 35 = .ok (.iload_n 0, 1) := by decide +kernel
theorem dJ6_bitCount_0f7a4_36 : decode cJ6_bitCount_0f7a4 36 = .ok (.bipush 8, 2) := by decide +kernel
theorem dJ6_bitCount_0f7a4_38 : decode cJ6_bitCount_0f7a4 38 = .ok (.iushr, 1) := by decide +kernel
theorem dJ6_bitCount_0f7a4_39 : decode cJ6_bitCount_0f7a4 39 = .ok (.iadd, 1) := by decide +kernel
theorem dJ6_bitCount_0f7a4_40 : decode cJ6_bitCount_0f7a4 40 = .ok (.istore_n 0, 1) := by decide +kernel
theorem dJ6_bitCount_0f7a4_41 : decode cJ6_bitCount_0f7a4 41 = .ok (.iload_n 0, 1) := by decide +kernel
theorem dJ6_bitCount_0f7a4_42 : decode cJ6_bitCount_0f7a4 42 = .ok (.iload_n 0, 1) := by decide +kernel
theorem dJ6_bitCount_0f7a4_43 : decode cJ6_bitCount_0f7a4 43 = .ok (.bipush 16, 2) := by decide +kernel
theorem dJ6_bitCount_0f7a4_45 : decode cJ6_bitCount_0f7a4 45 = .ok (.iushr, 1) := by decide +kernel
theorem dJ6_bitCount_0f7a4_46 : decode cJ6_bitCount_0f7a4 46 = .ok (.iadd, 1) := by decide +kernel
theorem dJ6_bitCount_0f7a4_47 : decode cJ6_bitCount_0f7a4 47 = .ok (.istore_n 0, 1) := by decide +kernel
theorem dJ6_bitCount_0f7a4_48 : decode cJ6_bitCount_0f7a4 48 = .ok (.iload_n 0, 1) := by decide +kernel
theorem dJ6_bitCount_0f7a4_49 : decode cJ6_bitCount_0f7a4 49 = .ok (.bipush 63, 2) := by decide +kernel
theorem dJ6_bitCount_0f7a4_51 : decode cJ6_bitCount_0f7a4 51 = .ok (.iand, 1) := by decide +kernel
theorem dJ6_bitCount_0f7a4_52 : decode cJ6_bitCount_0f7a4 52 = .ok (.ireturn, 1) := by decide +kernel
theorem dJ9_abs_0f7a4_0 : decode cJ9_abs_0f7a4 0 = .ok (.iload_n 0, 1) := by decide +kernel
theorem dJ9_abs_0f7a4_1 : decode cJ9_abs_0f7a4 1 = .ok (.ifCond .ge 8, 3) := by decide +kernel
theorem dJ9_abs_0f7a4_4 : decode cJ9_abs_0f7a4 4 = .ok (.iload_n 0, 1) := by decide +kernel
theorem dJ9_abs_0f7a4_5 : decode cJ9_abs_0f7a4 5 = .ok (.ineg, 1) := by decide +kernel
theorem dJ9_abs_0f7a4_6 : decode cJ9_abs_0f7a4 6 = .ok (.goto 4, 3) := by decide +kernel
theorem dJ9_abs_0f7a4_9 : decode cJ9_abs_0f7a4 9 = .ok (.iload_n 0, 1) := by decide +kernel
theorem dJ9_abs_0f7a4_10 : decode cJ9_abs_0f7a4 10 = .ok (.ireturn, 1) := by decide +kernel
theorem dJ9_min_7cf53_0 : decode cJ9_min_7cf53 0 = .ok (.iload_n 0, 1) := by decide +kernel
theorem dJ9_min_7cf53_1 : decode cJ9_min_7cf53 1 = .ok (.iload_n 1, 1) := by decide +kernel
theorem dJ9_min_7cf53_2 : decode cJ9_min_7cf53 2 = .ok (.if_icmp .gt 7, 3) := by decide +kernel
theorem dJ9_min_7cf53_5 : decode cJ9_min_7cf53 5 = .ok (.iload_n 0, 1) := by decide +kernel
theorem dJ9_min_7cf53_6 : decode cJ9_min_7cf53 6 = .ok (.goto 4, 3) := by decide +kernel
theorem dJ9_min_7cf53_9 : decode cJ9_min_7cf53 9 = .ok (.iload_n 1, 1) := by decide +kernel
theorem dJ9_min_7cf53_10 : decode cJ9_min_7cf53 10 = .ok (.ireturn, 1) := by decide +kernel
theorem dJ0_length_8abf5_0 : decode cJ0_length_8abf5 0 = .ok (.aload_n 0, 1) := by decide +kernel
theorem dJ0_length_8abf5_1 : decode cJ0_length_8abf5 1 = .ok (.getfield 9, 3) := by decide +kernel
theorem dJ0_length_8abf5_4 : decode cJ0_length_8abf5 4 = .ok (.arraylength, 1) := by decide +kernel
theorem dJ0_length_8abf5_5 : decode cJ0_length_8abf5 5 = .ok (.aload_n 0, 1) := by decide +kernel
theorem dJ0_length_8abf5_6 : decode cJ0_length_8abf5 6 = .ok (.invokevirtual 335, 3) := by decide +kernel
theorem dJ0_length_8abf5_9 : decode cJ0_length_8abf5 9 = .ok (.ishr, 1) := by decide +kernel
theorem dJ0_length_8abf5_10 : decode cJ0_length_8abf5 10 = .ok (.ireturn, 1) := by decide +kernel
theorem dJ0_charAt_5068e_0 : decode cJ0_charAt_5068e 0 = .ok (.aload_n 0, 1) := by decide +kernel
theorem dJ0_charAt_5068e_1 : decode cJ0_charAt_5068e 1 = .ok (.invokevirtual 492, 3) := by decide +kernel
theorem dJ0_charAt_5068e_4 : decode cJ0_charAt_5068e 4 = .ok (.ifCond .eq 12, 3) := by decide +kernel
theorem dJ0_charAt_5068e_7 : decode cJ0_charAt_5068e 7 = .ok (.aload_n 0, 1) := by decide +kernel
theorem dJ0_charAt_5068e_8 : decode cJ0_charAt_5068e 8 = .ok (.getfield 9, 3) := by decide +kernel
theorem dJ0_charAt_5068e_11 : decode cJ0_charAt_5068e 11 = .ok (.iload_n 1, 1) := by decide +kernel
theorem dJ0_charAt_5068e_12 : decode cJ0_charAt_5068e 12 = .ok (.invokestatic 495, 3) := by decide +kernel
theorem dJ0_charAt_5068e_15 : decode cJ0_charAt_5068e 15 = .ok (.ireturn, 1) := by decide +kernel
theorem dJ0_charAt_5068e_16 : decode cJ0_charAt_5068e 16 = .ok (.aload_n 0, 1) := by decide +kernel
theorem dJ0_charAt_5068e_17 : decode cJ0_charAt_5068e 17 = .ok (.getfield 9, 3) := by decide +kernel
theorem dJ0_charAt_5068e_20 : decode cJ0_charAt_5068e 20 = .ok (.iload_n 1, 1) := by decide +kernel
theorem dJ0_charAt_5068e_21 : decode cJ0_charAt_5068e 21 = .ok (.invokestatic 498, 3) := by decide +kernel
theorem dJ0_charAt_5068e_24 : decode cJ0_charAt_5068e 24 = .ok (.ireturn, 1) := by decide +kernel
theorem dJ0_coder_7d493_0 : decode cJ0_coder_7d493 0 = .ok (.getstatic 38, 3) := by decide +kernel
theorem dJ0_coder_7d493_3 : decode cJ0_coder_7d493 3 = .ok (.ifCond .eq 10, 3) := by decide +kernel
theorem dJ0_coder_7d493_6 : decode cJ0_coder_7d493 6 = .ok (.aload_n 0, 1) := by decide +kernel
theorem dJ0_coder_7d493_7 : decode cJ0_coder_7d493 7 = .ok (.getfield 15, 3) := by decide +kernel
theorem dJ0_coder_7d493_10 : decode cJ0_coder_7d493 10 = .ok (.goto 4, 3) := by decide +kernel
theorem dJ0_coder_7d493_13 : decode cJ0_coder_7d493 13 = .ok (.iconst 1, 1) := by decide +kernel
theorem dJ0_coder_7d493_14 : decode cJ0_coder_7d493 14 = .ok (.ireturn, 1) := by decide +kernel
theorem dJ0_isLatin1_aae02_0 : decode cJ0_isLatin1_aae02 0 = .ok (.getstatic 38, 3) := by decide +kernel
theorem dJ0_isLatin1_aae02_3 : decode cJ0_isLatin1_aae02 3 = .ok (.ifCond .eq 14, 3) := by decide +kernel
theorem dJ0_isLatin1_aae02_6 : decode cJ0_isLatin1_aae02 6 = .ok (.aload_n 0, 1) := by decide +kernel
theorem dJ0_isLatin1_aae02_7 : decode cJ0_isLatin1_aae02 7 = .ok (.getfield 15, 3) := by decide +kernel
theorem dJ0_isLatin1_aae02_10 : decode cJ0_isLatin1_aae02 10 = .ok (.ifCond .ne 7, 3) := by decide +kernel
theorem dJ0_isLatin1_aae02_13 : decode cJ0_isLatin1_aae02 13 = .ok (.iconst 1, 1) := by decide +kernel
theorem dJ0_isLatin1_aae02_14 : decode cJ0_isLatin1_aae02 14 = .ok (.goto 4, 3) := by decide +kernel
theorem dJ0_isLatin1_aae02_17 : decode cJ0_isLatin1_aae02 17 = .ok (.iconst 0, 1) := by decide +kernel
theorem dJ0_isLatin1_aae02_18 : decode cJ0_isLatin1_aae02 18 = .ok (.ireturn, 1) := by decide +kernel
theorem dJ0_checkIndex_df160_0 : decode cJ0_checkIndex_df160 0 = .ok (.iload_n 0, 1) := by decide +kernel
theorem dJ0_checkIndex_df160_1 : decode cJ0_checkIndex_df160 1 = .ok (.iload_n 1, 1) := by decide +kernel
theorem dJ0_checkIndex_df160_2 : decode cJ0_checkIndex_df160 2 = .ok (.getstatic 1053, 3) := by decide +kernel
theorem dJ0_checkIndex_df160_5 : decode cJ0_checkIndex_df160 5 = .ok (.invokestatic 1059, 3) := by decide +kernel
theorem dJ0_checkIndex_df160_8 : decode cJ0_checkIndex_df160 8 = .ok (.pop, 1) := by decide +kernel
theorem dJ0_checkIndex_df160_9 : decode cJ0_checkIndex_df160 9 = .ok (.return_, 1) := by decide +kernel
theorem dJ1_charAt_3b067_0 : decode cJ1_charAt_3b067 0 = .ok (.iload_n 1, 1) := by decide +kernel
theorem dJ1_charAt_3b067_1 : decode cJ1_charAt_3b067 1 = .ok (.aload_n 0, 1) := by decide +kernel
theorem dJ1_charAt_3b067_2 : decode cJ1_charAt_3b067 2 = .ok (.arraylength, 1) := by decide +kernel
theorem dJ1_charAt_3b067_3 : decode cJ1_charAt_3b067 3 = .ok (.invokestatic 9, 3) := by decide +kernel
theorem dJ1_charAt_3b067_6 : decode cJ1_charAt_3b067 6 = .ok (.aload_n 0, 1) := by decide +kernel
theorem dJ1_charAt_3b067_7 : decode cJ1_charAt_3b067 7 = .ok (.iload_n 1, 1) := by decide +kernel
theorem dJ1_charAt_3b067_8 : decode cJ1_charAt_3b067 8 = .ok (.baload, 1) := by decide +kernel
theorem dJ1_charAt_3b067_9 : decode cJ1_charAt_3b067 9 = .ok (.sipush 255, 3) := by decide +kernel
theorem dJ1_charAt_3b067_12 : decode cJ1_charAt_3b067 12 = .ok (.iand, 1) := by decide +kernel
theorem dJ1_charAt_3b067_13 : decode cJ1_charAt_3b067 13 = .ok (.i2c, 1) := by decide +kernel
theorem dJ1_charAt_3b067_14 : decode cJ1_charAt_3b067 14 = .ok (.ireturn, 1) := by decide +kernel
theorem dJ2_getChar_3b067_0 : decode cJ2_getChar_3b067 0 = .ok (.getstatic 44, 3) := by decide +kernel
theorem dJ2_getChar_3b067_3 : decode cJ2_getChar_3b067 3 = .ok (.ifCond .ne 25, 3) := by decide +kernel
theorem dJ2_getChar_3b067_6 : decode cJ2_getChar_3b067 6 = .ok (.iload_n 1, 1) := by decide +kernel
theorem dJ2_getChar_3b067_7 : decode cJ2_getChar_3b067 7 = .ok (.ifCond .lt 11, 3) := by decide +kernel
theorem dJ2_getChar_3b067_10 : decode cJ2_getChar_3b067 10 = .ok (.iload_n 1, 1) := by decide +kernel
theorem dJ2_getChar_3b067_11 : decode cJ2_getChar_3b067 11 = .ok (.aload_n 0, 1) := by decide +kernel
theorem dJ2_getChar_3b067_12 : decode cJ2_getChar_3b067 12 = .ok (.invokestatic 48, 3) := by decide +kernel
theorem dJ2_getChar_3b067_15 : decode cJ2_getChar_3b067 15 = .ok (.if_icmp .lt 13, 3) := by decide +kernel
theorem dJ2_getChar_3b067_18 : decode cJ2_getChar_3b067 18 = .ok (.new 52, 3) := by decide +kernel
theorem dJ2_getChar_3b067_21 : decode cJ2_getChar_3b067 21 = .ok (.dup, 1) := by decide +kernel
theorem dJ2_getChar_3b067_22 : decode cJ2_getChar_3b067 22 = .ok (.ldc 54, 2) := by decide +kernel
theorem dJ2_getChar_3b067_24 : decode cJ2_getChar_3b067 24 = .ok (.invokespecial 56, 3) := by decide +kernel
theorem dJ2_getChar_3b067_27 : decode cJ2_getChar_3b067 27 = .ok (.athrow, 1) := by decide +kernel
theorem dJ2_getChar_3b067_28 : decode cJ2_getChar_3b067 28 = .ok (.iload_n 1, 1) := by decide +kernel
theorem dJ2_getChar_3b067_29 : decode cJ2_getChar_3b067 29 = .ok (.iconst 1, 1) := by decide +kernel
theorem dJ2_getChar_3b067_30 : decode cJ2_getChar_3b067 30 = .ok (.ishl, 1) := by decide +kernel
theorem dJ2_getChar_3b067_31 : decode cJ2_getChar_3b067 31 = .ok (.istore_n 1, 1) := by decide +kernel
theorem dJ2_getChar_3b067_32 : decode cJ2_getChar_3b067 32 = .ok (.aload_n 0, 1) := by decide +kernel
theorem dJ2_getChar_3b067_33 : decode cJ2_getChar_3b067 33 = .ok (.iload_n 1, 1) := by decide +kernel
theorem dJ2_getChar_3b067_34 : decode cJ2_getChar_3b067 34 = .ok (.iinc 1 1, 3) := by decide +kernel
theorem dJ2_getChar_3b067_37 : decode cJ2_getChar_3b067 37 = .ok (.baload, 1) := by decide +kernel
theorem dJ2_getChar_3b067_38 : decode cJ2_getChar_3b067 38 = .ok (.sipush 255, 3) := by decide +kernel
theorem dJ2_getChar_3b067_41 : decode cJ2_getChar_3b067 41 = .ok (.iand, 1) := by decide +kernel
theorem dJ2_getChar_3b067_42 : decode cJ2_getChar_3b067 42 = .ok (.getstatic 59, 3) := by decide +kernel
theorem dJ2_getChar_3b067_45 : decode cJ2_getChar_3b067 45 = .ok (.ishl, 1) := by decide +kernel
theorem dJ2_getChar_3b067_46 : decode cJ2_getChar_3b067 46 = .ok (.aload_n 0, 1) := by decide +kernel
theorem dJ2_getChar_3b067_47 : decode cJ2_getChar_3b067 47 = .ok (.iload_n 1, 1) := by decide +kernel
theorem dJ2_getChar_3b067_48 : decode cJ2_getChar_3b067 48 = .ok (.baload, 1) := by decide +kernel
theorem dJ2_getChar_3b067_49 : decode cJ2_getChar_3b067 49 = .ok (.sipush 255, 3) := by decide +kernel
theorem dJ2_getChar_3b067_52 : decode cJ2_getChar_3b067 52 = .ok (.iand, 1) := by decide +kernel
theorem dJ2_getChar_3b067_53 : decode cJ2_getChar_3b067 53 = .ok (.getstatic 63, 3) := by decide +kernel
theorem dJ2_getChar_3b067_56 : decode cJ2_getChar_3b067 56 = .ok (.ishl, 1) := by decide +kernel
theorem dJ2_getChar_3b067_57 : decode cJ2_getChar_3b067 57 = .ok (.ior, 1) := by decide +kernel
theorem dJ2_getChar_3b067_58 : decode cJ2_getChar_3b067 58 = .ok (.i2c, 1) := by decide +kernel
theorem dJ2_getChar_3b067_59 : decode cJ2_getChar_3b067 59 = .ok (.ireturn, 1) := by decide +kernel
theorem dJ2_length_9d52b_0 : decode cJ2_length_9d52b 0 = .ok (.aload_n 0, 1) := by decide +kernel
theorem dJ2_length_9d52b_1 : decode cJ2_length_9d52b 1 = .ok (.arraylength, 1) := by decide +kernel
theorem dJ2_length_9d52b_2 : decode cJ2_length_9d52b 2 = .ok (.iconst 1, 1) := by decide +kernel
theorem dJ2_length_9d52b_3 : decode cJ2_length_9d52b 3 = .ok (.ishr, 1) := by decide +kernel
theorem dJ2_length_9d52b_4 : decode cJ2_length_9d52b 4 = .ok (.ireturn, 1) := by decide +kernel
theorem dJ2_charAt_3b067_0 : decode cJ2_charAt_3b067 0 = .ok (.iload_n 1, 1) := by decide +kernel
theorem dJ2_charAt_3b067_1 : decode cJ2_charAt_3b067 1 = .ok (.aload_n 0, 1) := by decide +kernel
theorem dJ2_charAt_3b067_2 : decode cJ2_charAt_3b067 2 = .ok (.invokestatic 67, 3) := by decide +kernel
theorem dJ2_charAt_3b067_5 : decode cJ2_charAt_3b067 5 = .ok (.aload_n 0, 1) := by decide +kernel
theorem dJ2_charAt_3b067_6 : decode cJ2_charAt_3b067 6 = .ok (.iload_n 1, 1) := by decide +kernel
theorem dJ2_charAt_3b067_7 : decode cJ2_charAt_3b067 7 = .ok (.invokestatic 71, 3) := by decide +kernel
theorem dJ2_charAt_3b067_10 : decode cJ2_charAt_3b067 10 = .ok (.ireturn, 1) := by decide +kernel
theorem dJ2_checkIndex_2214a_0 : decode cJ2_checkIndex_2214a 0 = .ok (.iload_n 0, 1) := by decide +kernel
theorem dJ2_checkIndex_2214a_1 : decode cJ2_checkIndex_2214a 1 = .ok (.aload_n 1, 1) := by decide +kernel
theorem dJ2_checkIndex_2214a_2 : decode cJ2_checkIndex_2214a 2 = .ok (.invokestatic 48, 3) := by decide +kernel
theorem dJ2_checkIndex_2214a_5 : decode cJ2_checkIndex_2214a 5 = .ok (.invokestatic 414, 3) := by decide +kernel
theorem dJ2_checkIndex_2214a_8 : decode cJ2_checkIndex_2214a 8 = .ok (.return_, 1) := by decide +kernel
theorem dJ3_checkIndex_8e157_0 : decode cJ3_checkIndex_8e157 0 = .ok (.iload_n 0, 1) := by decide +kernel
theorem dJ3_checkIndex_8e157_1 : decode cJ3_checkIndex_8e157 1 = .ok (.ifCond .lt 8, 3) := by decide +kernel
theorem dJ3_checkIndex_8e157_4 : decode cJ3_checkIndex_8e157 4 = .ok (.iload_n 0, 1) := by decide +kernel
theorem dJ3_checkIndex_8e157_5 : decode cJ3_checkIndex_8e157 5 = .ok (.iload_n 1, 1) := by decide +kernel
theorem dJ3_checkIndex_8e157_6 : decode cJ3_checkIndex_8e157 6 = .ok (.if_icmp .lt 10, 3) := by decide +kernel
theorem dJ3_checkIndex_8e157_9 : decode cJ3_checkIndex_8e157 9 = .ok (.aload_n 2, 1) := by decide +kernel
theorem dJ3_checkIndex_8e157_10 : decode cJ3_checkIndex_8e157 10 = .ok (.iload_n 0, 1) := by decide +kernel
theorem dJ3_checkIndex_8e157_11 : decode cJ3_checkIndex_8e157 11 = .ok (.iload_n 1, 1) := by decide +kernel
theorem dJ3_checkIndex_8e157_12 : decode cJ3_checkIndex_8e157 12 = .ok (.invokestatic 95, 3) := by decide +kernel
theorem dJ3_checkIndex_8e157_15 : decode cJ3_checkIndex_8e157 15 = .ok (.athrow, 1) := by decide +kernel
theorem dJ3_checkIndex_8e157_16 : decode cJ3_checkIndex_8e157 16 = .ok (.iload_n 0, 1) := by decide +kernel
theorem dJ3_checkIndex_8e157_17 : decode cJ3_checkIndex_8e157 17 = .ok (.ireturn, 1) := by decide +kernel
