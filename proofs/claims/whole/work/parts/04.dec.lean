theorem dX7_init_0 : decode cX7_init 0 = .ok (.aload_n 0, 1) := by decide +kernel
theorem dX7_init_1 : decode cX7_init 1 = .ok (.invokespecial 1, 3) := by decide +kernel
theorem dX7_init_4 : decode cX7_init 4 = .ok (.aload_n 0, 1) := by decide +kernel
theorem dX7_init_5 : decode cX7_init 5 = .ok (.sipush 169, 3) := by decide +kernel
theorem dX7_init_8 : decode cX7_init 8 = .ok (.newarray .int, 2) := by decide +kernel
theorem dX7_init_10 : decode cX7_init 10 = .ok (.putfield 7, 3) := by decide +kernel
theorem dX7_init_13 : decode cX7_init 13 = .ok (.aload_n 0, 1) := by decide +kernel
theorem dX7_init_14 : decode cX7_init 14 = .ok (.sipush 169, 3) := by decide +kernel
theorem dX7_init_17 : decode cX7_init 17 = .ok (.newarray .int, 2) := by decide +kernel
theorem dX7_init_19 : decode cX7_init 19 = .ok (.putfield 13, 3) := by decide +kernel
theorem dX7_init_22 : decode cX7_init 22 = .ok (.aload_n 0, 1) := by decide +kernel
theorem dX7_init_23 : decode cX7_init 23 = .ok (.sipush 169, 3) := by decide +kernel
theorem dX7_init_26 : decode cX7_init 26 = .ok (.newarray .int, 2) := by decide +kernel
theorem dX7_init_28 : decode cX7_init 28 = .ok (.putfield 16, 3) := by decide +kernel
theorem dX7_init_31 : decode cX7_init 31 = .ok (.aload_n 0, 1) := by decide +kernel
theorem dX7_init_32 : decode cX7_init 32 = .ok (.bipush 7, 2) := by decide +kernel
theorem dX7_init_34 : decode cX7_init 34 = .ok (.newarray .int, 2) := by decide +kernel
theorem dX7_init_36 : decode cX7_init 36 = .ok (.putfield 19, 3) := by decide +kernel
theorem dX7_init_39 : decode cX7_init 39 = .ok (.aload_n 0, 1) := by decide +kernel
theorem dX7_init_40 : decode cX7_init 40 = .ok (.bipush 120, 2) := by decide +kernel
theorem dX7_init_42 : decode cX7_init 42 = .ok (.newarray .int, 2) := by decide +kernel
theorem dX7_init_44 : decode cX7_init 44 = .ok (.putfield 22, 3) := by decide +kernel
theorem dX7_init_47 : decode cX7_init 47 = .ok (.aload_n 0, 1) := by decide +kernel
theorem dX7_init_48 : decode cX7_init 48 = .ok (.bipush 6, 2) := by decide +kernel
theorem dX7_init_50 : decode cX7_init 50 = .ok (.newarray .int, 2) := by decide +kernel
theorem dX7_init_52 : decode cX7_init 52 = .ok (.putfield 25, 3) := by decide +kernel
theorem dX7_init_55 : decode cX7_init 55 = .ok (.aload_n 0, 1) := by decide +kernel
theorem dX7_init_56 : decode cX7_init 56 = .ok (.bipush 6, 2) := by decide +kernel
theorem dX7_init_58 : decode cX7_init 58 = .ok (.newarray .int, 2) := by decide +kernel
theorem dX7_init_60 : decode cX7_init 60 = .ok (.putfield 28, 3) := by decide +kernel
theorem dX7_init_63 : decode cX7_init 63 = .ok (.aload_n 0, 1) := by decide +kernel
theorem dX7_init_64 : decode cX7_init 64 = .ok (.bipush 20, 2) := by decide +kernel
theorem dX7_init_66 : decode cX7_init 66 = .ok (.newarray .int, 2) := by decide +kernel
theorem dX7_init_68 : decode cX7_init 68 = .ok (.putfield 31, 3) := by decide +kernel
theorem dX7_init_71 : decode cX7_init 71 = .ok (.aload_n 0, 1) := by decide +kernel
theorem dX7_init_72 : decode cX7_init 72 = .ok (.bipush 21, 2) := by decide +kernel
theorem dX7_init_74 : decode cX7_init 74 = .ok (.newarray .int, 2) := by decide +kernel
theorem dX7_init_76 : decode cX7_init 76 = .ok (.putfield 34, 3) := by decide +kernel
theorem dX7_init_79 : decode cX7_init 79 = .ok (.aload_n 0, 1) := by decide +kernel
theorem dX7_init_80 : decode cX7_init 80 = .ok (.bipush 20, 2) := by decide +kernel
theorem dX7_init_82 : decode cX7_init 82 = .ok (.newarray .int, 2) := by decide +kernel
theorem dX7_init_84 : decode cX7_init 84 = .ok (.putfield 37, 3) := by decide +kernel
theorem dX7_init_87 : decode cX7_init 87 = .ok (.aload_n 0, 1) := by decide +kernel
theorem dX7_init_88 : decode cX7_init 88 = .ok (.iconst 4, 1) := by decide +kernel
theorem dX7_init_89 : decode cX7_init 89 = .ok (.newarray .int, 2) := by decide +kernel
theorem dX7_init_91 : decode cX7_init 91 = .ok (.putfield 40, 3) := by decide +kernel
theorem dX7_init_94 : decode cX7_init 94 = .ok (.aload_n 0, 1) := by decide +kernel
theorem dX7_init_95 : decode cX7_init 95 = .ok (.iconst 4, 1) := by decide +kernel
theorem dX7_init_96 : decode cX7_init 96 = .ok (.newarray .int, 2) := by decide +kernel
theorem dX7_init_98 : decode cX7_init 98 = .ok (.putfield 43, 3) := by decide +kernel
theorem dX7_init_101 : decode cX7_init 101 = .ok (.aload_n 0, 1) := by decide +kernel
theorem dX7_init_102 : decode cX7_init 102 = .ok (.sipush 160, 3) := by decide +kernel
theorem dX7_init_105 : decode cX7_init 105 = .ok (.newarray .long, 2) := by decide +kernel
theorem dX7_init_107 : decode cX7_init 107 = .ok (.putfield 46, 3) := by decide +kernel
theorem dX7_init_110 : decode cX7_init 110 = .ok (.aload_n 0, 1) := by decide +kernel
theorem dX7_init_111 : decode cX7_init 111 = .ok (.bipush 40, 2) := by decide +kernel
theorem dX7_init_113 : decode cX7_init 113 = .ok (.newarray .long, 2) := by decide +kernel
theorem dX7_init_115 : decode cX7_init 115 = .ok (.putfield 50, 3) := by decide +kernel
theorem dX7_init_118 : decode cX7_init 118 = .ok (.aload_n 0, 1) := by decide +kernel
theorem dX7_init_119 : decode cX7_init 119 = .ok (.getfield 7, 3) := by decide +kernel
theorem dX7_init_122 : decode cX7_init 122 = .ok (.iconst 2, 1) := by decide +kernel
theorem dX7_init_123 : decode cX7_init 123 = .ok (.bipush 10, 2) := by decide +kernel
theorem dX7_init_125 : decode cX7_init 125 = .ok (.iastore, 1) := by decide +kernel
theorem dX7_init_126 : decode cX7_init 126 = .ok (.aload_n 0, 1) := by decide +kernel
theorem dX7_init_127 : decode cX7_init 127 = .ok (.getfield 7, 3) := by decide +kernel
theorem dX7_init_130 : decode cX7_init 130 = .ok (.bipush 6, 2) := by decide +kernel
theorem dX7_init_132 : decode cX7_init 132 = .ok (.iconst 5, 1) := by decide +kernel
theorem dX7_init_133 : decode cX7_init 133 = .ok (.iastore, 1) := by decide +kernel
theorem dX7_init_134 : decode cX7_init 134 = .ok (.aload_n 0, 1) := by decide +kernel
theorem dX7_init_135 : decode cX7_init 135 = .ok (.getfield 7, 3) := by decide +kernel
theorem dX7_init_138 : decode cX7_init 138 = .ok (.bipush 8, 2) := by decide +kernel
theorem dX7_init_140 : decode cX7_init 140 = .ok (.iconst 1, 1) := by decide +kernel
theorem dX7_init_141 : decode cX7_init 141 = .ok (.iastore, 1) := by decide +kernel
theorem dX7_init_142 : decode cX7_init 142 = .ok (.return_, 1) := by decide +kernel
theorem dX7_in_0 : decode cX7_in 0 = .ok (.lload_n 0, 1) := by decide +kernel
theorem dX7_in_1 : decode cX7_in 1 = .ok (.lload_n 2, 1) := by decide +kernel
theorem dX7_in_2 : decode cX7_in 2 = .ok (.lcmp, 1) := by decide +kernel
theorem dX7_in_3 : decode cX7_in 3 = .ok (.ifCond .lt 14, 3) := by decide +kernel
theorem dX7_in_6 : decode cX7_in 6 = .ok (.lload_n 0, 1) := by decide +kernel
theorem dX7_in_7 : decode cX7_in 7 = .ok (.lload 4, 2) := by decide +kernel
theorem dX7_in_9 : decode cX7_in 9 = .ok (.lcmp, 1) := by decide +kernel
theorem dX7_in_10 : decode cX7_in 10 = .ok (.ifCond .gt 7, 3) := by decide +kernel
theorem dX7_in_13 : decode cX7_in 13 = .ok (.iconst 1, 1) := by decide +kernel
theorem dX7_in_14 : decode cX7_in 14 = .ok (.goto 4, 3) := by decide +kernel
theorem dX7_in_17 : decode cX7_in 17 = .ok (.iconst 0, 1) := by decide +kernel
theorem dX7_in_18 : decode cX7_in 18 = .ok (.ireturn, 1) := by decide +kernel
theorem dX7_finds_0 : decode cX7_finds 0 = .ok (.aload_n 0, 1) := by decide +kernel
theorem dX7_finds_1 : decode cX7_finds 1 = .ok (.getfield 19, 3) := by decide +kernel
theorem dX7_finds_4 : decode cX7_finds 4 = .ok (.ldc 53, 2) := by decide +kernel
theorem dX7_finds_6 : decode cX7_finds 6 = .ok (.iload_n 1, 1) := by decide +kernel
theorem dX7_finds_7 : decode cX7_finds 7 = .ok (.isub, 1) := by decide +kernel
theorem dX7_finds_8 : decode cX7_finds 8 = .ok (.dup2, 1) := by decide +kernel
theorem dX7_finds_9 : decode cX7_finds 9 = .ok (.iaload, 1) := by decide +kernel
theorem dX7_finds_10 : decode cX7_finds 10 = .ok (.iconst 1, 1) := by decide +kernel
theorem dX7_finds_11 : decode cX7_finds 11 = .ok (.iadd, 1) := by decide +kernel
theorem dX7_finds_12 : decode cX7_finds 12 = .ok (.iastore, 1) := by decide +kernel
theorem dX7_finds_13 : decode cX7_finds 13 = .ok (.iload_n 1, 1) := by decide +kernel
theorem dX7_finds_14 : decode cX7_finds 14 = .ok (.ireturn, 1) := by decide +kernel
theorem dX7_has_0 : decode cX7_has 0 = .ok (.aload_n 0, 1) := by decide +kernel
theorem dX7_has_1 : decode cX7_has 1 = .ok (.getfield 7, 3) := by decide +kernel
theorem dX7_has_4 : decode cX7_has 4 = .ok (.bipush 9, 2) := by decide +kernel
theorem dX7_has_6 : decode cX7_has 6 = .ok (.bipush 8, 2) := by decide +kernel
theorem dX7_has_8 : decode cX7_has 8 = .ok (.iload_n 1, 1) := by decide +kernel
theorem dX7_has_9 : decode cX7_has 9 = .ok (.imul, 1) := by decide +kernel
theorem dX7_has_10 : decode cX7_has 10 = .ok (.iadd, 1) := by decide +kernel
theorem dX7_has_11 : decode cX7_has 11 = .ok (.iload_n 2, 1) := by decide +kernel
theorem dX7_has_12 : decode cX7_has 12 = .ok (.iadd, 1) := by decide +kernel
theorem dX7_has_13 : decode cX7_has 13 = .ok (.iaload, 1) := by decide +kernel
theorem dX7_has_14 : decode cX7_has 14 = .ok (.ireturn, 1) := by decide +kernel
theorem dX7_isGap_0 : decode cX7_isGap 0 = .ok (.iload_n 1, 1) := by decide +kernel
theorem dX7_isGap_1 : decode cX7_isGap 1 = .ok (.i2l, 1) := by decide +kernel
theorem dX7_isGap_2 : decode cX7_isGap 2 = .ok (.lconst 0, 1) := by decide +kernel
theorem dX7_isGap_3 : decode cX7_isGap 3 = .ok (.aload_n 0, 1) := by decide +kernel
theorem dX7_isGap_4 : decode cX7_isGap 4 = .ok (.getfield 7, 3) := by decide +kernel
theorem dX7_isGap_7 : decode cX7_isGap 7 = .ok (.iconst 1, 1) := by decide +kernel
theorem dX7_isGap_8 : decode cX7_isGap 8 = .ok (.iaload, 1) := by decide +kernel
theorem dX7_isGap_9 : decode cX7_isGap 9 = .ok (.iconst 1, 1) := by decide +kernel
theorem dX7_isGap_10 : decode cX7_isGap 10 = .ok (.isub, 1) := by decide +kernel
theorem dX7_isGap_11 : decode cX7_isGap 11 = .ok (.i2l, 1) := by decide +kernel
theorem dX7_isGap_12 : decode cX7_isGap 12 = .ok (.invokestatic 54, 3) := by decide +kernel
theorem dX7_isGap_15 : decode cX7_isGap 15 = .ok (.ireturn, 1) := by decide +kernel
theorem dX7_isRoom_0 : decode cX7_isRoom 0 = .ok (.iload_n 1, 1) := by decide +kernel
theorem dX7_isRoom_1 : decode cX7_isRoom 1 = .ok (.i2l, 1) := by decide +kernel
theorem dX7_isRoom_2 : decode cX7_isRoom 2 = .ok (.lconst 0, 1) := by decide +kernel
theorem dX7_isRoom_3 : decode cX7_isRoom 3 = .ok (.aload_n 0, 1) := by decide +kernel
theorem dX7_isRoom_4 : decode cX7_isRoom 4 = .ok (.getfield 7, 3) := by decide +kernel
theorem dX7_isRoom_7 : decode cX7_isRoom 7 = .ok (.iconst 0, 1) := by decide +kernel
theorem dX7_isRoom_8 : decode cX7_isRoom 8 = .ok (.iaload, 1) := by decide +kernel
theorem dX7_isRoom_9 : decode cX7_isRoom 9 = .ok (.iconst 1, 1) := by decide +kernel
theorem dX7_isRoom_10 : decode cX7_isRoom 10 = .ok (.isub, 1) := by decide +kernel
theorem dX7_isRoom_11 : decode cX7_isRoom 11 = .ok (.i2l, 1) := by decide +kernel
theorem dX7_isRoom_12 : decode cX7_isRoom 12 = .ok (.invokestatic 54, 3) := by decide +kernel
theorem dX7_isRoom_15 : decode cX7_isRoom 15 = .ok (.ireturn, 1) := by decide +kernel
theorem dX7_newRoom_0 : decode cX7_newRoom 0 = .ok (.aload_n 0, 1) := by decide +kernel
theorem dX7_newRoom_1 : decode cX7_newRoom 1 = .ok (.getfield 7, 3) := by decide +kernel
theorem dX7_newRoom_4 : decode cX7_newRoom 4 = .ok (.iconst 0, 1) := by decide +kernel
theorem dX7_newRoom_5 : decode cX7_newRoom 5 = .ok (.dup2, 1) := by decide +kernel
theorem dX7_newRoom_6 : decode cX7_newRoom 6 = .ok (.iaload, 1) := by decide +kernel
theorem dX7_newRoom_7 : decode cX7_newRoom 7 = .ok (.iconst 1, 1) := by decide +kernel
theorem dX7_newRoom_8 : decode cX7_newRoom 8 = .ok (.iadd, 1) := by decide +kernel
theorem dX7_newRoom_9 : decode cX7_newRoom 9 = .ok (.iastore, 1) := by decide +kernel
theorem dX7_newRoom_10 : decode cX7_newRoom 10 = .ok (.aload_n 0, 1) := by decide +kernel
theorem dX7_newRoom_11 : decode cX7_newRoom 11 = .ok (.getfield 7, 3) := by decide +kernel
theorem dX7_newRoom_14 : decode cX7_newRoom 14 = .ok (.iconst 0, 1) := by decide +kernel
theorem dX7_newRoom_15 : decode cX7_newRoom 15 = .ok (.iaload, 1) := by decide +kernel
theorem dX7_newRoom_16 : decode cX7_newRoom 16 = .ok (.iconst 1, 1) := by decide +kernel
theorem dX7_newRoom_17 : decode cX7_newRoom 17 = .ok (.isub, 1) := by decide +kernel
theorem dX7_newRoom_18 : decode cX7_newRoom 18 = .ok (.ireturn, 1) := by decide +kernel
theorem dX7_room_0 : decode cX7_room 0 = .ok (.aload_n 0, 1) := by decide +kernel
theorem dX7_room_1 : decode cX7_room 1 = .ok (.getfield 7, 3) := by decide +kernel
theorem dX7_room_4 : decode cX7_room 4 = .ok (.iconst 0, 1) := by decide +kernel
theorem dX7_room_5 : decode cX7_room 5 = .ok (.iaload, 1) := by decide +kernel
theorem dX7_room_6 : decode cX7_room 6 = .ok (.bipush 6, 2) := by decide +kernel
theorem dX7_room_8 : decode cX7_room 8 = .ok (.if_icmp .ne 12, 3) := by decide +kernel
theorem dX7_room_11 : decode cX7_room 11 = .ok (.aload_n 0, 1) := by decide +kernel
theorem dX7_room_12 : decode cX7_room 12 = .ok (.ldc 58, 2) := by decide +kernel
theorem dX7_room_14 : decode cX7_room 14 = .ok (.invokevirtual 59, 3) := by decide +kernel
theorem dX7_room_17 : decode cX7_room 17 = .ok (.goto 7, 3) := by decide +kernel
theorem dX7_room_20 : decode cX7_room 20 = .ok (.aload_n 0, 1) := by decide +kernel
theorem dX7_room_21 : decode cX7_room 21 = .ok (.invokevirtual 63, 3) := by decide +kernel
theorem dX7_room_24 : decode cX7_room 24 = .ok (.ireturn, 1) := by decide +kernel
theorem dX7_newGap_0 : decode cX7_newGap 0 = .ok (.bipush 9, 2) := by decide +kernel
theorem dX7_newGap_2 : decode cX7_newGap 2 = .ok (.bipush 8, 2) := by decide +kernel
theorem dX7_newGap_4 : decode cX7_newGap 4 = .ok (.aload_n 0, 1) := by decide +kernel
theorem dX7_newGap_5 : decode cX7_newGap 5 = .ok (.getfield 7, 3) := by decide +kernel
theorem dX7_newGap_8 : decode cX7_newGap 8 = .ok (.iconst 1, 1) := by decide +kernel
theorem dX7_newGap_9 : decode cX7_newGap 9 = .ok (.iaload, 1) := by decide +kernel
theorem dX7_newGap_10 : decode cX7_newGap 10 = .ok (.imul, 1) := by decide +kernel
theorem dX7_newGap_11 : decode cX7_newGap 11 = .ok (.iadd, 1) := by decide +kernel
theorem dX7_newGap_12 : decode cX7_newGap 12 = .ok (.istore 8, 2) := by decide +kernel
theorem dX7_newGap_14 : decode cX7_newGap 14 = .ok (.aload_n 0, 1) := by decide +kernel
theorem dX7_newGap_15 : decode cX7_newGap 15 = .ok (.getfield 7, 3) := by decide +kernel
theorem dX7_newGap_18 : decode cX7_newGap 18 = .ok (.iload 8, 2) := by decide +kernel
theorem dX7_newGap_20 : decode cX7_newGap 20 = .ok (.iconst 0, 1) := by decide +kernel
theorem dX7_newGap_21 : decode cX7_newGap 21 = .ok (.iadd, 1) := by decide +kernel
theorem dX7_newGap_22 : decode cX7_newGap 22 = .ok (.iload_n 1, 1) := by decide +kernel
theorem dX7_newGap_23 : decode cX7_newGap 23 = .ok (.iastore, 1) := by decide +kernel
theorem dX7_newGap_24 : decode cX7_newGap 24 = .ok (.aload_n 0, 1) := by decide +kernel
theorem dX7_newGap_25 : decode cX7_newGap 25 = .ok (.getfield 7, 3) := by decide +kernel
theorem dX7_newGap_28 : decode cX7_newGap 28 = .ok (.iload 8, 2) := by decide +kernel
theorem dX7_newGap_30 : decode cX7_newGap 30 = .ok (.iconst 1, 1) := by decide +kernel
theorem dX7_newGap_31 : decode cX7_newGap 31 = .ok (.iadd, 1) := by decide +kernel
theorem dX7_newGap_32 : decode cX7_newGap 32 = .ok (.iload_n 2, 1) := by decide +kernel
theorem dX7_newGap_33 : decode cX7_newGap 33 = .ok (.iastore, 1) := by decide +kernel
theorem dX7_newGap_34 : decode cX7_newGap 34 = .ok (.aload_n 0, 1) := by decide +kernel
theorem dX7_newGap_35 : decode cX7_newGap 35 = .ok (.getfield 7, 3) := by decide +kernel
theorem dX7_newGap_38 : decode cX7_newGap 38 = .ok (.iload 8, 2) := by decide +kernel
theorem dX7_newGap_40 : decode cX7_newGap 40 = .ok (.iconst 2, 1) := by decide +kernel
theorem dX7_newGap_41 : decode cX7_newGap 41 = .ok (.iadd, 1) := by decide +kernel
theorem dX7_newGap_42 : decode cX7_newGap 42 = .ok (.iload_n 3, 1) := by decide +kernel
theorem dX7_newGap_43 : decode cX7_newGap 43 = .ok (.iastore, 1) := by decide +kernel
theorem dX7_newGap_44 : decode cX7_newGap 44 = .ok (.aload_n 0, 1) := by decide +kernel
theorem dX7_newGap_45 : decode cX7_newGap 45 = .ok (.getfield 7, 3) := by decide +kernel
theorem dX7_newGap_48 : decode cX7_newGap 48 = .ok (.iload 8, 2) := by decide +kernel
theorem dX7_newGap_50 : decode cX7_newGap 50 = .ok (.iconst 3, 1) := by decide +kernel
theorem dX7_newGap_51 : decode cX7_newGap 51 = .ok (.iadd, 1) := by decide +kernel
theorem dX7_newGap_52 : decode cX7_newGap 52 = .ok (.iload 4, 2) := by decide +kernel
theorem dX7_newGap_54 : decode cX7_newGap 54 = .ok (.iastore, 1) := by decide +kernel
theorem dX7_newGap_55 : decode cX7_newGap 55 = .ok (.aload_n 0, 1) := by decide +kernel
theorem dX7_newGap_56 : decode cX7_newGap 56 = .ok (.getfield 7, 3) := by decide +kernel
theorem dX7_newGap_59 : decode cX7_newGap 59 = .ok (.iload 8, 2) := by decide +kernel
theorem dX7_newGap_61 : decode cX7_newGap 61 = .ok (.iconst 4, 1) := by decide +kernel
theorem dX7_newGap_62 : decode cX7_newGap 62 = .ok (.iadd, 1) := by decide +kernel
theorem dX7_newGap_63 : decode cX7_newGap 63 = .ok (.iload 5, 2) := by decide +kernel
theorem dX7_newGap_65 : decode cX7_newGap 65 = .ok (.iastore, 1) := by decide +kernel
theorem dX7_newGap_66 : decode cX7_newGap 66 = .ok (.aload_n 0, 1) := by decide +kernel
theorem dX7_newGap_67 : decode cX7_newGap 67 = .ok (.getfield 7, 3) := by decide +kernel
theorem dX7_newGap_70 : decode cX7_newGap 70 = .ok (.iload 8, 2) := by decide +kernel
theorem dX7_newGap_72 : decode cX7_newGap 72 = .ok (.iconst 5, 1) := by decide +kernel
theorem dX7_newGap_73 : decode cX7_newGap 73 = .ok (.iadd, 1) := by decide +kernel
theorem dX7_newGap_74 : decode cX7_newGap 74 = .ok (.iload 6, 2) := by decide +kernel
theorem dX7_newGap_76 : decode cX7_newGap 76 = .ok (.iastore, 1) := by decide +kernel
theorem dX7_newGap_77 : decode cX7_newGap 77 = .ok (.aload_n 0, 1) := by decide +kernel
theorem dX7_newGap_78 : decode cX7_newGap 78 = .ok (.getfield 7, 3) := by decide +kernel
theorem dX7_newGap_81 : decode cX7_newGap 81 = .ok (.iload 8, 2) := by decide +kernel
theorem dX7_newGap_83 : decode cX7_newGap 83 = .ok (.bipush 6, 2) := by decide +kernel
theorem dX7_newGap_85 : decode cX7_newGap 85 = .ok (.iadd, 1) := by decide +kernel
theorem dX7_newGap_86 : decode cX7_newGap 86 = .ok (.iload 7, 2) := by decide +kernel
theorem dX7_newGap_88 : decode cX7_newGap 88 = .ok (.iastore, 1) := by decide +kernel
theorem dX7_newGap_89 : decode cX7_newGap 89 = .ok (.aload_n 0, 1) := by decide +kernel
theorem dX7_newGap_90 : decode cX7_newGap 90 = .ok (.getfield 7, 3) := by decide +kernel
theorem dX7_newGap_93 : decode cX7_newGap 93 = .ok (.iload 8, 2) := by decide +kernel
theorem dX7_newGap_95 : decode cX7_newGap 95 = .ok (.bipush 7, 2) := by decide +kernel
theorem dX7_newGap_97 : decode cX7_newGap 97 = .ok (.iadd, 1) := by decide +kernel
theorem dX7_newGap_98 : decode cX7_newGap 98 = .ok (.iconst 0, 1) := by decide +kernel
theorem dX7_newGap_99 : decode cX7_newGap 99 = .ok (.iastore, 1) := by decide +kernel
theorem dX7_newGap_100 : decode cX7_newGap 100 = .ok (.aload_n 0, 1) := by decide +kernel
theorem dX7_newGap_101 : decode cX7_newGap 101 = .ok (.getfield 7, 3) := by decide +kernel
theorem dX7_newGap_104 : decode cX7_newGap 104 = .ok (.iconst 1, 1) := by decide +kernel
theorem dX7_newGap_105 : decode cX7_newGap 105 = .ok (.dup2, 1) := by decide +kernel
theorem dX7_newGap_106 : decode cX7_newGap 106 = .ok (.iaload, 1) := by decide +kernel
theorem dX7_newGap_107 : decode cX7_newGap 107 = .ok (.iconst 1, 1) := by decide +kernel
theorem dX7_newGap_108 : decode cX7_newGap 108 = .ok (.iadd, 1) := by decide +kernel
theorem dX7_newGap_109 : decode cX7_newGap 109 = .ok (.iastore, 1) := by decide +kernel
theorem dX7_newGap_110 : decode cX7_newGap 110 = .ok (.aload_n 0, 1) := by decide +kernel
theorem dX7_newGap_111 : decode cX7_newGap 111 = .ok (.getfield 7, 3) := by decide +kernel
theorem dX7_newGap_114 : decode cX7_newGap 114 = .ok (.iconst 1, 1) := by decide +kernel
theorem dX7_newGap_115 : decode cX7_newGap 115 = .ok (.iaload, 1) := by decide +kernel
theorem dX7_newGap_116 : decode cX7_newGap 116 = .ok (.iconst 1, 1) := by decide +kernel
theorem dX7_newGap_117 : decode cX7_newGap 117 = .ok (.isub, 1) := by decide +kernel
theorem dX7_newGap_118 : decode cX7_newGap 118 = .ok (.ireturn, 1) := by decide +kernel
theorem dX7_gap_0 : decode cX7_gap 0 = .ok (.iload_n 1, 1) := by decide +kernel
theorem dX7_gap_1 : decode cX7_gap 1 = .ok (.i2l, 1) := by decide +kernel
theorem dX7_gap_2 : decode cX7_gap 2 = .ok (.lconst 0, 1) := by decide +kernel
theorem dX7_gap_3 : decode cX7_gap 3 = .ok (.ldc2_w 67, 3) := by decide +kernel
theorem dX7_gap_6 : decode cX7_gap 6 = .ok (.invokestatic 54, 3) := by decide +kernel
theorem dX7_gap_9 : decode cX7_gap 9 = .ok (.ifCond .eq 54, 3) := by decide +kernel
theorem dX7_gap_12 : decode cX7_gap 12 = .ok (.aload_n 0, 1) := by decide +kernel
theorem dX7_gap_13 : decode cX7_gap 13 = .ok (.iload_n 2, 1) := by decide +kernel
theorem dX7_gap_14 : decode cX7_gap 14 = .ok (.invokevirtual 69, 3) := by decide +kernel
theorem dX7_gap_17 : decode cX7_gap 17 = .ok (.ifCond .eq 46, 3) := by decide +kernel
theorem dX7_gap_20 : decode cX7_gap 20 = .ok (.iload_n 3, 1) := by decide +kernel
theorem dX7_gap_21 : decode cX7_gap 21 = .ok (.iconst (-1), 1) := by decide +kernel
theorem dX7_gap_22 : decode cX7_gap 22 = .ok (.if_icmp .eq 11, 3) := by decide +kernel
theorem dX7_gap_25 : decode cX7_gap 25 = .ok (.aload_n 0, 1) := by decide +kernel
theorem dX7_gap_26 : decode cX7_gap 26 = .ok (.iload_n 3, 1) := by decide +kernel
theorem dX7_gap_27 : decode cX7_gap 27 = .ok (.invokevirtual 69, 3) := by decide +kernel
theorem dX7_gap_30 : decode cX7_gap 30 = .ok (.ifCond .eq 33, 3) := by decide +kernel
theorem dX7_gap_33 : decode cX7_gap 33 = .ok (.iload_n 3, 1) := by decide +kernel
theorem dX7_gap_34 : decode cX7_gap 34 = .ok (.iload_n 2, 1) := by decide +kernel
theorem dX7_gap_35 : decode cX7_gap 35 = .ok (.if_icmp .eq 28, 3) := by decide +kernel
theorem dX7_gap_38 : decode cX7_gap 38 = .ok (.iload 4, 2) := by decide +kernel
theorem dX7_gap_40 : decode cX7_gap 40 = .ok (.i2l, 1) := by decide +kernel
theorem dX7_gap_41 : decode cX7_gap 41 = .ok (.lconst 0, 1) := by decide +kernel
theorem dX7_gap_42 : decode cX7_gap 42 = .ok (.ldc2_w 73, 3) := by decide +kernel
theorem dX7_gap_45 : decode cX7_gap 45 = .ok (.invokestatic 54, 3) := by decide +kernel
theorem dX7_gap_48 : decode cX7_gap 48 = .ok (.ifCond .eq 15, 3) := by decide +kernel
theorem dX7_gap_51 : decode cX7_gap 51 = .ok (.iload 4, 2) := by decide +kernel
theorem dX7_gap_53 : decode cX7_gap 53 = .ok (.bipush 100, 2) := by decide +kernel
theorem dX7_gap_55 : decode cX7_gap 55 = .ok (.idiv, 1) := by decide +kernel
theorem dX7_gap_56 : decode cX7_gap 56 = .ok (.bipush 10, 2) := by decide +kernel
theorem dX7_gap_58 : decode cX7_gap 58 = .ok (.irem, 1) := by decide +kernel
theorem dX7_gap_59 : decode cX7_gap 59 = .ok (.iconst 3, 1) := by decide +kernel
theorem dX7_gap_60 : decode cX7_gap 60 = .ok (.if_icmp .le 10, 3) := by decide +kernel
theorem dX7_gap_63 : decode cX7_gap 63 = .ok (.aload_n 0, 1) := by decide +kernel
theorem dX7_gap_64 : decode cX7_gap 64 = .ok (.ldc 53, 2) := by decide +kernel
theorem dX7_gap_66 : decode cX7_gap 66 = .ok (.invokevirtual 59, 3) := by decide +kernel
theorem dX7_gap_69 : decode cX7_gap 69 = .ok (.ireturn, 1) := by decide +kernel
theorem dX7_gap_70 : decode cX7_gap 70 = .ok (.aload_n 0, 1) := by decide +kernel
theorem dX7_gap_71 : decode cX7_gap 71 = .ok (.getfield 7, 3) := by decide +kernel
theorem dX7_gap_74 : decode cX7_gap 74 = .ok (.iconst 1, 1) := by decide +kernel
theorem dX7_gap_75 : decode cX7_gap 75 = .ok (.iaload, 1) := by decide +kernel
theorem dX7_gap_76 : decode cX7_gap 76 = .ok (.bipush 20, 2) := by decide +kernel
theorem dX7_gap_78 : decode cX7_gap 78 = .ok (.if_icmp .ne 10, 3) := by decide +kernel
theorem dX7_gap_81 : decode cX7_gap 81 = .ok (.aload_n 0, 1) := by decide +kernel
theorem dX7_gap_82 : decode cX7_gap 82 = .ok (.ldc 58, 2) := by decide +kernel
theorem dX7_gap_84 : decode cX7_gap 84 = .ok (.invokevirtual 59, 3) := by decide +kernel
theorem dX7_gap_87 : decode cX7_gap 87 = .ok (.ireturn, 1) := by decide +kernel
theorem dX7_gap_88 : decode cX7_gap 88 = .ok (.aload_n 0, 1) := by decide +kernel
theorem dX7_gap_89 : decode cX7_gap 89 = .ok (.iload_n 1, 1) := by decide +kernel
theorem dX7_gap_90 : decode cX7_gap 90 = .ok (.iload_n 2, 1) := by decide +kernel
theorem dX7_gap_91 : decode cX7_gap 91 = .ok (.iload_n 3, 1) := by decide +kernel
theorem dX7_gap_92 : decode cX7_gap 92 = .ok (.iload 4, 2) := by decide +kernel
theorem dX7_gap_94 : decode cX7_gap 94 = .ok (.sipush 10000, 3) := by decide +kernel
theorem dX7_gap_97 : decode cX7_gap 97 = .ok (.idiv, 1) := by decide +kernel
theorem dX7_gap_98 : decode cX7_gap 98 = .ok (.iload 4, 2) := by decide +kernel
theorem dX7_gap_100 : decode cX7_gap 100 = .ok (.sipush 1000, 3) := by decide +kernel
theorem dX7_gap_103 : decode cX7_gap 103 = .ok (.idiv, 1) := by decide +kernel
theorem dX7_gap_104 : decode cX7_gap 104 = .ok (.bipush 10, 2) := by decide +kernel
theorem dX7_gap_106 : decode cX7_gap 106 = .ok (.irem, 1) := by decide +kernel
theorem dX7_gap_107 : decode cX7_gap 107 = .ok (.iload 4, 2) := by decide +kernel
theorem dX7_gap_109 : decode cX7_gap 109 = .ok (.bipush 100, 2) := by decide +kernel
theorem dX7_gap_111 : decode cX7_gap 111 = .ok (.idiv, 1) := by decide +kernel
theorem dX7_gap_112 : decode cX7_gap 112 = .ok (.bipush 10, 2) := by decide +kernel
theorem dX7_gap_114 : decode cX7_gap 114 = .ok (.irem, 1) := by decide +kernel
theorem dX7_gap_115 : decode cX7_gap 115 = .ok (.iload 4, 2) := by decide +kernel
theorem dX7_gap_117 : decode cX7_gap 117 = .ok (.bipush 100, 2) := by decide +kernel
theorem dX7_gap_119 : decode cX7_gap 119 = .ok (.irem, 1) := by decide +kernel
theorem dX7_gap_120 : decode cX7_gap 120 = .ok (.invokevirtual 75, 3) := by decide +kernel
theorem dX7_gap_123 : decode cX7_gap 123 = .ok (.ireturn, 1) := by decide +kernel
theorem dX7_breadth_0 : decode cX7_breadth 0 = .ok (.aload_n 0, 1) := by decide +kernel
theorem dX7_breadth_1 : decode cX7_breadth 1 = .ok (.iload_n 1, 1) := by decide +kernel
theorem dX7_breadth_2 : decode cX7_breadth 2 = .ok (.bipush 7, 2) := by decide +kernel
theorem dX7_breadth_4 : decode cX7_breadth 4 = .ok (.invokevirtual 79, 3) := by decide +kernel
theorem dX7_breadth_7 : decode cX7_breadth 7 = .ok (.iconst 1, 1) := by decide +kernel
theorem dX7_breadth_8 : decode cX7_breadth 8 = .ok (.if_icmp .ne 5, 3) := by decide +kernel
theorem dX7_breadth_11 : decode cX7_breadth 11 = .ok (.iconst 0, 1) := by decide +kernel
theorem dX7_breadth_12 : decode cX7_breadth 12 = .ok (.ireturn, 1) := by decide +kernel
theorem dX7_breadth_13 : decode cX7_breadth 13 = .ok (.aload_n 0, 1) := by decide +kernel
theorem dX7_breadth_14 : decode cX7_breadth 14 = .ok (.iload_n 1, 1) := by decide +kernel
theorem dX7_breadth_15 : decode cX7_breadth 15 = .ok (.iconst 3, 1) := by decide +kernel
theorem dX7_breadth_16 : decode cX7_breadth 16 = .ok (.invokevirtual 79, 3) := by decide +kernel
theorem dX7_breadth_19 : decode cX7_breadth 19 = .ok (.istore_n 2, 1) := by decide +kernel
theorem dX7_breadth_20 : decode cX7_breadth 20 = .ok (.aload_n 0, 1) := by decide +kernel
theorem dX7_breadth_21 : decode cX7_breadth 21 = .ok (.iload_n 1, 1) := by decide +kernel
theorem dX7_breadth_22 : decode cX7_breadth 22 = .ok (.iconst 0, 1) := by decide +kernel
theorem dX7_breadth_23 : decode cX7_breadth 23 = .ok (.invokevirtual 79, 3) := by decide +kernel
theorem dX7_breadth_26 : decode cX7_breadth 26 = .ok (.tableswitch 84 1 4 #[30, 84, 34, 42], 30) := by decide +kernel
theorem dX7_breadth_56 : decode cX7_breadth 56 = .ok (.iload_n 2, 1) := by decide +kernel
theorem dX7_breadth_57 : decode cX7_breadth 57 = .ok (.iconst 2, 1) := by decide +kernel
theorem dX7_breadth_58 : decode cX7_breadth 58 = .ok (.idiv, 1) := by decide +kernel
theorem dX7_breadth_59 : decode cX7_breadth 59 = .ok (.ireturn, 1) := by decide +kernel
theorem dX7_breadth_60 : decode cX7_breadth 60 = .ok (.aload_n 0, 1) := by decide +kernel
theorem dX7_breadth_61 : decode cX7_breadth 61 = .ok (.getfield 7, 3) := by decide +kernel
theorem dX7_breadth_64 : decode cX7_breadth 64 = .ok (.bipush 6, 2) := by decide +kernel
theorem dX7_breadth_66 : decode cX7_breadth 66 = .ok (.iaload, 1) := by decide +kernel
theorem dX7_breadth_67 : decode cX7_breadth 67 = .ok (.ireturn, 1) := by decide +kernel
theorem dX7_breadth_68 : decode cX7_breadth 68 = .ok (.aload_n 0, 1) := by decide +kernel
theorem dX7_breadth_69 : decode cX7_breadth 69 = .ok (.iload_n 1, 1) := by decide +kernel
theorem dX7_breadth_70 : decode cX7_breadth 70 = .ok (.iconst 2, 1) := by decide +kernel
theorem dX7_breadth_71 : decode cX7_breadth 71 = .ok (.invokevirtual 79, 3) := by decide +kernel
theorem dX7_breadth_74 : decode cX7_breadth 74 = .ok (.iconst (-1), 1) := by decide +kernel
theorem dX7_breadth_75 : decode cX7_breadth 75 = .ok (.if_icmp .ne 33, 3) := by decide +kernel
theorem dX7_breadth_78 : decode cX7_breadth 78 = .ok (.aload_n 0, 1) := by decide +kernel
theorem dX7_breadth_79 : decode cX7_breadth 79 = .ok (.getfield 7, 3) := by decide +kernel
theorem dX7_breadth_82 : decode cX7_breadth 82 = .ok (.iconst 3, 1) := by decide +kernel
theorem dX7_breadth_83 : decode cX7_breadth 83 = .ok (.iaload, 1) := by decide +kernel
theorem dX7_breadth_84 : decode cX7_breadth 84 = .ok (.ifCond .le 24, 3) := by decide +kernel
theorem dX7_breadth_87 : decode cX7_breadth 87 = .ok (.aload_n 0, 1) := by decide +kernel
theorem dX7_breadth_88 : decode cX7_breadth 88 = .ok (.getfield 7, 3) := by decide +kernel
theorem dX7_breadth_91 : decode cX7_breadth 91 = .ok (.iconst 4, 1) := by decide +kernel
theorem dX7_breadth_92 : decode cX7_breadth 92 = .ok (.iaload, 1) := by decide +kernel
theorem dX7_breadth_93 : decode cX7_breadth 93 = .ok (.aload_n 0, 1) := by decide +kernel
theorem dX7_breadth_94 : decode cX7_breadth 94 = .ok (.iload_n 1, 1) := by decide +kernel
theorem dX7_breadth_95 : decode cX7_breadth 95 = .ok (.iconst 5, 1) := by decide +kernel
theorem dX7_breadth_96 : decode cX7_breadth 96 = .ok (.invokevirtual 79, 3) := by decide +kernel
theorem dX7_breadth_99 : decode cX7_breadth 99 = .ok (.if_icmp .ne 9, 3) := by decide +kernel
theorem dX7_breadth_102 : decode cX7_breadth 102 = .ok (.iconst 2, 1) := by decide +kernel
theorem dX7_breadth_103 : decode cX7_breadth 103 = .ok (.iload_n 2, 1) := by decide +kernel
theorem dX7_breadth_104 : decode cX7_breadth 104 = .ok (.imul, 1) := by decide +kernel
theorem dX7_breadth_105 : decode cX7_breadth 105 = .ok (.goto 4, 3) := by decide +kernel
theorem dX7_breadth_108 : decode cX7_breadth 108 = .ok (.iload_n 2, 1) := by decide +kernel
theorem dX7_breadth_109 : decode cX7_breadth 109 = .ok (.ireturn, 1) := by decide +kernel
theorem dX7_breadth_110 : decode cX7_breadth 110 = .ok (.iload_n 2, 1) := by decide +kernel
theorem dX7_breadth_111 : decode cX7_breadth 111 = .ok (.ireturn, 1) := by decide +kernel
theorem dX7_push_0 : decode cX7_push 0 = .ok (.aload_n 0, 1) := by decide +kernel
theorem dX7_push_1 : decode cX7_push 1 = .ok (.iload_n 1, 1) := by decide +kernel
theorem dX7_push_2 : decode cX7_push 2 = .ok (.iconst 2, 1) := by decide +kernel
theorem dX7_push_3 : decode cX7_push 3 = .ok (.invokevirtual 79, 3) := by decide +kernel
theorem dX7_push_6 : decode cX7_push 6 = .ok (.iconst (-1), 1) := by decide +kernel
theorem dX7_push_7 : decode cX7_push 7 = .ok (.if_icmp .eq 5, 3) := by decide +kernel
theorem dX7_push_10 : decode cX7_push 10 = .ok (.iconst 0, 1) := by decide +kernel
theorem dX7_push_11 : decode cX7_push 11 = .ok (.ireturn, 1) := by decide +kernel
theorem dX7_push_12 : decode cX7_push 12 = .ok (.aload_n 0, 1) := by decide +kernel
theorem dX7_push_13 : decode cX7_push 13 = .ok (.getfield 7, 3) := by decide +kernel
theorem dX7_push_16 : decode cX7_push 16 = .ok (.iconst 2, 1) := by decide +kernel
theorem dX7_push_17 : decode cX7_push 17 = .ok (.iaload, 1) := by decide +kernel
theorem dX7_push_18 : decode cX7_push 18 = .ok (.iconst 5, 1) := by decide +kernel
theorem dX7_push_19 : decode cX7_push 19 = .ok (.aload_n 0, 1) := by decide +kernel
theorem dX7_push_20 : decode cX7_push 20 = .ok (.iload_n 1, 1) := by decide +kernel
theorem dX7_push_21 : decode cX7_push 21 = .ok (.iconst 4, 1) := by decide +kernel
theorem dX7_push_22 : decode cX7_push 22 = .ok (.invokevirtual 79, 3) := by decide +kernel
theorem dX7_push_25 : decode cX7_push 25 = .ok (.isub, 1) := by decide +kernel
theorem dX7_push_26 : decode cX7_push 26 = .ok (.imul, 1) := by decide +kernel
theorem dX7_push_27 : decode cX7_push 27 = .ok (.istore_n 2, 1) := by decide +kernel
theorem dX7_push_28 : decode cX7_push 28 = .ok (.aload_n 0, 1) := by decide +kernel
theorem dX7_push_29 : decode cX7_push 29 = .ok (.getfield 7, 3) := by decide +kernel
theorem dX7_push_32 : decode cX7_push 32 = .ok (.iconst 4, 1) := by decide +kernel
theorem dX7_push_33 : decode cX7_push 33 = .ok (.iaload, 1) := by decide +kernel
theorem dX7_push_34 : decode cX7_push 34 = .ok (.aload_n 0, 1) := by decide +kernel
theorem dX7_push_35 : decode cX7_push 35 = .ok (.iload_n 1, 1) := by decide +kernel
theorem dX7_push_36 : decode cX7_push 36 = .ok (.iconst 5, 1) := by decide +kernel
theorem dX7_push_37 : decode cX7_push 37 = .ok (.invokevirtual 79, 3) := by decide +kernel
theorem dX7_push_40 : decode cX7_push 40 = .ok (.isub, 1) := by decide +kernel
theorem dX7_push_41 : decode cX7_push 41 = .ok (.iconst 4, 1) := by decide +kernel
theorem dX7_push_42 : decode cX7_push 42 = .ok (.iadd, 1) := by decide +kernel
theorem dX7_push_43 : decode cX7_push 43 = .ok (.iconst 4, 1) := by decide +kernel
theorem dX7_push_44 : decode cX7_push 44 = .ok (.irem, 1) := by decide +kernel
theorem dX7_push_45 : decode cX7_push 45 = .ok (.istore_n 3, 1) := by decide +kernel
theorem dX7_push_46 : decode cX7_push 46 = .ok (.iload_n 2, 1) := by decide +kernel
theorem dX7_push_47 : decode cX7_push 47 = .ok (.iload_n 3, 1) := by decide +kernel
theorem dX7_push_48 : decode cX7_push 48 = .ok (.ifCond .ne 12, 3) := by decide +kernel
theorem dX7_push_51 : decode cX7_push 51 = .ok (.aload_n 0, 1) := by decide +kernel
theorem dX7_push_52 : decode cX7_push 52 = .ok (.getfield 7, 3) := by decide +kernel
theorem dX7_push_55 : decode cX7_push 55 = .ok (.iconst 3, 1) := by decide +kernel
theorem dX7_push_56 : decode cX7_push 56 = .ok (.iaload, 1) := by decide +kernel
theorem dX7_push_57 : decode cX7_push 57 = .ok (.goto 31, 3) := by decide +kernel
theorem dX7_push_60 : decode cX7_push 60 = .ok (.iload_n 3, 1) := by decide +kernel
theorem dX7_push_61 : decode cX7_push 61 = .ok (.iconst 2, 1) := by decide +kernel
theorem dX7_push_62 : decode cX7_push 62 = .ok (.if_icmp .ne 16, 3) := by decide +kernel
theorem dX7_push_65 : decode cX7_push 65 = .ok (.iconst 0, 1) := by decide +kernel
theorem dX7_push_66 : decode cX7_push 66 = .ok (.aload_n 0, 1) := by decide +kernel
theorem dX7_push_67 : decode cX7_push 67 = .ok (.getfield 7, 3) := by decide +kernel
theorem dX7_push_70 : decode cX7_push 70 = .ok (.iconst 3, 1) := by decide +kernel
theorem dX7_push_71 : decode cX7_push 71 = .ok (.iaload, 1) := by decide +kernel
theorem dX7_push_72 : decode cX7_push 72 = .ok (.iconst 2, 1) := by decide +kernel
theorem dX7_push_73 : decode cX7_push 73 = .ok (.idiv, 1) := by decide +kernel
theorem dX7_push_74 : decode cX7_push 74 = .ok (.isub, 1) := by decide +kernel
theorem dX7_push_75 : decode cX7_push 75 = .ok (.goto 13, 3) := by decide +kernel
theorem dX7_push_78 : decode cX7_push 78 = .ok (.iconst 0, 1) := by decide +kernel
theorem dX7_push_79 : decode cX7_push 79 = .ok (.aload_n 0, 1) := by decide +kernel
theorem dX7_push_80 : decode cX7_push 80 = .ok (.getfield 7, 3) := by decide +kernel
theorem dX7_push_83 : decode cX7_push 83 = .ok (.iconst 3, 1) := by decide +kernel
theorem dX7_push_84 : decode cX7_push 84 = .ok (.iaload, 1) := by decide +kernel
theorem dX7_push_85 : decode cX7_push 85 = .ok (.iconst 4, 1) := by decide +kernel
theorem dX7_push_86 : decode cX7_push 86 = .ok (.idiv, 1) := by decide +kernel
theorem dX7_push_87 : decode cX7_push 87 = .ok (.isub, 1) := by decide +kernel
theorem dX7_push_88 : decode cX7_push 88 = .ok (.iadd, 1) := by decide +kernel
theorem dX7_push_89 : decode cX7_push 89 = .ok (.istore_n 2, 1) := by decide +kernel
theorem dX7_push_90 : decode cX7_push 90 = .ok (.aload_n 0, 1) := by decide +kernel
theorem dX7_push_91 : decode cX7_push 91 = .ok (.iload_n 1, 1) := by decide +kernel
theorem dX7_push_92 : decode cX7_push 92 = .ok (.iconst 0, 1) := by decide +kernel
theorem dX7_push_93 : decode cX7_push 93 = .ok (.invokevirtual 79, 3) := by decide +kernel
theorem dX7_push_96 : decode cX7_push 96 = .ok (.iconst 5, 1) := by decide +kernel
theorem dX7_push_97 : decode cX7_push 97 = .ok (.if_icmp .ne 16, 3) := by decide +kernel
theorem dX7_push_100 : decode cX7_push 100 = .ok (.iload_n 2, 1) := by decide +kernel
theorem dX7_push_101 : decode cX7_push 101 = .ok (.iconst 3, 1) := by decide +kernel
theorem dX7_push_102 : decode cX7_push 102 = .ok (.aload_n 0, 1) := by decide +kernel
theorem dX7_push_103 : decode cX7_push 103 = .ok (.getfield 7, 3) := by decide +kernel
theorem dX7_push_106 : decode cX7_push 106 = .ok (.iconst 2, 1) := by decide +kernel
theorem dX7_push_107 : decode cX7_push 107 = .ok (.iaload, 1) := by decide +kernel
theorem dX7_push_108 : decode cX7_push 108 = .ok (.imul, 1) := by decide +kernel
theorem dX7_push_109 : decode cX7_push 109 = .ok (.isub, 1) := by decide +kernel
theorem dX7_push_110 : decode cX7_push 110 = .ok (.goto 4, 3) := by decide +kernel
theorem dX7_push_113 : decode cX7_push 113 = .ok (.iload_n 2, 1) := by decide +kernel
theorem dX7_push_114 : decode cX7_push 114 = .ok (.ireturn, 1) := by decide +kernel
theorem dX7_of_0 : decode cX7_of 0 = .ok (.aload_n 0, 1) := by decide +kernel
theorem dX7_of_1 : decode cX7_of 1 = .ok (.iload_n 1, 1) := by decide +kernel
theorem dX7_of_2 : decode cX7_of 2 = .ok (.invokevirtual 83, 3) := by decide +kernel
theorem dX7_of_5 : decode cX7_of 5 = .ok (.ifCond .eq 15, 3) := by decide +kernel
theorem dX7_of_8 : decode cX7_of 8 = .ok (.iload_n 2, 1) := by decide +kernel
theorem dX7_of_9 : decode cX7_of 9 = .ok (.i2l, 1) := by decide +kernel
theorem dX7_of_10 : decode cX7_of 10 = .ok (.lconst 0, 1) := by decide +kernel
theorem dX7_of_11 : decode cX7_of 11 = .ok (.ldc2_w 86, 3) := by decide +kernel
theorem dX7_of_14 : decode cX7_of 14 = .ok (.invokestatic 54, 3) := by decide +kernel
theorem dX7_of_17 : decode cX7_of 17 = .ok (.ifCond .ne 10, 3) := by decide +kernel
theorem dX7_of_20 : decode cX7_of 20 = .ok (.aload_n 0, 1) := by decide +kernel
theorem dX7_of_21 : decode cX7_of 21 = .ok (.ldc 53, 2) := by decide +kernel
theorem dX7_of_23 : decode cX7_of 23 = .ok (.invokevirtual 59, 3) := by decide +kernel
theorem dX7_of_26 : decode cX7_of 26 = .ok (.ireturn, 1) := by decide +kernel
theorem dX7_of_27 : decode cX7_of 27 = .ok (.iload_n 2, 1) := by decide +kernel
theorem dX7_of_28 : decode cX7_of 28 = .ok (.bipush 8, 2) := by decide +kernel
theorem dX7_of_30 : decode cX7_of 30 = .ok (.if_icmp .ge 12, 3) := by decide +kernel
theorem dX7_of_33 : decode cX7_of 33 = .ok (.aload_n 0, 1) := by decide +kernel
theorem dX7_of_34 : decode cX7_of 34 = .ok (.iload_n 1, 1) := by decide +kernel
theorem dX7_of_35 : decode cX7_of 35 = .ok (.iload_n 2, 1) := by decide +kernel
theorem dX7_of_36 : decode cX7_of 36 = .ok (.invokevirtual 79, 3) := by decide +kernel
theorem dX7_of_39 : decode cX7_of 39 = .ok (.goto 22, 3) := by decide +kernel
theorem dX7_of_42 : decode cX7_of 42 = .ok (.iload_n 2, 1) := by decide +kernel
theorem dX7_of_43 : decode cX7_of 43 = .ok (.bipush 8, 2) := by decide +kernel
theorem dX7_of_45 : decode cX7_of 45 = .ok (.if_icmp .ne 11, 3) := by decide +kernel
theorem dX7_of_48 : decode cX7_of 48 = .ok (.aload_n 0, 1) := by decide +kernel
theorem dX7_of_49 : decode cX7_of 49 = .ok (.iload_n 1, 1) := by decide +kernel
theorem dX7_of_50 : decode cX7_of 50 = .ok (.invokevirtual 88, 3) := by decide +kernel
theorem dX7_of_53 : decode cX7_of 53 = .ok (.goto 8, 3) := by decide +kernel
theorem dX7_of_56 : decode cX7_of 56 = .ok (.aload_n 0, 1) := by decide +kernel
theorem dX7_of_57 : decode cX7_of 57 = .ok (.iload_n 1, 1) := by decide +kernel
theorem dX7_of_58 : decode cX7_of 58 = .ok (.invokevirtual 91, 3) := by decide +kernel
theorem dX7_of_61 : decode cX7_of 61 = .ok (.ireturn, 1) := by decide +kernel
theorem dX7_width_0 : decode cX7_width 0 = .ok (.aload_n 0, 1) := by decide +kernel
theorem dX7_width_1 : decode cX7_width 1 = .ok (.iload_n 1, 1) := by decide +kernel
theorem dX7_width_2 : decode cX7_width 2 = .ok (.invokevirtual 83, 3) := by decide +kernel
theorem dX7_width_5 : decode cX7_width 5 = .ok (.ifCond .eq 15, 3) := by decide +kernel
theorem dX7_width_8 : decode cX7_width 8 = .ok (.iload_n 2, 1) := by decide +kernel
theorem dX7_width_9 : decode cX7_width 9 = .ok (.i2l, 1) := by decide +kernel
theorem dX7_width_10 : decode cX7_width 10 = .ok (.lconst 0, 1) := by decide +kernel
theorem dX7_width_11 : decode cX7_width 11 = .ok (.ldc2_w 94, 3) := by decide +kernel
theorem dX7_width_14 : decode cX7_width 14 = .ok (.invokestatic 54, 3) := by decide +kernel
theorem dX7_width_17 : decode cX7_width 17 = .ok (.ifCond .ne 10, 3) := by decide +kernel
theorem dX7_width_20 : decode cX7_width 20 = .ok (.aload_n 0, 1) := by decide +kernel
theorem dX7_width_21 : decode cX7_width 21 = .ok (.ldc 53, 2) := by decide +kernel
theorem dX7_width_23 : decode cX7_width 23 = .ok (.invokevirtual 59, 3) := by decide +kernel
theorem dX7_width_26 : decode cX7_width 26 = .ok (.ireturn, 1) := by decide +kernel
theorem dX7_width_27 : decode cX7_width 27 = .ok (.aload_n 0, 1) := by decide +kernel
theorem dX7_width_28 : decode cX7_width 28 = .ok (.iload_n 1, 1) := by decide +kernel
theorem dX7_width_29 : decode cX7_width 29 = .ok (.iconst 3, 1) := by decide +kernel
theorem dX7_width_30 : decode cX7_width 30 = .ok (.invokevirtual 79, 3) := by decide +kernel
theorem dX7_width_33 : decode cX7_width 33 = .ok (.istore_n 3, 1) := by decide +kernel
theorem dX7_width_34 : decode cX7_width 34 = .ok (.aload_n 0, 1) := by decide +kernel
theorem dX7_width_35 : decode cX7_width 35 = .ok (.getfield 7, 3) := by decide +kernel
theorem dX7_width_38 : decode cX7_width 38 = .ok (.bipush 9, 2) := by decide +kernel
theorem dX7_width_40 : decode cX7_width 40 = .ok (.bipush 8, 2) := by decide +kernel
theorem dX7_width_42 : decode cX7_width 42 = .ok (.iload_n 1, 1) := by decide +kernel
theorem dX7_width_43 : decode cX7_width 43 = .ok (.imul, 1) := by decide +kernel
theorem dX7_width_44 : decode cX7_width 44 = .ok (.iadd, 1) := by decide +kernel
theorem dX7_width_45 : decode cX7_width 45 = .ok (.iconst 3, 1) := by decide +kernel
theorem dX7_width_46 : decode cX7_width 46 = .ok (.iadd, 1) := by decide +kernel
theorem dX7_width_47 : decode cX7_width 47 = .ok (.iload_n 2, 1) := by decide +kernel
theorem dX7_width_48 : decode cX7_width 48 = .ok (.iastore, 1) := by decide +kernel
theorem dX7_width_49 : decode cX7_width 49 = .ok (.iload_n 3, 1) := by decide +kernel
theorem dX7_width_50 : decode cX7_width 50 = .ok (.ireturn, 1) := by decide +kernel
theorem dX7_shut_0 : decode cX7_shut 0 = .ok (.aload_n 0, 1) := by decide +kernel
theorem dX7_shut_1 : decode cX7_shut 1 = .ok (.iload_n 1, 1) := by decide +kernel
theorem dX7_shut_2 : decode cX7_shut 2 = .ok (.invokevirtual 83, 3) := by decide +kernel
theorem dX7_shut_5 : decode cX7_shut 5 = .ok (.ifCond .ne 10, 3) := by decide +kernel
theorem dX7_shut_8 : decode cX7_shut 8 = .ok (.aload_n 0, 1) := by decide +kernel
theorem dX7_shut_9 : decode cX7_shut 9 = .ok (.ldc 53, 2) := by decide +kernel
theorem dX7_shut_11 : decode cX7_shut 11 = .ok (.invokevirtual 59, 3) := by decide +kernel
theorem dX7_shut_14 : decode cX7_shut 14 = .ok (.ireturn, 1) := by decide +kernel
theorem dX7_shut_15 : decode cX7_shut 15 = .ok (.aload_n 0, 1) := by decide +kernel
theorem dX7_shut_16 : decode cX7_shut 16 = .ok (.iload_n 1, 1) := by decide +kernel
theorem dX7_shut_17 : decode cX7_shut 17 = .ok (.bipush 7, 2) := by decide +kernel
theorem dX7_shut_19 : decode cX7_shut 19 = .ok (.invokevirtual 79, 3) := by decide +kernel
theorem dX7_shut_22 : decode cX7_shut 22 = .ok (.istore_n 3, 1) := by decide +kernel
theorem dX7_shut_23 : decode cX7_shut 23 = .ok (.aload_n 0, 1) := by decide +kernel
theorem dX7_shut_24 : decode cX7_shut 24 = .ok (.getfield 7, 3) := by decide +kernel
theorem dX7_shut_27 : decode cX7_shut 27 = .ok (.bipush 9, 2) := by decide +kernel
theorem dX7_shut_29 : decode cX7_shut 29 = .ok (.bipush 8, 2) := by decide +kernel
theorem dX7_shut_31 : decode cX7_shut 31 = .ok (.iload_n 1, 1) := by decide +kernel
theorem dX7_shut_32 : decode cX7_shut 32 = .ok (.imul, 1) := by decide +kernel
theorem dX7_shut_33 : decode cX7_shut 33 = .ok (.iadd, 1) := by decide +kernel
theorem dX7_shut_34 : decode cX7_shut 34 = .ok (.bipush 7, 2) := by decide +kernel
theorem dX7_shut_36 : decode cX7_shut 36 = .ok (.iadd, 1) := by decide +kernel
theorem dX7_shut_37 : decode cX7_shut 37 = .ok (.iload_n 2, 1) := by decide +kernel
theorem dX7_shut_38 : decode cX7_shut 38 = .ok (.ifCond .eq 7, 3) := by decide +kernel
theorem dX7_shut_41 : decode cX7_shut 41 = .ok (.iconst 1, 1) := by decide +kernel
theorem dX7_shut_42 : decode cX7_shut 42 = .ok (.goto 4, 3) := by decide +kernel
theorem dX7_shut_45 : decode cX7_shut 45 = .ok (.iconst 0, 1) := by decide +kernel
theorem dX7_shut_46 : decode cX7_shut 46 = .ok (.iastore, 1) := by decide +kernel
theorem dX7_shut_47 : decode cX7_shut 47 = .ok (.iload_n 3, 1) := by decide +kernel
theorem dX7_shut_48 : decode cX7_shut 48 = .ok (.aload_n 0, 1) := by decide +kernel
theorem dX7_shut_49 : decode cX7_shut 49 = .ok (.iload_n 1, 1) := by decide +kernel
theorem dX7_shut_50 : decode cX7_shut 50 = .ok (.bipush 7, 2) := by decide +kernel
theorem dX7_shut_52 : decode cX7_shut 52 = .ok (.invokevirtual 79, 3) := by decide +kernel
theorem dX7_shut_55 : decode cX7_shut 55 = .ok (.if_icmp .ne 7, 3) := by decide +kernel
theorem dX7_shut_58 : decode cX7_shut 58 = .ok (.iconst 0, 1) := by decide +kernel
theorem dX7_shut_59 : decode cX7_shut 59 = .ok (.goto 4, 3) := by decide +kernel
theorem dX7_shut_62 : decode cX7_shut 62 = .ok (.iconst 1, 1) := by decide +kernel
theorem dX7_shut_63 : decode cX7_shut 63 = .ok (.ireturn, 1) := by decide +kernel
theorem dX7_isNeeded_0 : decode cX7_isNeeded 0 = .ok (.aload_n 0, 1) := by decide +kernel
theorem dX7_isNeeded_1 : decode cX7_isNeeded 1 = .ok (.iload_n 1, 1) := by decide +kernel
theorem dX7_isNeeded_2 : decode cX7_isNeeded 2 = .ok (.iconst 0, 1) := by decide +kernel
theorem dX7_isNeeded_3 : decode cX7_isNeeded 3 = .ok (.invokevirtual 79, 3) := by decide +kernel
theorem dX7_isNeeded_6 : decode cX7_isNeeded 6 = .ok (.iconst 2, 1) := by decide +kernel
theorem dX7_isNeeded_7 : decode cX7_isNeeded 7 = .ok (.if_icmp .eq 13, 3) := by decide +kernel
theorem dX7_isNeeded_10 : decode cX7_isNeeded 10 = .ok (.aload_n 0, 1) := by decide +kernel
theorem dX7_isNeeded_11 : decode cX7_isNeeded 11 = .ok (.iload_n 1, 1) := by decide +kernel
theorem dX7_isNeeded_12 : decode cX7_isNeeded 12 = .ok (.iconst 0, 1) := by decide +kernel
theorem dX7_isNeeded_13 : decode cX7_isNeeded 13 = .ok (.invokevirtual 79, 3) := by decide +kernel
theorem dX7_isNeeded_16 : decode cX7_isNeeded 16 = .ok (.iconst 5, 1) := by decide +kernel
theorem dX7_isNeeded_17 : decode cX7_isNeeded 17 = .ok (.if_icmp .ne 7, 3) := by decide +kernel
theorem dX7_isNeeded_20 : decode cX7_isNeeded 20 = .ok (.iconst 1, 1) := by decide +kernel
theorem dX7_isNeeded_21 : decode cX7_isNeeded 21 = .ok (.goto 4, 3) := by decide +kernel
theorem dX7_isNeeded_24 : decode cX7_isNeeded 24 = .ok (.iconst 0, 1) := by decide +kernel
theorem dX7_isNeeded_25 : decode cX7_isNeeded 25 = .ok (.ireturn, 1) := by decide +kernel
theorem dX7_as_0 : decode cX7_as 0 = .ok (.aload_n 0, 1) := by decide +kernel
theorem dX7_as_1 : decode cX7_as 1 = .ok (.iload_n 1, 1) := by decide +kernel
theorem dX7_as_2 : decode cX7_as 2 = .ok (.invokevirtual 83, 3) := by decide +kernel
theorem dX7_as_5 : decode cX7_as 5 = .ok (.ifCond .eq 15, 3) := by decide +kernel
theorem dX7_as_8 : decode cX7_as 8 = .ok (.iload_n 2, 1) := by decide +kernel
theorem dX7_as_9 : decode cX7_as 9 = .ok (.i2l, 1) := by decide +kernel
theorem dX7_as_10 : decode cX7_as 10 = .ok (.lconst 0, 1) := by decide +kernel
theorem dX7_as_11 : decode cX7_as 11 = .ok (.ldc2_w 67, 3) := by decide +kernel
theorem dX7_as_14 : decode cX7_as 14 = .ok (.invokestatic 54, 3) := by decide +kernel
theorem dX7_as_17 : decode cX7_as 17 = .ok (.ifCond .ne 10, 3) := by decide +kernel
theorem dX7_as_20 : decode cX7_as 20 = .ok (.aload_n 0, 1) := by decide +kernel
theorem dX7_as_21 : decode cX7_as 21 = .ok (.ldc 53, 2) := by decide +kernel
theorem dX7_as_23 : decode cX7_as 23 = .ok (.invokevirtual 59, 3) := by decide +kernel
theorem dX7_as_26 : decode cX7_as 26 = .ok (.ireturn, 1) := by decide +kernel
theorem dX7_as_27 : decode cX7_as 27 = .ok (.iload_n 2, 1) := by decide +kernel
theorem dX7_as_28 : decode cX7_as 28 = .ok (.ifCond .eq 26, 3) := by decide +kernel
theorem dX7_as_31 : decode cX7_as 31 = .ok (.aload_n 0, 1) := by decide +kernel
theorem dX7_as_32 : decode cX7_as 32 = .ok (.iload_n 1, 1) := by decide +kernel
theorem dX7_as_33 : decode cX7_as 33 = .ok (.iconst 0, 1) := by decide +kernel
theorem dX7_as_34 : decode cX7_as 34 = .ok (.invokevirtual 79, 3) := by decide +kernel
theorem dX7_as_37 : decode cX7_as 37 = .ok (.iload_n 2, 1) := by decide +kernel
theorem dX7_as_38 : decode cX7_as 38 = .ok (.if_icmp .eq 16, 3) := by decide +kernel
theorem dX7_as_41 : decode cX7_as 41 = .ok (.iload_n 2, 1) := by decide +kernel
theorem dX7_as_42 : decode cX7_as 42 = .ok (.iconst 2, 1) := by decide +kernel
theorem dX7_as_43 : decode cX7_as 43 = .ok (.if_icmp .ne 15, 3) := by decide +kernel
theorem dX7_as_46 : decode cX7_as 46 = .ok (.aload_n 0, 1) := by decide +kernel
theorem dX7_as_47 : decode cX7_as 47 = .ok (.iload_n 1, 1) := by decide +kernel
theorem dX7_as_48 : decode cX7_as 48 = .ok (.invokevirtual 96, 3) := by decide +kernel
theorem dX7_as_51 : decode cX7_as 51 = .ok (.ifCond .eq 7, 3) := by decide +kernel
theorem dX7_as_54 : decode cX7_as 54 = .ok (.iconst 1, 1) := by decide +kernel
theorem dX7_as_55 : decode cX7_as 55 = .ok (.goto 4, 3) := by decide +kernel
theorem dX7_as_58 : decode cX7_as 58 = .ok (.iconst 0, 1) := by decide +kernel
theorem dX7_as_59 : decode cX7_as 59 = .ok (.istore_n 3, 1) := by decide +kernel
theorem dX7_as_60 : decode cX7_as 60 = .ok (.iload_n 3, 1) := by decide +kernel
theorem dX7_as_61 : decode cX7_as 61 = .ok (.ifCond .eq 11, 3) := by decide +kernel
theorem dX7_as_64 : decode cX7_as 64 = .ok (.aload_n 0, 1) := by decide +kernel
theorem dX7_as_65 : decode cX7_as 65 = .ok (.iload_n 1, 1) := by decide +kernel
theorem dX7_as_66 : decode cX7_as 66 = .ok (.invokevirtual 88, 3) := by decide +kernel
theorem dX7_as_69 : decode cX7_as 69 = .ok (.goto 9, 3) := by decide +kernel
theorem dX7_as_72 : decode cX7_as 72 = .ok (.aload_n 0, 1) := by decide +kernel
theorem dX7_as_73 : decode cX7_as 73 = .ok (.ldc 99, 2) := by decide +kernel
theorem dX7_as_75 : decode cX7_as 75 = .ok (.invokevirtual 59, 3) := by decide +kernel
theorem dX7_as_78 : decode cX7_as 78 = .ok (.ireturn, 1) := by decide +kernel
theorem dX7_leastOf_0 : decode cX7_leastOf 0 = .ok (.iload_n 0, 1) := by decide +kernel
theorem dX7_leastOf_1 : decode cX7_leastOf 1 = .ok (.iconst 3, 1) := by decide +kernel
theorem dX7_leastOf_2 : decode cX7_leastOf 2 = .ok (.if_icmp .ne 8, 3) := by decide +kernel
theorem dX7_leastOf_5 : decode cX7_leastOf 5 = .ok (.bipush (-99), 2) := by decide +kernel
theorem dX7_leastOf_7 : decode cX7_leastOf 7 = .ok (.goto 4, 3) := by decide +kernel
theorem dX7_leastOf_10 : decode cX7_leastOf 10 = .ok (.iconst 0, 1) := by decide +kernel
theorem dX7_leastOf_11 : decode cX7_leastOf 11 = .ok (.ireturn, 1) := by decide +kernel
theorem dX7_mostOf_0 : decode cX7_mostOf 0 = .ok (.iload_n 0, 1) := by decide +kernel
theorem dX7_mostOf_1 : decode cX7_mostOf 1 = .ok (.ifCond .ne 8, 3) := by decide +kernel
theorem dX7_mostOf_4 : decode cX7_mostOf 4 = .ok (.bipush 40, 2) := by decide +kernel
theorem dX7_mostOf_6 : decode cX7_mostOf 6 = .ok (.goto 24, 3) := by decide +kernel
theorem dX7_mostOf_9 : decode cX7_mostOf 9 = .ok (.iload_n 0, 1) := by decide +kernel
theorem dX7_mostOf_10 : decode cX7_mostOf 10 = .ok (.iconst 2, 1) := by decide +kernel
theorem dX7_mostOf_11 : decode cX7_mostOf 11 = .ok (.if_icmp .ne 7, 3) := by decide +kernel
theorem dX7_mostOf_14 : decode cX7_mostOf 14 = .ok (.iconst 3, 1) := by decide +kernel
theorem dX7_mostOf_15 : decode cX7_mostOf 15 = .ok (.goto 15, 3) := by decide +kernel
theorem dX7_mostOf_18 : decode cX7_mostOf 18 = .ok (.iload_n 0, 1) := by decide +kernel
theorem dX7_mostOf_19 : decode cX7_mostOf 19 = .ok (.iconst 5, 1) := by decide +kernel
theorem dX7_mostOf_20 : decode cX7_mostOf 20 = .ok (.if_icmp .ne 8, 3) := by decide +kernel
theorem dX7_mostOf_23 : decode cX7_mostOf 23 = .ok (.bipush 100, 2) := by decide +kernel
theorem dX7_mostOf_25 : decode cX7_mostOf 25 = .ok (.goto 5, 3) := by decide +kernel
theorem dX7_mostOf_28 : decode cX7_mostOf 28 = .ok (.bipush 99, 2) := by decide +kernel
theorem dX7_mostOf_30 : decode cX7_mostOf 30 = .ok (.ireturn, 1) := by decide +kernel
theorem dX7_night_0 : decode cX7_night 0 = .ok (.iload_n 1, 1) := by decide +kernel
theorem dX7_night_1 : decode cX7_night 1 = .ok (.i2l, 1) := by decide +kernel
theorem dX7_night_2 : decode cX7_night 2 = .ok (.lconst 0, 1) := by decide +kernel
theorem dX7_night_3 : decode cX7_night 3 = .ok (.ldc2_w 67, 3) := by decide +kernel
theorem dX7_night_6 : decode cX7_night 6 = .ok (.invokestatic 54, 3) := by decide +kernel
theorem dX7_night_9 : decode cX7_night 9 = .ok (.ifCond .eq 21, 3) := by decide +kernel
theorem dX7_night_12 : decode cX7_night 12 = .ok (.iload_n 2, 1) := by decide +kernel
theorem dX7_night_13 : decode cX7_night 13 = .ok (.i2l, 1) := by decide +kernel
theorem dX7_night_14 : decode cX7_night 14 = .ok (.iload_n 1, 1) := by decide +kernel
theorem dX7_night_15 : decode cX7_night 15 = .ok (.invokestatic 100, 3) := by decide +kernel
theorem dX7_night_18 : decode cX7_night 18 = .ok (.i2l, 1) := by decide +kernel
theorem dX7_night_19 : decode cX7_night 19 = .ok (.iload_n 1, 1) := by decide +kernel
theorem dX7_night_20 : decode cX7_night 20 = .ok (.invokestatic 103, 3) := by decide +kernel
theorem dX7_night_23 : decode cX7_night 23 = .ok (.i2l, 1) := by decide +kernel
theorem dX7_night_24 : decode cX7_night 24 = .ok (.invokestatic 54, 3) := by decide +kernel
theorem dX7_night_27 : decode cX7_night 27 = .ok (.ifCond .ne 10, 3) := by decide +kernel
theorem dX7_night_30 : decode cX7_night 30 = .ok (.aload_n 0, 1) := by decide +kernel
theorem dX7_night_31 : decode cX7_night 31 = .ok (.ldc 53, 2) := by decide +kernel
theorem dX7_night_33 : decode cX7_night 33 = .ok (.invokevirtual 59, 3) := by decide +kernel
theorem dX7_night_36 : decode cX7_night 36 = .ok (.ireturn, 1) := by decide +kernel
theorem dX7_night_37 : decode cX7_night 37 = .ok (.aload_n 0, 1) := by decide +kernel
theorem dX7_night_38 : decode cX7_night 38 = .ok (.getfield 7, 3) := by decide +kernel
theorem dX7_night_41 : decode cX7_night 41 = .ok (.iconst 2, 1) := by decide +kernel
theorem dX7_night_42 : decode cX7_night 42 = .ok (.iload_n 1, 1) := by decide +kernel
theorem dX7_night_43 : decode cX7_night 43 = .ok (.iadd, 1) := by decide +kernel
theorem dX7_night_44 : decode cX7_night 44 = .ok (.iaload, 1) := by decide +kernel
theorem dX7_night_45 : decode cX7_night 45 = .ok (.istore_n 3, 1) := by decide +kernel
theorem dX7_night_46 : decode cX7_night 46 = .ok (.aload_n 0, 1) := by decide +kernel
theorem dX7_night_47 : decode cX7_night 47 = .ok (.getfield 7, 3) := by decide +kernel
theorem dX7_night_50 : decode cX7_night 50 = .ok (.iconst 2, 1) := by decide +kernel
theorem dX7_night_51 : decode cX7_night 51 = .ok (.iload_n 1, 1) := by decide +kernel
theorem dX7_night_52 : decode cX7_night 52 = .ok (.iadd, 1) := by decide +kernel
theorem dX7_night_53 : decode cX7_night 53 = .ok (.iload_n 2, 1) := by decide +kernel
theorem dX7_night_54 : decode cX7_night 54 = .ok (.iastore, 1) := by decide +kernel
theorem dX7_night_55 : decode cX7_night 55 = .ok (.iload_n 3, 1) := by decide +kernel
theorem dX7_night_56 : decode cX7_night 56 = .ok (.ireturn, 1) := by decide +kernel
theorem dX7_feed_0 : decode cX7_feed 0 = .ok (.iload_n 2, 1) := by decide +kernel
theorem dX7_feed_1 : decode cX7_feed 1 = .ok (.i2l, 1) := by decide +kernel
theorem dX7_feed_2 : decode cX7_feed 2 = .ok (.lconst 1, 1) := by decide +kernel
theorem dX7_feed_3 : decode cX7_feed 3 = .ok (.ldc2_w 106, 3) := by decide +kernel
theorem dX7_feed_6 : decode cX7_feed 6 = .ok (.invokestatic 54, 3) := by decide +kernel
theorem dX7_feed_9 : decode cX7_feed 9 = .ok (.ifCond .ne 10, 3) := by decide +kernel
theorem dX7_feed_12 : decode cX7_feed 12 = .ok (.aload_n 0, 1) := by decide +kernel
theorem dX7_feed_13 : decode cX7_feed 13 = .ok (.ldc 53, 2) := by decide +kernel
theorem dX7_feed_15 : decode cX7_feed 15 = .ok (.invokevirtual 59, 3) := by decide +kernel
theorem dX7_feed_18 : decode cX7_feed 18 = .ok (.ireturn, 1) := by decide +kernel
theorem dX7_feed_19 : decode cX7_feed 19 = .ok (.aload_n 0, 1) := by decide +kernel
theorem dX7_feed_20 : decode cX7_feed 20 = .ok (.getfield 108, 3) := by decide +kernel
theorem dX7_feed_23 : decode cX7_feed 23 = .ok (.iload_n 2, 1) := by decide +kernel
theorem dX7_feed_24 : decode cX7_feed 24 = .ok (.iadd, 1) := by decide +kernel
theorem dX7_feed_25 : decode cX7_feed 25 = .ok (.bipush 120, 2) := by decide +kernel
theorem dX7_feed_27 : decode cX7_feed 27 = .ok (.if_icmp .le 10, 3) := by decide +kernel
theorem dX7_feed_30 : decode cX7_feed 30 = .ok (.aload_n 0, 1) := by decide +kernel
theorem dX7_feed_31 : decode cX7_feed 31 = .ok (.ldc 58, 2) := by decide +kernel
theorem dX7_feed_33 : decode cX7_feed 33 = .ok (.invokevirtual 59, 3) := by decide +kernel
theorem dX7_feed_36 : decode cX7_feed 36 = .ok (.ireturn, 1) := by decide +kernel
theorem dX7_feed_37 : decode cX7_feed 37 = .ok (.iload_n 2, 1) := by decide +kernel
theorem dX7_feed_38 : decode cX7_feed 38 = .ok (.iconst 1, 1) := by decide +kernel
theorem dX7_feed_39 : decode cX7_feed 39 = .ok (.isub, 1) := by decide +kernel
theorem dX7_feed_40 : decode cX7_feed 40 = .ok (.istore_n 3, 1) := by decide +kernel
theorem dX7_feed_41 : decode cX7_feed 41 = .ok (.iload_n 3, 1) := by decide +kernel
theorem dX7_feed_42 : decode cX7_feed 42 = .ok (.ifCond .lt 38, 3) := by decide +kernel
theorem dX7_feed_45 : decode cX7_feed 45 = .ok (.aload_n 0, 1) := by decide +kernel
theorem dX7_feed_46 : decode cX7_feed 46 = .ok (.getfield 22, 3) := by decide +kernel
theorem dX7_feed_49 : decode cX7_feed 49 = .ok (.aload_n 0, 1) := by decide +kernel
theorem dX7_feed_50 : decode cX7_feed 50 = .ok (.getfield 108, 3) := by decide +kernel
theorem dX7_feed_53 : decode cX7_feed 53 = .ok (.iload_n 1, 1) := by decide +kernel
theorem dX7_feed_54 : decode cX7_feed 54 = .ok (.bipush 8, 2) := by decide +kernel
theorem dX7_feed_56 : decode cX7_feed 56 = .ok (.iload_n 3, 1) := by decide +kernel
theorem dX7_feed_57 : decode cX7_feed 57 = .ok (.imul, 1) := by decide +kernel
theorem dX7_feed_58 : decode cX7_feed 58 = .ok (.ishr, 1) := by decide +kernel
theorem dX7_feed_59 : decode cX7_feed 59 = .ok (.sipush 255, 3) := by decide +kernel
theorem dX7_feed_62 : decode cX7_feed 62 = .ok (.iand, 1) := by decide +kernel
theorem dX7_feed_63 : decode cX7_feed 63 = .ok (.iastore, 1) := by decide +kernel
theorem dX7_feed_64 : decode cX7_feed 64 = .ok (.aload_n 0, 1) := by decide +kernel
theorem dX7_feed_65 : decode cX7_feed 65 = .ok (.dup, 1) := by decide +kernel
theorem dX7_feed_66 : decode cX7_feed 66 = .ok (.getfield 108, 3) := by decide +kernel
theorem dX7_feed_69 : decode cX7_feed 69 = .ok (.iconst 1, 1) := by decide +kernel
theorem dX7_feed_70 : decode cX7_feed 70 = .ok (.iadd, 1) := by decide +kernel
theorem dX7_feed_71 : decode cX7_feed 71 = .ok (.putfield 108, 3) := by decide +kernel
theorem dX7_feed_74 : decode cX7_feed 74 = .ok (.iinc 3 (-1), 3) := by decide +kernel
theorem dX7_feed_77 : decode cX7_feed 77 = .ok (.goto (-36), 3) := by decide +kernel
theorem dX7_feed_80 : decode cX7_feed 80 = .ok (.aload_n 0, 1) := by decide +kernel
theorem dX7_feed_81 : decode cX7_feed 81 = .ok (.getfield 108, 3) := by decide +kernel
theorem dX7_feed_84 : decode cX7_feed 84 = .ok (.ireturn, 1) := by decide +kernel
theorem dX7_wipe_0 : decode cX7_wipe 0 = .ok (.aload_n 0, 1) := by decide +kernel
theorem dX7_wipe_1 : decode cX7_wipe 1 = .ok (.getfield 108, 3) := by decide +kernel
theorem dX7_wipe_4 : decode cX7_wipe 4 = .ok (.istore_n 1, 1) := by decide +kernel
theorem dX7_wipe_5 : decode cX7_wipe 5 = .ok (.aload_n 0, 1) := by decide +kernel
theorem dX7_wipe_6 : decode cX7_wipe 6 = .ok (.iconst 0, 1) := by decide +kernel
theorem dX7_wipe_7 : decode cX7_wipe 7 = .ok (.putfield 108, 3) := by decide +kernel
theorem dX7_wipe_10 : decode cX7_wipe 10 = .ok (.iload_n 1, 1) := by decide +kernel
theorem dX7_wipe_11 : decode cX7_wipe 11 = .ok (.ireturn, 1) := by decide +kernel
theorem dX7_byteAt_0 : decode cX7_byteAt 0 = .ok (.iload_n 1, 1) := by decide +kernel
theorem dX7_byteAt_1 : decode cX7_byteAt 1 = .ok (.aload_n 0, 1) := by decide +kernel
theorem dX7_byteAt_2 : decode cX7_byteAt 2 = .ok (.getfield 108, 3) := by decide +kernel
theorem dX7_byteAt_5 : decode cX7_byteAt 5 = .ok (.if_icmp .ge 12, 3) := by decide +kernel
theorem dX7_byteAt_8 : decode cX7_byteAt 8 = .ok (.aload_n 0, 1) := by decide +kernel
theorem dX7_byteAt_9 : decode cX7_byteAt 9 = .ok (.getfield 22, 3) := by decide +kernel
theorem dX7_byteAt_12 : decode cX7_byteAt 12 = .ok (.iload_n 1, 1) := by decide +kernel
theorem dX7_byteAt_13 : decode cX7_byteAt 13 = .ok (.iaload, 1) := by decide +kernel
theorem dX7_byteAt_14 : decode cX7_byteAt 14 = .ok (.goto 4, 3) := by decide +kernel
theorem dX7_byteAt_17 : decode cX7_byteAt 17 = .ok (.iconst (-1), 1) := by decide +kernel
theorem dX7_byteAt_18 : decode cX7_byteAt 18 = .ok (.ireturn, 1) := by decide +kernel
theorem dX7_isLetter_0 : decode cX7_isLetter 0 = .ok (.iload_n 0, 1) := by decide +kernel
theorem dX7_isLetter_1 : decode cX7_isLetter 1 = .ok (.i2l, 1) := by decide +kernel
theorem dX7_isLetter_2 : decode cX7_isLetter 2 = .ok (.ldc2_w 112, 3) := by decide +kernel
theorem dX7_isLetter_5 : decode cX7_isLetter 5 = .ok (.ldc2_w 114, 3) := by decide +kernel
theorem dX7_isLetter_8 : decode cX7_isLetter 8 = .ok (.invokestatic 54, 3) := by decide +kernel
theorem dX7_isLetter_11 : decode cX7_isLetter 11 = .ok (.ireturn, 1) := by decide +kernel
theorem dX7_isDigit_0 : decode cX7_isDigit 0 = .ok (.iload_n 0, 1) := by decide +kernel
theorem dX7_isDigit_1 : decode cX7_isDigit 1 = .ok (.i2l, 1) := by decide +kernel
theorem dX7_isDigit_2 : decode cX7_isDigit 2 = .ok (.ldc2_w 116, 3) := by decide +kernel
theorem dX7_isDigit_5 : decode cX7_isDigit 5 = .ok (.ldc2_w 118, 3) := by decide +kernel
theorem dX7_isDigit_8 : decode cX7_isDigit 8 = .ok (.invokestatic 54, 3) := by decide +kernel
theorem dX7_isDigit_11 : decode cX7_isDigit 11 = .ok (.ireturn, 1) := by decide +kernel
theorem dX7_next_0 : decode cX7_next 0 = .ok (.aload_n 0, 1) := by decide +kernel
theorem dX7_next_1 : decode cX7_next 1 = .ok (.aload_n 0, 1) := by decide +kernel
theorem dX7_next_2 : decode cX7_next 2 = .ok (.getfield 120, 3) := by decide +kernel
theorem dX7_next_5 : decode cX7_next 5 = .ok (.putfield 123, 3) := by decide +kernel
theorem dX7_next_8 : decode cX7_next 8 = .ok (.aload_n 0, 1) := by decide +kernel
theorem dX7_next_9 : decode cX7_next 9 = .ok (.aload_n 0, 1) := by decide +kernel
theorem dX7_next_10 : decode cX7_next 10 = .ok (.getfield 123, 3) := by decide +kernel
theorem dX7_next_13 : decode cX7_next 13 = .ok (.invokevirtual 126, 3) := by decide +kernel
theorem dX7_next_16 : decode cX7_next 16 = .ok (.bipush 32, 2) := by decide +kernel
theorem dX7_next_18 : decode cX7_next 18 = .ok (.if_icmp .ne 16, 3) := by decide +kernel
theorem dX7_next_21 : decode cX7_next 21 = .ok (.aload_n 0, 1) := by decide +kernel
theorem dX7_next_22 : decode cX7_next 22 = .ok (.dup, 1) := by decide +kernel
theorem dX7_next_23 : decode cX7_next 23 = .ok (.getfield 123, 3) := by decide +kernel
theorem dX7_next_26 : decode cX7_next 26 = .ok (.iconst 1, 1) := by decide +kernel
theorem dX7_next_27 : decode cX7_next 27 = .ok (.iadd, 1) := by decide +kernel
theorem dX7_next_28 : decode cX7_next 28 = .ok (.putfield 123, 3) := by decide +kernel
theorem dX7_next_31 : decode cX7_next 31 = .ok (.goto (-23), 3) := by decide +kernel
theorem dX7_next_34 : decode cX7_next 34 = .ok (.aload_n 0, 1) := by decide +kernel
theorem dX7_next_35 : decode cX7_next 35 = .ok (.aload_n 0, 1) := by decide +kernel
theorem dX7_next_36 : decode cX7_next 36 = .ok (.getfield 123, 3) := by decide +kernel
theorem dX7_next_39 : decode cX7_next 39 = .ok (.invokevirtual 126, 3) := by decide +kernel
theorem dX7_next_42 : decode cX7_next 42 = .ok (.invokestatic 129, 3) := by decide +kernel
theorem dX7_next_45 : decode cX7_next 45 = .ok (.istore_n 1, 1) := by decide +kernel
theorem dX7_next_46 : decode cX7_next 46 = .ok (.aload_n 0, 1) := by decide +kernel
theorem dX7_next_47 : decode cX7_next 47 = .ok (.aload_n 0, 1) := by decide +kernel
theorem dX7_next_48 : decode cX7_next 48 = .ok (.getfield 123, 3) := by decide +kernel
theorem dX7_next_51 : decode cX7_next 51 = .ok (.invokevirtual 126, 3) := by decide +kernel
theorem dX7_next_54 : decode cX7_next 54 = .ok (.invokestatic 132, 3) := by decide +kernel
theorem dX7_next_57 : decode cX7_next 57 = .ok (.istore_n 2, 1) := by decide +kernel
theorem dX7_next_58 : decode cX7_next 58 = .ok (.aload_n 0, 1) := by decide +kernel
theorem dX7_next_59 : decode cX7_next 59 = .ok (.aload_n 0, 1) := by decide +kernel
theorem dX7_next_60 : decode cX7_next 60 = .ok (.getfield 123, 3) := by decide +kernel
theorem dX7_next_63 : decode cX7_next 63 = .ok (.aload_n 0, 1) := by decide +kernel
theorem dX7_next_64 : decode cX7_next 64 = .ok (.getfield 108, 3) := by decide +kernel
theorem dX7_next_67 : decode cX7_next 67 = .ok (.if_icmp .ge 12, 3) := by decide +kernel
theorem dX7_next_70 : decode cX7_next 70 = .ok (.aload_n 0, 1) := by decide +kernel
theorem dX7_next_71 : decode cX7_next 71 = .ok (.getfield 123, 3) := by decide +kernel
theorem dX7_next_74 : decode cX7_next 74 = .ok (.iconst 1, 1) := by decide +kernel
theorem dX7_next_75 : decode cX7_next 75 = .ok (.iadd, 1) := by decide +kernel
theorem dX7_next_76 : decode cX7_next 76 = .ok (.goto 7, 3) := by decide +kernel
theorem dX7_next_79 : decode cX7_next 79 = .ok (.aload_n 0, 1) := by decide +kernel
theorem dX7_next_80 : decode cX7_next 80 = .ok (.getfield 123, 3) := by decide +kernel
theorem dX7_next_83 : decode cX7_next 83 = .ok (.putfield 120, 3) := by decide +kernel
theorem dX7_next_86 : decode cX7_next 86 = .ok (.iload_n 1, 1) := by decide +kernel
theorem dX7_next_87 : decode cX7_next 87 = .ok (.ifCond .eq 17, 3) := by decide +kernel
theorem dX7_next_90 : decode cX7_next 90 = .ok (.aload_n 0, 1) := by decide +kernel
theorem dX7_next_91 : decode cX7_next 91 = .ok (.aload_n 0, 1) := by decide +kernel
theorem dX7_next_92 : decode cX7_next 92 = .ok (.getfield 120, 3) := by decide +kernel
theorem dX7_next_95 : decode cX7_next 95 = .ok (.invokevirtual 126, 3) := by decide +kernel
theorem dX7_next_98 : decode cX7_next 98 = .ok (.invokestatic 129, 3) := by decide +kernel
theorem dX7_next_101 : decode cX7_next 101 = .ok (.ifCond .ne 21, 3) := by decide +kernel
theorem dX7_next_104 : decode cX7_next 104 = .ok (.iload_n 2, 1) := by decide +kernel
theorem dX7_next_105 : decode cX7_next 105 = .ok (.ifCond .eq 30, 3) := by decide +kernel
theorem dX7_next_108 : decode cX7_next 108 = .ok (.aload_n 0, 1) := by decide +kernel
theorem dX7_next_109 : decode cX7_next 109 = .ok (.aload_n 0, 1) := by decide +kernel
theorem dX7_next_110 : decode cX7_next 110 = .ok (.getfield 120, 3) := by decide +kernel
theorem dX7_next_113 : decode cX7_next 113 = .ok (.invokevirtual 126, 3) := by decide +kernel
theorem dX7_next_116 : decode cX7_next 116 = .ok (.invokestatic 132, 3) := by decide +kernel
theorem dX7_next_119 : decode cX7_next 119 = .ok (.ifCond .eq 16, 3) := by decide +kernel
theorem dX7_next_122 : decode cX7_next 122 = .ok (.aload_n 0, 1) := by decide +kernel
theorem dX7_next_123 : decode cX7_next 123 = .ok (.dup, 1) := by decide +kernel
theorem dX7_next_124 : decode cX7_next 124 = .ok (.getfield 120, 3) := by decide +kernel
theorem dX7_next_127 : decode cX7_next 127 = .ok (.iconst 1, 1) := by decide +kernel
theorem dX7_next_128 : decode cX7_next 128 = .ok (.iadd, 1) := by decide +kernel
theorem dX7_next_129 : decode cX7_next 129 = .ok (.putfield 120, 3) := by decide +kernel
theorem dX7_next_132 : decode cX7_next 132 = .ok (.goto (-46), 3) := by decide +kernel
theorem dX7_next_135 : decode cX7_next 135 = .ok (.return_, 1) := by decide +kernel
theorem dX7_needs_0 : decode cX7_needs 0 = .ok (.aload_n 0, 1) := by decide +kernel
theorem dX7_needs_1 : decode cX7_needs 1 = .ok (.aload_n 0, 1) := by decide +kernel
theorem dX7_needs_2 : decode cX7_needs 2 = .ok (.getfield 135, 3) := by decide +kernel
theorem dX7_needs_5 : decode cX7_needs 5 = .ok (.ifCond .ne 7, 3) := by decide +kernel
theorem dX7_needs_8 : decode cX7_needs 8 = .ok (.iload_n 1, 1) := by decide +kernel
theorem dX7_needs_9 : decode cX7_needs 9 = .ok (.ifCond .ne 7, 3) := by decide +kernel
theorem dX7_needs_12 : decode cX7_needs 12 = .ok (.iconst 1, 1) := by decide +kernel
theorem dX7_needs_13 : decode cX7_needs 13 = .ok (.goto 4, 3) := by decide +kernel
theorem dX7_needs_16 : decode cX7_needs 16 = .ok (.iconst 0, 1) := by decide +kernel
theorem dX7_needs_17 : decode cX7_needs 17 = .ok (.putfield 135, 3) := by decide +kernel
theorem dX7_needs_20 : decode cX7_needs 20 = .ok (.aload_n 0, 1) := by decide +kernel
theorem dX7_needs_21 : decode cX7_needs 21 = .ok (.getfield 135, 3) := by decide +kernel
theorem dX7_needs_24 : decode cX7_needs 24 = .ok (.ifCond .ne 7, 3) := by decide +kernel
theorem dX7_needs_27 : decode cX7_needs 27 = .ok (.aload_n 0, 1) := by decide +kernel
theorem dX7_needs_28 : decode cX7_needs 28 = .ok (.invokevirtual 139, 3) := by decide +kernel
theorem dX7_needs_31 : decode cX7_needs 31 = .ok (.return_, 1) := by decide +kernel
theorem dX7_isAt_0 : decode cX7_isAt 0 = .ok (.iload_n 2, 1) := by decide +kernel
theorem dX7_isAt_1 : decode cX7_isAt 1 = .ok (.ifCond .eq 17, 3) := by decide +kernel
theorem dX7_isAt_4 : decode cX7_isAt 4 = .ok (.aload_n 0, 1) := by decide +kernel
theorem dX7_isAt_5 : decode cX7_isAt 5 = .ok (.aload_n 0, 1) := by decide +kernel
theorem dX7_isAt_6 : decode cX7_isAt 6 = .ok (.getfield 123, 3) := by decide +kernel
theorem dX7_isAt_9 : decode cX7_isAt 9 = .ok (.iload_n 1, 1) := by decide +kernel
theorem dX7_isAt_10 : decode cX7_isAt 10 = .ok (.iadd, 1) := by decide +kernel
theorem dX7_isAt_11 : decode cX7_isAt 11 = .ok (.invokevirtual 126, 3) := by decide +kernel
theorem dX7_isAt_14 : decode cX7_isAt 14 = .ok (.iload_n 2, 1) := by decide +kernel
theorem dX7_isAt_15 : decode cX7_isAt 15 = .ok (.if_icmp .ne 7, 3) := by decide +kernel
theorem dX7_isAt_18 : decode cX7_isAt 18 = .ok (.iconst 1, 1) := by decide +kernel
theorem dX7_isAt_19 : decode cX7_isAt 19 = .ok (.goto 4, 3) := by decide +kernel
theorem dX7_isAt_22 : decode cX7_isAt 22 = .ok (.iconst 0, 1) := by decide +kernel
theorem dX7_isAt_23 : decode cX7_isAt 23 = .ok (.ireturn, 1) := by decide +kernel
theorem dX7_isWord_0 : decode cX7_isWord 0 = .ok (.iload 4, 2) := by decide +kernel
theorem dX7_isWord_2 : decode cX7_isWord 2 = .ok (.ifCond .ne 7, 3) := by decide +kernel
theorem dX7_isWord_5 : decode cX7_isWord 5 = .ok (.iconst 3, 1) := by decide +kernel
theorem dX7_isWord_6 : decode cX7_isWord 6 = .ok (.goto 33, 3) := by decide +kernel
theorem dX7_isWord_9 : decode cX7_isWord 9 = .ok (.iload 5, 2) := by decide +kernel
theorem dX7_isWord_11 : decode cX7_isWord 11 = .ok (.ifCond .ne 7, 3) := by decide +kernel
theorem dX7_isWord_14 : decode cX7_isWord 14 = .ok (.iconst 4, 1) := by decide +kernel
theorem dX7_isWord_15 : decode cX7_isWord 15 = .ok (.goto 24, 3) := by decide +kernel
theorem dX7_isWord_18 : decode cX7_isWord 18 = .ok (.iload 6, 2) := by decide +kernel
theorem dX7_isWord_20 : decode cX7_isWord 20 = .ok (.ifCond .ne 7, 3) := by decide +kernel
theorem dX7_isWord_23 : decode cX7_isWord 23 = .ok (.iconst 5, 1) := by decide +kernel
theorem dX7_isWord_24 : decode cX7_isWord 24 = .ok (.goto 15, 3) := by decide +kernel
theorem dX7_isWord_27 : decode cX7_isWord 27 = .ok (.iload 7, 2) := by decide +kernel
theorem dX7_isWord_29 : decode cX7_isWord 29 = .ok (.ifCond .ne 8, 3) := by decide +kernel
theorem dX7_isWord_32 : decode cX7_isWord 32 = .ok (.bipush 6, 2) := by decide +kernel
theorem dX7_isWord_34 : decode cX7_isWord 34 = .ok (.goto 5, 3) := by decide +kernel
theorem dX7_isWord_37 : decode cX7_isWord 37 = .ok (.bipush 7, 2) := by decide +kernel
theorem dX7_isWord_39 : decode cX7_isWord 39 = .ok (.istore 8, 2) := by decide +kernel
theorem dX7_isWord_41 : decode cX7_isWord 41 = .ok (.aload_n 0, 1) := by decide +kernel
theorem dX7_isWord_42 : decode cX7_isWord 42 = .ok (.getfield 135, 3) := by decide +kernel
theorem dX7_isWord_45 : decode cX7_isWord 45 = .ok (.ifCond .ne 89, 3) := by decide +kernel
theorem dX7_isWord_48 : decode cX7_isWord 48 = .ok (.aload_n 0, 1) := by decide +kernel
theorem dX7_isWord_49 : decode cX7_isWord 49 = .ok (.getfield 120, 3) := by decide +kernel
theorem dX7_isWord_52 : decode cX7_isWord 52 = .ok (.aload_n 0, 1) := by decide +kernel
theorem dX7_isWord_53 : decode cX7_isWord 53 = .ok (.getfield 123, 3) := by decide +kernel
theorem dX7_isWord_56 : decode cX7_isWord 56 = .ok (.isub, 1) := by decide +kernel
theorem dX7_isWord_57 : decode cX7_isWord 57 = .ok (.iload 8, 2) := by decide +kernel
theorem dX7_isWord_59 : decode cX7_isWord 59 = .ok (.if_icmp .ne 75, 3) := by decide +kernel
theorem dX7_isWord_62 : decode cX7_isWord 62 = .ok (.aload_n 0, 1) := by decide +kernel
theorem dX7_isWord_63 : decode cX7_isWord 63 = .ok (.iconst 0, 1) := by decide +kernel
theorem dX7_isWord_64 : decode cX7_isWord 64 = .ok (.iload_n 1, 1) := by decide +kernel
theorem dX7_isWord_65 : decode cX7_isWord 65 = .ok (.invokevirtual 142, 3) := by decide +kernel
theorem dX7_isWord_68 : decode cX7_isWord 68 = .ok (.ifCond .eq 66, 3) := by decide +kernel
theorem dX7_isWord_71 : decode cX7_isWord 71 = .ok (.aload_n 0, 1) := by decide +kernel
theorem dX7_isWord_72 : decode cX7_isWord 72 = .ok (.iconst 1, 1) := by decide +kernel
theorem dX7_isWord_73 : decode cX7_isWord 73 = .ok (.iload_n 2, 1) := by decide +kernel
theorem dX7_isWord_74 : decode cX7_isWord 74 = .ok (.invokevirtual 142, 3) := by decide +kernel
theorem dX7_isWord_77 : decode cX7_isWord 77 = .ok (.ifCond .eq 57, 3) := by decide +kernel
theorem dX7_isWord_80 : decode cX7_isWord 80 = .ok (.aload_n 0, 1) := by decide +kernel
theorem dX7_isWord_81 : decode cX7_isWord 81 = .ok (.iconst 2, 1) := by decide +kernel
theorem dX7_isWord_82 : decode cX7_isWord 82 = .ok (.iload_n 3, 1) := by decide +kernel
theorem dX7_isWord_83 : decode cX7_isWord 83 = .ok (.invokevirtual 142, 3) := by decide +kernel
theorem dX7_isWord_86 : decode cX7_isWord 86 = .ok (.ifCond .eq 48, 3) := by decide +kernel
theorem dX7_isWord_89 : decode cX7_isWord 89 = .ok (.aload_n 0, 1) := by decide +kernel
theorem dX7_isWord_90 : decode cX7_isWord 90 = .ok (.iconst 3, 1) := by decide +kernel
theorem dX7_isWord_91 : decode cX7_isWord 91 = .ok (.iload 4, 2) := by decide +kernel
theorem dX7_isWord_93 : decode cX7_isWord 93 = .ok (.invokevirtual 142, 3) := by decide +kernel
theorem dX7_isWord_96 : decode cX7_isWord 96 = .ok (.ifCond .eq 38, 3) := by decide +kernel
theorem dX7_isWord_99 : decode cX7_isWord 99 = .ok (.aload_n 0, 1) := by decide +kernel
theorem dX7_isWord_100 : decode cX7_isWord 100 = .ok (.iconst 4, 1) := by decide +kernel
theorem dX7_isWord_101 : decode cX7_isWord 101 = .ok (.iload 5, 2) := by decide +kernel
theorem dX7_isWord_103 : decode cX7_isWord 103 = .ok (.invokevirtual 142, 3) := by decide +kernel
theorem dX7_isWord_106 : decode cX7_isWord 106 = .ok (.ifCond .eq 28, 3) := by decide +kernel
theorem dX7_isWord_109 : decode cX7_isWord 109 = .ok (.aload_n 0, 1) := by decide +kernel
theorem dX7_isWord_110 : decode cX7_isWord 110 = .ok (.iconst 5, 1) := by decide +kernel
theorem dX7_isWord_111 : decode cX7_isWord 111 = .ok (.iload 6, 2) := by decide +kernel
theorem dX7_isWord_113 : decode cX7_isWord 113 = .ok (.invokevirtual 142, 3) := by decide +kernel
theorem dX7_isWord_116 : decode cX7_isWord 116 = .ok (.ifCond .eq 18, 3) := by decide +kernel
theorem dX7_isWord_119 : decode cX7_isWord 119 = .ok (.aload_n 0, 1) := by decide +kernel
theorem dX7_isWord_120 : decode cX7_isWord 120 = .ok (.bipush 6, 2) := by decide +kernel
theorem dX7_isWord_122 : decode cX7_isWord 122 = .ok (.iload 7, 2) := by decide +kernel
theorem dX7_isWord_124 : decode cX7_isWord 124 = .ok (.invokevirtual 142, 3) := by decide +kernel
theorem dX7_isWord_127 : decode cX7_isWord 127 = .ok (.ifCond .eq 7, 3) := by decide +kernel
theorem dX7_isWord_130 : decode cX7_isWord 130 = .ok (.iconst 1, 1) := by decide +kernel
theorem dX7_isWord_131 : decode cX7_isWord 131 = .ok (.goto 4, 3) := by decide +kernel
theorem dX7_isWord_134 : decode cX7_isWord 134 = .ok (.iconst 0, 1) := by decide +kernel
theorem dX7_isWord_135 : decode cX7_isWord 135 = .ok (.ireturn, 1) := by decide +kernel
theorem dX7_number_0 : decode cX7_number 0 = .ok (.aload_n 0, 1) := by decide +kernel
theorem dX7_number_1 : decode cX7_number 1 = .ok (.getfield 135, 3) := by decide +kernel
theorem dX7_number_4 : decode cX7_number 4 = .ok (.ifCond .eq 4, 3) := by decide +kernel
theorem dX7_number_7 : decode cX7_number 7 = .ok (.return_, 1) := by decide +kernel
theorem dX7_number_8 : decode cX7_number 8 = .ok (.aload_n 0, 1) := by decide +kernel
theorem dX7_number_9 : decode cX7_number 9 = .ok (.aload_n 0, 1) := by decide +kernel
theorem dX7_number_10 : decode cX7_number 10 = .ok (.getfield 123, 3) := by decide +kernel
theorem dX7_number_13 : decode cX7_number 13 = .ok (.invokevirtual 126, 3) := by decide +kernel
theorem dX7_number_16 : decode cX7_number 16 = .ok (.invokestatic 132, 3) := by decide +kernel
theorem dX7_number_19 : decode cX7_number 19 = .ok (.istore_n 3, 1) := by decide +kernel
theorem dX7_number_20 : decode cX7_number 20 = .ok (.iconst 0, 1) := by decide +kernel
theorem dX7_number_21 : decode cX7_number 21 = .ok (.istore 4, 2) := by decide +kernel
theorem dX7_number_23 : decode cX7_number 23 = .ok (.aload_n 0, 1) := by decide +kernel
theorem dX7_number_24 : decode cX7_number 24 = .ok (.getfield 123, 3) := by decide +kernel
theorem dX7_number_27 : decode cX7_number 27 = .ok (.istore 5, 2) := by decide +kernel
theorem dX7_number_29 : decode cX7_number 29 = .ok (.iload 5, 2) := by decide +kernel
theorem dX7_number_31 : decode cX7_number 31 = .ok (.aload_n 0, 1) := by decide +kernel
theorem dX7_number_32 : decode cX7_number 32 = .ok (.getfield 120, 3) := by decide +kernel
theorem dX7_number_35 : decode cX7_number 35 = .ok (.if_icmp .ge 44, 3) := by decide +kernel
theorem dX7_number_38 : decode cX7_number 38 = .ok (.iload_n 3, 1) := by decide +kernel
theorem dX7_number_39 : decode cX7_number 39 = .ok (.ifCond .eq 40, 3) := by decide +kernel
theorem dX7_number_42 : decode cX7_number 42 = .ok (.iload 4, 2) := by decide +kernel
theorem dX7_number_44 : decode cX7_number 44 = .ok (.sipush 999, 3) := by decide +kernel
theorem dX7_number_47 : decode cX7_number 47 = .ok (.if_icmp .le 8, 3) := by decide +kernel
theorem dX7_number_50 : decode cX7_number 50 = .ok (.iload 4, 2) := by decide +kernel
theorem dX7_number_52 : decode cX7_number 52 = .ok (.goto 19, 3) := by decide +kernel
theorem dX7_number_55 : decode cX7_number 55 = .ok (.bipush 10, 2) := by decide +kernel
theorem dX7_number_57 : decode cX7_number 57 = .ok (.iload 4, 2) := by decide +kernel
theorem dX7_number_59 : decode cX7_number 59 = .ok (.imul, 1) := by decide +kernel
theorem dX7_number_60 : decode cX7_number 60 = .ok (.aload_n 0, 1) := by decide +kernel
theorem dX7_number_61 : decode cX7_number 61 = .ok (.getfield 22, 3) := by decide +kernel
theorem dX7_number_64 : decode cX7_number 64 = .ok (.iload 5, 2) := by decide +kernel
theorem dX7_number_66 : decode cX7_number 66 = .ok (.iaload, 1) := by decide +kernel
theorem dX7_number_67 : decode cX7_number 67 = .ok (.iadd, 1) := by decide +kernel
theorem dX7_number_68 : decode cX7_number 68 = .ok (.bipush 48, 2) := by decide +kernel
theorem dX7_number_70 : decode cX7_number 70 = .ok (.isub, 1) := by decide +kernel
theorem dX7_number_71 : decode cX7_number 71 = .ok (.istore 4, 2) := by decide +kernel
theorem dX7_number_73 : decode cX7_number 73 = .ok (.iinc 5 1, 3) := by decide +kernel
theorem dX7_number_76 : decode cX7_number 76 = .ok (.goto (-47), 3) := by decide +kernel
theorem dX7_number_79 : decode cX7_number 79 = .ok (.aload_n 0, 1) := by decide +kernel
theorem dX7_number_80 : decode cX7_number 80 = .ok (.iload 4, 2) := by decide +kernel
theorem dX7_number_82 : decode cX7_number 82 = .ok (.putfield 146, 3) := by decide +kernel
theorem dX7_number_85 : decode cX7_number 85 = .ok (.aload_n 0, 1) := by decide +kernel
theorem dX7_number_86 : decode cX7_number 86 = .ok (.iload_n 3, 1) := by decide +kernel
theorem dX7_number_87 : decode cX7_number 87 = .ok (.ifCond .eq 20, 3) := by decide +kernel
theorem dX7_number_90 : decode cX7_number 90 = .ok (.iload 4, 2) := by decide +kernel
theorem dX7_number_92 : decode cX7_number 92 = .ok (.i2l, 1) := by decide +kernel
theorem dX7_number_93 : decode cX7_number 93 = .ok (.iload_n 1, 1) := by decide +kernel
theorem dX7_number_94 : decode cX7_number 94 = .ok (.i2l, 1) := by decide +kernel
theorem dX7_number_95 : decode cX7_number 95 = .ok (.iload_n 2, 1) := by decide +kernel
theorem dX7_number_96 : decode cX7_number 96 = .ok (.i2l, 1) := by decide +kernel
theorem dX7_number_97 : decode cX7_number 97 = .ok (.invokestatic 54, 3) := by decide +kernel
theorem dX7_number_100 : decode cX7_number 100 = .ok (.ifCond .eq 7, 3) := by decide +kernel
theorem dX7_number_103 : decode cX7_number 103 = .ok (.iconst 1, 1) := by decide +kernel
theorem dX7_number_104 : decode cX7_number 104 = .ok (.goto 4, 3) := by decide +kernel
theorem dX7_number_107 : decode cX7_number 107 = .ok (.iconst 0, 1) := by decide +kernel
theorem dX7_number_108 : decode cX7_number 108 = .ok (.invokevirtual 149, 3) := by decide +kernel
theorem dX7_number_111 : decode cX7_number 111 = .ok (.return_, 1) := by decide +kernel
theorem dX7_kindHere_0 : decode cX7_kindHere 0 = .ok (.aload_n 0, 1) := by decide +kernel
theorem dX7_kindHere_1 : decode cX7_kindHere 1 = .ok (.bipush 103, 2) := by decide +kernel
theorem dX7_kindHere_3 : decode cX7_kindHere 3 = .ok (.bipush 97, 2) := by decide +kernel
theorem dX7_kindHere_5 : decode cX7_kindHere 5 = .ok (.bipush 112, 2) := by decide +kernel
theorem dX7_kindHere_7 : decode cX7_kindHere 7 = .ok (.iconst 0, 1) := by decide +kernel
theorem dX7_kindHere_8 : decode cX7_kindHere 8 = .ok (.iconst 0, 1) := by decide +kernel
theorem dX7_kindHere_9 : decode cX7_kindHere 9 = .ok (.iconst 0, 1) := by decide +kernel
theorem dX7_kindHere_10 : decode cX7_kindHere 10 = .ok (.iconst 0, 1) := by decide +kernel
theorem dX7_kindHere_11 : decode cX7_kindHere 11 = .ok (.invokevirtual 153, 3) := by decide +kernel
theorem dX7_kindHere_14 : decode cX7_kindHere 14 = .ok (.ifCond .eq 5, 3) := by decide +kernel
theorem dX7_kindHere_17 : decode cX7_kindHere 17 = .ok (.iconst 0, 1) := by decide +kernel
theorem dX7_kindHere_18 : decode cX7_kindHere 18 = .ok (.ireturn, 1) := by decide +kernel
theorem dX7_kindHere_19 : decode cX7_kindHere 19 = .ok (.aload_n 0, 1) := by decide +kernel
theorem dX7_kindHere_20 : decode cX7_kindHere 20 = .ok (.bipush 104, 2) := by decide +kernel
theorem dX7_kindHere_22 : decode cX7_kindHere 22 = .ok (.bipush 105, 2) := by decide +kernel
theorem dX7_kindHere_24 : decode cX7_kindHere 24 = .ok (.bipush 100, 2) := by decide +kernel
theorem dX7_kindHere_26 : decode cX7_kindHere 26 = .ok (.bipush 100, 2) := by decide +kernel
theorem dX7_kindHere_28 : decode cX7_kindHere 28 = .ok (.bipush 101, 2) := by decide +kernel
theorem dX7_kindHere_30 : decode cX7_kindHere 30 = .ok (.bipush 110, 2) := by decide +kernel
theorem dX7_kindHere_32 : decode cX7_kindHere 32 = .ok (.iconst 0, 1) := by decide +kernel
theorem dX7_kindHere_33 : decode cX7_kindHere 33 = .ok (.invokevirtual 153, 3) := by decide +kernel
theorem dX7_kindHere_36 : decode cX7_kindHere 36 = .ok (.ifCond .eq 7, 3) := by decide +kernel
theorem dX7_kindHere_39 : decode cX7_kindHere 39 = .ok (.iconst 1, 1) := by decide +kernel
theorem dX7_kindHere_40 : decode cX7_kindHere 40 = .ok (.goto 101, 3) := by decide +kernel
theorem dX7_kindHere_43 : decode cX7_kindHere 43 = .ok (.aload_n 0, 1) := by decide +kernel
theorem dX7_kindHere_44 : decode cX7_kindHere 44 = .ok (.bipush 110, 2) := by decide +kernel
theorem dX7_kindHere_46 : decode cX7_kindHere 46 = .ok (.bipush 101, 2) := by decide +kernel
theorem dX7_kindHere_48 : decode cX7_kindHere 48 = .ok (.bipush 101, 2) := by decide +kernel
theorem dX7_kindHere_50 : decode cX7_kindHere 50 = .ok (.bipush 100, 2) := by decide +kernel
theorem dX7_kindHere_52 : decode cX7_kindHere 52 = .ok (.bipush 101, 2) := by decide +kernel
theorem dX7_kindHere_54 : decode cX7_kindHere 54 = .ok (.bipush 100, 2) := by decide +kernel
theorem dX7_kindHere_56 : decode cX7_kindHere 56 = .ok (.iconst 0, 1) := by decide +kernel
theorem dX7_kindHere_57 : decode cX7_kindHere 57 = .ok (.invokevirtual 153, 3) := by decide +kernel
theorem dX7_kindHere_60 : decode cX7_kindHere 60 = .ok (.ifCond .eq 7, 3) := by decide +kernel
theorem dX7_kindHere_63 : decode cX7_kindHere 63 = .ok (.iconst 2, 1) := by decide +kernel
theorem dX7_kindHere_64 : decode cX7_kindHere 64 = .ok (.goto 77, 3) := by decide +kernel
theorem dX7_kindHere_67 : decode cX7_kindHere 67 = .ok (.aload_n 0, 1) := by decide +kernel
theorem dX7_kindHere_68 : decode cX7_kindHere 68 = .ok (.bipush 107, 2) := by decide +kernel
theorem dX7_kindHere_70 : decode cX7_kindHere 70 = .ok (.bipush 110, 2) := by decide +kernel
theorem dX7_kindHere_72 : decode cX7_kindHere 72 = .ok (.bipush 111, 2) := by decide +kernel
theorem dX7_kindHere_74 : decode cX7_kindHere 74 = .ok (.bipush 119, 2) := by decide +kernel
theorem dX7_kindHere_76 : decode cX7_kindHere 76 = .ok (.bipush 110, 2) := by decide +kernel
theorem dX7_kindHere_78 : decode cX7_kindHere 78 = .ok (.iconst 0, 1) := by decide +kernel
theorem dX7_kindHere_79 : decode cX7_kindHere 79 = .ok (.iconst 0, 1) := by decide +kernel
theorem dX7_kindHere_80 : decode cX7_kindHere 80 = .ok (.invokevirtual 153, 3) := by decide +kernel
theorem dX7_kindHere_83 : decode cX7_kindHere 83 = .ok (.ifCond .eq 7, 3) := by decide +kernel
theorem dX7_kindHere_86 : decode cX7_kindHere 86 = .ok (.iconst 3, 1) := by decide +kernel
theorem dX7_kindHere_87 : decode cX7_kindHere 87 = .ok (.goto 54, 3) := by decide +kernel
theorem dX7_kindHere_90 : decode cX7_kindHere 90 = .ok (.aload_n 0, 1) := by decide +kernel
theorem dX7_kindHere_91 : decode cX7_kindHere 91 = .ok (.bipush 116, 2) := by decide +kernel
theorem dX7_kindHere_93 : decode cX7_kindHere 93 = .ok (.bipush 117, 2) := by decide +kernel
theorem dX7_kindHere_95 : decode cX7_kindHere 95 = .ok (.bipush 114, 2) := by decide +kernel
theorem dX7_kindHere_97 : decode cX7_kindHere 97 = .ok (.bipush 110, 2) := by decide +kernel
theorem dX7_kindHere_99 : decode cX7_kindHere 99 = .ok (.bipush 105, 2) := by decide +kernel
theorem dX7_kindHere_101 : decode cX7_kindHere 101 = .ok (.bipush 110, 2) := by decide +kernel
theorem dX7_kindHere_103 : decode cX7_kindHere 103 = .ok (.bipush 103, 2) := by decide +kernel
theorem dX7_kindHere_105 : decode cX7_kindHere 105 = .ok (.invokevirtual 153, 3) := by decide +kernel
theorem dX7_kindHere_108 : decode cX7_kindHere 108 = .ok (.ifCond .eq 7, 3) := by decide +kernel
theorem dX7_kindHere_111 : decode cX7_kindHere 111 = .ok (.iconst 4, 1) := by decide +kernel
theorem dX7_kindHere_112 : decode cX7_kindHere 112 = .ok (.goto 29, 3) := by decide +kernel
theorem dX7_kindHere_115 : decode cX7_kindHere 115 = .ok (.aload_n 0, 1) := by decide +kernel
theorem dX7_kindHere_116 : decode cX7_kindHere 116 = .ok (.bipush 99, 2) := by decide +kernel
theorem dX7_kindHere_118 : decode cX7_kindHere 118 = .ok (.bipush 104, 2) := by decide +kernel
theorem dX7_kindHere_120 : decode cX7_kindHere 120 = .ok (.bipush 105, 2) := by decide +kernel
theorem dX7_kindHere_122 : decode cX7_kindHere 122 = .ok (.bipush 109, 2) := by decide +kernel
theorem dX7_kindHere_124 : decode cX7_kindHere 124 = .ok (.bipush 110, 2) := by decide +kernel
theorem dX7_kindHere_126 : decode cX7_kindHere 126 = .ok (.bipush 101, 2) := by decide +kernel
theorem dX7_kindHere_128 : decode cX7_kindHere 128 = .ok (.bipush 121, 2) := by decide +kernel
theorem dX7_kindHere_130 : decode cX7_kindHere 130 = .ok (.invokevirtual 153, 3) := by decide +kernel
theorem dX7_kindHere_133 : decode cX7_kindHere 133 = .ok (.ifCond .eq 7, 3) := by decide +kernel
theorem dX7_kindHere_136 : decode cX7_kindHere 136 = .ok (.iconst 5, 1) := by decide +kernel
theorem dX7_kindHere_137 : decode cX7_kindHere 137 = .ok (.goto 4, 3) := by decide +kernel
theorem dX7_kindHere_140 : decode cX7_kindHere 140 = .ok (.iconst (-1), 1) := by decide +kernel
theorem dX7_kindHere_141 : decode cX7_kindHere 141 = .ok (.ireturn, 1) := by decide +kernel
theorem dX7_perhaps_0 : decode cX7_perhaps 0 = .ok (.aload_n 0, 1) := by decide +kernel
theorem dX7_perhaps_1 : decode cX7_perhaps 1 = .ok (.getfield 135, 3) := by decide +kernel
theorem dX7_perhaps_4 : decode cX7_perhaps 4 = .ok (.ifCond .ne 7, 3) := by decide +kernel
theorem dX7_perhaps_7 : decode cX7_perhaps 7 = .ok (.iload_n 1, 1) := by decide +kernel
theorem dX7_perhaps_8 : decode cX7_perhaps 8 = .ok (.ifCond .ne 5, 3) := by decide +kernel
theorem dX7_perhaps_11 : decode cX7_perhaps 11 = .ok (.iconst 0, 1) := by decide +kernel
theorem dX7_perhaps_12 : decode cX7_perhaps 12 = .ok (.ireturn, 1) := by decide +kernel
theorem dX7_perhaps_13 : decode cX7_perhaps 13 = .ok (.aload_n 0, 1) := by decide +kernel
theorem dX7_perhaps_14 : decode cX7_perhaps 14 = .ok (.iconst 1, 1) := by decide +kernel
theorem dX7_perhaps_15 : decode cX7_perhaps 15 = .ok (.invokevirtual 149, 3) := by decide +kernel
theorem dX7_perhaps_18 : decode cX7_perhaps 18 = .ok (.aload_n 0, 1) := by decide +kernel
theorem dX7_perhaps_19 : decode cX7_perhaps 19 = .ok (.iconst 0, 1) := by decide +kernel
theorem dX7_perhaps_20 : decode cX7_perhaps 20 = .ok (.iload_n 2, 1) := by decide +kernel
theorem dX7_perhaps_21 : decode cX7_perhaps 21 = .ok (.invokevirtual 157, 3) := by decide +kernel
theorem dX7_perhaps_24 : decode cX7_perhaps 24 = .ok (.aload_n 0, 1) := by decide +kernel
theorem dX7_perhaps_25 : decode cX7_perhaps 25 = .ok (.getfield 146, 3) := by decide +kernel
theorem dX7_perhaps_28 : decode cX7_perhaps 28 = .ok (.ireturn, 1) := by decide +kernel
theorem dX7_gapItem_0 : decode cX7_gapItem 0 = .ok (.aload_n 0, 1) := by decide +kernel
theorem dX7_gapItem_1 : decode cX7_gapItem 1 = .ok (.aload_n 0, 1) := by decide +kernel
theorem dX7_gapItem_2 : decode cX7_gapItem 2 = .ok (.getfield 7, 3) := by decide +kernel
theorem dX7_gapItem_5 : decode cX7_gapItem 5 = .ok (.iconst 1, 1) := by decide +kernel
theorem dX7_gapItem_6 : decode cX7_gapItem 6 = .ok (.iaload, 1) := by decide +kernel
theorem dX7_gapItem_7 : decode cX7_gapItem 7 = .ok (.bipush 20, 2) := by decide +kernel
theorem dX7_gapItem_9 : decode cX7_gapItem 9 = .ok (.if_icmp .ge 7, 3) := by decide +kernel
theorem dX7_gapItem_12 : decode cX7_gapItem 12 = .ok (.iconst 1, 1) := by decide +kernel
theorem dX7_gapItem_13 : decode cX7_gapItem 13 = .ok (.goto 4, 3) := by decide +kernel
theorem dX7_gapItem_16 : decode cX7_gapItem 16 = .ok (.iconst 0, 1) := by decide +kernel
theorem dX7_gapItem_17 : decode cX7_gapItem 17 = .ok (.invokevirtual 149, 3) := by decide +kernel
theorem dX7_gapItem_20 : decode cX7_gapItem 20 = .ok (.aload_n 0, 1) := by decide +kernel
theorem dX7_gapItem_21 : decode cX7_gapItem 21 = .ok (.iconst 0, 1) := by decide +kernel
theorem dX7_gapItem_22 : decode cX7_gapItem 22 = .ok (.aload_n 0, 1) := by decide +kernel
theorem dX7_gapItem_23 : decode cX7_gapItem 23 = .ok (.getfield 7, 3) := by decide +kernel
theorem dX7_gapItem_26 : decode cX7_gapItem 26 = .ok (.iconst 0, 1) := by decide +kernel
theorem dX7_gapItem_27 : decode cX7_gapItem 27 = .ok (.iaload, 1) := by decide +kernel
theorem dX7_gapItem_28 : decode cX7_gapItem 28 = .ok (.iconst 1, 1) := by decide +kernel
theorem dX7_gapItem_29 : decode cX7_gapItem 29 = .ok (.isub, 1) := by decide +kernel
theorem dX7_gapItem_30 : decode cX7_gapItem 30 = .ok (.invokevirtual 157, 3) := by decide +kernel
theorem dX7_gapItem_33 : decode cX7_gapItem 33 = .ok (.aload_n 0, 1) := by decide +kernel
theorem dX7_gapItem_34 : decode cX7_gapItem 34 = .ok (.getfield 146, 3) := by decide +kernel
theorem dX7_gapItem_37 : decode cX7_gapItem 37 = .ok (.istore_n 2, 1) := by decide +kernel
theorem dX7_gapItem_38 : decode cX7_gapItem 38 = .ok (.iconst (-1), 1) := by decide +kernel
theorem dX7_gapItem_39 : decode cX7_gapItem 39 = .ok (.istore_n 3, 1) := by decide +kernel
theorem dX7_gapItem_40 : decode cX7_gapItem 40 = .ok (.aload_n 0, 1) := by decide +kernel
theorem dX7_gapItem_41 : decode cX7_gapItem 41 = .ok (.bipush 111, 2) := by decide +kernel
theorem dX7_gapItem_43 : decode cX7_gapItem 43 = .ok (.bipush 117, 2) := by decide +kernel
theorem dX7_gapItem_45 : decode cX7_gapItem 45 = .ok (.bipush 116, 2) := by decide +kernel
theorem dX7_gapItem_47 : decode cX7_gapItem 47 = .ok (.iconst 0, 1) := by decide +kernel
theorem dX7_gapItem_48 : decode cX7_gapItem 48 = .ok (.iconst 0, 1) := by decide +kernel
theorem dX7_gapItem_49 : decode cX7_gapItem 49 = .ok (.iconst 0, 1) := by decide +kernel
theorem dX7_gapItem_50 : decode cX7_gapItem 50 = .ok (.iconst 0, 1) := by decide +kernel
theorem dX7_gapItem_51 : decode cX7_gapItem 51 = .ok (.invokevirtual 153, 3) := by decide +kernel
theorem dX7_gapItem_54 : decode cX7_gapItem 54 = .ok (.ifCond .eq 11, 3) := by decide +kernel
theorem dX7_gapItem_57 : decode cX7_gapItem 57 = .ok (.aload_n 0, 1) := by decide +kernel
theorem dX7_gapItem_58 : decode cX7_gapItem 58 = .ok (.iconst 1, 1) := by decide +kernel
theorem dX7_gapItem_59 : decode cX7_gapItem 59 = .ok (.invokevirtual 149, 3) := by decide +kernel
theorem dX7_gapItem_62 : decode cX7_gapItem 62 = .ok (.goto 67, 3) := by decide +kernel
theorem dX7_gapItem_65 : decode cX7_gapItem 65 = .ok (.aload_n 0, 1) := by decide +kernel
theorem dX7_gapItem_66 : decode cX7_gapItem 66 = .ok (.getfield 135, 3) := by decide +kernel
theorem dX7_gapItem_69 : decode cX7_gapItem 69 = .ok (.ifCond .ne 29, 3) := by decide +kernel
theorem dX7_gapItem_72 : decode cX7_gapItem 72 = .ok (.aload_n 0, 1) := by decide +kernel
theorem dX7_gapItem_73 : decode cX7_gapItem 73 = .ok (.aload_n 0, 1) := by decide +kernel
theorem dX7_gapItem_74 : decode cX7_gapItem 74 = .ok (.getfield 123, 3) := by decide +kernel
theorem dX7_gapItem_77 : decode cX7_gapItem 77 = .ok (.invokevirtual 126, 3) := by decide +kernel
theorem dX7_gapItem_80 : decode cX7_gapItem 80 = .ok (.invokestatic 132, 3) := by decide +kernel
theorem dX7_gapItem_83 : decode cX7_gapItem 83 = .ok (.ifCond .eq 15, 3) := by decide +kernel
theorem dX7_gapItem_86 : decode cX7_gapItem 86 = .ok (.aload_n 0, 1) := by decide +kernel
theorem dX7_gapItem_87 : decode cX7_gapItem 87 = .ok (.iload_n 2, 1) := by decide +kernel
theorem dX7_gapItem_88 : decode cX7_gapItem 88 = .ok (.invokevirtual 160, 3) := by decide +kernel
theorem dX7_gapItem_91 : decode cX7_gapItem 91 = .ok (.ifCond .eq 7, 3) := by decide +kernel
theorem dX7_gapItem_94 : decode cX7_gapItem 94 = .ok (.iconst 1, 1) := by decide +kernel
theorem dX7_gapItem_95 : decode cX7_gapItem 95 = .ok (.goto 4, 3) := by decide +kernel
theorem dX7_gapItem_98 : decode cX7_gapItem 98 = .ok (.iconst 0, 1) := by decide +kernel
theorem dX7_gapItem_99 : decode cX7_gapItem 99 = .ok (.istore 4, 2) := by decide +kernel
theorem dX7_gapItem_101 : decode cX7_gapItem 101 = .ok (.iload 4, 2) := by decide +kernel
theorem dX7_gapItem_103 : decode cX7_gapItem 103 = .ok (.ifCond .eq 8, 3) := by decide +kernel
theorem dX7_gapItem_106 : decode cX7_gapItem 106 = .ok (.aload_n 0, 1) := by decide +kernel
theorem dX7_gapItem_107 : decode cX7_gapItem 107 = .ok (.iconst 1, 1) := by decide +kernel
theorem dX7_gapItem_108 : decode cX7_gapItem 108 = .ok (.putfield 135, 3) := by decide +kernel
theorem dX7_gapItem_111 : decode cX7_gapItem 111 = .ok (.aload_n 0, 1) := by decide +kernel
theorem dX7_gapItem_112 : decode cX7_gapItem 112 = .ok (.iconst 0, 1) := by decide +kernel
theorem dX7_gapItem_113 : decode cX7_gapItem 113 = .ok (.aload_n 0, 1) := by decide +kernel
theorem dX7_gapItem_114 : decode cX7_gapItem 114 = .ok (.getfield 7, 3) := by decide +kernel
theorem dX7_gapItem_117 : decode cX7_gapItem 117 = .ok (.iconst 0, 1) := by decide +kernel
theorem dX7_gapItem_118 : decode cX7_gapItem 118 = .ok (.iaload, 1) := by decide +kernel
theorem dX7_gapItem_119 : decode cX7_gapItem 119 = .ok (.iconst 1, 1) := by decide +kernel
theorem dX7_gapItem_120 : decode cX7_gapItem 120 = .ok (.isub, 1) := by decide +kernel
theorem dX7_gapItem_121 : decode cX7_gapItem 121 = .ok (.invokevirtual 157, 3) := by decide +kernel
theorem dX7_gapItem_124 : decode cX7_gapItem 124 = .ok (.aload_n 0, 1) := by decide +kernel
theorem dX7_gapItem_125 : decode cX7_gapItem 125 = .ok (.getfield 146, 3) := by decide +kernel
theorem dX7_gapItem_128 : decode cX7_gapItem 128 = .ok (.istore_n 3, 1) := by decide +kernel
theorem dX7_gapItem_129 : decode cX7_gapItem 129 = .ok (.aload_n 0, 1) := by decide +kernel
theorem dX7_gapItem_130 : decode cX7_gapItem 130 = .ok (.iconst 0, 1) := by decide +kernel
theorem dX7_gapItem_131 : decode cX7_gapItem 131 = .ok (.bipush 99, 2) := by decide +kernel
theorem dX7_gapItem_133 : decode cX7_gapItem 133 = .ok (.invokevirtual 157, 3) := by decide +kernel
theorem dX7_gapItem_136 : decode cX7_gapItem 136 = .ok (.aload_n 0, 1) := by decide +kernel
theorem dX7_gapItem_137 : decode cX7_gapItem 137 = .ok (.getfield 146, 3) := by decide +kernel
theorem dX7_gapItem_140 : decode cX7_gapItem 140 = .ok (.istore 4, 2) := by decide +kernel
theorem dX7_gapItem_142 : decode cX7_gapItem 142 = .ok (.aload_n 0, 1) := by decide +kernel
theorem dX7_gapItem_143 : decode cX7_gapItem 143 = .ok (.aload_n 0, 1) := by decide +kernel
theorem dX7_gapItem_144 : decode cX7_gapItem 144 = .ok (.bipush 104, 2) := by decide +kernel
theorem dX7_gapItem_146 : decode cX7_gapItem 146 = .ok (.bipush 105, 2) := by decide +kernel
theorem dX7_gapItem_148 : decode cX7_gapItem 148 = .ok (.bipush 103, 2) := by decide +kernel
theorem dX7_gapItem_150 : decode cX7_gapItem 150 = .ok (.bipush 104, 2) := by decide +kernel
theorem dX7_gapItem_152 : decode cX7_gapItem 152 = .ok (.iconst 0, 1) := by decide +kernel
theorem dX7_gapItem_153 : decode cX7_gapItem 153 = .ok (.iconst 0, 1) := by decide +kernel
theorem dX7_gapItem_154 : decode cX7_gapItem 154 = .ok (.iconst 0, 1) := by decide +kernel
theorem dX7_gapItem_155 : decode cX7_gapItem 155 = .ok (.invokevirtual 153, 3) := by decide +kernel
theorem dX7_gapItem_158 : decode cX7_gapItem 158 = .ok (.bipush 9, 2) := by decide +kernel
theorem dX7_gapItem_160 : decode cX7_gapItem 160 = .ok (.invokevirtual 163, 3) := by decide +kernel
theorem dX7_gapItem_163 : decode cX7_gapItem 163 = .ok (.istore 5, 2) := by decide +kernel
theorem dX7_gapItem_165 : decode cX7_gapItem 165 = .ok (.aload_n 0, 1) := by decide +kernel
theorem dX7_gapItem_166 : decode cX7_gapItem 166 = .ok (.aload_n 0, 1) := by decide +kernel
theorem dX7_gapItem_167 : decode cX7_gapItem 167 = .ok (.bipush 115, 2) := by decide +kernel
theorem dX7_gapItem_169 : decode cX7_gapItem 169 = .ok (.bipush 105, 2) := by decide +kernel
theorem dX7_gapItem_171 : decode cX7_gapItem 171 = .ok (.bipush 100, 2) := by decide +kernel
theorem dX7_gapItem_173 : decode cX7_gapItem 173 = .ok (.bipush 101, 2) := by decide +kernel
theorem dX7_gapItem_175 : decode cX7_gapItem 175 = .ok (.iconst 0, 1) := by decide +kernel
theorem dX7_gapItem_176 : decode cX7_gapItem 176 = .ok (.iconst 0, 1) := by decide +kernel
theorem dX7_gapItem_177 : decode cX7_gapItem 177 = .ok (.iconst 0, 1) := by decide +kernel
theorem dX7_gapItem_178 : decode cX7_gapItem 178 = .ok (.invokevirtual 153, 3) := by decide +kernel
theorem dX7_gapItem_181 : decode cX7_gapItem 181 = .ok (.iconst 3, 1) := by decide +kernel
theorem dX7_gapItem_182 : decode cX7_gapItem 182 = .ok (.invokevirtual 163, 3) := by decide +kernel
theorem dX7_gapItem_185 : decode cX7_gapItem 185 = .ok (.istore 6, 2) := by decide +kernel
theorem dX7_gapItem_187 : decode cX7_gapItem 187 = .ok (.aload_n 0, 1) := by decide +kernel
theorem dX7_gapItem_188 : decode cX7_gapItem 188 = .ok (.aload_n 0, 1) := by decide +kernel
theorem dX7_gapItem_189 : decode cX7_gapItem 189 = .ok (.bipush 99, 2) := by decide +kernel
theorem dX7_gapItem_191 : decode cX7_gapItem 191 = .ok (.bipush 111, 2) := by decide +kernel
theorem dX7_gapItem_193 : decode cX7_gapItem 193 = .ok (.bipush 115, 2) := by decide +kernel
theorem dX7_gapItem_195 : decode cX7_gapItem 195 = .ok (.bipush 116, 2) := by decide +kernel
theorem dX7_gapItem_197 : decode cX7_gapItem 197 = .ok (.iconst 0, 1) := by decide +kernel
theorem dX7_gapItem_198 : decode cX7_gapItem 198 = .ok (.iconst 0, 1) := by decide +kernel
theorem dX7_gapItem_199 : decode cX7_gapItem 199 = .ok (.iconst 0, 1) := by decide +kernel
theorem dX7_gapItem_200 : decode cX7_gapItem 200 = .ok (.invokevirtual 153, 3) := by decide +kernel
theorem dX7_gapItem_203 : decode cX7_gapItem 203 = .ok (.bipush 99, 2) := by decide +kernel
theorem dX7_gapItem_205 : decode cX7_gapItem 205 = .ok (.invokevirtual 163, 3) := by decide +kernel
theorem dX7_gapItem_208 : decode cX7_gapItem 208 = .ok (.istore 7, 2) := by decide +kernel
theorem dX7_gapItem_210 : decode cX7_gapItem 210 = .ok (.aload_n 0, 1) := by decide +kernel
theorem dX7_gapItem_211 : decode cX7_gapItem 211 = .ok (.getfield 135, 3) := by decide +kernel
theorem dX7_gapItem_214 : decode cX7_gapItem 214 = .ok (.ifCond .ne 19, 3) := by decide +kernel
theorem dX7_gapItem_217 : decode cX7_gapItem 217 = .ok (.aload_n 0, 1) := by decide +kernel
theorem dX7_gapItem_218 : decode cX7_gapItem 218 = .ok (.iload_n 1, 1) := by decide +kernel
theorem dX7_gapItem_219 : decode cX7_gapItem 219 = .ok (.iload_n 2, 1) := by decide +kernel
theorem dX7_gapItem_220 : decode cX7_gapItem 220 = .ok (.iload_n 3, 1) := by decide +kernel
theorem dX7_gapItem_221 : decode cX7_gapItem 221 = .ok (.iload 4, 2) := by decide +kernel
theorem dX7_gapItem_223 : decode cX7_gapItem 223 = .ok (.iload 5, 2) := by decide +kernel
theorem dX7_gapItem_225 : decode cX7_gapItem 225 = .ok (.iload 6, 2) := by decide +kernel
theorem dX7_gapItem_227 : decode cX7_gapItem 227 = .ok (.iload 7, 2) := by decide +kernel
theorem dX7_gapItem_229 : decode cX7_gapItem 229 = .ok (.invokevirtual 75, 3) := by decide +kernel
theorem dX7_gapItem_232 : decode cX7_gapItem 232 = .ok (.pop, 1) := by decide +kernel
theorem dX7_gapItem_233 : decode cX7_gapItem 233 = .ok (.return_, 1) := by decide +kernel
theorem dX7_sameNumber_0 : decode cX7_sameNumber 0 = .ok (.iconst 0, 1) := by decide +kernel
theorem dX7_sameNumber_1 : decode cX7_sameNumber 1 = .ok (.istore_n 2, 1) := by decide +kernel
theorem dX7_sameNumber_2 : decode cX7_sameNumber 2 = .ok (.aload_n 0, 1) := by decide +kernel
theorem dX7_sameNumber_3 : decode cX7_sameNumber 3 = .ok (.getfield 123, 3) := by decide +kernel
theorem dX7_sameNumber_6 : decode cX7_sameNumber 6 = .ok (.istore_n 3, 1) := by decide +kernel
theorem dX7_sameNumber_7 : decode cX7_sameNumber 7 = .ok (.iload_n 3, 1) := by decide +kernel
theorem dX7_sameNumber_8 : decode cX7_sameNumber 8 = .ok (.aload_n 0, 1) := by decide +kernel
theorem dX7_sameNumber_9 : decode cX7_sameNumber 9 = .ok (.getfield 120, 3) := by decide +kernel
theorem dX7_sameNumber_12 : decode cX7_sameNumber 12 = .ok (.if_icmp .ge 35, 3) := by decide +kernel
theorem dX7_sameNumber_15 : decode cX7_sameNumber 15 = .ok (.iload_n 2, 1) := by decide +kernel
theorem dX7_sameNumber_16 : decode cX7_sameNumber 16 = .ok (.sipush 999, 3) := by decide +kernel
theorem dX7_sameNumber_19 : decode cX7_sameNumber 19 = .ok (.if_icmp .le 7, 3) := by decide +kernel
theorem dX7_sameNumber_22 : decode cX7_sameNumber 22 = .ok (.iload_n 2, 1) := by decide +kernel
theorem dX7_sameNumber_23 : decode cX7_sameNumber 23 = .ok (.goto 17, 3) := by decide +kernel
theorem dX7_sameNumber_26 : decode cX7_sameNumber 26 = .ok (.bipush 10, 2) := by decide +kernel
theorem dX7_sameNumber_28 : decode cX7_sameNumber 28 = .ok (.iload_n 2, 1) := by decide +kernel
theorem dX7_sameNumber_29 : decode cX7_sameNumber 29 = .ok (.imul, 1) := by decide +kernel
theorem dX7_sameNumber_30 : decode cX7_sameNumber 30 = .ok (.aload_n 0, 1) := by decide +kernel
theorem dX7_sameNumber_31 : decode cX7_sameNumber 31 = .ok (.getfield 22, 3) := by decide +kernel
theorem dX7_sameNumber_34 : decode cX7_sameNumber 34 = .ok (.iload_n 3, 1) := by decide +kernel
theorem dX7_sameNumber_35 : decode cX7_sameNumber 35 = .ok (.iaload, 1) := by decide +kernel
theorem dX7_sameNumber_36 : decode cX7_sameNumber 36 = .ok (.iadd, 1) := by decide +kernel
theorem dX7_sameNumber_37 : decode cX7_sameNumber 37 = .ok (.bipush 48, 2) := by decide +kernel
theorem dX7_sameNumber_39 : decode cX7_sameNumber 39 = .ok (.isub, 1) := by decide +kernel
theorem dX7_sameNumber_40 : decode cX7_sameNumber 40 = .ok (.istore_n 2, 1) := by decide +kernel
theorem dX7_sameNumber_41 : decode cX7_sameNumber 41 = .ok (.iinc 3 1, 3) := by decide +kernel
theorem dX7_sameNumber_44 : decode cX7_sameNumber 44 = .ok (.goto (-37), 3) := by decide +kernel
theorem dX7_sameNumber_47 : decode cX7_sameNumber 47 = .ok (.iload_n 2, 1) := by decide +kernel
theorem dX7_sameNumber_48 : decode cX7_sameNumber 48 = .ok (.iload_n 1, 1) := by decide +kernel
theorem dX7_sameNumber_49 : decode cX7_sameNumber 49 = .ok (.if_icmp .ne 7, 3) := by decide +kernel
theorem dX7_sameNumber_52 : decode cX7_sameNumber 52 = .ok (.iconst 1, 1) := by decide +kernel
theorem dX7_sameNumber_53 : decode cX7_sameNumber 53 = .ok (.goto 4, 3) := by decide +kernel
theorem dX7_sameNumber_56 : decode cX7_sameNumber 56 = .ok (.iconst 0, 1) := by decide +kernel
theorem dX7_sameNumber_57 : decode cX7_sameNumber 57 = .ok (.ireturn, 1) := by decide +kernel
theorem dX7_nightItem_0 : decode cX7_nightItem 0 = .ok (.aload_n 0, 1) := by decide +kernel
theorem dX7_nightItem_1 : decode cX7_nightItem 1 = .ok (.bipush 99, 2) := by decide +kernel
theorem dX7_nightItem_3 : decode cX7_nightItem 3 = .ok (.bipush 111, 2) := by decide +kernel
theorem dX7_nightItem_5 : decode cX7_nightItem 5 = .ok (.bipush 108, 2) := by decide +kernel
theorem dX7_nightItem_7 : decode cX7_nightItem 7 = .ok (.bipush 100, 2) := by decide +kernel
theorem dX7_nightItem_9 : decode cX7_nightItem 9 = .ok (.iconst 0, 1) := by decide +kernel
theorem dX7_nightItem_10 : decode cX7_nightItem 10 = .ok (.iconst 0, 1) := by decide +kernel
theorem dX7_nightItem_11 : decode cX7_nightItem 11 = .ok (.iconst 0, 1) := by decide +kernel
theorem dX7_nightItem_12 : decode cX7_nightItem 12 = .ok (.invokevirtual 153, 3) := by decide +kernel
theorem dX7_nightItem_15 : decode cX7_nightItem 15 = .ok (.ifCond .eq 7, 3) := by decide +kernel
theorem dX7_nightItem_18 : decode cX7_nightItem 18 = .ok (.iconst 0, 1) := by decide +kernel
theorem dX7_nightItem_19 : decode cX7_nightItem 19 = .ok (.goto 49, 3) := by decide +kernel
theorem dX7_nightItem_22 : decode cX7_nightItem 22 = .ok (.aload_n 0, 1) := by decide +kernel
theorem dX7_nightItem_23 : decode cX7_nightItem 23 = .ok (.bipush 119, 2) := by decide +kernel
theorem dX7_nightItem_25 : decode cX7_nightItem 25 = .ok (.bipush 105, 2) := by decide +kernel
theorem dX7_nightItem_27 : decode cX7_nightItem 27 = .ok (.bipush 110, 2) := by decide +kernel
theorem dX7_nightItem_29 : decode cX7_nightItem 29 = .ok (.bipush 100, 2) := by decide +kernel
theorem dX7_nightItem_31 : decode cX7_nightItem 31 = .ok (.iconst 0, 1) := by decide +kernel
theorem dX7_nightItem_32 : decode cX7_nightItem 32 = .ok (.iconst 0, 1) := by decide +kernel
theorem dX7_nightItem_33 : decode cX7_nightItem 33 = .ok (.iconst 0, 1) := by decide +kernel
theorem dX7_nightItem_34 : decode cX7_nightItem 34 = .ok (.invokevirtual 153, 3) := by decide +kernel
theorem dX7_nightItem_37 : decode cX7_nightItem 37 = .ok (.ifCond .eq 7, 3) := by decide +kernel
theorem dX7_nightItem_40 : decode cX7_nightItem 40 = .ok (.iconst 1, 1) := by decide +kernel
theorem dX7_nightItem_41 : decode cX7_nightItem 41 = .ok (.goto 27, 3) := by decide +kernel
theorem dX7_nightItem_44 : decode cX7_nightItem 44 = .ok (.aload_n 0, 1) := by decide +kernel
theorem dX7_nightItem_45 : decode cX7_nightItem 45 = .ok (.bipush 116, 2) := by decide +kernel
theorem dX7_nightItem_47 : decode cX7_nightItem 47 = .ok (.bipush 104, 2) := by decide +kernel
theorem dX7_nightItem_49 : decode cX7_nightItem 49 = .ok (.bipush 117, 2) := by decide +kernel
theorem dX7_nightItem_51 : decode cX7_nightItem 51 = .ok (.bipush 109, 2) := by decide +kernel
theorem dX7_nightItem_53 : decode cX7_nightItem 53 = .ok (.bipush 98, 2) := by decide +kernel
theorem dX7_nightItem_55 : decode cX7_nightItem 55 = .ok (.iconst 0, 1) := by decide +kernel
theorem dX7_nightItem_56 : decode cX7_nightItem 56 = .ok (.iconst 0, 1) := by decide +kernel
theorem dX7_nightItem_57 : decode cX7_nightItem 57 = .ok (.invokevirtual 153, 3) := by decide +kernel
theorem dX7_nightItem_60 : decode cX7_nightItem 60 = .ok (.ifCond .eq 7, 3) := by decide +kernel
theorem dX7_nightItem_63 : decode cX7_nightItem 63 = .ok (.iconst 4, 1) := by decide +kernel
theorem dX7_nightItem_64 : decode cX7_nightItem 64 = .ok (.goto 4, 3) := by decide +kernel
theorem dX7_nightItem_67 : decode cX7_nightItem 67 = .ok (.iconst (-1), 1) := by decide +kernel
theorem dX7_nightItem_68 : decode cX7_nightItem 68 = .ok (.istore_n 1, 1) := by decide +kernel
theorem dX7_nightItem_69 : decode cX7_nightItem 69 = .ok (.aload_n 0, 1) := by decide +kernel
theorem dX7_nightItem_70 : decode cX7_nightItem 70 = .ok (.iload_n 1, 1) := by decide +kernel
theorem dX7_nightItem_71 : decode cX7_nightItem 71 = .ok (.ifCond .lt 7, 3) := by decide +kernel
theorem dX7_nightItem_74 : decode cX7_nightItem 74 = .ok (.iconst 1, 1) := by decide +kernel
theorem dX7_nightItem_75 : decode cX7_nightItem 75 = .ok (.goto 4, 3) := by decide +kernel
theorem dX7_nightItem_78 : decode cX7_nightItem 78 = .ok (.iconst 0, 1) := by decide +kernel
theorem dX7_nightItem_79 : decode cX7_nightItem 79 = .ok (.invokevirtual 149, 3) := by decide +kernel
theorem dX7_nightItem_82 : decode cX7_nightItem 82 = .ok (.aload_n 0, 1) := by decide +kernel
theorem dX7_nightItem_83 : decode cX7_nightItem 83 = .ok (.iconst 0, 1) := by decide +kernel
theorem dX7_nightItem_84 : decode cX7_nightItem 84 = .ok (.iload_n 1, 1) := by decide +kernel
theorem dX7_nightItem_85 : decode cX7_nightItem 85 = .ok (.invokestatic 103, 3) := by decide +kernel
theorem dX7_nightItem_88 : decode cX7_nightItem 88 = .ok (.invokevirtual 157, 3) := by decide +kernel
theorem dX7_nightItem_91 : decode cX7_nightItem 91 = .ok (.aload_n 0, 1) := by decide +kernel
theorem dX7_nightItem_92 : decode cX7_nightItem 92 = .ok (.getfield 135, 3) := by decide +kernel
theorem dX7_nightItem_95 : decode cX7_nightItem 95 = .ok (.ifCond .ne 15, 3) := by decide +kernel
theorem dX7_nightItem_98 : decode cX7_nightItem 98 = .ok (.aload_n 0, 1) := by decide +kernel
theorem dX7_nightItem_99 : decode cX7_nightItem 99 = .ok (.getfield 7, 3) := by decide +kernel
theorem dX7_nightItem_102 : decode cX7_nightItem 102 = .ok (.iconst 2, 1) := by decide +kernel
theorem dX7_nightItem_103 : decode cX7_nightItem 103 = .ok (.iload_n 1, 1) := by decide +kernel
theorem dX7_nightItem_104 : decode cX7_nightItem 104 = .ok (.iadd, 1) := by decide +kernel
theorem dX7_nightItem_105 : decode cX7_nightItem 105 = .ok (.aload_n 0, 1) := by decide +kernel
theorem dX7_nightItem_106 : decode cX7_nightItem 106 = .ok (.getfield 146, 3) := by decide +kernel
theorem dX7_nightItem_109 : decode cX7_nightItem 109 = .ok (.iastore, 1) := by decide +kernel
theorem dX7_nightItem_110 : decode cX7_nightItem 110 = .ok (.return_, 1) := by decide +kernel
theorem dX7_item_0 : decode cX7_item 0 = .ok (.aload_n 0, 1) := by decide +kernel
theorem dX7_item_1 : decode cX7_item 1 = .ok (.invokevirtual 167, 3) := by decide +kernel
theorem dX7_item_4 : decode cX7_item 4 = .ok (.istore_n 1, 1) := by decide +kernel
theorem dX7_item_5 : decode cX7_item 5 = .ok (.iload_n 1, 1) := by decide +kernel
theorem dX7_item_6 : decode cX7_item 6 = .ok (.ifCond .lt 11, 3) := by decide +kernel
theorem dX7_item_9 : decode cX7_item 9 = .ok (.aload_n 0, 1) := by decide +kernel
theorem dX7_item_10 : decode cX7_item 10 = .ok (.iload_n 1, 1) := by decide +kernel
theorem dX7_item_11 : decode cX7_item 11 = .ok (.invokevirtual 170, 3) := by decide +kernel
theorem dX7_item_14 : decode cX7_item 14 = .ok (.goto 69, 3) := by decide +kernel
theorem dX7_item_17 : decode cX7_item 17 = .ok (.aload_n 0, 1) := by decide +kernel
theorem dX7_item_18 : decode cX7_item 18 = .ok (.bipush 114, 2) := by decide +kernel
theorem dX7_item_20 : decode cX7_item 20 = .ok (.bipush 111, 2) := by decide +kernel
theorem dX7_item_22 : decode cX7_item 22 = .ok (.bipush 111, 2) := by decide +kernel
theorem dX7_item_24 : decode cX7_item 24 = .ok (.bipush 109, 2) := by decide +kernel
theorem dX7_item_26 : decode cX7_item 26 = .ok (.iconst 0, 1) := by decide +kernel
theorem dX7_item_27 : decode cX7_item 27 = .ok (.iconst 0, 1) := by decide +kernel
theorem dX7_item_28 : decode cX7_item 28 = .ok (.iconst 0, 1) := by decide +kernel
theorem dX7_item_29 : decode cX7_item 29 = .ok (.invokevirtual 153, 3) := by decide +kernel
theorem dX7_item_32 : decode cX7_item 32 = .ok (.ifCond .eq 47, 3) := by decide +kernel
theorem dX7_item_35 : decode cX7_item 35 = .ok (.aload_n 0, 1) := by decide +kernel
theorem dX7_item_36 : decode cX7_item 36 = .ok (.aload_n 0, 1) := by decide +kernel
theorem dX7_item_37 : decode cX7_item 37 = .ok (.getfield 7, 3) := by decide +kernel
theorem dX7_item_40 : decode cX7_item 40 = .ok (.iconst 0, 1) := by decide +kernel
theorem dX7_item_41 : decode cX7_item 41 = .ok (.iaload, 1) := by decide +kernel
theorem dX7_item_42 : decode cX7_item 42 = .ok (.bipush 6, 2) := by decide +kernel
theorem dX7_item_44 : decode cX7_item 44 = .ok (.if_icmp .ge 7, 3) := by decide +kernel
theorem dX7_item_47 : decode cX7_item 47 = .ok (.iconst 1, 1) := by decide +kernel
theorem dX7_item_48 : decode cX7_item 48 = .ok (.goto 4, 3) := by decide +kernel
theorem dX7_item_51 : decode cX7_item 51 = .ok (.iconst 0, 1) := by decide +kernel
theorem dX7_item_52 : decode cX7_item 52 = .ok (.invokevirtual 149, 3) := by decide +kernel
theorem dX7_item_55 : decode cX7_item 55 = .ok (.aload_n 0, 1) := by decide +kernel
theorem dX7_item_56 : decode cX7_item 56 = .ok (.getfield 7, 3) := by decide +kernel
theorem dX7_item_59 : decode cX7_item 59 = .ok (.iconst 0, 1) := by decide +kernel
theorem dX7_item_60 : decode cX7_item 60 = .ok (.dup2, 1) := by decide +kernel
theorem dX7_item_61 : decode cX7_item 61 = .ok (.iaload, 1) := by decide +kernel
theorem dX7_item_62 : decode cX7_item 62 = .ok (.aload_n 0, 1) := by decide +kernel
theorem dX7_item_63 : decode cX7_item 63 = .ok (.getfield 135, 3) := by decide +kernel
theorem dX7_item_66 : decode cX7_item 66 = .ok (.ifCond .eq 7, 3) := by decide +kernel
theorem dX7_item_69 : decode cX7_item 69 = .ok (.iconst 0, 1) := by decide +kernel
theorem dX7_item_70 : decode cX7_item 70 = .ok (.goto 4, 3) := by decide +kernel
theorem dX7_item_73 : decode cX7_item 73 = .ok (.iconst 1, 1) := by decide +kernel
theorem dX7_item_74 : decode cX7_item 74 = .ok (.iadd, 1) := by decide +kernel
theorem dX7_item_75 : decode cX7_item 75 = .ok (.iastore, 1) := by decide +kernel
theorem dX7_item_76 : decode cX7_item 76 = .ok (.goto 7, 3) := by decide +kernel
theorem dX7_item_79 : decode cX7_item 79 = .ok (.aload_n 0, 1) := by decide +kernel
theorem dX7_item_80 : decode cX7_item 80 = .ok (.invokevirtual 174, 3) := by decide +kernel
theorem dX7_item_83 : decode cX7_item 83 = .ok (.return_, 1) := by decide +kernel
theorem dX7_puts_0 : decode cX7_puts 0 = .ok (.iconst 0, 1) := by decide +kernel
theorem dX7_puts_1 : decode cX7_puts 1 = .ok (.istore_n 1, 1) := by decide +kernel
theorem dX7_puts_2 : decode cX7_puts 2 = .ok (.iload_n 1, 1) := by decide +kernel
theorem dX7_puts_3 : decode cX7_puts 3 = .ok (.sipush 169, 3) := by decide +kernel
theorem dX7_puts_6 : decode cX7_puts 6 = .ok (.if_icmp .ge 21, 3) := by decide +kernel
theorem dX7_puts_9 : decode cX7_puts 9 = .ok (.aload_n 0, 1) := by decide +kernel
theorem dX7_puts_10 : decode cX7_puts 10 = .ok (.getfield 16, 3) := by decide +kernel
theorem dX7_puts_13 : decode cX7_puts 13 = .ok (.iload_n 1, 1) := by decide +kernel
theorem dX7_puts_14 : decode cX7_puts 14 = .ok (.aload_n 0, 1) := by decide +kernel
theorem dX7_puts_15 : decode cX7_puts 15 = .ok (.getfield 7, 3) := by decide +kernel
theorem dX7_puts_18 : decode cX7_puts 18 = .ok (.iload_n 1, 1) := by decide +kernel
theorem dX7_puts_19 : decode cX7_puts 19 = .ok (.iaload, 1) := by decide +kernel
theorem dX7_puts_20 : decode cX7_puts 20 = .ok (.iastore, 1) := by decide +kernel
theorem dX7_puts_21 : decode cX7_puts 21 = .ok (.iinc 1 1, 3) := by decide +kernel
theorem dX7_puts_24 : decode cX7_puts 24 = .ok (.goto (-22), 3) := by decide +kernel
theorem dX7_puts_27 : decode cX7_puts 27 = .ok (.return_, 1) := by decide +kernel
theorem dX7_putsBack_0 : decode cX7_putsBack 0 = .ok (.iconst 0, 1) := by decide +kernel
theorem dX7_putsBack_1 : decode cX7_putsBack 1 = .ok (.istore_n 1, 1) := by decide +kernel
theorem dX7_putsBack_2 : decode cX7_putsBack 2 = .ok (.iload_n 1, 1) := by decide +kernel
theorem dX7_putsBack_3 : decode cX7_putsBack 3 = .ok (.sipush 169, 3) := by decide +kernel
theorem dX7_putsBack_6 : decode cX7_putsBack 6 = .ok (.if_icmp .ge 21, 3) := by decide +kernel
theorem dX7_putsBack_9 : decode cX7_putsBack 9 = .ok (.aload_n 0, 1) := by decide +kernel
theorem dX7_putsBack_10 : decode cX7_putsBack 10 = .ok (.getfield 7, 3) := by decide +kernel
theorem dX7_putsBack_13 : decode cX7_putsBack 13 = .ok (.iload_n 1, 1) := by decide +kernel
theorem dX7_putsBack_14 : decode cX7_putsBack 14 = .ok (.aload_n 0, 1) := by decide +kernel
theorem dX7_putsBack_15 : decode cX7_putsBack 15 = .ok (.getfield 16, 3) := by decide +kernel
theorem dX7_putsBack_18 : decode cX7_putsBack 18 = .ok (.iload_n 1, 1) := by decide +kernel
theorem dX7_putsBack_19 : decode cX7_putsBack 19 = .ok (.iaload, 1) := by decide +kernel
theorem dX7_putsBack_20 : decode cX7_putsBack 20 = .ok (.iastore, 1) := by decide +kernel
theorem dX7_putsBack_21 : decode cX7_putsBack 21 = .ok (.iinc 1 1, 3) := by decide +kernel
theorem dX7_putsBack_24 : decode cX7_putsBack 24 = .ok (.goto (-22), 3) := by decide +kernel
theorem dX7_putsBack_27 : decode cX7_putsBack 27 = .ok (.return_, 1) := by decide +kernel
theorem dX7_house_0 : decode cX7_house 0 = .ok (.aload_n 0, 1) := by decide +kernel
theorem dX7_house_1 : decode cX7_house 1 = .ok (.invokevirtual 177, 3) := by decide +kernel
theorem dX7_house_4 : decode cX7_house 4 = .ok (.aload_n 0, 1) := by decide +kernel
theorem dX7_house_5 : decode cX7_house 5 = .ok (.iconst 0, 1) := by decide +kernel
theorem dX7_house_6 : decode cX7_house 6 = .ok (.putfield 120, 3) := by decide +kernel
theorem dX7_house_9 : decode cX7_house 9 = .ok (.aload_n 0, 1) := by decide +kernel
theorem dX7_house_10 : decode cX7_house 10 = .ok (.iconst 0, 1) := by decide +kernel
theorem dX7_house_11 : decode cX7_house 11 = .ok (.putfield 135, 3) := by decide +kernel
theorem dX7_house_14 : decode cX7_house 14 = .ok (.aload_n 0, 1) := by decide +kernel
theorem dX7_house_15 : decode cX7_house 15 = .ok (.invokevirtual 139, 3) := by decide +kernel
theorem dX7_house_18 : decode cX7_house 18 = .ok (.iconst 1, 1) := by decide +kernel
theorem dX7_house_19 : decode cX7_house 19 = .ok (.istore_n 1, 1) := by decide +kernel
theorem dX7_house_20 : decode cX7_house 20 = .ok (.aload_n 0, 1) := by decide +kernel
theorem dX7_house_21 : decode cX7_house 21 = .ok (.invokevirtual 180, 3) := by decide +kernel
theorem dX7_house_24 : decode cX7_house 24 = .ok (.aload_n 0, 1) := by decide +kernel
theorem dX7_house_25 : decode cX7_house 25 = .ok (.getfield 135, 3) := by decide +kernel
theorem dX7_house_28 : decode cX7_house 28 = .ok (.ifCond .ne 46, 3) := by decide +kernel
theorem dX7_house_31 : decode cX7_house 31 = .ok (.aload_n 0, 1) := by decide +kernel
theorem dX7_house_32 : decode cX7_house 32 = .ok (.getfield 123, 3) := by decide +kernel
theorem dX7_house_35 : decode cX7_house 35 = .ok (.aload_n 0, 1) := by decide +kernel
theorem dX7_house_36 : decode cX7_house 36 = .ok (.getfield 108, 3) := by decide +kernel
theorem dX7_house_39 : decode cX7_house 39 = .ok (.if_icmp .ge 35, 3) := by decide +kernel
theorem dX7_house_42 : decode cX7_house 42 = .ok (.aload_n 0, 1) := by decide +kernel
theorem dX7_house_43 : decode cX7_house 43 = .ok (.aload_n 0, 1) := by decide +kernel
theorem dX7_house_44 : decode cX7_house 44 = .ok (.aload_n 0, 1) := by decide +kernel
theorem dX7_house_45 : decode cX7_house 45 = .ok (.getfield 123, 3) := by decide +kernel
theorem dX7_house_48 : decode cX7_house 48 = .ok (.invokevirtual 126, 3) := by decide +kernel
theorem dX7_house_51 : decode cX7_house 51 = .ok (.bipush 44, 2) := by decide +kernel
theorem dX7_house_53 : decode cX7_house 53 = .ok (.if_icmp .ne 7, 3) := by decide +kernel
theorem dX7_house_56 : decode cX7_house 56 = .ok (.iconst 1, 1) := by decide +kernel
theorem dX7_house_57 : decode cX7_house 57 = .ok (.goto 4, 3) := by decide +kernel
theorem dX7_house_60 : decode cX7_house 60 = .ok (.iconst 0, 1) := by decide +kernel
theorem dX7_house_61 : decode cX7_house 61 = .ok (.invokevirtual 149, 3) := by decide +kernel
theorem dX7_house_64 : decode cX7_house 64 = .ok (.aload_n 0, 1) := by decide +kernel
theorem dX7_house_65 : decode cX7_house 65 = .ok (.invokevirtual 180, 3) := by decide +kernel
theorem dX7_house_68 : decode cX7_house 68 = .ok (.iinc 1 1, 3) := by decide +kernel
theorem dX7_house_71 : decode cX7_house 71 = .ok (.goto (-47), 3) := by decide +kernel
theorem dX7_house_74 : decode cX7_house 74 = .ok (.aload_n 0, 1) := by decide +kernel
theorem dX7_house_75 : decode cX7_house 75 = .ok (.iconst 0, 1) := by decide +kernel
theorem dX7_house_76 : decode cX7_house 76 = .ok (.putfield 108, 3) := by decide +kernel
theorem dX7_house_79 : decode cX7_house 79 = .ok (.aload_n 0, 1) := by decide +kernel
theorem dX7_house_80 : decode cX7_house 80 = .ok (.getfield 135, 3) := by decide +kernel
theorem dX7_house_83 : decode cX7_house 83 = .ok (.ifCond .eq 14, 3) := by decide +kernel
theorem dX7_house_86 : decode cX7_house 86 = .ok (.aload_n 0, 1) := by decide +kernel
theorem dX7_house_87 : decode cX7_house 87 = .ok (.invokevirtual 183, 3) := by decide +kernel
theorem dX7_house_90 : decode cX7_house 90 = .ok (.iconst (-1), 1) := by decide +kernel
theorem dX7_house_91 : decode cX7_house 91 = .ok (.aload_n 0, 1) := by decide +kernel
theorem dX7_house_92 : decode cX7_house 92 = .ok (.getfield 123, 3) := by decide +kernel
theorem dX7_house_95 : decode cX7_house 95 = .ok (.isub, 1) := by decide +kernel
theorem dX7_house_96 : decode cX7_house 96 = .ok (.ireturn, 1) := by decide +kernel
theorem dX7_house_97 : decode cX7_house 97 = .ok (.iload_n 1, 1) := by decide +kernel
theorem dX7_house_98 : decode cX7_house 98 = .ok (.ireturn, 1) := by decide +kernel
theorem dX7_asked_0 : decode cX7_asked 0 = .ok (.iload_n 1, 1) := by decide +kernel
theorem dX7_asked_1 : decode cX7_asked 1 = .ok (.ifCond .ne 15, 3) := by decide +kernel
theorem dX7_asked_4 : decode cX7_asked 4 = .ok (.bipush 80, 2) := by decide +kernel
theorem dX7_asked_6 : decode cX7_asked 6 = .ok (.aload_n 0, 1) := by decide +kernel
theorem dX7_asked_7 : decode cX7_asked 7 = .ok (.getfield 7, 3) := by decide +kernel
theorem dX7_asked_10 : decode cX7_asked 10 = .ok (.iconst 5, 1) := by decide +kernel
theorem dX7_asked_11 : decode cX7_asked 11 = .ok (.iaload, 1) := by decide +kernel
theorem dX7_asked_12 : decode cX7_asked 12 = .ok (.imul, 1) := by decide +kernel
theorem dX7_asked_13 : decode cX7_asked 13 = .ok (.goto 4, 3) := by decide +kernel
theorem dX7_asked_16 : decode cX7_asked 16 = .ok (.iconst 0, 1) := by decide +kernel
theorem dX7_asked_17 : decode cX7_asked 17 = .ok (.istore_n 2, 1) := by decide +kernel
theorem dX7_asked_18 : decode cX7_asked 18 = .ok (.iconst 0, 1) := by decide +kernel
theorem dX7_asked_19 : decode cX7_asked 19 = .ok (.istore_n 3, 1) := by decide +kernel
theorem dX7_asked_20 : decode cX7_asked 20 = .ok (.iconst 0, 1) := by decide +kernel
theorem dX7_asked_21 : decode cX7_asked 21 = .ok (.istore 4, 2) := by decide +kernel
theorem dX7_asked_23 : decode cX7_asked 23 = .ok (.iload 4, 2) := by decide +kernel
theorem dX7_asked_25 : decode cX7_asked 25 = .ok (.aload_n 0, 1) := by decide +kernel
theorem dX7_asked_26 : decode cX7_asked 26 = .ok (.getfield 7, 3) := by decide +kernel
theorem dX7_asked_29 : decode cX7_asked 29 = .ok (.iconst 1, 1) := by decide +kernel
theorem dX7_asked_30 : decode cX7_asked 30 = .ok (.iaload, 1) := by decide +kernel
theorem dX7_asked_31 : decode cX7_asked 31 = .ok (.if_icmp .ge 111, 3) := by decide +kernel
theorem dX7_asked_34 : decode cX7_asked 34 = .ok (.aload_n 0, 1) := by decide +kernel
theorem dX7_asked_35 : decode cX7_asked 35 = .ok (.iload 4, 2) := by decide +kernel
theorem dX7_asked_37 : decode cX7_asked 37 = .ok (.invokevirtual 88, 3) := by decide +kernel
theorem dX7_asked_40 : decode cX7_asked 40 = .ok (.istore 5, 2) := by decide +kernel
theorem dX7_asked_42 : decode cX7_asked 42 = .ok (.aload_n 0, 1) := by decide +kernel
theorem dX7_asked_43 : decode cX7_asked 43 = .ok (.iload 4, 2) := by decide +kernel
theorem dX7_asked_45 : decode cX7_asked 45 = .ok (.iconst 1, 1) := by decide +kernel
theorem dX7_asked_46 : decode cX7_asked 46 = .ok (.invokevirtual 79, 3) := by decide +kernel
theorem dX7_asked_49 : decode cX7_asked 49 = .ok (.iload_n 1, 1) := by decide +kernel
theorem dX7_asked_50 : decode cX7_asked 50 = .ok (.if_icmp .ne 52, 3) := by decide +kernel
theorem dX7_asked_53 : decode cX7_asked 53 = .ok (.iload_n 2, 1) := by decide +kernel
theorem dX7_asked_54 : decode cX7_asked 54 = .ok (.iload 5, 2) := by decide +kernel
theorem dX7_asked_56 : decode cX7_asked 56 = .ok (.aload_n 0, 1) := by decide +kernel
theorem dX7_asked_57 : decode cX7_asked 57 = .ok (.iload 4, 2) := by decide +kernel
theorem dX7_asked_59 : decode cX7_asked 59 = .ok (.iconst 2, 1) := by decide +kernel
theorem dX7_asked_60 : decode cX7_asked 60 = .ok (.invokevirtual 79, 3) := by decide +kernel
theorem dX7_asked_63 : decode cX7_asked 63 = .ok (.iconst (-1), 1) := by decide +kernel
theorem dX7_asked_64 : decode cX7_asked 64 = .ok (.if_icmp .ne 15, 3) := by decide +kernel
theorem dX7_asked_67 : decode cX7_asked 67 = .ok (.bipush 8, 2) := by decide +kernel
theorem dX7_asked_69 : decode cX7_asked 69 = .ok (.aload_n 0, 1) := by decide +kernel
theorem dX7_asked_70 : decode cX7_asked 70 = .ok (.iload 4, 2) := by decide +kernel
theorem dX7_asked_72 : decode cX7_asked 72 = .ok (.invokevirtual 91, 3) := by decide +kernel
theorem dX7_asked_75 : decode cX7_asked 75 = .ok (.imul, 1) := by decide +kernel
theorem dX7_asked_76 : decode cX7_asked 76 = .ok (.goto 15, 3) := by decide +kernel
theorem dX7_asked_79 : decode cX7_asked 79 = .ok (.aload_n 0, 1) := by decide +kernel
theorem dX7_asked_80 : decode cX7_asked 80 = .ok (.getfield 25, 3) := by decide +kernel
theorem dX7_asked_83 : decode cX7_asked 83 = .ok (.aload_n 0, 1) := by decide +kernel
theorem dX7_asked_84 : decode cX7_asked 84 = .ok (.iload 4, 2) := by decide +kernel
theorem dX7_asked_86 : decode cX7_asked 86 = .ok (.iconst 2, 1) := by decide +kernel
theorem dX7_asked_87 : decode cX7_asked 87 = .ok (.invokevirtual 79, 3) := by decide +kernel
theorem dX7_asked_90 : decode cX7_asked 90 = .ok (.iaload, 1) := by decide +kernel
theorem dX7_asked_91 : decode cX7_asked 91 = .ok (.imul, 1) := by decide +kernel
theorem dX7_asked_92 : decode cX7_asked 92 = .ok (.iadd, 1) := by decide +kernel
theorem dX7_asked_93 : decode cX7_asked 93 = .ok (.istore_n 2, 1) := by decide +kernel
theorem dX7_asked_94 : decode cX7_asked 94 = .ok (.iload_n 3, 1) := by decide +kernel
theorem dX7_asked_95 : decode cX7_asked 95 = .ok (.iload 5, 2) := by decide +kernel
theorem dX7_asked_97 : decode cX7_asked 97 = .ok (.iadd, 1) := by decide +kernel
theorem dX7_asked_98 : decode cX7_asked 98 = .ok (.istore_n 3, 1) := by decide +kernel
theorem dX7_asked_99 : decode cX7_asked 99 = .ok (.goto 37, 3) := by decide +kernel
theorem dX7_asked_102 : decode cX7_asked 102 = .ok (.aload_n 0, 1) := by decide +kernel
theorem dX7_asked_103 : decode cX7_asked 103 = .ok (.iload 4, 2) := by decide +kernel
theorem dX7_asked_105 : decode cX7_asked 105 = .ok (.iconst 2, 1) := by decide +kernel
theorem dX7_asked_106 : decode cX7_asked 106 = .ok (.invokevirtual 79, 3) := by decide +kernel
theorem dX7_asked_109 : decode cX7_asked 109 = .ok (.iload_n 1, 1) := by decide +kernel
theorem dX7_asked_110 : decode cX7_asked 110 = .ok (.if_icmp .ne 26, 3) := by decide +kernel
theorem dX7_asked_113 : decode cX7_asked 113 = .ok (.iload_n 2, 1) := by decide +kernel
theorem dX7_asked_114 : decode cX7_asked 114 = .ok (.iload 5, 2) := by decide +kernel
theorem dX7_asked_116 : decode cX7_asked 116 = .ok (.aload_n 0, 1) := by decide +kernel
theorem dX7_asked_117 : decode cX7_asked 117 = .ok (.getfield 25, 3) := by decide +kernel
theorem dX7_asked_120 : decode cX7_asked 120 = .ok (.aload_n 0, 1) := by decide +kernel
theorem dX7_asked_121 : decode cX7_asked 121 = .ok (.iload 4, 2) := by decide +kernel
theorem dX7_asked_123 : decode cX7_asked 123 = .ok (.iconst 1, 1) := by decide +kernel
theorem dX7_asked_124 : decode cX7_asked 124 = .ok (.invokevirtual 79, 3) := by decide +kernel
theorem dX7_asked_127 : decode cX7_asked 127 = .ok (.iaload, 1) := by decide +kernel
theorem dX7_asked_128 : decode cX7_asked 128 = .ok (.imul, 1) := by decide +kernel
theorem dX7_asked_129 : decode cX7_asked 129 = .ok (.iadd, 1) := by decide +kernel
theorem dX7_asked_130 : decode cX7_asked 130 = .ok (.istore_n 2, 1) := by decide +kernel
theorem dX7_asked_131 : decode cX7_asked 131 = .ok (.iload_n 3, 1) := by decide +kernel
theorem dX7_asked_132 : decode cX7_asked 132 = .ok (.iload 5, 2) := by decide +kernel
theorem dX7_asked_134 : decode cX7_asked 134 = .ok (.iadd, 1) := by decide +kernel
theorem dX7_asked_135 : decode cX7_asked 135 = .ok (.istore_n 3, 1) := by decide +kernel
theorem dX7_asked_136 : decode cX7_asked 136 = .ok (.iinc 4 1, 3) := by decide +kernel
theorem dX7_asked_139 : decode cX7_asked 139 = .ok (.goto (-116), 3) := by decide +kernel
theorem dX7_asked_142 : decode cX7_asked 142 = .ok (.iload_n 3, 1) := by decide +kernel
theorem dX7_asked_143 : decode cX7_asked 143 = .ok (.ifCond .ne 7, 3) := by decide +kernel
theorem dX7_asked_146 : decode cX7_asked 146 = .ok (.iconst 0, 1) := by decide +kernel
theorem dX7_asked_147 : decode cX7_asked 147 = .ok (.goto 6, 3) := by decide +kernel
theorem dX7_asked_150 : decode cX7_asked 150 = .ok (.iload_n 2, 1) := by decide +kernel
theorem dX7_asked_151 : decode cX7_asked 151 = .ok (.iload_n 3, 1) := by decide +kernel
theorem dX7_asked_152 : decode cX7_asked 152 = .ok (.idiv, 1) := by decide +kernel
theorem dX7_asked_153 : decode cX7_asked 153 = .ok (.ireturn, 1) := by decide +kernel
theorem dX7_round_0 : decode cX7_round 0 = .ok (.iconst 0, 1) := by decide +kernel
theorem dX7_round_1 : decode cX7_round 1 = .ok (.istore_n 1, 1) := by decide +kernel
theorem dX7_round_2 : decode cX7_round 2 = .ok (.iconst 0, 1) := by decide +kernel
theorem dX7_round_3 : decode cX7_round 3 = .ok (.istore_n 2, 1) := by decide +kernel
theorem dX7_round_4 : decode cX7_round 4 = .ok (.iload_n 2, 1) := by decide +kernel
theorem dX7_round_5 : decode cX7_round 5 = .ok (.aload_n 0, 1) := by decide +kernel
theorem dX7_round_6 : decode cX7_round 6 = .ok (.getfield 7, 3) := by decide +kernel
theorem dX7_round_9 : decode cX7_round 9 = .ok (.iconst 0, 1) := by decide +kernel
theorem dX7_round_10 : decode cX7_round 10 = .ok (.iaload, 1) := by decide +kernel
theorem dX7_round_11 : decode cX7_round 11 = .ok (.if_icmp .ge 45, 3) := by decide +kernel
theorem dX7_round_14 : decode cX7_round 14 = .ok (.aload_n 0, 1) := by decide +kernel
theorem dX7_round_15 : decode cX7_round 15 = .ok (.getfield 28, 3) := by decide +kernel
theorem dX7_round_18 : decode cX7_round 18 = .ok (.iload_n 2, 1) := by decide +kernel
theorem dX7_round_19 : decode cX7_round 19 = .ok (.aload_n 0, 1) := by decide +kernel
theorem dX7_round_20 : decode cX7_round 20 = .ok (.iload_n 2, 1) := by decide +kernel
theorem dX7_round_21 : decode cX7_round 21 = .ok (.invokevirtual 186, 3) := by decide +kernel
theorem dX7_round_24 : decode cX7_round 24 = .ok (.iastore, 1) := by decide +kernel
theorem dX7_round_25 : decode cX7_round 25 = .ok (.iload_n 1, 1) := by decide +kernel
theorem dX7_round_26 : decode cX7_round 26 = .ok (.ifCond .ne 18, 3) := by decide +kernel
theorem dX7_round_29 : decode cX7_round 29 = .ok (.aload_n 0, 1) := by decide +kernel
theorem dX7_round_30 : decode cX7_round 30 = .ok (.getfield 28, 3) := by decide +kernel
theorem dX7_round_33 : decode cX7_round 33 = .ok (.iload_n 2, 1) := by decide +kernel
theorem dX7_round_34 : decode cX7_round 34 = .ok (.iaload, 1) := by decide +kernel
theorem dX7_round_35 : decode cX7_round 35 = .ok (.aload_n 0, 1) := by decide +kernel
theorem dX7_round_36 : decode cX7_round 36 = .ok (.getfield 25, 3) := by decide +kernel
theorem dX7_round_39 : decode cX7_round 39 = .ok (.iload_n 2, 1) := by decide +kernel
theorem dX7_round_40 : decode cX7_round 40 = .ok (.iaload, 1) := by decide +kernel
theorem dX7_round_41 : decode cX7_round 41 = .ok (.if_icmp .eq 7, 3) := by decide +kernel
theorem dX7_round_44 : decode cX7_round 44 = .ok (.iconst 1, 1) := by decide +kernel
theorem dX7_round_45 : decode cX7_round 45 = .ok (.goto 4, 3) := by decide +kernel
theorem dX7_round_48 : decode cX7_round 48 = .ok (.iconst 0, 1) := by decide +kernel
theorem dX7_round_49 : decode cX7_round 49 = .ok (.istore_n 1, 1) := by decide +kernel
theorem dX7_round_50 : decode cX7_round 50 = .ok (.iinc 2 1, 3) := by decide +kernel
theorem dX7_round_53 : decode cX7_round 53 = .ok (.goto (-49), 3) := by decide +kernel
theorem dX7_round_56 : decode cX7_round 56 = .ok (.iconst 0, 1) := by decide +kernel
theorem dX7_round_57 : decode cX7_round 57 = .ok (.istore_n 2, 1) := by decide +kernel
theorem dX7_round_58 : decode cX7_round 58 = .ok (.iload_n 2, 1) := by decide +kernel
theorem dX7_round_59 : decode cX7_round 59 = .ok (.aload_n 0, 1) := by decide +kernel
theorem dX7_round_60 : decode cX7_round 60 = .ok (.getfield 7, 3) := by decide +kernel
theorem dX7_round_63 : decode cX7_round 63 = .ok (.iconst 0, 1) := by decide +kernel
theorem dX7_round_64 : decode cX7_round 64 = .ok (.iaload, 1) := by decide +kernel
theorem dX7_round_65 : decode cX7_round 65 = .ok (.if_icmp .ge 21, 3) := by decide +kernel
theorem dX7_round_68 : decode cX7_round 68 = .ok (.aload_n 0, 1) := by decide +kernel
theorem dX7_round_69 : decode cX7_round 69 = .ok (.getfield 25, 3) := by decide +kernel
theorem dX7_round_72 : decode cX7_round 72 = .ok (.iload_n 2, 1) := by decide +kernel
theorem dX7_round_73 : decode cX7_round 73 = .ok (.aload_n 0, 1) := by decide +kernel
theorem dX7_round_74 : decode cX7_round 74 = .ok (.getfield 28, 3) := by decide +kernel
theorem dX7_round_77 : decode cX7_round 77 = .ok (.iload_n 2, 1) := by decide +kernel
theorem dX7_round_78 : decode cX7_round 78 = .ok (.iaload, 1) := by decide +kernel
theorem dX7_round_79 : decode cX7_round 79 = .ok (.iastore, 1) := by decide +kernel
theorem dX7_round_80 : decode cX7_round 80 = .ok (.iinc 2 1, 3) := by decide +kernel
theorem dX7_round_83 : decode cX7_round 83 = .ok (.goto (-25), 3) := by decide +kernel
theorem dX7_round_86 : decode cX7_round 86 = .ok (.iload_n 1, 1) := by decide +kernel
theorem dX7_round_87 : decode cX7_round 87 = .ok (.ireturn, 1) := by decide +kernel
theorem dX7_rests_0 : decode cX7_rests 0 = .ok (.iconst 0, 1) := by decide +kernel
theorem dX7_rests_1 : decode cX7_rests 1 = .ok (.istore_n 1, 1) := by decide +kernel
theorem dX7_rests_2 : decode cX7_rests 2 = .ok (.iload_n 1, 1) := by decide +kernel
theorem dX7_rests_3 : decode cX7_rests 3 = .ok (.bipush 6, 2) := by decide +kernel
theorem dX7_rests_5 : decode cX7_rests 5 = .ok (.if_icmp .ge 16, 3) := by decide +kernel
theorem dX7_rests_8 : decode cX7_rests 8 = .ok (.aload_n 0, 1) := by decide +kernel
theorem dX7_rests_9 : decode cX7_rests 9 = .ok (.getfield 25, 3) := by decide +kernel
theorem dX7_rests_12 : decode cX7_rests 12 = .ok (.iload_n 1, 1) := by decide +kernel
theorem dX7_rests_13 : decode cX7_rests 13 = .ok (.iconst 0, 1) := by decide +kernel
theorem dX7_rests_14 : decode cX7_rests 14 = .ok (.iastore, 1) := by decide +kernel
theorem dX7_rests_15 : decode cX7_rests 15 = .ok (.iinc 1 1, 3) := by decide +kernel
theorem dX7_rests_18 : decode cX7_rests 18 = .ok (.goto (-16), 3) := by decide +kernel
theorem dX7_rests_21 : decode cX7_rests 21 = .ok (.aload_n 0, 1) := by decide +kernel
theorem dX7_rests_22 : decode cX7_rests 22 = .ok (.iconst 0, 1) := by decide +kernel
theorem dX7_rests_23 : decode cX7_rests 23 = .ok (.putfield 189, 3) := by decide +kernel
theorem dX7_rests_26 : decode cX7_rests 26 = .ok (.aload_n 0, 1) := by decide +kernel
theorem dX7_rests_27 : decode cX7_rests 27 = .ok (.getfield 189, 3) := by decide +kernel
theorem dX7_rests_30 : decode cX7_rests 30 = .ok (.bipush 60, 2) := by decide +kernel
theorem dX7_rests_32 : decode cX7_rests 32 = .ok (.if_icmp .ge 23, 3) := by decide +kernel
theorem dX7_rests_35 : decode cX7_rests 35 = .ok (.aload_n 0, 1) := by decide +kernel
theorem dX7_rests_36 : decode cX7_rests 36 = .ok (.invokevirtual 192, 3) := by decide +kernel
theorem dX7_rests_39 : decode cX7_rests 39 = .ok (.ifCond .eq 16, 3) := by decide +kernel
theorem dX7_rests_42 : decode cX7_rests 42 = .ok (.aload_n 0, 1) := by decide +kernel
theorem dX7_rests_43 : decode cX7_rests 43 = .ok (.dup, 1) := by decide +kernel
theorem dX7_rests_44 : decode cX7_rests 44 = .ok (.getfield 189, 3) := by decide +kernel
theorem dX7_rests_47 : decode cX7_rests 47 = .ok (.iconst 1, 1) := by decide +kernel
theorem dX7_rests_48 : decode cX7_rests 48 = .ok (.iadd, 1) := by decide +kernel
theorem dX7_rests_49 : decode cX7_rests 49 = .ok (.putfield 189, 3) := by decide +kernel
theorem dX7_rests_52 : decode cX7_rests 52 = .ok (.goto (-26), 3) := by decide +kernel
theorem dX7_rests_55 : decode cX7_rests 55 = .ok (.aload_n 0, 1) := by decide +kernel
theorem dX7_rests_56 : decode cX7_rests 56 = .ok (.aload_n 0, 1) := by decide +kernel
theorem dX7_rests_57 : decode cX7_rests 57 = .ok (.getfield 189, 3) := by decide +kernel
theorem dX7_rests_60 : decode cX7_rests 60 = .ok (.bipush 60, 2) := by decide +kernel
theorem dX7_rests_62 : decode cX7_rests 62 = .ok (.if_icmp .ne 7, 3) := by decide +kernel
theorem dX7_rests_65 : decode cX7_rests 65 = .ok (.iconst 1, 1) := by decide +kernel
theorem dX7_rests_66 : decode cX7_rests 66 = .ok (.goto 4, 3) := by decide +kernel
theorem dX7_rests_69 : decode cX7_rests 69 = .ok (.iconst 0, 1) := by decide +kernel
theorem dX7_rests_70 : decode cX7_rests 70 = .ok (.putfield 196, 3) := by decide +kernel
theorem dX7_rests_73 : decode cX7_rests 73 = .ok (.return_, 1) := by decide +kernel
theorem dX7_flowOf_0 : decode cX7_flowOf 0 = .ok (.aload_n 0, 1) := by decide +kernel
theorem dX7_flowOf_1 : decode cX7_flowOf 1 = .ok (.iload_n 1, 1) := by decide +kernel
theorem dX7_flowOf_2 : decode cX7_flowOf 2 = .ok (.iconst 2, 1) := by decide +kernel
theorem dX7_flowOf_3 : decode cX7_flowOf 3 = .ok (.invokevirtual 79, 3) := by decide +kernel
theorem dX7_flowOf_6 : decode cX7_flowOf 6 = .ok (.iconst (-1), 1) := by decide +kernel
theorem dX7_flowOf_7 : decode cX7_flowOf 7 = .ok (.if_icmp .ne 14, 3) := by decide +kernel
theorem dX7_flowOf_10 : decode cX7_flowOf 10 = .ok (.bipush 8, 2) := by decide +kernel
theorem dX7_flowOf_12 : decode cX7_flowOf 12 = .ok (.aload_n 0, 1) := by decide +kernel
theorem dX7_flowOf_13 : decode cX7_flowOf 13 = .ok (.iload_n 1, 1) := by decide +kernel
theorem dX7_flowOf_14 : decode cX7_flowOf 14 = .ok (.invokevirtual 91, 3) := by decide +kernel
theorem dX7_flowOf_17 : decode cX7_flowOf 17 = .ok (.imul, 1) := by decide +kernel
theorem dX7_flowOf_18 : decode cX7_flowOf 18 = .ok (.goto 14, 3) := by decide +kernel
theorem dX7_flowOf_21 : decode cX7_flowOf 21 = .ok (.aload_n 0, 1) := by decide +kernel
theorem dX7_flowOf_22 : decode cX7_flowOf 22 = .ok (.getfield 25, 3) := by decide +kernel
theorem dX7_flowOf_25 : decode cX7_flowOf 25 = .ok (.aload_n 0, 1) := by decide +kernel
theorem dX7_flowOf_26 : decode cX7_flowOf 26 = .ok (.iload_n 1, 1) := by decide +kernel
theorem dX7_flowOf_27 : decode cX7_flowOf 27 = .ok (.iconst 2, 1) := by decide +kernel
theorem dX7_flowOf_28 : decode cX7_flowOf 28 = .ok (.invokevirtual 79, 3) := by decide +kernel
theorem dX7_flowOf_31 : decode cX7_flowOf 31 = .ok (.iaload, 1) := by decide +kernel
theorem dX7_flowOf_32 : decode cX7_flowOf 32 = .ok (.istore_n 2, 1) := by decide +kernel
theorem dX7_flowOf_33 : decode cX7_flowOf 33 = .ok (.aload_n 0, 1) := by decide +kernel
theorem dX7_flowOf_34 : decode cX7_flowOf 34 = .ok (.iload_n 1, 1) := by decide +kernel
theorem dX7_flowOf_35 : decode cX7_flowOf 35 = .ok (.invokevirtual 88, 3) := by decide +kernel
theorem dX7_flowOf_38 : decode cX7_flowOf 38 = .ok (.iload_n 2, 1) := by decide +kernel
theorem dX7_flowOf_39 : decode cX7_flowOf 39 = .ok (.aload_n 0, 1) := by decide +kernel
theorem dX7_flowOf_40 : decode cX7_flowOf 40 = .ok (.getfield 25, 3) := by decide +kernel
theorem dX7_flowOf_43 : decode cX7_flowOf 43 = .ok (.aload_n 0, 1) := by decide +kernel
theorem dX7_flowOf_44 : decode cX7_flowOf 44 = .ok (.iload_n 1, 1) := by decide +kernel
theorem dX7_flowOf_45 : decode cX7_flowOf 45 = .ok (.iconst 1, 1) := by decide +kernel
theorem dX7_flowOf_46 : decode cX7_flowOf 46 = .ok (.invokevirtual 79, 3) := by decide +kernel
theorem dX7_flowOf_49 : decode cX7_flowOf 49 = .ok (.iaload, 1) := by decide +kernel
theorem dX7_flowOf_50 : decode cX7_flowOf 50 = .ok (.isub, 1) := by decide +kernel
theorem dX7_flowOf_51 : decode cX7_flowOf 51 = .ok (.imul, 1) := by decide +kernel
theorem dX7_flowOf_52 : decode cX7_flowOf 52 = .ok (.bipush 80, 2) := by decide +kernel
theorem dX7_flowOf_54 : decode cX7_flowOf 54 = .ok (.idiv, 1) := by decide +kernel
theorem dX7_flowOf_55 : decode cX7_flowOf 55 = .ok (.ireturn, 1) := by decide +kernel
theorem dX7_size_0 : decode cX7_size 0 = .ok (.iload_n 0, 1) := by decide +kernel
theorem dX7_size_1 : decode cX7_size 1 = .ok (.ifCond .ge 9, 3) := by decide +kernel
theorem dX7_size_4 : decode cX7_size 4 = .ok (.iconst 0, 1) := by decide +kernel
theorem dX7_size_5 : decode cX7_size 5 = .ok (.iload_n 0, 1) := by decide +kernel
theorem dX7_size_6 : decode cX7_size 6 = .ok (.isub, 1) := by decide +kernel
theorem dX7_size_7 : decode cX7_size 7 = .ok (.goto 4, 3) := by decide +kernel
theorem dX7_size_10 : decode cX7_size 10 = .ok (.iload_n 0, 1) := by decide +kernel
theorem dX7_size_11 : decode cX7_size 11 = .ok (.ireturn, 1) := by decide +kernel
theorem dX7_leanOf_0 : decode cX7_leanOf 0 = .ok (.aload_n 0, 1) := by decide +kernel
theorem dX7_leanOf_1 : decode cX7_leanOf 1 = .ok (.iload_n 1, 1) := by decide +kernel
theorem dX7_leanOf_2 : decode cX7_leanOf 2 = .ok (.invokevirtual 199, 3) := by decide +kernel
theorem dX7_leanOf_5 : decode cX7_leanOf 5 = .ok (.istore_n 2, 1) := by decide +kernel
theorem dX7_leanOf_6 : decode cX7_leanOf 6 = .ok (.iload_n 2, 1) := by decide +kernel
theorem dX7_leanOf_7 : decode cX7_leanOf 7 = .ok (.invokestatic 202, 3) := by decide +kernel
theorem dX7_leanOf_10 : decode cX7_leanOf 10 = .ok (.iconst 5, 1) := by decide +kernel
theorem dX7_leanOf_11 : decode cX7_leanOf 11 = .ok (.if_icmp .ge 5, 3) := by decide +kernel
theorem dX7_leanOf_14 : decode cX7_leanOf 14 = .ok (.iconst 0, 1) := by decide +kernel
theorem dX7_leanOf_15 : decode cX7_leanOf 15 = .ok (.ireturn, 1) := by decide +kernel
theorem dX7_leanOf_16 : decode cX7_leanOf 16 = .ok (.iload_n 2, 1) := by decide +kernel
theorem dX7_leanOf_17 : decode cX7_leanOf 17 = .ok (.invokestatic 202, 3) := by decide +kernel
theorem dX7_leanOf_20 : decode cX7_leanOf 20 = .ok (.bipush 20, 2) := by decide +kernel
theorem dX7_leanOf_22 : decode cX7_leanOf 22 = .ok (.idiv, 1) := by decide +kernel
theorem dX7_leanOf_23 : decode cX7_leanOf 23 = .ok (.iconst 1, 1) := by decide +kernel
theorem dX7_leanOf_24 : decode cX7_leanOf 24 = .ok (.iadd, 1) := by decide +kernel
theorem dX7_leanOf_25 : decode cX7_leanOf 25 = .ok (.istore_n 3, 1) := by decide +kernel
theorem dX7_leanOf_26 : decode cX7_leanOf 26 = .ok (.iload_n 3, 1) := by decide +kernel
theorem dX7_leanOf_27 : decode cX7_leanOf 27 = .ok (.bipush 9, 2) := by decide +kernel
theorem dX7_leanOf_29 : decode cX7_leanOf 29 = .ok (.if_icmp .le 8, 3) := by decide +kernel
theorem dX7_leanOf_32 : decode cX7_leanOf 32 = .ok (.bipush 9, 2) := by decide +kernel
theorem dX7_leanOf_34 : decode cX7_leanOf 34 = .ok (.goto 4, 3) := by decide +kernel
theorem dX7_leanOf_37 : decode cX7_leanOf 37 = .ok (.iload_n 3, 1) := by decide +kernel
theorem dX7_leanOf_38 : decode cX7_leanOf 38 = .ok (.istore_n 3, 1) := by decide +kernel
theorem dX7_leanOf_39 : decode cX7_leanOf 39 = .ok (.iload_n 2, 1) := by decide +kernel
theorem dX7_leanOf_40 : decode cX7_leanOf 40 = .ok (.ifCond .ge 9, 3) := by decide +kernel
theorem dX7_leanOf_43 : decode cX7_leanOf 43 = .ok (.iconst 0, 1) := by decide +kernel
theorem dX7_leanOf_44 : decode cX7_leanOf 44 = .ok (.iload_n 3, 1) := by decide +kernel
theorem dX7_leanOf_45 : decode cX7_leanOf 45 = .ok (.isub, 1) := by decide +kernel
theorem dX7_leanOf_46 : decode cX7_leanOf 46 = .ok (.goto 4, 3) := by decide +kernel
theorem dX7_leanOf_49 : decode cX7_leanOf 49 = .ok (.iload_n 3, 1) := by decide +kernel
theorem dX7_leanOf_50 : decode cX7_leanOf 50 = .ok (.ireturn, 1) := by decide +kernel
theorem dX7_fresh_0 : decode cX7_fresh 0 = .ok (.iconst 0, 1) := by decide +kernel
theorem dX7_fresh_1 : decode cX7_fresh 1 = .ok (.istore_n 1, 1) := by decide +kernel
theorem dX7_fresh_2 : decode cX7_fresh 2 = .ok (.iconst 0, 1) := by decide +kernel
theorem dX7_fresh_3 : decode cX7_fresh 3 = .ok (.istore_n 2, 1) := by decide +kernel
theorem dX7_fresh_4 : decode cX7_fresh 4 = .ok (.iload_n 2, 1) := by decide +kernel
theorem dX7_fresh_5 : decode cX7_fresh 5 = .ok (.aload_n 0, 1) := by decide +kernel
theorem dX7_fresh_6 : decode cX7_fresh 6 = .ok (.getfield 7, 3) := by decide +kernel
theorem dX7_fresh_9 : decode cX7_fresh 9 = .ok (.iconst 1, 1) := by decide +kernel
theorem dX7_fresh_10 : decode cX7_fresh 10 = .ok (.iaload, 1) := by decide +kernel
theorem dX7_fresh_11 : decode cX7_fresh 11 = .ok (.if_icmp .ge 41, 3) := by decide +kernel
theorem dX7_fresh_14 : decode cX7_fresh 14 = .ok (.aload_n 0, 1) := by decide +kernel
theorem dX7_fresh_15 : decode cX7_fresh 15 = .ok (.iload_n 2, 1) := by decide +kernel
theorem dX7_fresh_16 : decode cX7_fresh 16 = .ok (.iconst 2, 1) := by decide +kernel
theorem dX7_fresh_17 : decode cX7_fresh 17 = .ok (.invokevirtual 79, 3) := by decide +kernel
theorem dX7_fresh_20 : decode cX7_fresh 20 = .ok (.iconst (-1), 1) := by decide +kernel
theorem dX7_fresh_21 : decode cX7_fresh 21 = .ok (.if_icmp .ne 11, 3) := by decide +kernel
theorem dX7_fresh_24 : decode cX7_fresh 24 = .ok (.aload_n 0, 1) := by decide +kernel
theorem dX7_fresh_25 : decode cX7_fresh 25 = .ok (.iload_n 2, 1) := by decide +kernel
theorem dX7_fresh_26 : decode cX7_fresh 26 = .ok (.invokevirtual 199, 3) := by decide +kernel
theorem dX7_fresh_29 : decode cX7_fresh 29 = .ok (.goto 4, 3) := by decide +kernel
theorem dX7_fresh_32 : decode cX7_fresh 32 = .ok (.iconst 0, 1) := by decide +kernel
theorem dX7_fresh_33 : decode cX7_fresh 33 = .ok (.istore_n 3, 1) := by decide +kernel
theorem dX7_fresh_34 : decode cX7_fresh 34 = .ok (.iload_n 1, 1) := by decide +kernel
theorem dX7_fresh_35 : decode cX7_fresh 35 = .ok (.iload_n 3, 1) := by decide +kernel
theorem dX7_fresh_36 : decode cX7_fresh 36 = .ok (.ifCond .le 7, 3) := by decide +kernel
theorem dX7_fresh_39 : decode cX7_fresh 39 = .ok (.iload_n 3, 1) := by decide +kernel
theorem dX7_fresh_40 : decode cX7_fresh 40 = .ok (.goto 4, 3) := by decide +kernel
theorem dX7_fresh_43 : decode cX7_fresh 43 = .ok (.iconst 0, 1) := by decide +kernel
theorem dX7_fresh_44 : decode cX7_fresh 44 = .ok (.iadd, 1) := by decide +kernel
theorem dX7_fresh_45 : decode cX7_fresh 45 = .ok (.istore_n 1, 1) := by decide +kernel
theorem dX7_fresh_46 : decode cX7_fresh 46 = .ok (.iinc 2 1, 3) := by decide +kernel
theorem dX7_fresh_49 : decode cX7_fresh 49 = .ok (.goto (-45), 3) := by decide +kernel
theorem dX7_fresh_52 : decode cX7_fresh 52 = .ok (.iload_n 1, 1) := by decide +kernel
theorem dX7_fresh_53 : decode cX7_fresh 53 = .ok (.ireturn, 1) := by decide +kernel
theorem dX7_lost_0 : decode cX7_lost 0 = .ok (.aload_n 0, 1) := by decide +kernel
theorem dX7_lost_1 : decode cX7_lost 1 = .ok (.invokevirtual 205, 3) := by decide +kernel
theorem dX7_lost_4 : decode cX7_lost 4 = .ok (.aload_n 0, 1) := by decide +kernel
theorem dX7_lost_5 : decode cX7_lost 5 = .ok (.getfield 7, 3) := by decide +kernel
theorem dX7_lost_8 : decode cX7_lost 8 = .ok (.iconst 2, 1) := by decide +kernel
theorem dX7_lost_9 : decode cX7_lost 9 = .ok (.iaload, 1) := by decide +kernel
theorem dX7_lost_10 : decode cX7_lost 10 = .ok (.imul, 1) := by decide +kernel
theorem dX7_lost_11 : decode cX7_lost 11 = .ok (.ireturn, 1) := by decide +kernel
theorem dX7_smokes_0 : decode cX7_smokes 0 = .ok (.iconst 0, 1) := by decide +kernel
theorem dX7_smokes_1 : decode cX7_smokes 1 = .ok (.istore_n 1, 1) := by decide +kernel
theorem dX7_smokes_2 : decode cX7_smokes 2 = .ok (.iconst 0, 1) := by decide +kernel
theorem dX7_smokes_3 : decode cX7_smokes 3 = .ok (.istore_n 2, 1) := by decide +kernel
theorem dX7_smokes_4 : decode cX7_smokes 4 = .ok (.iload_n 2, 1) := by decide +kernel
theorem dX7_smokes_5 : decode cX7_smokes 5 = .ok (.aload_n 0, 1) := by decide +kernel
theorem dX7_smokes_6 : decode cX7_smokes 6 = .ok (.getfield 7, 3) := by decide +kernel
theorem dX7_smokes_9 : decode cX7_smokes 9 = .ok (.iconst 1, 1) := by decide +kernel
theorem dX7_smokes_10 : decode cX7_smokes 10 = .ok (.iaload, 1) := by decide +kernel
theorem dX7_smokes_11 : decode cX7_smokes 11 = .ok (.if_icmp .ge 55, 3) := by decide +kernel
theorem dX7_smokes_14 : decode cX7_smokes 14 = .ok (.iload_n 1, 1) := by decide +kernel
theorem dX7_smokes_15 : decode cX7_smokes 15 = .ok (.ifCond .ne 39, 3) := by decide +kernel
theorem dX7_smokes_18 : decode cX7_smokes 18 = .ok (.aload_n 0, 1) := by decide +kernel
theorem dX7_smokes_19 : decode cX7_smokes 19 = .ok (.iload_n 2, 1) := by decide +kernel
theorem dX7_smokes_20 : decode cX7_smokes 20 = .ok (.invokevirtual 96, 3) := by decide +kernel
theorem dX7_smokes_23 : decode cX7_smokes 23 = .ok (.ifCond .eq 35, 3) := by decide +kernel
theorem dX7_smokes_26 : decode cX7_smokes 26 = .ok (.aload_n 0, 1) := by decide +kernel
theorem dX7_smokes_27 : decode cX7_smokes 27 = .ok (.iload_n 2, 1) := by decide +kernel
theorem dX7_smokes_28 : decode cX7_smokes 28 = .ok (.iconst 2, 1) := by decide +kernel
theorem dX7_smokes_29 : decode cX7_smokes 29 = .ok (.invokevirtual 79, 3) := by decide +kernel
theorem dX7_smokes_32 : decode cX7_smokes 32 = .ok (.iconst (-1), 1) := by decide +kernel
theorem dX7_smokes_33 : decode cX7_smokes 33 = .ok (.if_icmp .ne 25, 3) := by decide +kernel
theorem dX7_smokes_36 : decode cX7_smokes 36 = .ok (.aload_n 0, 1) := by decide +kernel
theorem dX7_smokes_37 : decode cX7_smokes 37 = .ok (.iload_n 2, 1) := by decide +kernel
theorem dX7_smokes_38 : decode cX7_smokes 38 = .ok (.bipush 7, 2) := by decide +kernel
theorem dX7_smokes_40 : decode cX7_smokes 40 = .ok (.invokevirtual 79, 3) := by decide +kernel
theorem dX7_smokes_43 : decode cX7_smokes 43 = .ok (.ifCond .ne 15, 3) := by decide +kernel
theorem dX7_smokes_46 : decode cX7_smokes 46 = .ok (.aload_n 0, 1) := by decide +kernel
theorem dX7_smokes_47 : decode cX7_smokes 47 = .ok (.iload_n 2, 1) := by decide +kernel
theorem dX7_smokes_48 : decode cX7_smokes 48 = .ok (.invokevirtual 199, 3) := by decide +kernel
theorem dX7_smokes_51 : decode cX7_smokes 51 = .ok (.ifCond .lt 7, 3) := by decide +kernel
theorem dX7_smokes_54 : decode cX7_smokes 54 = .ok (.iconst 1, 1) := by decide +kernel
theorem dX7_smokes_55 : decode cX7_smokes 55 = .ok (.goto 4, 3) := by decide +kernel
theorem dX7_smokes_58 : decode cX7_smokes 58 = .ok (.iconst 0, 1) := by decide +kernel
theorem dX7_smokes_59 : decode cX7_smokes 59 = .ok (.istore_n 1, 1) := by decide +kernel
theorem dX7_smokes_60 : decode cX7_smokes 60 = .ok (.iinc 2 1, 3) := by decide +kernel
theorem dX7_smokes_63 : decode cX7_smokes 63 = .ok (.goto (-59), 3) := by decide +kernel
theorem dX7_smokes_66 : decode cX7_smokes 66 = .ok (.iload_n 1, 1) := by decide +kernel
theorem dX7_smokes_67 : decode cX7_smokes 67 = .ok (.ireturn, 1) := by decide +kernel
theorem dX7_pressure_0 : decode cX7_pressure 0 = .ok (.aload_n 0, 1) := by decide +kernel
theorem dX7_pressure_1 : decode cX7_pressure 1 = .ok (.iload_n 1, 1) := by decide +kernel
theorem dX7_pressure_2 : decode cX7_pressure 2 = .ok (.invokevirtual 69, 3) := by decide +kernel
theorem dX7_pressure_5 : decode cX7_pressure 5 = .ok (.ifCond .ne 10, 3) := by decide +kernel
theorem dX7_pressure_8 : decode cX7_pressure 8 = .ok (.aload_n 0, 1) := by decide +kernel
theorem dX7_pressure_9 : decode cX7_pressure 9 = .ok (.ldc 53, 2) := by decide +kernel
theorem dX7_pressure_11 : decode cX7_pressure 11 = .ok (.invokevirtual 59, 3) := by decide +kernel
theorem dX7_pressure_14 : decode cX7_pressure 14 = .ok (.ireturn, 1) := by decide +kernel
theorem dX7_pressure_15 : decode cX7_pressure 15 = .ok (.aload_n 0, 1) := by decide +kernel
theorem dX7_pressure_16 : decode cX7_pressure 16 = .ok (.invokevirtual 208, 3) := by decide +kernel
theorem dX7_pressure_19 : decode cX7_pressure 19 = .ok (.aload_n 0, 1) := by decide +kernel
theorem dX7_pressure_20 : decode cX7_pressure 20 = .ok (.getfield 25, 3) := by decide +kernel
theorem dX7_pressure_23 : decode cX7_pressure 23 = .ok (.iload_n 1, 1) := by decide +kernel
theorem dX7_pressure_24 : decode cX7_pressure 24 = .ok (.iaload, 1) := by decide +kernel
theorem dX7_pressure_25 : decode cX7_pressure 25 = .ok (.ireturn, 1) := by decide +kernel
theorem dX7_flow_0 : decode cX7_flow 0 = .ok (.aload_n 0, 1) := by decide +kernel
theorem dX7_flow_1 : decode cX7_flow 1 = .ok (.iload_n 1, 1) := by decide +kernel
theorem dX7_flow_2 : decode cX7_flow 2 = .ok (.invokevirtual 83, 3) := by decide +kernel
theorem dX7_flow_5 : decode cX7_flow 5 = .ok (.ifCond .ne 10, 3) := by decide +kernel
theorem dX7_flow_8 : decode cX7_flow 8 = .ok (.aload_n 0, 1) := by decide +kernel
theorem dX7_flow_9 : decode cX7_flow 9 = .ok (.ldc 53, 2) := by decide +kernel
theorem dX7_flow_11 : decode cX7_flow 11 = .ok (.invokevirtual 59, 3) := by decide +kernel
theorem dX7_flow_14 : decode cX7_flow 14 = .ok (.ireturn, 1) := by decide +kernel
theorem dX7_flow_15 : decode cX7_flow 15 = .ok (.aload_n 0, 1) := by decide +kernel
theorem dX7_flow_16 : decode cX7_flow 16 = .ok (.invokevirtual 208, 3) := by decide +kernel
theorem dX7_flow_19 : decode cX7_flow 19 = .ok (.aload_n 0, 1) := by decide +kernel
theorem dX7_flow_20 : decode cX7_flow 20 = .ok (.iload_n 1, 1) := by decide +kernel
theorem dX7_flow_21 : decode cX7_flow 21 = .ok (.invokevirtual 199, 3) := by decide +kernel
theorem dX7_flow_24 : decode cX7_flow 24 = .ok (.ireturn, 1) := by decide +kernel
theorem dX7_lean_0 : decode cX7_lean 0 = .ok (.aload_n 0, 1) := by decide +kernel
theorem dX7_lean_1 : decode cX7_lean 1 = .ok (.iload_n 1, 1) := by decide +kernel
theorem dX7_lean_2 : decode cX7_lean 2 = .ok (.invokevirtual 83, 3) := by decide +kernel
theorem dX7_lean_5 : decode cX7_lean 5 = .ok (.ifCond .ne 10, 3) := by decide +kernel
theorem dX7_lean_8 : decode cX7_lean 8 = .ok (.aload_n 0, 1) := by decide +kernel
theorem dX7_lean_9 : decode cX7_lean 9 = .ok (.ldc 53, 2) := by decide +kernel
theorem dX7_lean_11 : decode cX7_lean 11 = .ok (.invokevirtual 59, 3) := by decide +kernel
theorem dX7_lean_14 : decode cX7_lean 14 = .ok (.ireturn, 1) := by decide +kernel
theorem dX7_lean_15 : decode cX7_lean 15 = .ok (.aload_n 0, 1) := by decide +kernel
theorem dX7_lean_16 : decode cX7_lean 16 = .ok (.invokevirtual 208, 3) := by decide +kernel
theorem dX7_lean_19 : decode cX7_lean 19 = .ok (.aload_n 0, 1) := by decide +kernel
theorem dX7_lean_20 : decode cX7_lean 20 = .ok (.iload_n 1, 1) := by decide +kernel
theorem dX7_lean_21 : decode cX7_lean 21 = .ok (.invokevirtual 211, 3) := by decide +kernel
theorem dX7_lean_24 : decode cX7_lean 24 = .ok (.ireturn, 1) := by decide +kernel
theorem dX7_rounds_0 : decode cX7_rounds 0 = .ok (.aload_n 0, 1) := by decide +kernel
theorem dX7_rounds_1 : decode cX7_rounds 1 = .ok (.invokevirtual 208, 3) := by decide +kernel
theorem dX7_rounds_4 : decode cX7_rounds 4 = .ok (.aload_n 0, 1) := by decide +kernel
theorem dX7_rounds_5 : decode cX7_rounds 5 = .ok (.getfield 189, 3) := by decide +kernel
theorem dX7_rounds_8 : decode cX7_rounds 8 = .ok (.ireturn, 1) := by decide +kernel
theorem dX7_rest_0 : decode cX7_rest 0 = .ok (.aload_n 0, 1) := by decide +kernel
theorem dX7_rest_1 : decode cX7_rest 1 = .ok (.iload_n 1, 1) := by decide +kernel
theorem dX7_rest_2 : decode cX7_rest 2 = .ok (.invokevirtual 69, 3) := by decide +kernel
theorem dX7_rest_5 : decode cX7_rest 5 = .ok (.ifCond .ne 10, 3) := by decide +kernel
theorem dX7_rest_8 : decode cX7_rest 8 = .ok (.aload_n 0, 1) := by decide +kernel
theorem dX7_rest_9 : decode cX7_rest 9 = .ok (.ldc 53, 2) := by decide +kernel
theorem dX7_rest_11 : decode cX7_rest 11 = .ok (.invokevirtual 59, 3) := by decide +kernel
theorem dX7_rest_14 : decode cX7_rest 14 = .ok (.ireturn, 1) := by decide +kernel
theorem dX7_rest_15 : decode cX7_rest 15 = .ok (.aload_n 0, 1) := by decide +kernel
theorem dX7_rest_16 : decode cX7_rest 16 = .ok (.invokevirtual 208, 3) := by decide +kernel
theorem dX7_rest_19 : decode cX7_rest 19 = .ok (.iconst 0, 1) := by decide +kernel
theorem dX7_rest_20 : decode cX7_rest 20 = .ok (.istore_n 2, 1) := by decide +kernel
theorem dX7_rest_21 : decode cX7_rest 21 = .ok (.iconst 0, 1) := by decide +kernel
theorem dX7_rest_22 : decode cX7_rest 22 = .ok (.istore_n 3, 1) := by decide +kernel
theorem dX7_rest_23 : decode cX7_rest 23 = .ok (.iload_n 3, 1) := by decide +kernel
theorem dX7_rest_24 : decode cX7_rest 24 = .ok (.aload_n 0, 1) := by decide +kernel
theorem dX7_rest_25 : decode cX7_rest 25 = .ok (.getfield 7, 3) := by decide +kernel
theorem dX7_rest_28 : decode cX7_rest 28 = .ok (.iconst 1, 1) := by decide +kernel
theorem dX7_rest_29 : decode cX7_rest 29 = .ok (.iaload, 1) := by decide +kernel
theorem dX7_rest_30 : decode cX7_rest 30 = .ok (.if_icmp .ge 51, 3) := by decide +kernel
theorem dX7_rest_33 : decode cX7_rest 33 = .ok (.iload_n 2, 1) := by decide +kernel
theorem dX7_rest_34 : decode cX7_rest 34 = .ok (.aload_n 0, 1) := by decide +kernel
theorem dX7_rest_35 : decode cX7_rest 35 = .ok (.iload_n 3, 1) := by decide +kernel
theorem dX7_rest_36 : decode cX7_rest 36 = .ok (.iconst 1, 1) := by decide +kernel
theorem dX7_rest_37 : decode cX7_rest 37 = .ok (.invokevirtual 79, 3) := by decide +kernel
theorem dX7_rest_40 : decode cX7_rest 40 = .ok (.iload_n 1, 1) := by decide +kernel
theorem dX7_rest_41 : decode cX7_rest 41 = .ok (.if_icmp .ne 11, 3) := by decide +kernel
theorem dX7_rest_44 : decode cX7_rest 44 = .ok (.aload_n 0, 1) := by decide +kernel
theorem dX7_rest_45 : decode cX7_rest 45 = .ok (.iload_n 3, 1) := by decide +kernel
theorem dX7_rest_46 : decode cX7_rest 46 = .ok (.invokevirtual 199, 3) := by decide +kernel
theorem dX7_rest_49 : decode cX7_rest 49 = .ok (.goto 24, 3) := by decide +kernel
theorem dX7_rest_52 : decode cX7_rest 52 = .ok (.aload_n 0, 1) := by decide +kernel
theorem dX7_rest_53 : decode cX7_rest 53 = .ok (.iload_n 3, 1) := by decide +kernel
theorem dX7_rest_54 : decode cX7_rest 54 = .ok (.iconst 2, 1) := by decide +kernel
theorem dX7_rest_55 : decode cX7_rest 55 = .ok (.invokevirtual 79, 3) := by decide +kernel
theorem dX7_rest_58 : decode cX7_rest 58 = .ok (.iload_n 1, 1) := by decide +kernel
theorem dX7_rest_59 : decode cX7_rest 59 = .ok (.if_icmp .ne 13, 3) := by decide +kernel
theorem dX7_rest_62 : decode cX7_rest 62 = .ok (.iconst 0, 1) := by decide +kernel
theorem dX7_rest_63 : decode cX7_rest 63 = .ok (.aload_n 0, 1) := by decide +kernel
theorem dX7_rest_64 : decode cX7_rest 64 = .ok (.iload_n 3, 1) := by decide +kernel
theorem dX7_rest_65 : decode cX7_rest 65 = .ok (.invokevirtual 199, 3) := by decide +kernel
theorem dX7_rest_68 : decode cX7_rest 68 = .ok (.isub, 1) := by decide +kernel
theorem dX7_rest_69 : decode cX7_rest 69 = .ok (.goto 4, 3) := by decide +kernel
theorem dX7_rest_72 : decode cX7_rest 72 = .ok (.iconst 0, 1) := by decide +kernel
theorem dX7_rest_73 : decode cX7_rest 73 = .ok (.iadd, 1) := by decide +kernel
theorem dX7_rest_74 : decode cX7_rest 74 = .ok (.istore_n 2, 1) := by decide +kernel
theorem dX7_rest_75 : decode cX7_rest 75 = .ok (.iinc 3 1, 3) := by decide +kernel
theorem dX7_rest_78 : decode cX7_rest 78 = .ok (.goto (-55), 3) := by decide +kernel
theorem dX7_rest_81 : decode cX7_rest 81 = .ok (.iload_n 2, 1) := by decide +kernel
theorem dX7_rest_82 : decode cX7_rest 82 = .ok (.ireturn, 1) := by decide +kernel
theorem dX7_air_0 : decode cX7_air 0 = .ok (.iload_n 1, 1) := by decide +kernel
theorem dX7_air_1 : decode cX7_air 1 = .ok (.i2l, 1) := by decide +kernel
theorem dX7_air_2 : decode cX7_air 2 = .ok (.lconst 0, 1) := by decide +kernel
theorem dX7_air_3 : decode cX7_air 3 = .ok (.ldc2_w 214, 3) := by decide +kernel
theorem dX7_air_6 : decode cX7_air 6 = .ok (.invokestatic 54, 3) := by decide +kernel
theorem dX7_air_9 : decode cX7_air 9 = .ok (.ifCond .ne 10, 3) := by decide +kernel
theorem dX7_air_12 : decode cX7_air 12 = .ok (.aload_n 0, 1) := by decide +kernel
theorem dX7_air_13 : decode cX7_air 13 = .ok (.ldc 53, 2) := by decide +kernel
theorem dX7_air_15 : decode cX7_air 15 = .ok (.invokevirtual 59, 3) := by decide +kernel
theorem dX7_air_18 : decode cX7_air 18 = .ok (.ireturn, 1) := by decide +kernel
theorem dX7_air_19 : decode cX7_air 19 = .ok (.aload_n 0, 1) := by decide +kernel
theorem dX7_air_20 : decode cX7_air 20 = .ok (.invokevirtual 208, 3) := by decide +kernel
theorem dX7_air_23 : decode cX7_air 23 = .ok (.iload_n 1, 1) := by decide +kernel
theorem dX7_air_24 : decode cX7_air 24 = .ok (.ifCond .ne 10, 3) := by decide +kernel
theorem dX7_air_27 : decode cX7_air 27 = .ok (.aload_n 0, 1) := by decide +kernel
theorem dX7_air_28 : decode cX7_air 28 = .ok (.invokevirtual 205, 3) := by decide +kernel
theorem dX7_air_31 : decode cX7_air 31 = .ok (.goto 47, 3) := by decide +kernel
theorem dX7_air_34 : decode cX7_air 34 = .ok (.iload_n 1, 1) := by decide +kernel
theorem dX7_air_35 : decode cX7_air 35 = .ok (.iconst 1, 1) := by decide +kernel
theorem dX7_air_36 : decode cX7_air 36 = .ok (.if_icmp .ne 10, 3) := by decide +kernel
theorem dX7_air_39 : decode cX7_air 39 = .ok (.aload_n 0, 1) := by decide +kernel
theorem dX7_air_40 : decode cX7_air 40 = .ok (.invokevirtual 216, 3) := by decide +kernel
theorem dX7_air_43 : decode cX7_air 43 = .ok (.goto 35, 3) := by decide +kernel
theorem dX7_air_46 : decode cX7_air 46 = .ok (.iload_n 1, 1) := by decide +kernel
theorem dX7_air_47 : decode cX7_air 47 = .ok (.iconst 2, 1) := by decide +kernel
theorem dX7_air_48 : decode cX7_air 48 = .ok (.if_icmp .ne 18, 3) := by decide +kernel
theorem dX7_air_51 : decode cX7_air 51 = .ok (.aload_n 0, 1) := by decide +kernel
theorem dX7_air_52 : decode cX7_air 52 = .ok (.invokevirtual 219, 3) := by decide +kernel
theorem dX7_air_55 : decode cX7_air 55 = .ok (.ifCond .eq 7, 3) := by decide +kernel
theorem dX7_air_58 : decode cX7_air 58 = .ok (.iconst 1, 1) := by decide +kernel
theorem dX7_air_59 : decode cX7_air 59 = .ok (.goto 19, 3) := by decide +kernel
theorem dX7_air_62 : decode cX7_air 62 = .ok (.iconst 0, 1) := by decide +kernel
theorem dX7_air_63 : decode cX7_air 63 = .ok (.goto 15, 3) := by decide +kernel
theorem dX7_air_66 : decode cX7_air 66 = .ok (.aload_n 0, 1) := by decide +kernel
theorem dX7_air_67 : decode cX7_air 67 = .ok (.getfield 196, 3) := by decide +kernel
theorem dX7_air_70 : decode cX7_air 70 = .ok (.ifCond .eq 7, 3) := by decide +kernel
theorem dX7_air_73 : decode cX7_air 73 = .ok (.iconst 1, 1) := by decide +kernel
theorem dX7_air_74 : decode cX7_air 74 = .ok (.goto 4, 3) := by decide +kernel
theorem dX7_air_77 : decode cX7_air 77 = .ok (.iconst 0, 1) := by decide +kernel
theorem dX7_air_78 : decode cX7_air 78 = .ok (.ireturn, 1) := by decide +kernel
theorem dX7_seed_0 : decode cX7_seed 0 = .ok (.aload_n 0, 1) := by decide +kernel
theorem dX7_seed_1 : decode cX7_seed 1 = .ok (.getfield 7, 3) := by decide +kernel
theorem dX7_seed_4 : decode cX7_seed 4 = .ok (.bipush 8, 2) := by decide +kernel
theorem dX7_seed_6 : decode cX7_seed 6 = .ok (.iaload, 1) := by decide +kernel
theorem dX7_seed_7 : decode cX7_seed 7 = .ok (.istore_n 2, 1) := by decide +kernel
theorem dX7_seed_8 : decode cX7_seed 8 = .ok (.aload_n 0, 1) := by decide +kernel
theorem dX7_seed_9 : decode cX7_seed 9 = .ok (.getfield 7, 3) := by decide +kernel
theorem dX7_seed_12 : decode cX7_seed 12 = .ok (.bipush 8, 2) := by decide +kernel
theorem dX7_seed_14 : decode cX7_seed 14 = .ok (.iload_n 1, 1) := by decide +kernel
theorem dX7_seed_15 : decode cX7_seed 15 = .ok (.iastore, 1) := by decide +kernel
theorem dX7_seed_16 : decode cX7_seed 16 = .ok (.iload_n 2, 1) := by decide +kernel
theorem dX7_seed_17 : decode cX7_seed 17 = .ok (.ireturn, 1) := by decide +kernel
theorem dX7_seen_0 : decode cX7_seen 0 = .ok (.aload_n 0, 1) := by decide +kernel
theorem dX7_seen_1 : decode cX7_seen 1 = .ok (.getfield 7, 3) := by decide +kernel
theorem dX7_seen_4 : decode cX7_seen 4 = .ok (.bipush 8, 2) := by decide +kernel
theorem dX7_seen_6 : decode cX7_seen 6 = .ok (.aload_n 0, 1) := by decide +kernel
theorem dX7_seen_7 : decode cX7_seen 7 = .ok (.getfield 7, 3) := by decide +kernel
theorem dX7_seen_10 : decode cX7_seen 10 = .ok (.bipush 8, 2) := by decide +kernel
theorem dX7_seen_12 : decode cX7_seen 12 = .ok (.iaload, 1) := by decide +kernel
theorem dX7_seen_13 : decode cX7_seen 13 = .ok (.ldc 222, 2) := by decide +kernel
theorem dX7_seen_15 : decode cX7_seen 15 = .ok (.imul, 1) := by decide +kernel
theorem dX7_seen_16 : decode cX7_seen 16 = .ok (.sipush 12345, 3) := by decide +kernel
theorem dX7_seen_19 : decode cX7_seen 19 = .ok (.iadd, 1) := by decide +kernel
theorem dX7_seen_20 : decode cX7_seen 20 = .ok (.iastore, 1) := by decide +kernel
theorem dX7_seen_21 : decode cX7_seen 21 = .ok (.aload_n 0, 1) := by decide +kernel
theorem dX7_seen_22 : decode cX7_seen 22 = .ok (.getfield 7, 3) := by decide +kernel
theorem dX7_seen_25 : decode cX7_seen 25 = .ok (.bipush 8, 2) := by decide +kernel
theorem dX7_seen_27 : decode cX7_seen 27 = .ok (.iaload, 1) := by decide +kernel
theorem dX7_seen_28 : decode cX7_seen 28 = .ok (.bipush 8, 2) := by decide +kernel
theorem dX7_seen_30 : decode cX7_seen 30 = .ok (.iushr, 1) := by decide +kernel
theorem dX7_seen_31 : decode cX7_seen 31 = .ok (.bipush 100, 2) := by decide +kernel
theorem dX7_seen_33 : decode cX7_seen 33 = .ok (.irem, 1) := by decide +kernel
theorem dX7_seen_34 : decode cX7_seen 34 = .ok (.aload_n 0, 1) := by decide +kernel
theorem dX7_seen_35 : decode cX7_seen 35 = .ok (.getfield 7, 3) := by decide +kernel
theorem dX7_seen_38 : decode cX7_seen 38 = .ok (.bipush 7, 2) := by decide +kernel
theorem dX7_seen_40 : decode cX7_seen 40 = .ok (.iaload, 1) := by decide +kernel
theorem dX7_seen_41 : decode cX7_seen 41 = .ok (.if_icmp .ge 7, 3) := by decide +kernel
theorem dX7_seen_44 : decode cX7_seen 44 = .ok (.iconst 1, 1) := by decide +kernel
theorem dX7_seen_45 : decode cX7_seen 45 = .ok (.goto 4, 3) := by decide +kernel
theorem dX7_seen_48 : decode cX7_seen 48 = .ok (.iconst 0, 1) := by decide +kernel
theorem dX7_seen_49 : decode cX7_seen 49 = .ok (.istore_n 2, 1) := by decide +kernel
theorem dX7_seen_50 : decode cX7_seen 50 = .ok (.iload_n 2, 1) := by decide +kernel
theorem dX7_seen_51 : decode cX7_seen 51 = .ok (.ifCond .ne 13, 3) := by decide +kernel
theorem dX7_seen_54 : decode cX7_seen 54 = .ok (.aload_n 0, 1) := by decide +kernel
theorem dX7_seen_55 : decode cX7_seen 55 = .ok (.iload_n 1, 1) := by decide +kernel
theorem dX7_seen_56 : decode cX7_seen 56 = .ok (.iconst 0, 1) := by decide +kernel
theorem dX7_seen_57 : decode cX7_seen 57 = .ok (.invokevirtual 79, 3) := by decide +kernel
theorem dX7_seen_60 : decode cX7_seen 60 = .ok (.iconst 1, 1) := by decide +kernel
theorem dX7_seen_61 : decode cX7_seen 61 = .ok (.if_icmp .ne 7, 3) := by decide +kernel
theorem dX7_seen_64 : decode cX7_seen 64 = .ok (.iconst 0, 1) := by decide +kernel
theorem dX7_seen_65 : decode cX7_seen 65 = .ok (.goto 8, 3) := by decide +kernel
theorem dX7_seen_68 : decode cX7_seen 68 = .ok (.aload_n 0, 1) := by decide +kernel
theorem dX7_seen_69 : decode cX7_seen 69 = .ok (.iload_n 1, 1) := by decide +kernel
theorem dX7_seen_70 : decode cX7_seen 70 = .ok (.invokevirtual 211, 3) := by decide +kernel
theorem dX7_seen_73 : decode cX7_seen 73 = .ok (.ireturn, 1) := by decide +kernel
theorem dX7_stick_0 : decode cX7_stick 0 = .ok (.aload_n 0, 1) := by decide +kernel
theorem dX7_stick_1 : decode cX7_stick 1 = .ok (.iload_n 1, 1) := by decide +kernel
theorem dX7_stick_2 : decode cX7_stick 2 = .ok (.invokevirtual 83, 3) := by decide +kernel
theorem dX7_stick_5 : decode cX7_stick 5 = .ok (.ifCond .ne 10, 3) := by decide +kernel
theorem dX7_stick_8 : decode cX7_stick 8 = .ok (.aload_n 0, 1) := by decide +kernel
theorem dX7_stick_9 : decode cX7_stick 9 = .ok (.ldc 53, 2) := by decide +kernel
theorem dX7_stick_11 : decode cX7_stick 11 = .ok (.invokevirtual 59, 3) := by decide +kernel
theorem dX7_stick_14 : decode cX7_stick 14 = .ok (.ireturn, 1) := by decide +kernel
theorem dX7_stick_15 : decode cX7_stick 15 = .ok (.aload_n 0, 1) := by decide +kernel
theorem dX7_stick_16 : decode cX7_stick 16 = .ok (.invokevirtual 208, 3) := by decide +kernel
theorem dX7_stick_19 : decode cX7_stick 19 = .ok (.aload_n 0, 1) := by decide +kernel
theorem dX7_stick_20 : decode cX7_stick 20 = .ok (.iload_n 1, 1) := by decide +kernel
theorem dX7_stick_21 : decode cX7_stick 21 = .ok (.invokevirtual 223, 3) := by decide +kernel
theorem dX7_stick_24 : decode cX7_stick 24 = .ok (.ireturn, 1) := by decide +kernel
theorem dX7_widths_0 : decode cX7_widths 0 = .ok (.aload_n 0, 1) := by decide +kernel
theorem dX7_widths_1 : decode cX7_widths 1 = .ok (.iload_n 1, 1) := by decide +kernel
theorem dX7_widths_2 : decode cX7_widths 2 = .ok (.invokevirtual 83, 3) := by decide +kernel
theorem dX7_widths_5 : decode cX7_widths 5 = .ok (.ifCond .eq 29, 3) := by decide +kernel
theorem dX7_widths_8 : decode cX7_widths 8 = .ok (.iload_n 2, 1) := by decide +kernel
theorem dX7_widths_9 : decode cX7_widths 9 = .ok (.i2l, 1) := by decide +kernel
theorem dX7_widths_10 : decode cX7_widths 10 = .ok (.ldc2_w 226, 3) := by decide +kernel
theorem dX7_widths_13 : decode cX7_widths 13 = .ok (.ldc2_w 86, 3) := by decide +kernel
theorem dX7_widths_16 : decode cX7_widths 16 = .ok (.invokestatic 54, 3) := by decide +kernel
theorem dX7_widths_19 : decode cX7_widths 19 = .ok (.ifCond .eq 15, 3) := by decide +kernel
theorem dX7_widths_22 : decode cX7_widths 22 = .ok (.iload_n 3, 1) := by decide +kernel
theorem dX7_widths_23 : decode cX7_widths 23 = .ok (.i2l, 1) := by decide +kernel
theorem dX7_widths_24 : decode cX7_widths 24 = .ok (.lconst 0, 1) := by decide +kernel
theorem dX7_widths_25 : decode cX7_widths 25 = .ok (.ldc2_w 228, 3) := by decide +kernel
theorem dX7_widths_28 : decode cX7_widths 28 = .ok (.invokestatic 54, 3) := by decide +kernel
theorem dX7_widths_31 : decode cX7_widths 31 = .ok (.ifCond .ne 10, 3) := by decide +kernel
theorem dX7_widths_34 : decode cX7_widths 34 = .ok (.aload_n 0, 1) := by decide +kernel
theorem dX7_widths_35 : decode cX7_widths 35 = .ok (.ldc 53, 2) := by decide +kernel
theorem dX7_widths_37 : decode cX7_widths 37 = .ok (.invokevirtual 59, 3) := by decide +kernel
theorem dX7_widths_40 : decode cX7_widths 40 = .ok (.ireturn, 1) := by decide +kernel
theorem dX7_widths_41 : decode cX7_widths 41 = .ok (.aload_n 0, 1) := by decide +kernel
theorem dX7_widths_42 : decode cX7_widths 42 = .ok (.iload_n 1, 1) := by decide +kernel
theorem dX7_widths_43 : decode cX7_widths 43 = .ok (.iconst 3, 1) := by decide +kernel
theorem dX7_widths_44 : decode cX7_widths 44 = .ok (.invokevirtual 79, 3) := by decide +kernel
theorem dX7_widths_47 : decode cX7_widths 47 = .ok (.istore 4, 2) := by decide +kernel
theorem dX7_widths_49 : decode cX7_widths 49 = .ok (.iconst 0, 1) := by decide +kernel
theorem dX7_widths_50 : decode cX7_widths 50 = .ok (.istore 5, 2) := by decide +kernel
theorem dX7_widths_52 : decode cX7_widths 52 = .ok (.iconst (-1), 1) := by decide +kernel
theorem dX7_widths_53 : decode cX7_widths 53 = .ok (.istore 6, 2) := by decide +kernel
theorem dX7_widths_55 : decode cX7_widths 55 = .ok (.iconst (-1), 1) := by decide +kernel
theorem dX7_widths_56 : decode cX7_widths 56 = .ok (.istore 7, 2) := by decide +kernel
theorem dX7_widths_58 : decode cX7_widths 58 = .ok (.iconst 0, 1) := by decide +kernel
theorem dX7_widths_59 : decode cX7_widths 59 = .ok (.istore 8, 2) := by decide +kernel
theorem dX7_widths_61 : decode cX7_widths 61 = .ok (.iload 8, 2) := by decide +kernel
theorem dX7_widths_63 : decode cX7_widths 63 = .ok (.bipush 100, 2) := by decide +kernel
theorem dX7_widths_65 : decode cX7_widths 65 = .ok (.if_icmp .ge 59, 3) := by decide +kernel
theorem dX7_widths_68 : decode cX7_widths 68 = .ok (.aload_n 0, 1) := by decide +kernel
theorem dX7_widths_69 : decode cX7_widths 69 = .ok (.getfield 7, 3) := by decide +kernel
theorem dX7_widths_72 : decode cX7_widths 72 = .ok (.bipush 9, 2) := by decide +kernel
theorem dX7_widths_74 : decode cX7_widths 74 = .ok (.bipush 8, 2) := by decide +kernel
theorem dX7_widths_76 : decode cX7_widths 76 = .ok (.iload_n 1, 1) := by decide +kernel
theorem dX7_widths_77 : decode cX7_widths 77 = .ok (.imul, 1) := by decide +kernel
theorem dX7_widths_78 : decode cX7_widths 78 = .ok (.iadd, 1) := by decide +kernel
theorem dX7_widths_79 : decode cX7_widths 79 = .ok (.iconst 3, 1) := by decide +kernel
theorem dX7_widths_80 : decode cX7_widths 80 = .ok (.iadd, 1) := by decide +kernel
theorem dX7_widths_81 : decode cX7_widths 81 = .ok (.iload 8, 2) := by decide +kernel
theorem dX7_widths_83 : decode cX7_widths 83 = .ok (.iastore, 1) := by decide +kernel
theorem dX7_widths_84 : decode cX7_widths 84 = .ok (.aload_n 0, 1) := by decide +kernel
theorem dX7_widths_85 : decode cX7_widths 85 = .ok (.invokevirtual 208, 3) := by decide +kernel
theorem dX7_widths_88 : decode cX7_widths 88 = .ok (.aload_n 0, 1) := by decide +kernel
theorem dX7_widths_89 : decode cX7_widths 89 = .ok (.iload_n 1, 1) := by decide +kernel
theorem dX7_widths_90 : decode cX7_widths 90 = .ok (.invokevirtual 211, 3) := by decide +kernel
theorem dX7_widths_93 : decode cX7_widths 93 = .ok (.iload_n 2, 1) := by decide +kernel
theorem dX7_widths_94 : decode cX7_widths 94 = .ok (.if_icmp .ne 24, 3) := by decide +kernel
theorem dX7_widths_97 : decode cX7_widths 97 = .ok (.iinc 5 1, 3) := by decide +kernel
theorem dX7_widths_100 : decode cX7_widths 100 = .ok (.iload 6, 2) := by decide +kernel
theorem dX7_widths_102 : decode cX7_widths 102 = .ok (.ifCond .ge 8, 3) := by decide +kernel
theorem dX7_widths_105 : decode cX7_widths 105 = .ok (.iload 8, 2) := by decide +kernel
theorem dX7_widths_107 : decode cX7_widths 107 = .ok (.goto 5, 3) := by decide +kernel
theorem dX7_widths_110 : decode cX7_widths 110 = .ok (.iload 6, 2) := by decide +kernel
theorem dX7_widths_112 : decode cX7_widths 112 = .ok (.istore 6, 2) := by decide +kernel
theorem dX7_widths_114 : decode cX7_widths 114 = .ok (.iload 8, 2) := by decide +kernel
theorem dX7_widths_116 : decode cX7_widths 116 = .ok (.istore 7, 2) := by decide +kernel
theorem dX7_widths_118 : decode cX7_widths 118 = .ok (.iinc 8 1, 3) := by decide +kernel
theorem dX7_widths_121 : decode cX7_widths 121 = .ok (.goto (-60), 3) := by decide +kernel
theorem dX7_widths_124 : decode cX7_widths 124 = .ok (.aload_n 0, 1) := by decide +kernel
theorem dX7_widths_125 : decode cX7_widths 125 = .ok (.getfield 7, 3) := by decide +kernel
theorem dX7_widths_128 : decode cX7_widths 128 = .ok (.bipush 9, 2) := by decide +kernel
theorem dX7_widths_130 : decode cX7_widths 130 = .ok (.bipush 8, 2) := by decide +kernel
theorem dX7_widths_132 : decode cX7_widths 132 = .ok (.iload_n 1, 1) := by decide +kernel
theorem dX7_widths_133 : decode cX7_widths 133 = .ok (.imul, 1) := by decide +kernel
theorem dX7_widths_134 : decode cX7_widths 134 = .ok (.iadd, 1) := by decide +kernel
theorem dX7_widths_135 : decode cX7_widths 135 = .ok (.iconst 3, 1) := by decide +kernel
theorem dX7_widths_136 : decode cX7_widths 136 = .ok (.iadd, 1) := by decide +kernel
theorem dX7_widths_137 : decode cX7_widths 137 = .ok (.iload 4, 2) := by decide +kernel
theorem dX7_widths_139 : decode cX7_widths 139 = .ok (.iastore, 1) := by decide +kernel
theorem dX7_widths_140 : decode cX7_widths 140 = .ok (.iload_n 3, 1) := by decide +kernel
theorem dX7_widths_141 : decode cX7_widths 141 = .ok (.ifCond .ne 8, 3) := by decide +kernel
theorem dX7_widths_144 : decode cX7_widths 144 = .ok (.iload 5, 2) := by decide +kernel
theorem dX7_widths_146 : decode cX7_widths 146 = .ok (.goto 29, 3) := by decide +kernel
theorem dX7_widths_149 : decode cX7_widths 149 = .ok (.iload 5, 2) := by decide +kernel
theorem dX7_widths_151 : decode cX7_widths 151 = .ok (.ifCond .ne 12, 3) := by decide +kernel
theorem dX7_widths_154 : decode cX7_widths 154 = .ok (.aload_n 0, 1) := by decide +kernel
theorem dX7_widths_155 : decode cX7_widths 155 = .ok (.ldc 230, 2) := by decide +kernel
theorem dX7_widths_157 : decode cX7_widths 157 = .ok (.invokevirtual 59, 3) := by decide +kernel
theorem dX7_widths_160 : decode cX7_widths 160 = .ok (.goto 15, 3) := by decide +kernel
theorem dX7_widths_163 : decode cX7_widths 163 = .ok (.iload_n 3, 1) := by decide +kernel
theorem dX7_widths_164 : decode cX7_widths 164 = .ok (.iconst 1, 1) := by decide +kernel
theorem dX7_widths_165 : decode cX7_widths 165 = .ok (.if_icmp .ne 8, 3) := by decide +kernel
theorem dX7_widths_168 : decode cX7_widths 168 = .ok (.iload 6, 2) := by decide +kernel
theorem dX7_widths_170 : decode cX7_widths 170 = .ok (.goto 5, 3) := by decide +kernel
theorem dX7_widths_173 : decode cX7_widths 173 = .ok (.iload 7, 2) := by decide +kernel
theorem dX7_widths_175 : decode cX7_widths 175 = .ok (.ireturn, 1) := by decide +kernel
theorem dX7_most_0 : decode cX7_most 0 = .ok (.aload_n 0, 1) := by decide +kernel
theorem dX7_most_1 : decode cX7_most 1 = .ok (.getfield 7, 3) := by decide +kernel
theorem dX7_most_4 : decode cX7_most 4 = .ok (.iconst 1, 1) := by decide +kernel
theorem dX7_most_5 : decode cX7_most 5 = .ok (.iaload, 1) := by decide +kernel
theorem dX7_most_6 : decode cX7_most 6 = .ok (.ifCond .ne 10, 3) := by decide +kernel
theorem dX7_most_9 : decode cX7_most 9 = .ok (.aload_n 0, 1) := by decide +kernel
theorem dX7_most_10 : decode cX7_most 10 = .ok (.ldc 230, 2) := by decide +kernel
theorem dX7_most_12 : decode cX7_most 12 = .ok (.invokevirtual 59, 3) := by decide +kernel
theorem dX7_most_15 : decode cX7_most 15 = .ok (.ireturn, 1) := by decide +kernel
theorem dX7_most_16 : decode cX7_most 16 = .ok (.aload_n 0, 1) := by decide +kernel
theorem dX7_most_17 : decode cX7_most 17 = .ok (.invokevirtual 208, 3) := by decide +kernel
theorem dX7_most_20 : decode cX7_most 20 = .ok (.iconst 0, 1) := by decide +kernel
theorem dX7_most_21 : decode cX7_most 21 = .ok (.istore_n 1, 1) := by decide +kernel
theorem dX7_most_22 : decode cX7_most 22 = .ok (.iconst 1, 1) := by decide +kernel
theorem dX7_most_23 : decode cX7_most 23 = .ok (.istore_n 2, 1) := by decide +kernel
theorem dX7_most_24 : decode cX7_most 24 = .ok (.iload_n 2, 1) := by decide +kernel
theorem dX7_most_25 : decode cX7_most 25 = .ok (.aload_n 0, 1) := by decide +kernel
theorem dX7_most_26 : decode cX7_most 26 = .ok (.getfield 7, 3) := by decide +kernel
theorem dX7_most_29 : decode cX7_most 29 = .ok (.iconst 1, 1) := by decide +kernel
theorem dX7_most_30 : decode cX7_most 30 = .ok (.iaload, 1) := by decide +kernel
theorem dX7_most_31 : decode cX7_most 31 = .ok (.if_icmp .ge 34, 3) := by decide +kernel
theorem dX7_most_34 : decode cX7_most 34 = .ok (.aload_n 0, 1) := by decide +kernel
theorem dX7_most_35 : decode cX7_most 35 = .ok (.iload_n 2, 1) := by decide +kernel
theorem dX7_most_36 : decode cX7_most 36 = .ok (.invokevirtual 199, 3) := by decide +kernel
theorem dX7_most_39 : decode cX7_most 39 = .ok (.invokestatic 202, 3) := by decide +kernel
theorem dX7_most_42 : decode cX7_most 42 = .ok (.aload_n 0, 1) := by decide +kernel
theorem dX7_most_43 : decode cX7_most 43 = .ok (.iload_n 1, 1) := by decide +kernel
theorem dX7_most_44 : decode cX7_most 44 = .ok (.invokevirtual 199, 3) := by decide +kernel
theorem dX7_most_47 : decode cX7_most 47 = .ok (.invokestatic 202, 3) := by decide +kernel
theorem dX7_most_50 : decode cX7_most 50 = .ok (.if_icmp .le 7, 3) := by decide +kernel
theorem dX7_most_53 : decode cX7_most 53 = .ok (.iload_n 2, 1) := by decide +kernel
theorem dX7_most_54 : decode cX7_most 54 = .ok (.goto 4, 3) := by decide +kernel
theorem dX7_most_57 : decode cX7_most 57 = .ok (.iload_n 1, 1) := by decide +kernel
theorem dX7_most_58 : decode cX7_most 58 = .ok (.istore_n 1, 1) := by decide +kernel
theorem dX7_most_59 : decode cX7_most 59 = .ok (.iinc 2 1, 3) := by decide +kernel
theorem dX7_most_62 : decode cX7_most 62 = .ok (.goto (-38), 3) := by decide +kernel
theorem dX7_most_65 : decode cX7_most 65 = .ok (.iload_n 1, 1) := by decide +kernel
theorem dX7_most_66 : decode cX7_most 66 = .ok (.ireturn, 1) := by decide +kernel
theorem dX7_shuts_0 : decode cX7_shuts 0 = .ok (.iconst 0, 1) := by decide +kernel
theorem dX7_shuts_1 : decode cX7_shuts 1 = .ok (.istore_n 3, 1) := by decide +kernel
theorem dX7_shuts_2 : decode cX7_shuts 2 = .ok (.iload_n 3, 1) := by decide +kernel
theorem dX7_shuts_3 : decode cX7_shuts 3 = .ok (.aload_n 0, 1) := by decide +kernel
theorem dX7_shuts_4 : decode cX7_shuts 4 = .ok (.getfield 7, 3) := by decide +kernel
theorem dX7_shuts_7 : decode cX7_shuts 7 = .ok (.iconst 1, 1) := by decide +kernel
theorem dX7_shuts_8 : decode cX7_shuts 8 = .ok (.iaload, 1) := by decide +kernel
theorem dX7_shuts_9 : decode cX7_shuts 9 = .ok (.if_icmp .ge 34, 3) := by decide +kernel
theorem dX7_shuts_12 : decode cX7_shuts 12 = .ok (.iload_n 1, 1) := by decide +kernel
theorem dX7_shuts_13 : decode cX7_shuts 13 = .ok (.iload_n 3, 1) := by decide +kernel
theorem dX7_shuts_14 : decode cX7_shuts 14 = .ok (.ishr, 1) := by decide +kernel
theorem dX7_shuts_15 : decode cX7_shuts 15 = .ok (.iconst 1, 1) := by decide +kernel
theorem dX7_shuts_16 : decode cX7_shuts 16 = .ok (.iand, 1) := by decide +kernel
theorem dX7_shuts_17 : decode cX7_shuts 17 = .ok (.iconst 1, 1) := by decide +kernel
theorem dX7_shuts_18 : decode cX7_shuts 18 = .ok (.if_icmp .ne 19, 3) := by decide +kernel
theorem dX7_shuts_21 : decode cX7_shuts 21 = .ok (.aload_n 0, 1) := by decide +kernel
theorem dX7_shuts_22 : decode cX7_shuts 22 = .ok (.getfield 7, 3) := by decide +kernel
theorem dX7_shuts_25 : decode cX7_shuts 25 = .ok (.bipush 9, 2) := by decide +kernel
theorem dX7_shuts_27 : decode cX7_shuts 27 = .ok (.bipush 8, 2) := by decide +kernel
theorem dX7_shuts_29 : decode cX7_shuts 29 = .ok (.iload_n 3, 1) := by decide +kernel
theorem dX7_shuts_30 : decode cX7_shuts 30 = .ok (.imul, 1) := by decide +kernel
theorem dX7_shuts_31 : decode cX7_shuts 31 = .ok (.iadd, 1) := by decide +kernel
theorem dX7_shuts_32 : decode cX7_shuts 32 = .ok (.bipush 7, 2) := by decide +kernel
theorem dX7_shuts_34 : decode cX7_shuts 34 = .ok (.iadd, 1) := by decide +kernel
theorem dX7_shuts_35 : decode cX7_shuts 35 = .ok (.iload_n 2, 1) := by decide +kernel
theorem dX7_shuts_36 : decode cX7_shuts 36 = .ok (.iastore, 1) := by decide +kernel
theorem dX7_shuts_37 : decode cX7_shuts 37 = .ok (.iinc 3 1, 3) := by decide +kernel
theorem dX7_shuts_40 : decode cX7_shuts 40 = .ok (.goto (-38), 3) := by decide +kernel
theorem dX7_shuts_43 : decode cX7_shuts 43 = .ok (.return_, 1) := by decide +kernel
theorem dX7_ones_0 : decode cX7_ones 0 = .ok (.iconst 0, 1) := by decide +kernel
theorem dX7_ones_1 : decode cX7_ones 1 = .ok (.istore_n 1, 1) := by decide +kernel
theorem dX7_ones_2 : decode cX7_ones 2 = .ok (.iload_n 0, 1) := by decide +kernel
theorem dX7_ones_3 : decode cX7_ones 3 = .ok (.istore_n 2, 1) := by decide +kernel
theorem dX7_ones_4 : decode cX7_ones 4 = .ok (.iload_n 2, 1) := by decide +kernel
theorem dX7_ones_5 : decode cX7_ones 5 = .ok (.ifCond .eq 15, 3) := by decide +kernel
theorem dX7_ones_8 : decode cX7_ones 8 = .ok (.iinc 1 1, 3) := by decide +kernel
theorem dX7_ones_11 : decode cX7_ones 11 = .ok (.iload_n 2, 1) := by decide +kernel
theorem dX7_ones_12 : decode cX7_ones 12 = .ok (.iload_n 2, 1) := by decide +kernel
theorem dX7_ones_13 : decode cX7_ones 13 = .ok (.iconst 1, 1) := by decide +kernel
theorem dX7_ones_14 : decode cX7_ones 14 = .ok (.isub, 1) := by decide +kernel
theorem dX7_ones_15 : decode cX7_ones 15 = .ok (.iand, 1) := by decide +kernel
theorem dX7_ones_16 : decode cX7_ones 16 = .ok (.istore_n 2, 1) := by decide +kernel
theorem dX7_ones_17 : decode cX7_ones 17 = .ok (.goto (-13), 3) := by decide +kernel
theorem dX7_ones_20 : decode cX7_ones 20 = .ok (.iload_n 1, 1) := by decide +kernel
theorem dX7_ones_21 : decode cX7_ones 21 = .ok (.ireturn, 1) := by decide +kernel
theorem dX7_costs_0 : decode cX7_costs 0 = .ok (.iconst 0, 1) := by decide +kernel
theorem dX7_costs_1 : decode cX7_costs 1 = .ok (.istore_n 2, 1) := by decide +kernel
theorem dX7_costs_2 : decode cX7_costs 2 = .ok (.iconst 0, 1) := by decide +kernel
theorem dX7_costs_3 : decode cX7_costs 3 = .ok (.istore_n 3, 1) := by decide +kernel
theorem dX7_costs_4 : decode cX7_costs 4 = .ok (.iload_n 3, 1) := by decide +kernel
theorem dX7_costs_5 : decode cX7_costs 5 = .ok (.aload_n 0, 1) := by decide +kernel
theorem dX7_costs_6 : decode cX7_costs 6 = .ok (.getfield 7, 3) := by decide +kernel
theorem dX7_costs_9 : decode cX7_costs 9 = .ok (.iconst 1, 1) := by decide +kernel
theorem dX7_costs_10 : decode cX7_costs 10 = .ok (.iaload, 1) := by decide +kernel
theorem dX7_costs_11 : decode cX7_costs 11 = .ok (.if_icmp .ge 25, 3) := by decide +kernel
theorem dX7_costs_14 : decode cX7_costs 14 = .ok (.iload_n 2, 1) := by decide +kernel
theorem dX7_costs_15 : decode cX7_costs 15 = .ok (.iload_n 1, 1) := by decide +kernel
theorem dX7_costs_16 : decode cX7_costs 16 = .ok (.iload_n 3, 1) := by decide +kernel
theorem dX7_costs_17 : decode cX7_costs 17 = .ok (.ishr, 1) := by decide +kernel
theorem dX7_costs_18 : decode cX7_costs 18 = .ok (.iconst 1, 1) := by decide +kernel
theorem dX7_costs_19 : decode cX7_costs 19 = .ok (.iand, 1) := by decide +kernel
theorem dX7_costs_20 : decode cX7_costs 20 = .ok (.aload_n 0, 1) := by decide +kernel
theorem dX7_costs_21 : decode cX7_costs 21 = .ok (.iload_n 3, 1) := by decide +kernel
theorem dX7_costs_22 : decode cX7_costs 22 = .ok (.bipush 6, 2) := by decide +kernel
theorem dX7_costs_24 : decode cX7_costs 24 = .ok (.invokevirtual 79, 3) := by decide +kernel
theorem dX7_costs_27 : decode cX7_costs 27 = .ok (.imul, 1) := by decide +kernel
theorem dX7_costs_28 : decode cX7_costs 28 = .ok (.iadd, 1) := by decide +kernel
theorem dX7_costs_29 : decode cX7_costs 29 = .ok (.istore_n 2, 1) := by decide +kernel
theorem dX7_costs_30 : decode cX7_costs 30 = .ok (.iinc 3 1, 3) := by decide +kernel
theorem dX7_costs_33 : decode cX7_costs 33 = .ok (.goto (-29), 3) := by decide +kernel
theorem dX7_costs_36 : decode cX7_costs 36 = .ok (.iload_n 2, 1) := by decide +kernel
theorem dX7_costs_37 : decode cX7_costs 37 = .ok (.ireturn, 1) := by decide +kernel
theorem dX7_isStopping_0 : decode cX7_isStopping 0 = .ok (.iload_n 1, 1) := by decide +kernel
theorem dX7_isStopping_1 : decode cX7_isStopping 1 = .ok (.i2l, 1) := by decide +kernel
theorem dX7_isStopping_2 : decode cX7_isStopping 2 = .ok (.lconst 0, 1) := by decide +kernel
theorem dX7_isStopping_3 : decode cX7_isStopping 3 = .ok (.iconst 1, 1) := by decide +kernel
theorem dX7_isStopping_4 : decode cX7_isStopping 4 = .ok (.aload_n 0, 1) := by decide +kernel
theorem dX7_isStopping_5 : decode cX7_isStopping 5 = .ok (.getfield 7, 3) := by decide +kernel
theorem dX7_isStopping_8 : decode cX7_isStopping 8 = .ok (.iconst 1, 1) := by decide +kernel
theorem dX7_isStopping_9 : decode cX7_isStopping 9 = .ok (.iaload, 1) := by decide +kernel
theorem dX7_isStopping_10 : decode cX7_isStopping 10 = .ok (.ishl, 1) := by decide +kernel
theorem dX7_isStopping_11 : decode cX7_isStopping 11 = .ok (.iconst 1, 1) := by decide +kernel
theorem dX7_isStopping_12 : decode cX7_isStopping 12 = .ok (.isub, 1) := by decide +kernel
theorem dX7_isStopping_13 : decode cX7_isStopping 13 = .ok (.i2l, 1) := by decide +kernel
theorem dX7_isStopping_14 : decode cX7_isStopping 14 = .ok (.invokestatic 54, 3) := by decide +kernel
theorem dX7_isStopping_17 : decode cX7_isStopping 17 = .ok (.ifCond .eq 16, 3) := by decide +kernel
theorem dX7_isStopping_20 : decode cX7_isStopping 20 = .ok (.iload_n 1, 1) := by decide +kernel
theorem dX7_isStopping_21 : decode cX7_isStopping 21 = .ok (.invokestatic 231, 3) := by decide +kernel
theorem dX7_isStopping_24 : decode cX7_isStopping 24 = .ok (.bipush 10, 2) := by decide +kernel
theorem dX7_isStopping_26 : decode cX7_isStopping 26 = .ok (.if_icmp .gt 7, 3) := by decide +kernel
theorem dX7_isStopping_29 : decode cX7_isStopping 29 = .ok (.iconst 1, 1) := by decide +kernel
theorem dX7_isStopping_30 : decode cX7_isStopping 30 = .ok (.goto 4, 3) := by decide +kernel
theorem dX7_isStopping_33 : decode cX7_isStopping 33 = .ok (.iconst 0, 1) := by decide +kernel
theorem dX7_isStopping_34 : decode cX7_isStopping 34 = .ok (.istore_n 2, 1) := by decide +kernel
theorem dX7_isStopping_35 : decode cX7_isStopping 35 = .ok (.iconst 0, 1) := by decide +kernel
theorem dX7_isStopping_36 : decode cX7_isStopping 36 = .ok (.istore_n 3, 1) := by decide +kernel
theorem dX7_isStopping_37 : decode cX7_isStopping 37 = .ok (.iload_n 3, 1) := by decide +kernel
theorem dX7_isStopping_38 : decode cX7_isStopping 38 = .ok (.aload_n 0, 1) := by decide +kernel
theorem dX7_isStopping_39 : decode cX7_isStopping 39 = .ok (.getfield 7, 3) := by decide +kernel
theorem dX7_isStopping_42 : decode cX7_isStopping 42 = .ok (.iconst 1, 1) := by decide +kernel
theorem dX7_isStopping_43 : decode cX7_isStopping 43 = .ok (.iaload, 1) := by decide +kernel
theorem dX7_isStopping_44 : decode cX7_isStopping 44 = .ok (.if_icmp .ge 37, 3) := by decide +kernel
theorem dX7_isStopping_47 : decode cX7_isStopping 47 = .ok (.iload_n 2, 1) := by decide +kernel
theorem dX7_isStopping_48 : decode cX7_isStopping 48 = .ok (.ifCond .eq 33, 3) := by decide +kernel
theorem dX7_isStopping_51 : decode cX7_isStopping 51 = .ok (.iload_n 1, 1) := by decide +kernel
theorem dX7_isStopping_52 : decode cX7_isStopping 52 = .ok (.iload_n 3, 1) := by decide +kernel
theorem dX7_isStopping_53 : decode cX7_isStopping 53 = .ok (.ishr, 1) := by decide +kernel
theorem dX7_isStopping_54 : decode cX7_isStopping 54 = .ok (.iconst 1, 1) := by decide +kernel
theorem dX7_isStopping_55 : decode cX7_isStopping 55 = .ok (.iand, 1) := by decide +kernel
theorem dX7_isStopping_56 : decode cX7_isStopping 56 = .ok (.ifCond .eq 13, 3) := by decide +kernel
theorem dX7_isStopping_59 : decode cX7_isStopping 59 = .ok (.aload_n 0, 1) := by decide +kernel
theorem dX7_isStopping_60 : decode cX7_isStopping 60 = .ok (.iload_n 3, 1) := by decide +kernel
theorem dX7_isStopping_61 : decode cX7_isStopping 61 = .ok (.bipush 7, 2) := by decide +kernel
theorem dX7_isStopping_63 : decode cX7_isStopping 63 = .ok (.invokevirtual 79, 3) := by decide +kernel
theorem dX7_isStopping_66 : decode cX7_isStopping 66 = .ok (.ifCond .ne 7, 3) := by decide +kernel
theorem dX7_isStopping_69 : decode cX7_isStopping 69 = .ok (.iconst 1, 1) := by decide +kernel
theorem dX7_isStopping_70 : decode cX7_isStopping 70 = .ok (.goto 4, 3) := by decide +kernel
theorem dX7_isStopping_73 : decode cX7_isStopping 73 = .ok (.iconst 0, 1) := by decide +kernel
theorem dX7_isStopping_74 : decode cX7_isStopping 74 = .ok (.istore_n 2, 1) := by decide +kernel
theorem dX7_isStopping_75 : decode cX7_isStopping 75 = .ok (.iinc 3 1, 3) := by decide +kernel
theorem dX7_isStopping_78 : decode cX7_isStopping 78 = .ok (.goto (-41), 3) := by decide +kernel
theorem dX7_isStopping_81 : decode cX7_isStopping 81 = .ok (.iload_n 2, 1) := by decide +kernel
theorem dX7_isStopping_82 : decode cX7_isStopping 82 = .ok (.ireturn, 1) := by decide +kernel
theorem dX7_stop_0 : decode cX7_stop 0 = .ok (.aload_n 0, 1) := by decide +kernel
theorem dX7_stop_1 : decode cX7_stop 1 = .ok (.iload_n 1, 1) := by decide +kernel
theorem dX7_stop_2 : decode cX7_stop 2 = .ok (.invokevirtual 234, 3) := by decide +kernel
theorem dX7_stop_5 : decode cX7_stop 5 = .ok (.ifCond .eq 40, 3) := by decide +kernel
theorem dX7_stop_8 : decode cX7_stop 8 = .ok (.iload_n 2, 1) := by decide +kernel
theorem dX7_stop_9 : decode cX7_stop 9 = .ok (.i2l, 1) := by decide +kernel
theorem dX7_stop_10 : decode cX7_stop 10 = .ok (.lconst 0, 1) := by decide +kernel
theorem dX7_stop_11 : decode cX7_stop 11 = .ok (.ldc2_w 237, 3) := by decide +kernel
theorem dX7_stop_14 : decode cX7_stop 14 = .ok (.invokestatic 54, 3) := by decide +kernel
theorem dX7_stop_17 : decode cX7_stop 17 = .ok (.ifCond .eq 28, 3) := by decide +kernel
theorem dX7_stop_20 : decode cX7_stop 20 = .ok (.iload_n 3, 1) := by decide +kernel
theorem dX7_stop_21 : decode cX7_stop 21 = .ok (.i2l, 1) := by decide +kernel
theorem dX7_stop_22 : decode cX7_stop 22 = .ok (.lconst 0, 1) := by decide +kernel
theorem dX7_stop_23 : decode cX7_stop 23 = .ok (.ldc2_w 239, 3) := by decide +kernel
theorem dX7_stop_26 : decode cX7_stop 26 = .ok (.invokestatic 54, 3) := by decide +kernel
theorem dX7_stop_29 : decode cX7_stop 29 = .ok (.ifCond .eq 16, 3) := by decide +kernel
theorem dX7_stop_32 : decode cX7_stop 32 = .ok (.iload 4, 2) := by decide +kernel
theorem dX7_stop_34 : decode cX7_stop 34 = .ok (.i2l, 1) := by decide +kernel
theorem dX7_stop_35 : decode cX7_stop 35 = .ok (.lconst 0, 1) := by decide +kernel
theorem dX7_stop_36 : decode cX7_stop 36 = .ok (.ldc2_w 228, 3) := by decide +kernel
theorem dX7_stop_39 : decode cX7_stop 39 = .ok (.invokestatic 54, 3) := by decide +kernel
theorem dX7_stop_42 : decode cX7_stop 42 = .ok (.ifCond .ne 10, 3) := by decide +kernel
theorem dX7_stop_45 : decode cX7_stop 45 = .ok (.aload_n 0, 1) := by decide +kernel
theorem dX7_stop_46 : decode cX7_stop 46 = .ok (.ldc 53, 2) := by decide +kernel
theorem dX7_stop_48 : decode cX7_stop 48 = .ok (.invokevirtual 59, 3) := by decide +kernel
theorem dX7_stop_51 : decode cX7_stop 51 = .ok (.ireturn, 1) := by decide +kernel
theorem dX7_stop_52 : decode cX7_stop 52 = .ok (.iconst (-1), 1) := by decide +kernel
theorem dX7_stop_53 : decode cX7_stop 53 = .ok (.istore 5, 2) := by decide +kernel
theorem dX7_stop_55 : decode cX7_stop 55 = .ok (.iconst 0, 1) := by decide +kernel
theorem dX7_stop_56 : decode cX7_stop 56 = .ok (.istore 6, 2) := by decide +kernel
theorem dX7_stop_58 : decode cX7_stop 58 = .ok (.iconst 0, 1) := by decide +kernel
theorem dX7_stop_59 : decode cX7_stop 59 = .ok (.istore 7, 2) := by decide +kernel
theorem dX7_stop_61 : decode cX7_stop 61 = .ok (.iconst 1, 1) := by decide +kernel
theorem dX7_stop_62 : decode cX7_stop 62 = .ok (.istore 8, 2) := by decide +kernel
theorem dX7_stop_64 : decode cX7_stop 64 = .ok (.iload 8, 2) := by decide +kernel
theorem dX7_stop_66 : decode cX7_stop 66 = .ok (.ifCond .eq 128, 3) := by decide +kernel
theorem dX7_stop_69 : decode cX7_stop 69 = .ok (.aload_n 0, 1) := by decide +kernel
theorem dX7_stop_70 : decode cX7_stop 70 = .ok (.iload 7, 2) := by decide +kernel
theorem dX7_stop_72 : decode cX7_stop 72 = .ok (.invokevirtual 241, 3) := by decide +kernel
theorem dX7_stop_75 : decode cX7_stop 75 = .ok (.iload_n 2, 1) := by decide +kernel
theorem dX7_stop_76 : decode cX7_stop 76 = .ok (.if_icmp .gt 94, 3) := by decide +kernel
theorem dX7_stop_79 : decode cX7_stop 79 = .ok (.aload_n 0, 1) := by decide +kernel
theorem dX7_stop_80 : decode cX7_stop 80 = .ok (.iload 7, 2) := by decide +kernel
theorem dX7_stop_82 : decode cX7_stop 82 = .ok (.iconst 1, 1) := by decide +kernel
theorem dX7_stop_83 : decode cX7_stop 83 = .ok (.invokevirtual 244, 3) := by decide +kernel
theorem dX7_stop_86 : decode cX7_stop 86 = .ok (.aload_n 0, 1) := by decide +kernel
theorem dX7_stop_87 : decode cX7_stop 87 = .ok (.invokevirtual 208, 3) := by decide +kernel
theorem dX7_stop_90 : decode cX7_stop 90 = .ok (.aload_n 0, 1) := by decide +kernel
theorem dX7_stop_91 : decode cX7_stop 91 = .ok (.invokevirtual 205, 3) := by decide +kernel
theorem dX7_stop_94 : decode cX7_stop 94 = .ok (.iload_n 3, 1) := by decide +kernel
theorem dX7_stop_95 : decode cX7_stop 95 = .ok (.if_icmp .lt 14, 3) := by decide +kernel
theorem dX7_stop_98 : decode cX7_stop 98 = .ok (.aload_n 0, 1) := by decide +kernel
theorem dX7_stop_99 : decode cX7_stop 99 = .ok (.invokevirtual 219, 3) := by decide +kernel
theorem dX7_stop_102 : decode cX7_stop 102 = .ok (.ifCond .ne 7, 3) := by decide +kernel
theorem dX7_stop_105 : decode cX7_stop 105 = .ok (.iconst 1, 1) := by decide +kernel
theorem dX7_stop_106 : decode cX7_stop 106 = .ok (.goto 4, 3) := by decide +kernel
theorem dX7_stop_109 : decode cX7_stop 109 = .ok (.iconst 0, 1) := by decide +kernel
theorem dX7_stop_110 : decode cX7_stop 110 = .ok (.istore 9, 2) := by decide +kernel
theorem dX7_stop_112 : decode cX7_stop 112 = .ok (.aload_n 0, 1) := by decide +kernel
theorem dX7_stop_113 : decode cX7_stop 113 = .ok (.invokevirtual 216, 3) := by decide +kernel
theorem dX7_stop_116 : decode cX7_stop 116 = .ok (.istore 10, 2) := by decide +kernel
theorem dX7_stop_118 : decode cX7_stop 118 = .ok (.aload_n 0, 1) := by decide +kernel
theorem dX7_stop_119 : decode cX7_stop 119 = .ok (.iload 7, 2) := by decide +kernel
theorem dX7_stop_121 : decode cX7_stop 121 = .ok (.iconst 0, 1) := by decide +kernel
theorem dX7_stop_122 : decode cX7_stop 122 = .ok (.invokevirtual 244, 3) := by decide +kernel
theorem dX7_stop_125 : decode cX7_stop 125 = .ok (.iload 9, 2) := by decide +kernel
theorem dX7_stop_127 : decode cX7_stop 127 = .ok (.ifCond .eq 43, 3) := by decide +kernel
theorem dX7_stop_130 : decode cX7_stop 130 = .ok (.iload 5, 2) := by decide +kernel
theorem dX7_stop_132 : decode cX7_stop 132 = .ok (.ifCond .lt 30, 3) := by decide +kernel
theorem dX7_stop_135 : decode cX7_stop 135 = .ok (.iload 10, 2) := by decide +kernel
theorem dX7_stop_137 : decode cX7_stop 137 = .ok (.iload 6, 2) := by decide +kernel
theorem dX7_stop_139 : decode cX7_stop 139 = .ok (.if_icmp .lt 23, 3) := by decide +kernel
theorem dX7_stop_142 : decode cX7_stop 142 = .ok (.iload 10, 2) := by decide +kernel
theorem dX7_stop_144 : decode cX7_stop 144 = .ok (.iload 6, 2) := by decide +kernel
theorem dX7_stop_146 : decode cX7_stop 146 = .ok (.if_icmp .ne 24, 3) := by decide +kernel
theorem dX7_stop_149 : decode cX7_stop 149 = .ok (.iload 7, 2) := by decide +kernel
theorem dX7_stop_151 : decode cX7_stop 151 = .ok (.invokestatic 231, 3) := by decide +kernel
theorem dX7_stop_154 : decode cX7_stop 154 = .ok (.iload 5, 2) := by decide +kernel
theorem dX7_stop_156 : decode cX7_stop 156 = .ok (.invokestatic 231, 3) := by decide +kernel
theorem dX7_stop_159 : decode cX7_stop 159 = .ok (.if_icmp .ge 11, 3) := by decide +kernel
theorem dX7_stop_162 : decode cX7_stop 162 = .ok (.iload 7, 2) := by decide +kernel
theorem dX7_stop_164 : decode cX7_stop 164 = .ok (.istore 5, 2) := by decide +kernel
theorem dX7_stop_166 : decode cX7_stop 166 = .ok (.iload 10, 2) := by decide +kernel
theorem dX7_stop_168 : decode cX7_stop 168 = .ok (.istore 6, 2) := by decide +kernel
theorem dX7_stop_170 : decode cX7_stop 170 = .ok (.iload 7, 2) := by decide +kernel
theorem dX7_stop_172 : decode cX7_stop 172 = .ok (.iload_n 1, 1) := by decide +kernel
theorem dX7_stop_173 : decode cX7_stop 173 = .ok (.if_icmp .eq 7, 3) := by decide +kernel
theorem dX7_stop_176 : decode cX7_stop 176 = .ok (.iconst 1, 1) := by decide +kernel
theorem dX7_stop_177 : decode cX7_stop 177 = .ok (.goto 4, 3) := by decide +kernel
theorem dX7_stop_180 : decode cX7_stop 180 = .ok (.iconst 0, 1) := by decide +kernel
theorem dX7_stop_181 : decode cX7_stop 181 = .ok (.istore 8, 2) := by decide +kernel
theorem dX7_stop_183 : decode cX7_stop 183 = .ok (.iload 7, 2) := by decide +kernel
theorem dX7_stop_185 : decode cX7_stop 185 = .ok (.iload_n 1, 1) := by decide +kernel
theorem dX7_stop_186 : decode cX7_stop 186 = .ok (.isub, 1) := by decide +kernel
theorem dX7_stop_187 : decode cX7_stop 187 = .ok (.iload_n 1, 1) := by decide +kernel
theorem dX7_stop_188 : decode cX7_stop 188 = .ok (.iand, 1) := by decide +kernel
theorem dX7_stop_189 : decode cX7_stop 189 = .ok (.istore 7, 2) := by decide +kernel
theorem dX7_stop_191 : decode cX7_stop 191 = .ok (.goto (-127), 3) := by decide +kernel
theorem dX7_stop_194 : decode cX7_stop 194 = .ok (.iload 5, 2) := by decide +kernel
theorem dX7_stop_196 : decode cX7_stop 196 = .ok (.ifCond .ge 12, 3) := by decide +kernel
theorem dX7_stop_199 : decode cX7_stop 199 = .ok (.aload_n 0, 1) := by decide +kernel
theorem dX7_stop_200 : decode cX7_stop 200 = .ok (.ldc 230, 2) := by decide +kernel
theorem dX7_stop_202 : decode cX7_stop 202 = .ok (.invokevirtual 59, 3) := by decide +kernel
theorem dX7_stop_205 : decode cX7_stop 205 = .ok (.goto 30, 3) := by decide +kernel
theorem dX7_stop_208 : decode cX7_stop 208 = .ok (.iload 4, 2) := by decide +kernel
theorem dX7_stop_210 : decode cX7_stop 210 = .ok (.ifCond .ne 8, 3) := by decide +kernel
theorem dX7_stop_213 : decode cX7_stop 213 = .ok (.iload 5, 2) := by decide +kernel
theorem dX7_stop_215 : decode cX7_stop 215 = .ok (.goto 20, 3) := by decide +kernel
theorem dX7_stop_218 : decode cX7_stop 218 = .ok (.iload 4, 2) := by decide +kernel
theorem dX7_stop_220 : decode cX7_stop 220 = .ok (.iconst 1, 1) := by decide +kernel
theorem dX7_stop_221 : decode cX7_stop 221 = .ok (.if_icmp .ne 8, 3) := by decide +kernel
theorem dX7_stop_224 : decode cX7_stop 224 = .ok (.iload 6, 2) := by decide +kernel
theorem dX7_stop_226 : decode cX7_stop 226 = .ok (.goto 9, 3) := by decide +kernel
theorem dX7_stop_229 : decode cX7_stop 229 = .ok (.aload_n 0, 1) := by decide +kernel
theorem dX7_stop_230 : decode cX7_stop 230 = .ok (.iload 5, 2) := by decide +kernel
theorem dX7_stop_232 : decode cX7_stop 232 = .ok (.invokevirtual 241, 3) := by decide +kernel
theorem dX7_stop_235 : decode cX7_stop 235 = .ok (.ireturn, 1) := by decide +kernel
theorem dX7_nextShut_0 : decode cX7_nextShut 0 = .ok (.iconst (-1), 1) := by decide +kernel
theorem dX7_nextShut_1 : decode cX7_nextShut 1 = .ok (.istore_n 2, 1) := by decide +kernel
theorem dX7_nextShut_2 : decode cX7_nextShut 2 = .ok (.iload_n 1, 1) := by decide +kernel
theorem dX7_nextShut_3 : decode cX7_nextShut 3 = .ok (.istore_n 3, 1) := by decide +kernel
theorem dX7_nextShut_4 : decode cX7_nextShut 4 = .ok (.iconst 0, 1) := by decide +kernel
theorem dX7_nextShut_5 : decode cX7_nextShut 5 = .ok (.istore 4, 2) := by decide +kernel
theorem dX7_nextShut_7 : decode cX7_nextShut 7 = .ok (.iload 4, 2) := by decide +kernel
theorem dX7_nextShut_9 : decode cX7_nextShut 9 = .ok (.aload_n 0, 1) := by decide +kernel
theorem dX7_nextShut_10 : decode cX7_nextShut 10 = .ok (.getfield 7, 3) := by decide +kernel
theorem dX7_nextShut_13 : decode cX7_nextShut 13 = .ok (.iconst 1, 1) := by decide +kernel
theorem dX7_nextShut_14 : decode cX7_nextShut 14 = .ok (.iaload, 1) := by decide +kernel
theorem dX7_nextShut_15 : decode cX7_nextShut 15 = .ok (.if_icmp .ge 99, 3) := by decide +kernel
theorem dX7_nextShut_18 : decode cX7_nextShut 18 = .ok (.aload_n 0, 1) := by decide +kernel
theorem dX7_nextShut_19 : decode cX7_nextShut 19 = .ok (.iload 4, 2) := by decide +kernel
theorem dX7_nextShut_21 : decode cX7_nextShut 21 = .ok (.bipush 7, 2) := by decide +kernel
theorem dX7_nextShut_23 : decode cX7_nextShut 23 = .ok (.invokevirtual 79, 3) := by decide +kernel
theorem dX7_nextShut_26 : decode cX7_nextShut 26 = .ok (.ifCond .ne 82, 3) := by decide +kernel
theorem dX7_nextShut_29 : decode cX7_nextShut 29 = .ok (.aload_n 0, 1) := by decide +kernel
theorem dX7_nextShut_30 : decode cX7_nextShut 30 = .ok (.iload 4, 2) := by decide +kernel
theorem dX7_nextShut_32 : decode cX7_nextShut 32 = .ok (.iconst 2, 1) := by decide +kernel
theorem dX7_nextShut_33 : decode cX7_nextShut 33 = .ok (.invokevirtual 79, 3) := by decide +kernel
theorem dX7_nextShut_36 : decode cX7_nextShut 36 = .ok (.iconst (-1), 1) := by decide +kernel
theorem dX7_nextShut_37 : decode cX7_nextShut 37 = .ok (.if_icmp .ne 71, 3) := by decide +kernel
theorem dX7_nextShut_40 : decode cX7_nextShut 40 = .ok (.aload_n 0, 1) := by decide +kernel
theorem dX7_nextShut_41 : decode cX7_nextShut 41 = .ok (.iload 4, 2) := by decide +kernel
theorem dX7_nextShut_43 : decode cX7_nextShut 43 = .ok (.invokevirtual 96, 3) := by decide +kernel
theorem dX7_nextShut_46 : decode cX7_nextShut 46 = .ok (.ifCond .ne 62, 3) := by decide +kernel
theorem dX7_nextShut_49 : decode cX7_nextShut 49 = .ok (.aload_n 0, 1) := by decide +kernel
theorem dX7_nextShut_50 : decode cX7_nextShut 50 = .ok (.iconst 1, 1) := by decide +kernel
theorem dX7_nextShut_51 : decode cX7_nextShut 51 = .ok (.iload 4, 2) := by decide +kernel
theorem dX7_nextShut_53 : decode cX7_nextShut 53 = .ok (.ishl, 1) := by decide +kernel
theorem dX7_nextShut_54 : decode cX7_nextShut 54 = .ok (.iconst 1, 1) := by decide +kernel
theorem dX7_nextShut_55 : decode cX7_nextShut 55 = .ok (.invokevirtual 244, 3) := by decide +kernel
theorem dX7_nextShut_58 : decode cX7_nextShut 58 = .ok (.aload_n 0, 1) := by decide +kernel
theorem dX7_nextShut_59 : decode cX7_nextShut 59 = .ok (.invokevirtual 208, 3) := by decide +kernel
theorem dX7_nextShut_62 : decode cX7_nextShut 62 = .ok (.aload_n 0, 1) := by decide +kernel
theorem dX7_nextShut_63 : decode cX7_nextShut 63 = .ok (.invokevirtual 216, 3) := by decide +kernel
theorem dX7_nextShut_66 : decode cX7_nextShut 66 = .ok (.istore 5, 2) := by decide +kernel
theorem dX7_nextShut_68 : decode cX7_nextShut 68 = .ok (.iload 5, 2) := by decide +kernel
theorem dX7_nextShut_70 : decode cX7_nextShut 70 = .ok (.iload_n 3, 1) := by decide +kernel
theorem dX7_nextShut_71 : decode cX7_nextShut 71 = .ok (.if_icmp .ge 14, 3) := by decide +kernel
theorem dX7_nextShut_74 : decode cX7_nextShut 74 = .ok (.aload_n 0, 1) := by decide +kernel
theorem dX7_nextShut_75 : decode cX7_nextShut 75 = .ok (.invokevirtual 219, 3) := by decide +kernel
theorem dX7_nextShut_78 : decode cX7_nextShut 78 = .ok (.ifCond .ne 7, 3) := by decide +kernel
theorem dX7_nextShut_81 : decode cX7_nextShut 81 = .ok (.iconst 1, 1) := by decide +kernel
theorem dX7_nextShut_82 : decode cX7_nextShut 82 = .ok (.goto 4, 3) := by decide +kernel
theorem dX7_nextShut_85 : decode cX7_nextShut 85 = .ok (.iconst 0, 1) := by decide +kernel
theorem dX7_nextShut_86 : decode cX7_nextShut 86 = .ok (.istore 6, 2) := by decide +kernel
theorem dX7_nextShut_88 : decode cX7_nextShut 88 = .ok (.aload_n 0, 1) := by decide +kernel
theorem dX7_nextShut_89 : decode cX7_nextShut 89 = .ok (.iconst 1, 1) := by decide +kernel
theorem dX7_nextShut_90 : decode cX7_nextShut 90 = .ok (.iload 4, 2) := by decide +kernel
theorem dX7_nextShut_92 : decode cX7_nextShut 92 = .ok (.ishl, 1) := by decide +kernel
theorem dX7_nextShut_93 : decode cX7_nextShut 93 = .ok (.iconst 0, 1) := by decide +kernel
theorem dX7_nextShut_94 : decode cX7_nextShut 94 = .ok (.invokevirtual 244, 3) := by decide +kernel
theorem dX7_nextShut_97 : decode cX7_nextShut 97 = .ok (.iload 6, 2) := by decide +kernel
theorem dX7_nextShut_99 : decode cX7_nextShut 99 = .ok (.ifCond .eq 9, 3) := by decide +kernel
theorem dX7_nextShut_102 : decode cX7_nextShut 102 = .ok (.iload 4, 2) := by decide +kernel
theorem dX7_nextShut_104 : decode cX7_nextShut 104 = .ok (.istore_n 2, 1) := by decide +kernel
theorem dX7_nextShut_105 : decode cX7_nextShut 105 = .ok (.iload 5, 2) := by decide +kernel
theorem dX7_nextShut_107 : decode cX7_nextShut 107 = .ok (.istore_n 3, 1) := by decide +kernel
theorem dX7_nextShut_108 : decode cX7_nextShut 108 = .ok (.iinc 4 1, 3) := by decide +kernel
theorem dX7_nextShut_111 : decode cX7_nextShut 111 = .ok (.goto (-104), 3) := by decide +kernel
theorem dX7_nextShut_114 : decode cX7_nextShut 114 = .ok (.aload_n 0, 1) := by decide +kernel
theorem dX7_nextShut_115 : decode cX7_nextShut 115 = .ok (.getfield 34, 3) := by decide +kernel
theorem dX7_nextShut_118 : decode cX7_nextShut 118 = .ok (.aload_n 0, 1) := by decide +kernel
theorem dX7_nextShut_119 : decode cX7_nextShut 119 = .ok (.getfield 247, 3) := by decide +kernel
theorem dX7_nextShut_122 : decode cX7_nextShut 122 = .ok (.iconst 1, 1) := by decide +kernel
theorem dX7_nextShut_123 : decode cX7_nextShut 123 = .ok (.iadd, 1) := by decide +kernel
theorem dX7_nextShut_124 : decode cX7_nextShut 124 = .ok (.iload_n 3, 1) := by decide +kernel
theorem dX7_nextShut_125 : decode cX7_nextShut 125 = .ok (.iastore, 1) := by decide +kernel
theorem dX7_nextShut_126 : decode cX7_nextShut 126 = .ok (.iload_n 2, 1) := by decide +kernel
theorem dX7_nextShut_127 : decode cX7_nextShut 127 = .ok (.ireturn, 1) := by decide +kernel
theorem dX7_findOrder_0 : decode cX7_findOrder 0 = .ok (.aload_n 0, 1) := by decide +kernel
theorem dX7_findOrder_1 : decode cX7_findOrder 1 = .ok (.invokevirtual 177, 3) := by decide +kernel
theorem dX7_findOrder_4 : decode cX7_findOrder 4 = .ok (.aload_n 0, 1) := by decide +kernel
theorem dX7_findOrder_5 : decode cX7_findOrder 5 = .ok (.iconst 0, 1) := by decide +kernel
theorem dX7_findOrder_6 : decode cX7_findOrder 6 = .ok (.putfield 247, 3) := by decide +kernel
theorem dX7_findOrder_9 : decode cX7_findOrder 9 = .ok (.aload_n 0, 1) := by decide +kernel
theorem dX7_findOrder_10 : decode cX7_findOrder 10 = .ok (.invokevirtual 208, 3) := by decide +kernel
theorem dX7_findOrder_13 : decode cX7_findOrder 13 = .ok (.aload_n 0, 1) := by decide +kernel
theorem dX7_findOrder_14 : decode cX7_findOrder 14 = .ok (.getfield 34, 3) := by decide +kernel
theorem dX7_findOrder_17 : decode cX7_findOrder 17 = .ok (.iconst 0, 1) := by decide +kernel
theorem dX7_findOrder_18 : decode cX7_findOrder 18 = .ok (.aload_n 0, 1) := by decide +kernel
theorem dX7_findOrder_19 : decode cX7_findOrder 19 = .ok (.invokevirtual 216, 3) := by decide +kernel
theorem dX7_findOrder_22 : decode cX7_findOrder 22 = .ok (.iastore, 1) := by decide +kernel
theorem dX7_findOrder_23 : decode cX7_findOrder 23 = .ok (.aload_n 0, 1) := by decide +kernel
theorem dX7_findOrder_24 : decode cX7_findOrder 24 = .ok (.aload_n 0, 1) := by decide +kernel
theorem dX7_findOrder_25 : decode cX7_findOrder 25 = .ok (.getfield 34, 3) := by decide +kernel
theorem dX7_findOrder_28 : decode cX7_findOrder 28 = .ok (.iconst 0, 1) := by decide +kernel
theorem dX7_findOrder_29 : decode cX7_findOrder 29 = .ok (.iaload, 1) := by decide +kernel
theorem dX7_findOrder_30 : decode cX7_findOrder 30 = .ok (.invokevirtual 250, 3) := by decide +kernel
theorem dX7_findOrder_33 : decode cX7_findOrder 33 = .ok (.istore_n 1, 1) := by decide +kernel
theorem dX7_findOrder_34 : decode cX7_findOrder 34 = .ok (.iload_n 1, 1) := by decide +kernel
theorem dX7_findOrder_35 : decode cX7_findOrder 35 = .ok (.ifCond .lt 61, 3) := by decide +kernel
theorem dX7_findOrder_38 : decode cX7_findOrder 38 = .ok (.aload_n 0, 1) := by decide +kernel
theorem dX7_findOrder_39 : decode cX7_findOrder 39 = .ok (.getfield 31, 3) := by decide +kernel
theorem dX7_findOrder_42 : decode cX7_findOrder 42 = .ok (.aload_n 0, 1) := by decide +kernel
theorem dX7_findOrder_43 : decode cX7_findOrder 43 = .ok (.getfield 247, 3) := by decide +kernel
theorem dX7_findOrder_46 : decode cX7_findOrder 46 = .ok (.iload_n 1, 1) := by decide +kernel
theorem dX7_findOrder_47 : decode cX7_findOrder 47 = .ok (.iastore, 1) := by decide +kernel
theorem dX7_findOrder_48 : decode cX7_findOrder 48 = .ok (.aload_n 0, 1) := by decide +kernel
theorem dX7_findOrder_49 : decode cX7_findOrder 49 = .ok (.dup, 1) := by decide +kernel
theorem dX7_findOrder_50 : decode cX7_findOrder 50 = .ok (.getfield 247, 3) := by decide +kernel
theorem dX7_findOrder_53 : decode cX7_findOrder 53 = .ok (.iconst 1, 1) := by decide +kernel
theorem dX7_findOrder_54 : decode cX7_findOrder 54 = .ok (.iadd, 1) := by decide +kernel
theorem dX7_findOrder_55 : decode cX7_findOrder 55 = .ok (.putfield 247, 3) := by decide +kernel
theorem dX7_findOrder_58 : decode cX7_findOrder 58 = .ok (.aload_n 0, 1) := by decide +kernel
theorem dX7_findOrder_59 : decode cX7_findOrder 59 = .ok (.iconst 1, 1) := by decide +kernel
theorem dX7_findOrder_60 : decode cX7_findOrder 60 = .ok (.iload_n 1, 1) := by decide +kernel
theorem dX7_findOrder_61 : decode cX7_findOrder 61 = .ok (.ishl, 1) := by decide +kernel
theorem dX7_findOrder_62 : decode cX7_findOrder 62 = .ok (.iconst 1, 1) := by decide +kernel
theorem dX7_findOrder_63 : decode cX7_findOrder 63 = .ok (.invokevirtual 244, 3) := by decide +kernel
theorem dX7_findOrder_66 : decode cX7_findOrder 66 = .ok (.aload_n 0, 1) := by decide +kernel
theorem dX7_findOrder_67 : decode cX7_findOrder 67 = .ok (.getfield 247, 3) := by decide +kernel
theorem dX7_findOrder_70 : decode cX7_findOrder 70 = .ok (.bipush 20, 2) := by decide +kernel
theorem dX7_findOrder_72 : decode cX7_findOrder 72 = .ok (.if_icmp .ge 19, 3) := by decide +kernel
theorem dX7_findOrder_75 : decode cX7_findOrder 75 = .ok (.aload_n 0, 1) := by decide +kernel
theorem dX7_findOrder_76 : decode cX7_findOrder 76 = .ok (.aload_n 0, 1) := by decide +kernel
theorem dX7_findOrder_77 : decode cX7_findOrder 77 = .ok (.getfield 34, 3) := by decide +kernel
theorem dX7_findOrder_80 : decode cX7_findOrder 80 = .ok (.aload_n 0, 1) := by decide +kernel
theorem dX7_findOrder_81 : decode cX7_findOrder 81 = .ok (.getfield 247, 3) := by decide +kernel
theorem dX7_findOrder_84 : decode cX7_findOrder 84 = .ok (.iaload, 1) := by decide +kernel
theorem dX7_findOrder_85 : decode cX7_findOrder 85 = .ok (.invokevirtual 250, 3) := by decide +kernel
theorem dX7_findOrder_88 : decode cX7_findOrder 88 = .ok (.goto 4, 3) := by decide +kernel
theorem dX7_findOrder_91 : decode cX7_findOrder 91 = .ok (.iconst (-1), 1) := by decide +kernel
theorem dX7_findOrder_92 : decode cX7_findOrder 92 = .ok (.istore_n 1, 1) := by decide +kernel
theorem dX7_findOrder_93 : decode cX7_findOrder 93 = .ok (.goto (-59), 3) := by decide +kernel
theorem dX7_findOrder_96 : decode cX7_findOrder 96 = .ok (.aload_n 0, 1) := by decide +kernel
theorem dX7_findOrder_97 : decode cX7_findOrder 97 = .ok (.invokevirtual 183, 3) := by decide +kernel
theorem dX7_findOrder_100 : decode cX7_findOrder 100 = .ok (.return_, 1) := by decide +kernel
theorem dX7_order_0 : decode cX7_order 0 = .ok (.iload_n 1, 1) := by decide +kernel
theorem dX7_order_1 : decode cX7_order 1 = .ok (.i2l, 1) := by decide +kernel
theorem dX7_order_2 : decode cX7_order 2 = .ok (.lconst 0, 1) := by decide +kernel
theorem dX7_order_3 : decode cX7_order 3 = .ok (.ldc2_w 253, 3) := by decide +kernel
theorem dX7_order_6 : decode cX7_order 6 = .ok (.invokestatic 54, 3) := by decide +kernel
theorem dX7_order_9 : decode cX7_order 9 = .ok (.ifCond .ne 10, 3) := by decide +kernel
theorem dX7_order_12 : decode cX7_order 12 = .ok (.aload_n 0, 1) := by decide +kernel
theorem dX7_order_13 : decode cX7_order 13 = .ok (.ldc 53, 2) := by decide +kernel
theorem dX7_order_15 : decode cX7_order 15 = .ok (.invokevirtual 59, 3) := by decide +kernel
theorem dX7_order_18 : decode cX7_order 18 = .ok (.ireturn, 1) := by decide +kernel
theorem dX7_order_19 : decode cX7_order 19 = .ok (.aload_n 0, 1) := by decide +kernel
theorem dX7_order_20 : decode cX7_order 20 = .ok (.invokevirtual 255, 3) := by decide +kernel
theorem dX7_order_23 : decode cX7_order 23 = .ok (.iload_n 1, 1) := by decide +kernel
theorem dX7_order_24 : decode cX7_order 24 = .ok (.aload_n 0, 1) := by decide +kernel
theorem dX7_order_25 : decode cX7_order 25 = .ok (.getfield 247, 3) := by decide +kernel
theorem dX7_order_28 : decode cX7_order 28 = .ok (.if_icmp .ge 12, 3) := by decide +kernel
theorem dX7_order_31 : decode cX7_order 31 = .ok (.aload_n 0, 1) := by decide +kernel
theorem dX7_order_32 : decode cX7_order 32 = .ok (.getfield 31, 3) := by decide +kernel
theorem dX7_order_35 : decode cX7_order 35 = .ok (.iload_n 1, 1) := by decide +kernel
theorem dX7_order_36 : decode cX7_order 36 = .ok (.iaload, 1) := by decide +kernel
theorem dX7_order_37 : decode cX7_order 37 = .ok (.goto 9, 3) := by decide +kernel
theorem dX7_order_40 : decode cX7_order 40 = .ok (.aload_n 0, 1) := by decide +kernel
theorem dX7_order_41 : decode cX7_order 41 = .ok (.ldc 230, 2) := by decide +kernel
theorem dX7_order_43 : decode cX7_order 43 = .ok (.invokevirtual 59, 3) := by decide +kernel
theorem dX7_order_46 : decode cX7_order 46 = .ok (.ireturn, 1) := by decide +kernel
theorem dX7_saved_0 : decode cX7_saved 0 = .ok (.iload_n 1, 1) := by decide +kernel
theorem dX7_saved_1 : decode cX7_saved 1 = .ok (.i2l, 1) := by decide +kernel
theorem dX7_saved_2 : decode cX7_saved 2 = .ok (.lconst 0, 1) := by decide +kernel
theorem dX7_saved_3 : decode cX7_saved 3 = .ok (.ldc2_w 258, 3) := by decide +kernel
theorem dX7_saved_6 : decode cX7_saved 6 = .ok (.invokestatic 54, 3) := by decide +kernel
theorem dX7_saved_9 : decode cX7_saved 9 = .ok (.ifCond .ne 10, 3) := by decide +kernel
theorem dX7_saved_12 : decode cX7_saved 12 = .ok (.aload_n 0, 1) := by decide +kernel
theorem dX7_saved_13 : decode cX7_saved 13 = .ok (.ldc 53, 2) := by decide +kernel
theorem dX7_saved_15 : decode cX7_saved 15 = .ok (.invokevirtual 59, 3) := by decide +kernel
theorem dX7_saved_18 : decode cX7_saved 18 = .ok (.ireturn, 1) := by decide +kernel
theorem dX7_saved_19 : decode cX7_saved 19 = .ok (.aload_n 0, 1) := by decide +kernel
theorem dX7_saved_20 : decode cX7_saved 20 = .ok (.invokevirtual 255, 3) := by decide +kernel
theorem dX7_saved_23 : decode cX7_saved 23 = .ok (.aload_n 0, 1) := by decide +kernel
theorem dX7_saved_24 : decode cX7_saved 24 = .ok (.getfield 34, 3) := by decide +kernel
theorem dX7_saved_27 : decode cX7_saved 27 = .ok (.iload_n 1, 1) := by decide +kernel
theorem dX7_saved_28 : decode cX7_saved 28 = .ok (.aload_n 0, 1) := by decide +kernel
theorem dX7_saved_29 : decode cX7_saved 29 = .ok (.getfield 247, 3) := by decide +kernel
theorem dX7_saved_32 : decode cX7_saved 32 = .ok (.if_icmp .ge 7, 3) := by decide +kernel
theorem dX7_saved_35 : decode cX7_saved 35 = .ok (.iload_n 1, 1) := by decide +kernel
theorem dX7_saved_36 : decode cX7_saved 36 = .ok (.goto 7, 3) := by decide +kernel
theorem dX7_saved_39 : decode cX7_saved 39 = .ok (.aload_n 0, 1) := by decide +kernel
theorem dX7_saved_40 : decode cX7_saved 40 = .ok (.getfield 247, 3) := by decide +kernel
theorem dX7_saved_43 : decode cX7_saved 43 = .ok (.iaload, 1) := by decide +kernel
theorem dX7_saved_44 : decode cX7_saved 44 = .ok (.ireturn, 1) := by decide +kernel
theorem dX7_line_0 : decode cX7_line 0 = .ok (.aload_n 0, 1) := by decide +kernel
theorem dX7_line_1 : decode cX7_line 1 = .ok (.getfield 7, 3) := by decide +kernel
theorem dX7_line_4 : decode cX7_line 4 = .ok (.iconst 3, 1) := by decide +kernel
theorem dX7_line_5 : decode cX7_line 5 = .ok (.iaload, 1) := by decide +kernel
theorem dX7_line_6 : decode cX7_line 6 = .ok (.istore_n 1, 1) := by decide +kernel
theorem dX7_line_7 : decode cX7_line 7 = .ok (.iconst (-1), 1) := by decide +kernel
theorem dX7_line_8 : decode cX7_line 8 = .ok (.istore_n 2, 1) := by decide +kernel
theorem dX7_line_9 : decode cX7_line 9 = .ok (.bipush 99, 2) := by decide +kernel
theorem dX7_line_11 : decode cX7_line 11 = .ok (.istore_n 3, 1) := by decide +kernel
theorem dX7_line_12 : decode cX7_line 12 = .ok (.iload_n 3, 1) := by decide +kernel
theorem dX7_line_13 : decode cX7_line 13 = .ok (.ifCond .lt 33, 3) := by decide +kernel
theorem dX7_line_16 : decode cX7_line 16 = .ok (.aload_n 0, 1) := by decide +kernel
theorem dX7_line_17 : decode cX7_line 17 = .ok (.getfield 7, 3) := by decide +kernel
theorem dX7_line_20 : decode cX7_line 20 = .ok (.iconst 3, 1) := by decide +kernel
theorem dX7_line_21 : decode cX7_line 21 = .ok (.iload_n 3, 1) := by decide +kernel
theorem dX7_line_22 : decode cX7_line 22 = .ok (.iastore, 1) := by decide +kernel
theorem dX7_line_23 : decode cX7_line 23 = .ok (.aload_n 0, 1) := by decide +kernel
theorem dX7_line_24 : decode cX7_line 24 = .ok (.invokevirtual 208, 3) := by decide +kernel
theorem dX7_line_27 : decode cX7_line 27 = .ok (.aload_n 0, 1) := by decide +kernel
theorem dX7_line_28 : decode cX7_line 28 = .ok (.invokevirtual 219, 3) := by decide +kernel
theorem dX7_line_31 : decode cX7_line 31 = .ok (.ifCond .eq 7, 3) := by decide +kernel
theorem dX7_line_34 : decode cX7_line 34 = .ok (.iload_n 3, 1) := by decide +kernel
theorem dX7_line_35 : decode cX7_line 35 = .ok (.goto 4, 3) := by decide +kernel
theorem dX7_line_38 : decode cX7_line 38 = .ok (.iload_n 2, 1) := by decide +kernel
theorem dX7_line_39 : decode cX7_line 39 = .ok (.istore_n 2, 1) := by decide +kernel
theorem dX7_line_40 : decode cX7_line 40 = .ok (.iinc 3 (-1), 3) := by decide +kernel
theorem dX7_line_43 : decode cX7_line 43 = .ok (.goto (-31), 3) := by decide +kernel
theorem dX7_line_46 : decode cX7_line 46 = .ok (.aload_n 0, 1) := by decide +kernel
theorem dX7_line_47 : decode cX7_line 47 = .ok (.getfield 7, 3) := by decide +kernel
theorem dX7_line_50 : decode cX7_line 50 = .ok (.iconst 3, 1) := by decide +kernel
theorem dX7_line_51 : decode cX7_line 51 = .ok (.iload_n 1, 1) := by decide +kernel
theorem dX7_line_52 : decode cX7_line 52 = .ok (.iastore, 1) := by decide +kernel
theorem dX7_line_53 : decode cX7_line 53 = .ok (.iload_n 2, 1) := by decide +kernel
theorem dX7_line_54 : decode cX7_line 54 = .ok (.ifCond .ge 12, 3) := by decide +kernel
theorem dX7_line_57 : decode cX7_line 57 = .ok (.aload_n 0, 1) := by decide +kernel
theorem dX7_line_58 : decode cX7_line 58 = .ok (.ldc 230, 2) := by decide +kernel
theorem dX7_line_60 : decode cX7_line 60 = .ok (.invokevirtual 59, 3) := by decide +kernel
theorem dX7_line_63 : decode cX7_line 63 = .ok (.goto 4, 3) := by decide +kernel
theorem dX7_line_66 : decode cX7_line 66 = .ok (.iload_n 2, 1) := by decide +kernel
theorem dX7_line_67 : decode cX7_line 67 = .ok (.ireturn, 1) := by decide +kernel
theorem dX7_alone_0 : decode cX7_alone 0 = .ok (.aload_n 0, 1) := by decide +kernel
theorem dX7_alone_1 : decode cX7_alone 1 = .ok (.iload_n 1, 1) := by decide +kernel
theorem dX7_alone_2 : decode cX7_alone 2 = .ok (.invokevirtual 83, 3) := by decide +kernel
theorem dX7_alone_5 : decode cX7_alone 5 = .ok (.ifCond .eq 16, 3) := by decide +kernel
theorem dX7_alone_8 : decode cX7_alone 8 = .ok (.aload_n 0, 1) := by decide +kernel
theorem dX7_alone_9 : decode cX7_alone 9 = .ok (.iload_n 2, 1) := by decide +kernel
theorem dX7_alone_10 : decode cX7_alone 10 = .ok (.invokevirtual 83, 3) := by decide +kernel
theorem dX7_alone_13 : decode cX7_alone 13 = .ok (.ifCond .eq 8, 3) := by decide +kernel
theorem dX7_alone_16 : decode cX7_alone 16 = .ok (.iload_n 1, 1) := by decide +kernel
theorem dX7_alone_17 : decode cX7_alone 17 = .ok (.iload_n 2, 1) := by decide +kernel
theorem dX7_alone_18 : decode cX7_alone 18 = .ok (.if_icmp .ne 10, 3) := by decide +kernel
theorem dX7_alone_21 : decode cX7_alone 21 = .ok (.aload_n 0, 1) := by decide +kernel
theorem dX7_alone_22 : decode cX7_alone 22 = .ok (.ldc 53, 2) := by decide +kernel
theorem dX7_alone_24 : decode cX7_alone 24 = .ok (.invokevirtual 59, 3) := by decide +kernel
theorem dX7_alone_27 : decode cX7_alone 27 = .ok (.ireturn, 1) := by decide +kernel
theorem dX7_alone_28 : decode cX7_alone 28 = .ok (.aload_n 0, 1) := by decide +kernel
theorem dX7_alone_29 : decode cX7_alone 29 = .ok (.invokevirtual 208, 3) := by decide +kernel
theorem dX7_alone_32 : decode cX7_alone 32 = .ok (.aload_n 0, 1) := by decide +kernel
theorem dX7_alone_33 : decode cX7_alone 33 = .ok (.iload_n 1, 1) := by decide +kernel
theorem dX7_alone_34 : decode cX7_alone 34 = .ok (.invokevirtual 199, 3) := by decide +kernel
theorem dX7_alone_37 : decode cX7_alone 37 = .ok (.istore_n 3, 1) := by decide +kernel
theorem dX7_alone_38 : decode cX7_alone 38 = .ok (.aload_n 0, 1) := by decide +kernel
theorem dX7_alone_39 : decode cX7_alone 39 = .ok (.iload_n 2, 1) := by decide +kernel
theorem dX7_alone_40 : decode cX7_alone 40 = .ok (.bipush 7, 2) := by decide +kernel
theorem dX7_alone_42 : decode cX7_alone 42 = .ok (.invokevirtual 79, 3) := by decide +kernel
theorem dX7_alone_45 : decode cX7_alone 45 = .ok (.istore 4, 2) := by decide +kernel
theorem dX7_alone_47 : decode cX7_alone 47 = .ok (.aload_n 0, 1) := by decide +kernel
theorem dX7_alone_48 : decode cX7_alone 48 = .ok (.iconst 1, 1) := by decide +kernel
theorem dX7_alone_49 : decode cX7_alone 49 = .ok (.iload_n 2, 1) := by decide +kernel
theorem dX7_alone_50 : decode cX7_alone 50 = .ok (.ishl, 1) := by decide +kernel
theorem dX7_alone_51 : decode cX7_alone 51 = .ok (.iconst 1, 1) := by decide +kernel
theorem dX7_alone_52 : decode cX7_alone 52 = .ok (.invokevirtual 244, 3) := by decide +kernel
theorem dX7_alone_55 : decode cX7_alone 55 = .ok (.aload_n 0, 1) := by decide +kernel
theorem dX7_alone_56 : decode cX7_alone 56 = .ok (.invokevirtual 208, 3) := by decide +kernel
theorem dX7_alone_59 : decode cX7_alone 59 = .ok (.aload_n 0, 1) := by decide +kernel
theorem dX7_alone_60 : decode cX7_alone 60 = .ok (.iload_n 1, 1) := by decide +kernel
theorem dX7_alone_61 : decode cX7_alone 61 = .ok (.invokevirtual 199, 3) := by decide +kernel
theorem dX7_alone_64 : decode cX7_alone 64 = .ok (.iload_n 3, 1) := by decide +kernel
theorem dX7_alone_65 : decode cX7_alone 65 = .ok (.isub, 1) := by decide +kernel
theorem dX7_alone_66 : decode cX7_alone 66 = .ok (.istore 5, 2) := by decide +kernel
theorem dX7_alone_68 : decode cX7_alone 68 = .ok (.aload_n 0, 1) := by decide +kernel
theorem dX7_alone_69 : decode cX7_alone 69 = .ok (.iconst 1, 1) := by decide +kernel
theorem dX7_alone_70 : decode cX7_alone 70 = .ok (.iload_n 2, 1) := by decide +kernel
theorem dX7_alone_71 : decode cX7_alone 71 = .ok (.ishl, 1) := by decide +kernel
theorem dX7_alone_72 : decode cX7_alone 72 = .ok (.iload 4, 2) := by decide +kernel
theorem dX7_alone_74 : decode cX7_alone 74 = .ok (.invokevirtual 244, 3) := by decide +kernel
theorem dX7_alone_77 : decode cX7_alone 77 = .ok (.iload 5, 2) := by decide +kernel
theorem dX7_alone_79 : decode cX7_alone 79 = .ok (.ireturn, 1) := by decide +kernel
theorem dX7_turns_0 : decode cX7_turns 0 = .ok (.aload_n 0, 1) := by decide +kernel
theorem dX7_turns_1 : decode cX7_turns 1 = .ok (.iload_n 1, 1) := by decide +kernel
theorem dX7_turns_2 : decode cX7_turns 2 = .ok (.invokevirtual 83, 3) := by decide +kernel
theorem dX7_turns_5 : decode cX7_turns 5 = .ok (.ifCond .ne 10, 3) := by decide +kernel
theorem dX7_turns_8 : decode cX7_turns 8 = .ok (.aload_n 0, 1) := by decide +kernel
theorem dX7_turns_9 : decode cX7_turns 9 = .ok (.ldc 53, 2) := by decide +kernel
theorem dX7_turns_11 : decode cX7_turns 11 = .ok (.invokevirtual 59, 3) := by decide +kernel
theorem dX7_turns_14 : decode cX7_turns 14 = .ok (.ireturn, 1) := by decide +kernel
theorem dX7_turns_15 : decode cX7_turns 15 = .ok (.aload_n 0, 1) := by decide +kernel
theorem dX7_turns_16 : decode cX7_turns 16 = .ok (.invokevirtual 208, 3) := by decide +kernel
theorem dX7_turns_19 : decode cX7_turns 19 = .ok (.iconst 0, 1) := by decide +kernel
theorem dX7_turns_20 : decode cX7_turns 20 = .ok (.istore_n 2, 1) := by decide +kernel
theorem dX7_turns_21 : decode cX7_turns 21 = .ok (.iload_n 2, 1) := by decide +kernel
theorem dX7_turns_22 : decode cX7_turns 22 = .ok (.aload_n 0, 1) := by decide +kernel
theorem dX7_turns_23 : decode cX7_turns 23 = .ok (.getfield 7, 3) := by decide +kernel
theorem dX7_turns_26 : decode cX7_turns 26 = .ok (.iconst 1, 1) := by decide +kernel
theorem dX7_turns_27 : decode cX7_turns 27 = .ok (.iaload, 1) := by decide +kernel
theorem dX7_turns_28 : decode cX7_turns 28 = .ok (.if_icmp .ge 20, 3) := by decide +kernel
theorem dX7_turns_31 : decode cX7_turns 31 = .ok (.aload_n 0, 1) := by decide +kernel
theorem dX7_turns_32 : decode cX7_turns 32 = .ok (.getfield 37, 3) := by decide +kernel
theorem dX7_turns_35 : decode cX7_turns 35 = .ok (.iload_n 2, 1) := by decide +kernel
theorem dX7_turns_36 : decode cX7_turns 36 = .ok (.aload_n 0, 1) := by decide +kernel
theorem dX7_turns_37 : decode cX7_turns 37 = .ok (.iload_n 2, 1) := by decide +kernel
theorem dX7_turns_38 : decode cX7_turns 38 = .ok (.invokevirtual 211, 3) := by decide +kernel
theorem dX7_turns_41 : decode cX7_turns 41 = .ok (.iastore, 1) := by decide +kernel
theorem dX7_turns_42 : decode cX7_turns 42 = .ok (.iinc 2 1, 3) := by decide +kernel
theorem dX7_turns_45 : decode cX7_turns 45 = .ok (.goto (-24), 3) := by decide +kernel
theorem dX7_turns_48 : decode cX7_turns 48 = .ok (.aload_n 0, 1) := by decide +kernel
theorem dX7_turns_49 : decode cX7_turns 49 = .ok (.iload_n 1, 1) := by decide +kernel
theorem dX7_turns_50 : decode cX7_turns 50 = .ok (.bipush 7, 2) := by decide +kernel
theorem dX7_turns_52 : decode cX7_turns 52 = .ok (.invokevirtual 79, 3) := by decide +kernel
theorem dX7_turns_55 : decode cX7_turns 55 = .ok (.istore_n 2, 1) := by decide +kernel
theorem dX7_turns_56 : decode cX7_turns 56 = .ok (.aload_n 0, 1) := by decide +kernel
theorem dX7_turns_57 : decode cX7_turns 57 = .ok (.iconst 1, 1) := by decide +kernel
theorem dX7_turns_58 : decode cX7_turns 58 = .ok (.iload_n 1, 1) := by decide +kernel
theorem dX7_turns_59 : decode cX7_turns 59 = .ok (.ishl, 1) := by decide +kernel
theorem dX7_turns_60 : decode cX7_turns 60 = .ok (.iconst 1, 1) := by decide +kernel
theorem dX7_turns_61 : decode cX7_turns 61 = .ok (.invokevirtual 244, 3) := by decide +kernel
theorem dX7_turns_64 : decode cX7_turns 64 = .ok (.aload_n 0, 1) := by decide +kernel
theorem dX7_turns_65 : decode cX7_turns 65 = .ok (.invokevirtual 208, 3) := by decide +kernel
theorem dX7_turns_68 : decode cX7_turns 68 = .ok (.iconst 0, 1) := by decide +kernel
theorem dX7_turns_69 : decode cX7_turns 69 = .ok (.istore_n 3, 1) := by decide +kernel
theorem dX7_turns_70 : decode cX7_turns 70 = .ok (.iconst 0, 1) := by decide +kernel
theorem dX7_turns_71 : decode cX7_turns 71 = .ok (.istore 4, 2) := by decide +kernel
theorem dX7_turns_73 : decode cX7_turns 73 = .ok (.iload 4, 2) := by decide +kernel
theorem dX7_turns_75 : decode cX7_turns 75 = .ok (.aload_n 0, 1) := by decide +kernel
theorem dX7_turns_76 : decode cX7_turns 76 = .ok (.getfield 7, 3) := by decide +kernel
theorem dX7_turns_79 : decode cX7_turns 79 = .ok (.iconst 1, 1) := by decide +kernel
theorem dX7_turns_80 : decode cX7_turns 80 = .ok (.iaload, 1) := by decide +kernel
theorem dX7_turns_81 : decode cX7_turns 81 = .ok (.if_icmp .ge 37, 3) := by decide +kernel
theorem dX7_turns_84 : decode cX7_turns 84 = .ok (.iload_n 3, 1) := by decide +kernel
theorem dX7_turns_85 : decode cX7_turns 85 = .ok (.aload_n 0, 1) := by decide +kernel
theorem dX7_turns_86 : decode cX7_turns 86 = .ok (.getfield 37, 3) := by decide +kernel
theorem dX7_turns_89 : decode cX7_turns 89 = .ok (.iload 4, 2) := by decide +kernel
theorem dX7_turns_91 : decode cX7_turns 91 = .ok (.iaload, 1) := by decide +kernel
theorem dX7_turns_92 : decode cX7_turns 92 = .ok (.aload_n 0, 1) := by decide +kernel
theorem dX7_turns_93 : decode cX7_turns 93 = .ok (.iload 4, 2) := by decide +kernel
theorem dX7_turns_95 : decode cX7_turns 95 = .ok (.invokevirtual 211, 3) := by decide +kernel
theorem dX7_turns_98 : decode cX7_turns 98 = .ok (.imul, 1) := by decide +kernel
theorem dX7_turns_99 : decode cX7_turns 99 = .ok (.ifCond .ge 10, 3) := by decide +kernel
theorem dX7_turns_102 : decode cX7_turns 102 = .ok (.iconst 1, 1) := by decide +kernel
theorem dX7_turns_103 : decode cX7_turns 103 = .ok (.iload 4, 2) := by decide +kernel
theorem dX7_turns_105 : decode cX7_turns 105 = .ok (.ishl, 1) := by decide +kernel
theorem dX7_turns_106 : decode cX7_turns 106 = .ok (.goto 4, 3) := by decide +kernel
theorem dX7_turns_109 : decode cX7_turns 109 = .ok (.iconst 0, 1) := by decide +kernel
theorem dX7_turns_110 : decode cX7_turns 110 = .ok (.ior, 1) := by decide +kernel
theorem dX7_turns_111 : decode cX7_turns 111 = .ok (.istore_n 3, 1) := by decide +kernel
theorem dX7_turns_112 : decode cX7_turns 112 = .ok (.iinc 4 1, 3) := by decide +kernel
theorem dX7_turns_115 : decode cX7_turns 115 = .ok (.goto (-42), 3) := by decide +kernel
theorem dX7_turns_118 : decode cX7_turns 118 = .ok (.aload_n 0, 1) := by decide +kernel
theorem dX7_turns_119 : decode cX7_turns 119 = .ok (.iconst 1, 1) := by decide +kernel
theorem dX7_turns_120 : decode cX7_turns 120 = .ok (.iload_n 1, 1) := by decide +kernel
theorem dX7_turns_121 : decode cX7_turns 121 = .ok (.ishl, 1) := by decide +kernel
theorem dX7_turns_122 : decode cX7_turns 122 = .ok (.iload_n 2, 1) := by decide +kernel
theorem dX7_turns_123 : decode cX7_turns 123 = .ok (.invokevirtual 244, 3) := by decide +kernel
theorem dX7_turns_126 : decode cX7_turns 126 = .ok (.iload_n 3, 1) := by decide +kernel
theorem dX7_turns_127 : decode cX7_turns 127 = .ok (.ireturn, 1) := by decide +kernel
theorem dX7_worst_0 : decode cX7_worst 0 = .ok (.aload_n 0, 1) := by decide +kernel
theorem dX7_worst_1 : decode cX7_worst 1 = .ok (.getfield 7, 3) := by decide +kernel
theorem dX7_worst_4 : decode cX7_worst 4 = .ok (.iconst 4, 1) := by decide +kernel
theorem dX7_worst_5 : decode cX7_worst 5 = .ok (.iaload, 1) := by decide +kernel
theorem dX7_worst_6 : decode cX7_worst 6 = .ok (.istore_n 1, 1) := by decide +kernel
theorem dX7_worst_7 : decode cX7_worst 7 = .ok (.iconst 0, 1) := by decide +kernel
theorem dX7_worst_8 : decode cX7_worst 8 = .ok (.istore_n 2, 1) := by decide +kernel
theorem dX7_worst_9 : decode cX7_worst 9 = .ok (.iconst (-1), 1) := by decide +kernel
theorem dX7_worst_10 : decode cX7_worst 10 = .ok (.istore_n 3, 1) := by decide +kernel
theorem dX7_worst_11 : decode cX7_worst 11 = .ok (.iconst 0, 1) := by decide +kernel
theorem dX7_worst_12 : decode cX7_worst 12 = .ok (.istore 4, 2) := by decide +kernel
theorem dX7_worst_14 : decode cX7_worst 14 = .ok (.iload 4, 2) := by decide +kernel
theorem dX7_worst_16 : decode cX7_worst 16 = .ok (.iconst 4, 1) := by decide +kernel
theorem dX7_worst_17 : decode cX7_worst 17 = .ok (.if_icmp .ge 37, 3) := by decide +kernel
theorem dX7_worst_20 : decode cX7_worst 20 = .ok (.aload_n 0, 1) := by decide +kernel
theorem dX7_worst_21 : decode cX7_worst 21 = .ok (.getfield 7, 3) := by decide +kernel
theorem dX7_worst_24 : decode cX7_worst 24 = .ok (.iconst 4, 1) := by decide +kernel
theorem dX7_worst_25 : decode cX7_worst 25 = .ok (.iload 4, 2) := by decide +kernel
theorem dX7_worst_27 : decode cX7_worst 27 = .ok (.iastore, 1) := by decide +kernel
theorem dX7_worst_28 : decode cX7_worst 28 = .ok (.aload_n 0, 1) := by decide +kernel
theorem dX7_worst_29 : decode cX7_worst 29 = .ok (.invokevirtual 208, 3) := by decide +kernel
theorem dX7_worst_32 : decode cX7_worst 32 = .ok (.aload_n 0, 1) := by decide +kernel
theorem dX7_worst_33 : decode cX7_worst 33 = .ok (.invokevirtual 216, 3) := by decide +kernel
theorem dX7_worst_36 : decode cX7_worst 36 = .ok (.iload_n 3, 1) := by decide +kernel
theorem dX7_worst_37 : decode cX7_worst 37 = .ok (.if_icmp .le 11, 3) := by decide +kernel
theorem dX7_worst_40 : decode cX7_worst 40 = .ok (.iload 4, 2) := by decide +kernel
theorem dX7_worst_42 : decode cX7_worst 42 = .ok (.istore_n 2, 1) := by decide +kernel
theorem dX7_worst_43 : decode cX7_worst 43 = .ok (.aload_n 0, 1) := by decide +kernel
theorem dX7_worst_44 : decode cX7_worst 44 = .ok (.invokevirtual 216, 3) := by decide +kernel
theorem dX7_worst_47 : decode cX7_worst 47 = .ok (.istore_n 3, 1) := by decide +kernel
theorem dX7_worst_48 : decode cX7_worst 48 = .ok (.iinc 4 1, 3) := by decide +kernel
theorem dX7_worst_51 : decode cX7_worst 51 = .ok (.goto (-37), 3) := by decide +kernel
theorem dX7_worst_54 : decode cX7_worst 54 = .ok (.aload_n 0, 1) := by decide +kernel
theorem dX7_worst_55 : decode cX7_worst 55 = .ok (.getfield 7, 3) := by decide +kernel
theorem dX7_worst_58 : decode cX7_worst 58 = .ok (.iconst 4, 1) := by decide +kernel
theorem dX7_worst_59 : decode cX7_worst 59 = .ok (.iload_n 1, 1) := by decide +kernel
theorem dX7_worst_60 : decode cX7_worst 60 = .ok (.iastore, 1) := by decide +kernel
theorem dX7_worst_61 : decode cX7_worst 61 = .ok (.iload_n 2, 1) := by decide +kernel
theorem dX7_worst_62 : decode cX7_worst 62 = .ok (.ireturn, 1) := by decide +kernel
theorem dX7_isOne_0 : decode cX7_isOne 0 = .ok (.iload_n 0, 1) := by decide +kernel
theorem dX7_isOne_1 : decode cX7_isOne 1 = .ok (.i2l, 1) := by decide +kernel
theorem dX7_isOne_2 : decode cX7_isOne 2 = .ok (.lconst 0, 1) := by decide +kernel
theorem dX7_isOne_3 : decode cX7_isOne 3 = .ok (.ldc2_w 214, 3) := by decide +kernel
theorem dX7_isOne_6 : decode cX7_isOne 6 = .ok (.invokestatic 54, 3) := by decide +kernel
theorem dX7_isOne_9 : decode cX7_isOne 9 = .ok (.ireturn, 1) := by decide +kernel
theorem dX7_sheet_0 : decode cX7_sheet 0 = .ok (.iload_n 1, 1) := by decide +kernel
theorem dX7_sheet_1 : decode cX7_sheet 1 = .ok (.invokestatic 260, 3) := by decide +kernel
theorem dX7_sheet_4 : decode cX7_sheet 4 = .ok (.ifCond .eq 25, 3) := by decide +kernel
theorem dX7_sheet_7 : decode cX7_sheet 7 = .ok (.iload_n 2, 1) := by decide +kernel
theorem dX7_sheet_8 : decode cX7_sheet 8 = .ok (.ifCond .eq 28, 3) := by decide +kernel
theorem dX7_sheet_11 : decode cX7_sheet 11 = .ok (.iload_n 2, 1) := by decide +kernel
theorem dX7_sheet_12 : decode cX7_sheet 12 = .ok (.bipush 8, 2) := by decide +kernel
theorem dX7_sheet_14 : decode cX7_sheet 14 = .ok (.if_icmp .eq 22, 3) := by decide +kernel
theorem dX7_sheet_17 : decode cX7_sheet 17 = .ok (.iload_n 2, 1) := by decide +kernel
theorem dX7_sheet_18 : decode cX7_sheet 18 = .ok (.bipush 16, 2) := by decide +kernel
theorem dX7_sheet_20 : decode cX7_sheet 20 = .ok (.if_icmp .eq 16, 3) := by decide +kernel
theorem dX7_sheet_23 : decode cX7_sheet 23 = .ok (.iload_n 2, 1) := by decide +kernel
theorem dX7_sheet_24 : decode cX7_sheet 24 = .ok (.bipush 64, 2) := by decide +kernel
theorem dX7_sheet_26 : decode cX7_sheet 26 = .ok (.if_icmp .eq 10, 3) := by decide +kernel
theorem dX7_sheet_29 : decode cX7_sheet 29 = .ok (.aload_n 0, 1) := by decide +kernel
theorem dX7_sheet_30 : decode cX7_sheet 30 = .ok (.ldc 53, 2) := by decide +kernel
theorem dX7_sheet_32 : decode cX7_sheet 32 = .ok (.invokevirtual 59, 3) := by decide +kernel
theorem dX7_sheet_35 : decode cX7_sheet 35 = .ok (.ireturn, 1) := by decide +kernel
theorem dX7_sheet_36 : decode cX7_sheet 36 = .ok (.iload_n 3, 1) := by decide +kernel
theorem dX7_sheet_37 : decode cX7_sheet 37 = .ok (.ifCond .ge 11, 3) := by decide +kernel
theorem dX7_sheet_40 : decode cX7_sheet 40 = .ok (.aload_n 0, 1) := by decide +kernel
theorem dX7_sheet_41 : decode cX7_sheet 41 = .ok (.ldc_w 263, 3) := by decide +kernel
theorem dX7_sheet_44 : decode cX7_sheet 44 = .ok (.invokevirtual 59, 3) := by decide +kernel
theorem dX7_sheet_47 : decode cX7_sheet 47 = .ok (.ireturn, 1) := by decide +kernel
theorem dX7_sheet_48 : decode cX7_sheet 48 = .ok (.iload_n 3, 1) := by decide +kernel
theorem dX7_sheet_49 : decode cX7_sheet 49 = .ok (.bipush 40, 2) := by decide +kernel
theorem dX7_sheet_51 : decode cX7_sheet 51 = .ok (.if_icmp .le 10, 3) := by decide +kernel
theorem dX7_sheet_54 : decode cX7_sheet 54 = .ok (.aload_n 0, 1) := by decide +kernel
theorem dX7_sheet_55 : decode cX7_sheet 55 = .ok (.ldc 53, 2) := by decide +kernel
theorem dX7_sheet_57 : decode cX7_sheet 57 = .ok (.invokevirtual 59, 3) := by decide +kernel
theorem dX7_sheet_60 : decode cX7_sheet 60 = .ok (.ireturn, 1) := by decide +kernel
theorem dX7_sheet_61 : decode cX7_sheet 61 = .ok (.aload_n 0, 1) := by decide +kernel
theorem dX7_sheet_62 : decode cX7_sheet 62 = .ok (.getfield 40, 3) := by decide +kernel
theorem dX7_sheet_65 : decode cX7_sheet 65 = .ok (.iload_n 1, 1) := by decide +kernel
theorem dX7_sheet_66 : decode cX7_sheet 66 = .ok (.iload_n 2, 1) := by decide +kernel
theorem dX7_sheet_67 : decode cX7_sheet 67 = .ok (.iastore, 1) := by decide +kernel
theorem dX7_sheet_68 : decode cX7_sheet 68 = .ok (.aload_n 0, 1) := by decide +kernel
theorem dX7_sheet_69 : decode cX7_sheet 69 = .ok (.getfield 43, 3) := by decide +kernel
theorem dX7_sheet_72 : decode cX7_sheet 72 = .ok (.iload_n 1, 1) := by decide +kernel
theorem dX7_sheet_73 : decode cX7_sheet 73 = .ok (.iload_n 2, 1) := by decide +kernel
theorem dX7_sheet_74 : decode cX7_sheet 74 = .ok (.ifCond .ne 7, 3) := by decide +kernel
theorem dX7_sheet_77 : decode cX7_sheet 77 = .ok (.iconst 0, 1) := by decide +kernel
theorem dX7_sheet_78 : decode cX7_sheet 78 = .ok (.goto 4, 3) := by decide +kernel
theorem dX7_sheet_81 : decode cX7_sheet 81 = .ok (.iload_n 3, 1) := by decide +kernel
theorem dX7_sheet_82 : decode cX7_sheet 82 = .ok (.iastore, 1) := by decide +kernel
theorem dX7_sheet_83 : decode cX7_sheet 83 = .ok (.iconst 0, 1) := by decide +kernel
theorem dX7_sheet_84 : decode cX7_sheet 84 = .ok (.istore 4, 2) := by decide +kernel
theorem dX7_sheet_86 : decode cX7_sheet 86 = .ok (.iload 4, 2) := by decide +kernel
theorem dX7_sheet_88 : decode cX7_sheet 88 = .ok (.bipush 40, 2) := by decide +kernel
theorem dX7_sheet_90 : decode cX7_sheet 90 = .ok (.if_icmp .ge 22, 3) := by decide +kernel
theorem dX7_sheet_93 : decode cX7_sheet 93 = .ok (.aload_n 0, 1) := by decide +kernel
theorem dX7_sheet_94 : decode cX7_sheet 94 = .ok (.getfield 46, 3) := by decide +kernel
theorem dX7_sheet_97 : decode cX7_sheet 97 = .ok (.bipush 40, 2) := by decide +kernel
theorem dX7_sheet_99 : decode cX7_sheet 99 = .ok (.iload_n 1, 1) := by decide +kernel
theorem dX7_sheet_100 : decode cX7_sheet 100 = .ok (.imul, 1) := by decide +kernel
theorem dX7_sheet_101 : decode cX7_sheet 101 = .ok (.iload 4, 2) := by decide +kernel
theorem dX7_sheet_103 : decode cX7_sheet 103 = .ok (.iadd, 1) := by decide +kernel
theorem dX7_sheet_104 : decode cX7_sheet 104 = .ok (.lconst 0, 1) := by decide +kernel
theorem dX7_sheet_105 : decode cX7_sheet 105 = .ok (.lastore, 1) := by decide +kernel
theorem dX7_sheet_106 : decode cX7_sheet 106 = .ok (.iinc 4 1, 3) := by decide +kernel
theorem dX7_sheet_109 : decode cX7_sheet 109 = .ok (.goto (-23), 3) := by decide +kernel
theorem dX7_sheet_112 : decode cX7_sheet 112 = .ok (.aload_n 0, 1) := by decide +kernel
theorem dX7_sheet_113 : decode cX7_sheet 113 = .ok (.getfield 43, 3) := by decide +kernel
theorem dX7_sheet_116 : decode cX7_sheet 116 = .ok (.iload_n 1, 1) := by decide +kernel
theorem dX7_sheet_117 : decode cX7_sheet 117 = .ok (.iaload, 1) := by decide +kernel
theorem dX7_sheet_118 : decode cX7_sheet 118 = .ok (.ireturn, 1) := by decide +kernel
theorem dX7_narrowed_0 : decode cX7_narrowed 0 = .ok (.iload_n 0, 1) := by decide +kernel
theorem dX7_narrowed_1 : decode cX7_narrowed 1 = .ok (.bipush 8, 2) := by decide +kernel
theorem dX7_narrowed_3 : decode cX7_narrowed 3 = .ok (.if_icmp .ne 10, 3) := by decide +kernel
theorem dX7_narrowed_6 : decode cX7_narrowed 6 = .ok (.lload_n 1, 1) := by decide +kernel
theorem dX7_narrowed_7 : decode cX7_narrowed 7 = .ok (.l2i, 1) := by decide +kernel
theorem dX7_narrowed_8 : decode cX7_narrowed 8 = .ok (.i2b, 1) := by decide +kernel
theorem dX7_narrowed_9 : decode cX7_narrowed 9 = .ok (.i2l, 1) := by decide +kernel
theorem dX7_narrowed_10 : decode cX7_narrowed 10 = .ok (.goto 17, 3) := by decide +kernel
theorem dX7_narrowed_13 : decode cX7_narrowed 13 = .ok (.iload_n 0, 1) := by decide +kernel
theorem dX7_narrowed_14 : decode cX7_narrowed 14 = .ok (.bipush 16, 2) := by decide +kernel
theorem dX7_narrowed_16 : decode cX7_narrowed 16 = .ok (.if_icmp .ne 10, 3) := by decide +kernel
theorem dX7_narrowed_19 : decode cX7_narrowed 19 = .ok (.lload_n 1, 1) := by decide +kernel
theorem dX7_narrowed_20 : decode cX7_narrowed 20 = .ok (.l2i, 1) := by decide +kernel
theorem dX7_narrowed_21 : decode cX7_narrowed 21 = .ok (.i2s, 1) := by decide +kernel
theorem dX7_narrowed_22 : decode cX7_narrowed 22 = .ok (.i2l, 1) := by decide +kernel
theorem dX7_narrowed_23 : decode cX7_narrowed 23 = .ok (.goto 4, 3) := by decide +kernel
theorem dX7_narrowed_26 : decode cX7_narrowed 26 = .ok (.lload_n 1, 1) := by decide +kernel
theorem dX7_narrowed_27 : decode cX7_narrowed 27 = .ok (.lreturn, 1) := by decide +kernel
theorem dX7_wrong_0 : decode cX7_wrong 0 = .ok (.iload_n 1, 1) := by decide +kernel
theorem dX7_wrong_1 : decode cX7_wrong 1 = .ok (.invokestatic 260, 3) := by decide +kernel
theorem dX7_wrong_4 : decode cX7_wrong 4 = .ok (.ifCond .ne 8, 3) := by decide +kernel
theorem dX7_wrong_7 : decode cX7_wrong 7 = .ok (.ldc 53, 2) := by decide +kernel
theorem dX7_wrong_9 : decode cX7_wrong 9 = .ok (.goto 19, 3) := by decide +kernel
theorem dX7_wrong_12 : decode cX7_wrong 12 = .ok (.aload_n 0, 1) := by decide +kernel
theorem dX7_wrong_13 : decode cX7_wrong 13 = .ok (.getfield 40, 3) := by decide +kernel
theorem dX7_wrong_16 : decode cX7_wrong 16 = .ok (.iload_n 1, 1) := by decide +kernel
theorem dX7_wrong_17 : decode cX7_wrong 17 = .ok (.iaload, 1) := by decide +kernel
theorem dX7_wrong_18 : decode cX7_wrong 18 = .ok (.ifCond .ne 9, 3) := by decide +kernel
theorem dX7_wrong_21 : decode cX7_wrong 21 = .ok (.ldc_w 264, 3) := by decide +kernel
theorem dX7_wrong_24 : decode cX7_wrong 24 = .ok (.goto 4, 3) := by decide +kernel
theorem dX7_wrong_27 : decode cX7_wrong 27 = .ok (.iconst 0, 1) := by decide +kernel
theorem dX7_wrong_28 : decode cX7_wrong 28 = .ok (.ireturn, 1) := by decide +kernel
theorem dX7_write_0 : decode cX7_write 0 = .ok (.aload_n 0, 1) := by decide +kernel
theorem dX7_write_1 : decode cX7_write 1 = .ok (.iload_n 1, 1) := by decide +kernel
theorem dX7_write_2 : decode cX7_write 2 = .ok (.invokevirtual 265, 3) := by decide +kernel
theorem dX7_write_5 : decode cX7_write 5 = .ok (.istore 5, 2) := by decide +kernel
theorem dX7_write_7 : decode cX7_write 7 = .ok (.iload 5, 2) := by decide +kernel
theorem dX7_write_9 : decode cX7_write 9 = .ok (.ifCond .eq 11, 3) := by decide +kernel
theorem dX7_write_12 : decode cX7_write 12 = .ok (.aload_n 0, 1) := by decide +kernel
theorem dX7_write_13 : decode cX7_write 13 = .ok (.iload 5, 2) := by decide +kernel
theorem dX7_write_15 : decode cX7_write 15 = .ok (.invokevirtual 59, 3) := by decide +kernel
theorem dX7_write_18 : decode cX7_write 18 = .ok (.i2l, 1) := by decide +kernel
theorem dX7_write_19 : decode cX7_write 19 = .ok (.lreturn, 1) := by decide +kernel
theorem dX7_write_20 : decode cX7_write 20 = .ok (.iload_n 2, 1) := by decide +kernel
theorem dX7_write_21 : decode cX7_write 21 = .ok (.i2l, 1) := by decide +kernel
theorem dX7_write_22 : decode cX7_write 22 = .ok (.lconst 0, 1) := by decide +kernel
theorem dX7_write_23 : decode cX7_write 23 = .ok (.aload_n 0, 1) := by decide +kernel
theorem dX7_write_24 : decode cX7_write 24 = .ok (.getfield 43, 3) := by decide +kernel
theorem dX7_write_27 : decode cX7_write 27 = .ok (.iload_n 1, 1) := by decide +kernel
theorem dX7_write_28 : decode cX7_write 28 = .ok (.iaload, 1) := by decide +kernel
theorem dX7_write_29 : decode cX7_write 29 = .ok (.iconst 1, 1) := by decide +kernel
theorem dX7_write_30 : decode cX7_write 30 = .ok (.isub, 1) := by decide +kernel
theorem dX7_write_31 : decode cX7_write 31 = .ok (.i2l, 1) := by decide +kernel
theorem dX7_write_32 : decode cX7_write 32 = .ok (.invokestatic 54, 3) := by decide +kernel
theorem dX7_write_35 : decode cX7_write 35 = .ok (.ifCond .ne 11, 3) := by decide +kernel
theorem dX7_write_38 : decode cX7_write 38 = .ok (.aload_n 0, 1) := by decide +kernel
theorem dX7_write_39 : decode cX7_write 39 = .ok (.ldc 53, 2) := by decide +kernel
theorem dX7_write_41 : decode cX7_write 41 = .ok (.invokevirtual 59, 3) := by decide +kernel
theorem dX7_write_44 : decode cX7_write 44 = .ok (.i2l, 1) := by decide +kernel
theorem dX7_write_45 : decode cX7_write 45 = .ok (.lreturn, 1) := by decide +kernel
theorem dX7_write_46 : decode cX7_write 46 = .ok (.aload_n 0, 1) := by decide +kernel
theorem dX7_write_47 : decode cX7_write 47 = .ok (.getfield 46, 3) := by decide +kernel
theorem dX7_write_50 : decode cX7_write 50 = .ok (.bipush 40, 2) := by decide +kernel
theorem dX7_write_52 : decode cX7_write 52 = .ok (.iload_n 1, 1) := by decide +kernel
theorem dX7_write_53 : decode cX7_write 53 = .ok (.imul, 1) := by decide +kernel
theorem dX7_write_54 : decode cX7_write 54 = .ok (.iload_n 2, 1) := by decide +kernel
theorem dX7_write_55 : decode cX7_write 55 = .ok (.iadd, 1) := by decide +kernel
theorem dX7_write_56 : decode cX7_write 56 = .ok (.laload, 1) := by decide +kernel
theorem dX7_write_57 : decode cX7_write 57 = .ok (.lstore 6, 2) := by decide +kernel
theorem dX7_write_59 : decode cX7_write 59 = .ok (.aload_n 0, 1) := by decide +kernel
theorem dX7_write_60 : decode cX7_write 60 = .ok (.getfield 46, 3) := by decide +kernel
theorem dX7_write_63 : decode cX7_write 63 = .ok (.bipush 40, 2) := by decide +kernel
theorem dX7_write_65 : decode cX7_write 65 = .ok (.iload_n 1, 1) := by decide +kernel
theorem dX7_write_66 : decode cX7_write 66 = .ok (.imul, 1) := by decide +kernel
theorem dX7_write_67 : decode cX7_write 67 = .ok (.iload_n 2, 1) := by decide +kernel
theorem dX7_write_68 : decode cX7_write 68 = .ok (.iadd, 1) := by decide +kernel
theorem dX7_write_69 : decode cX7_write 69 = .ok (.aload_n 0, 1) := by decide +kernel
theorem dX7_write_70 : decode cX7_write 70 = .ok (.getfield 40, 3) := by decide +kernel
theorem dX7_write_73 : decode cX7_write 73 = .ok (.iload_n 1, 1) := by decide +kernel
theorem dX7_write_74 : decode cX7_write 74 = .ok (.iaload, 1) := by decide +kernel
theorem dX7_write_75 : decode cX7_write 75 = .ok (.lload_n 3, 1) := by decide +kernel
theorem dX7_write_76 : decode cX7_write 76 = .ok (.invokestatic 268, 3) := by decide +kernel
theorem dX7_write_79 : decode cX7_write 79 = .ok (.lastore, 1) := by decide +kernel
theorem dX7_write_80 : decode cX7_write 80 = .ok (.lload 6, 2) := by decide +kernel
theorem dX7_write_82 : decode cX7_write 82 = .ok (.lreturn, 1) := by decide +kernel
theorem dX7_copy_0 : decode cX7_copy 0 = .ok (.iload_n 1, 1) := by decide +kernel
theorem dX7_copy_1 : decode cX7_copy 1 = .ok (.invokestatic 260, 3) := by decide +kernel
theorem dX7_copy_4 : decode cX7_copy 4 = .ok (.ifCond .eq 10, 3) := by decide +kernel
theorem dX7_copy_7 : decode cX7_copy 7 = .ok (.iload_n 3, 1) := by decide +kernel
theorem dX7_copy_8 : decode cX7_copy 8 = .ok (.invokestatic 260, 3) := by decide +kernel
theorem dX7_copy_11 : decode cX7_copy 11 = .ok (.ifCond .ne 10, 3) := by decide +kernel
theorem dX7_copy_14 : decode cX7_copy 14 = .ok (.aload_n 0, 1) := by decide +kernel
theorem dX7_copy_15 : decode cX7_copy 15 = .ok (.ldc 53, 2) := by decide +kernel
theorem dX7_copy_17 : decode cX7_copy 17 = .ok (.invokevirtual 59, 3) := by decide +kernel
theorem dX7_copy_20 : decode cX7_copy 20 = .ok (.ireturn, 1) := by decide +kernel
theorem dX7_copy_21 : decode cX7_copy 21 = .ok (.aload_n 0, 1) := by decide +kernel
theorem dX7_copy_22 : decode cX7_copy 22 = .ok (.getfield 40, 3) := by decide +kernel
theorem dX7_copy_25 : decode cX7_copy 25 = .ok (.iload_n 1, 1) := by decide +kernel
theorem dX7_copy_26 : decode cX7_copy 26 = .ok (.iaload, 1) := by decide +kernel
theorem dX7_copy_27 : decode cX7_copy 27 = .ok (.ifCond .eq 12, 3) := by decide +kernel
theorem dX7_copy_30 : decode cX7_copy 30 = .ok (.aload_n 0, 1) := by decide +kernel
theorem dX7_copy_31 : decode cX7_copy 31 = .ok (.getfield 40, 3) := by decide +kernel
theorem dX7_copy_34 : decode cX7_copy 34 = .ok (.iload_n 3, 1) := by decide +kernel
theorem dX7_copy_35 : decode cX7_copy 35 = .ok (.iaload, 1) := by decide +kernel
theorem dX7_copy_36 : decode cX7_copy 36 = .ok (.ifCond .ne 11, 3) := by decide +kernel
theorem dX7_copy_39 : decode cX7_copy 39 = .ok (.aload_n 0, 1) := by decide +kernel
theorem dX7_copy_40 : decode cX7_copy 40 = .ok (.ldc_w 264, 3) := by decide +kernel
theorem dX7_copy_43 : decode cX7_copy 43 = .ok (.invokevirtual 59, 3) := by decide +kernel
theorem dX7_copy_46 : decode cX7_copy 46 = .ok (.ireturn, 1) := by decide +kernel
theorem dX7_copy_47 : decode cX7_copy 47 = .ok (.aload_n 0, 1) := by decide +kernel
theorem dX7_copy_48 : decode cX7_copy 48 = .ok (.getfield 40, 3) := by decide +kernel
theorem dX7_copy_51 : decode cX7_copy 51 = .ok (.iload_n 1, 1) := by decide +kernel
theorem dX7_copy_52 : decode cX7_copy 52 = .ok (.iaload, 1) := by decide +kernel
theorem dX7_copy_53 : decode cX7_copy 53 = .ok (.aload_n 0, 1) := by decide +kernel
theorem dX7_copy_54 : decode cX7_copy 54 = .ok (.getfield 40, 3) := by decide +kernel
theorem dX7_copy_57 : decode cX7_copy 57 = .ok (.iload_n 3, 1) := by decide +kernel
theorem dX7_copy_58 : decode cX7_copy 58 = .ok (.iaload, 1) := by decide +kernel
theorem dX7_copy_59 : decode cX7_copy 59 = .ok (.if_icmp .eq 10, 3) := by decide +kernel
theorem dX7_copy_62 : decode cX7_copy 62 = .ok (.aload_n 0, 1) := by decide +kernel
theorem dX7_copy_63 : decode cX7_copy 63 = .ok (.ldc 99, 2) := by decide +kernel
theorem dX7_copy_65 : decode cX7_copy 65 = .ok (.invokevirtual 59, 3) := by decide +kernel
theorem dX7_copy_68 : decode cX7_copy 68 = .ok (.ireturn, 1) := by decide +kernel
theorem dX7_copy_69 : decode cX7_copy 69 = .ok (.iload_n 2, 1) := by decide +kernel
theorem dX7_copy_70 : decode cX7_copy 70 = .ok (.ifCond .lt 40, 3) := by decide +kernel
theorem dX7_copy_73 : decode cX7_copy 73 = .ok (.iload 4, 2) := by decide +kernel
theorem dX7_copy_75 : decode cX7_copy 75 = .ok (.ifCond .lt 35, 3) := by decide +kernel
theorem dX7_copy_78 : decode cX7_copy 78 = .ok (.iload 5, 2) := by decide +kernel
theorem dX7_copy_80 : decode cX7_copy 80 = .ok (.ifCond .lt 30, 3) := by decide +kernel
theorem dX7_copy_83 : decode cX7_copy 83 = .ok (.iload 5, 2) := by decide +kernel
theorem dX7_copy_85 : decode cX7_copy 85 = .ok (.aload_n 0, 1) := by decide +kernel
theorem dX7_copy_86 : decode cX7_copy 86 = .ok (.getfield 43, 3) := by decide +kernel
theorem dX7_copy_89 : decode cX7_copy 89 = .ok (.iload_n 1, 1) := by decide +kernel
theorem dX7_copy_90 : decode cX7_copy 90 = .ok (.iaload, 1) := by decide +kernel
theorem dX7_copy_91 : decode cX7_copy 91 = .ok (.iload_n 2, 1) := by decide +kernel
theorem dX7_copy_92 : decode cX7_copy 92 = .ok (.isub, 1) := by decide +kernel
theorem dX7_copy_93 : decode cX7_copy 93 = .ok (.if_icmp .gt 17, 3) := by decide +kernel
theorem dX7_copy_96 : decode cX7_copy 96 = .ok (.iload 5, 2) := by decide +kernel
theorem dX7_copy_98 : decode cX7_copy 98 = .ok (.aload_n 0, 1) := by decide +kernel
theorem dX7_copy_99 : decode cX7_copy 99 = .ok (.getfield 43, 3) := by decide +kernel
theorem dX7_copy_102 : decode cX7_copy 102 = .ok (.iload_n 3, 1) := by decide +kernel
theorem dX7_copy_103 : decode cX7_copy 103 = .ok (.iaload, 1) := by decide +kernel
theorem dX7_copy_104 : decode cX7_copy 104 = .ok (.iload 4, 2) := by decide +kernel
theorem dX7_copy_106 : decode cX7_copy 106 = .ok (.isub, 1) := by decide +kernel
theorem dX7_copy_107 : decode cX7_copy 107 = .ok (.if_icmp .le 10, 3) := by decide +kernel
theorem dX7_copy_110 : decode cX7_copy 110 = .ok (.aload_n 0, 1) := by decide +kernel
theorem dX7_copy_111 : decode cX7_copy 111 = .ok (.ldc 53, 2) := by decide +kernel
theorem dX7_copy_113 : decode cX7_copy 113 = .ok (.invokevirtual 59, 3) := by decide +kernel
theorem dX7_copy_116 : decode cX7_copy 116 = .ok (.ireturn, 1) := by decide +kernel
theorem dX7_copy_117 : decode cX7_copy 117 = .ok (.iconst 0, 1) := by decide +kernel
theorem dX7_copy_118 : decode cX7_copy 118 = .ok (.istore 6, 2) := by decide +kernel
theorem dX7_copy_120 : decode cX7_copy 120 = .ok (.iload 6, 2) := by decide +kernel
theorem dX7_copy_122 : decode cX7_copy 122 = .ok (.iload 5, 2) := by decide +kernel
theorem dX7_copy_124 : decode cX7_copy 124 = .ok (.if_icmp .ge 30, 3) := by decide +kernel
theorem dX7_copy_127 : decode cX7_copy 127 = .ok (.aload_n 0, 1) := by decide +kernel
theorem dX7_copy_128 : decode cX7_copy 128 = .ok (.getfield 50, 3) := by decide +kernel
theorem dX7_copy_131 : decode cX7_copy 131 = .ok (.iload 6, 2) := by decide +kernel
theorem dX7_copy_133 : decode cX7_copy 133 = .ok (.aload_n 0, 1) := by decide +kernel
theorem dX7_copy_134 : decode cX7_copy 134 = .ok (.getfield 46, 3) := by decide +kernel
theorem dX7_copy_137 : decode cX7_copy 137 = .ok (.bipush 40, 2) := by decide +kernel
theorem dX7_copy_139 : decode cX7_copy 139 = .ok (.iload_n 1, 1) := by decide +kernel
theorem dX7_copy_140 : decode cX7_copy 140 = .ok (.imul, 1) := by decide +kernel
theorem dX7_copy_141 : decode cX7_copy 141 = .ok (.iload_n 2, 1) := by decide +kernel
theorem dX7_copy_142 : decode cX7_copy 142 = .ok (.iadd, 1) := by decide +kernel
theorem dX7_copy_143 : decode cX7_copy 143 = .ok (.iload 6, 2) := by decide +kernel
theorem dX7_copy_145 : decode cX7_copy 145 = .ok (.iadd, 1) := by decide +kernel
theorem dX7_copy_146 : decode cX7_copy 146 = .ok (.laload, 1) := by decide +kernel
theorem dX7_copy_147 : decode cX7_copy 147 = .ok (.lastore, 1) := by decide +kernel
theorem dX7_copy_148 : decode cX7_copy 148 = .ok (.iinc 6 1, 3) := by decide +kernel
theorem dX7_copy_151 : decode cX7_copy 151 = .ok (.goto (-31), 3) := by decide +kernel
theorem dX7_copy_154 : decode cX7_copy 154 = .ok (.iconst 0, 1) := by decide +kernel
theorem dX7_copy_155 : decode cX7_copy 155 = .ok (.istore 6, 2) := by decide +kernel
theorem dX7_copy_157 : decode cX7_copy 157 = .ok (.iload 6, 2) := by decide +kernel
theorem dX7_copy_159 : decode cX7_copy 159 = .ok (.iload 5, 2) := by decide +kernel
theorem dX7_copy_161 : decode cX7_copy 161 = .ok (.if_icmp .ge 31, 3) := by decide +kernel
theorem dX7_copy_164 : decode cX7_copy 164 = .ok (.aload_n 0, 1) := by decide +kernel
theorem dX7_copy_165 : decode cX7_copy 165 = .ok (.getfield 46, 3) := by decide +kernel
theorem dX7_copy_168 : decode cX7_copy 168 = .ok (.bipush 40, 2) := by decide +kernel
theorem dX7_copy_170 : decode cX7_copy 170 = .ok (.iload_n 3, 1) := by decide +kernel
theorem dX7_copy_171 : decode cX7_copy 171 = .ok (.imul, 1) := by decide +kernel
theorem dX7_copy_172 : decode cX7_copy 172 = .ok (.iload 4, 2) := by decide +kernel
theorem dX7_copy_174 : decode cX7_copy 174 = .ok (.iadd, 1) := by decide +kernel
theorem dX7_copy_175 : decode cX7_copy 175 = .ok (.iload 6, 2) := by decide +kernel
theorem dX7_copy_177 : decode cX7_copy 177 = .ok (.iadd, 1) := by decide +kernel
theorem dX7_copy_178 : decode cX7_copy 178 = .ok (.aload_n 0, 1) := by decide +kernel
theorem dX7_copy_179 : decode cX7_copy 179 = .ok (.getfield 50, 3) := by decide +kernel
theorem dX7_copy_182 : decode cX7_copy 182 = .ok (.iload 6, 2) := by decide +kernel
theorem dX7_copy_184 : decode cX7_copy 184 = .ok (.laload, 1) := by decide +kernel
theorem dX7_copy_185 : decode cX7_copy 185 = .ok (.lastore, 1) := by decide +kernel
theorem dX7_copy_186 : decode cX7_copy 186 = .ok (.iinc 6 1, 3) := by decide +kernel
theorem dX7_copy_189 : decode cX7_copy 189 = .ok (.goto (-32), 3) := by decide +kernel
theorem dX7_copy_192 : decode cX7_copy 192 = .ok (.iload 5, 2) := by decide +kernel
theorem dX7_copy_194 : decode cX7_copy 194 = .ok (.ireturn, 1) := by decide +kernel
theorem dX7_sticks_0 : decode cX7_sticks 0 = .ok (.aload_n 0, 1) := by decide +kernel
theorem dX7_sticks_1 : decode cX7_sticks 1 = .ok (.iload_n 1, 1) := by decide +kernel
theorem dX7_sticks_2 : decode cX7_sticks 2 = .ok (.invokevirtual 265, 3) := by decide +kernel
theorem dX7_sticks_5 : decode cX7_sticks 5 = .ok (.istore_n 2, 1) := by decide +kernel
theorem dX7_sticks_6 : decode cX7_sticks 6 = .ok (.iload_n 2, 1) := by decide +kernel
theorem dX7_sticks_7 : decode cX7_sticks 7 = .ok (.ifCond .eq 9, 3) := by decide +kernel
theorem dX7_sticks_10 : decode cX7_sticks 10 = .ok (.aload_n 0, 1) := by decide +kernel
theorem dX7_sticks_11 : decode cX7_sticks 11 = .ok (.iload_n 2, 1) := by decide +kernel
theorem dX7_sticks_12 : decode cX7_sticks 12 = .ok (.invokevirtual 59, 3) := by decide +kernel
theorem dX7_sticks_15 : decode cX7_sticks 15 = .ok (.ireturn, 1) := by decide +kernel
theorem dX7_sticks_16 : decode cX7_sticks 16 = .ok (.aload_n 0, 1) := by decide +kernel
theorem dX7_sticks_17 : decode cX7_sticks 17 = .ok (.getfield 43, 3) := by decide +kernel
theorem dX7_sticks_20 : decode cX7_sticks 20 = .ok (.iload_n 1, 1) := by decide +kernel
theorem dX7_sticks_21 : decode cX7_sticks 21 = .ok (.iaload, 1) := by decide +kernel
theorem dX7_sticks_22 : decode cX7_sticks 22 = .ok (.aload_n 0, 1) := by decide +kernel
theorem dX7_sticks_23 : decode cX7_sticks 23 = .ok (.getfield 7, 3) := by decide +kernel
theorem dX7_sticks_26 : decode cX7_sticks 26 = .ok (.iconst 1, 1) := by decide +kernel
theorem dX7_sticks_27 : decode cX7_sticks 27 = .ok (.iaload, 1) := by decide +kernel
theorem dX7_sticks_28 : decode cX7_sticks 28 = .ok (.if_icmp .ge 12, 3) := by decide +kernel
theorem dX7_sticks_31 : decode cX7_sticks 31 = .ok (.aload_n 0, 1) := by decide +kernel
theorem dX7_sticks_32 : decode cX7_sticks 32 = .ok (.getfield 43, 3) := by decide +kernel
theorem dX7_sticks_35 : decode cX7_sticks 35 = .ok (.iload_n 1, 1) := by decide +kernel
theorem dX7_sticks_36 : decode cX7_sticks 36 = .ok (.iaload, 1) := by decide +kernel
theorem dX7_sticks_37 : decode cX7_sticks 37 = .ok (.goto 9, 3) := by decide +kernel
theorem dX7_sticks_40 : decode cX7_sticks 40 = .ok (.aload_n 0, 1) := by decide +kernel
theorem dX7_sticks_41 : decode cX7_sticks 41 = .ok (.getfield 7, 3) := by decide +kernel
theorem dX7_sticks_44 : decode cX7_sticks 44 = .ok (.iconst 1, 1) := by decide +kernel
theorem dX7_sticks_45 : decode cX7_sticks 45 = .ok (.iaload, 1) := by decide +kernel
theorem dX7_sticks_46 : decode cX7_sticks 46 = .ok (.istore_n 3, 1) := by decide +kernel
theorem dX7_sticks_47 : decode cX7_sticks 47 = .ok (.aload_n 0, 1) := by decide +kernel
theorem dX7_sticks_48 : decode cX7_sticks 48 = .ok (.invokevirtual 208, 3) := by decide +kernel
theorem dX7_sticks_51 : decode cX7_sticks 51 = .ok (.iconst 0, 1) := by decide +kernel
theorem dX7_sticks_52 : decode cX7_sticks 52 = .ok (.istore 4, 2) := by decide +kernel
theorem dX7_sticks_54 : decode cX7_sticks 54 = .ok (.iload 4, 2) := by decide +kernel
theorem dX7_sticks_56 : decode cX7_sticks 56 = .ok (.iload_n 3, 1) := by decide +kernel
theorem dX7_sticks_57 : decode cX7_sticks 57 = .ok (.if_icmp .ge 28, 3) := by decide +kernel
theorem dX7_sticks_60 : decode cX7_sticks 60 = .ok (.aload_n 0, 1) := by decide +kernel
theorem dX7_sticks_61 : decode cX7_sticks 61 = .ok (.getfield 46, 3) := by decide +kernel
theorem dX7_sticks_64 : decode cX7_sticks 64 = .ok (.bipush 40, 2) := by decide +kernel
theorem dX7_sticks_66 : decode cX7_sticks 66 = .ok (.iload_n 1, 1) := by decide +kernel
theorem dX7_sticks_67 : decode cX7_sticks 67 = .ok (.imul, 1) := by decide +kernel
theorem dX7_sticks_68 : decode cX7_sticks 68 = .ok (.iload 4, 2) := by decide +kernel
theorem dX7_sticks_70 : decode cX7_sticks 70 = .ok (.iadd, 1) := by decide +kernel
theorem dX7_sticks_71 : decode cX7_sticks 71 = .ok (.aload_n 0, 1) := by decide +kernel
theorem dX7_sticks_72 : decode cX7_sticks 72 = .ok (.iload 4, 2) := by decide +kernel
theorem dX7_sticks_74 : decode cX7_sticks 74 = .ok (.invokevirtual 223, 3) := by decide +kernel
theorem dX7_sticks_77 : decode cX7_sticks 77 = .ok (.i2l, 1) := by decide +kernel
theorem dX7_sticks_78 : decode cX7_sticks 78 = .ok (.lastore, 1) := by decide +kernel
theorem dX7_sticks_79 : decode cX7_sticks 79 = .ok (.iinc 4 1, 3) := by decide +kernel
theorem dX7_sticks_82 : decode cX7_sticks 82 = .ok (.goto (-28), 3) := by decide +kernel
theorem dX7_sticks_85 : decode cX7_sticks 85 = .ok (.iload_n 3, 1) := by decide +kernel
theorem dX7_sticks_86 : decode cX7_sticks 86 = .ok (.ireturn, 1) := by decide +kernel
theorem dX7_lays_0 : decode cX7_lays 0 = .ok (.aload_n 0, 1) := by decide +kernel
theorem dX7_lays_1 : decode cX7_lays 1 = .ok (.iload_n 1, 1) := by decide +kernel
theorem dX7_lays_2 : decode cX7_lays 2 = .ok (.invokevirtual 265, 3) := by decide +kernel
theorem dX7_lays_5 : decode cX7_lays 5 = .ok (.istore_n 2, 1) := by decide +kernel
theorem dX7_lays_6 : decode cX7_lays 6 = .ok (.iload_n 2, 1) := by decide +kernel
theorem dX7_lays_7 : decode cX7_lays 7 = .ok (.ifCond .eq 9, 3) := by decide +kernel
theorem dX7_lays_10 : decode cX7_lays 10 = .ok (.aload_n 0, 1) := by decide +kernel
theorem dX7_lays_11 : decode cX7_lays 11 = .ok (.iload_n 2, 1) := by decide +kernel
theorem dX7_lays_12 : decode cX7_lays 12 = .ok (.invokevirtual 59, 3) := by decide +kernel
theorem dX7_lays_15 : decode cX7_lays 15 = .ok (.ireturn, 1) := by decide +kernel
theorem dX7_lays_16 : decode cX7_lays 16 = .ok (.iconst 0, 1) := by decide +kernel
theorem dX7_lays_17 : decode cX7_lays 17 = .ok (.istore_n 3, 1) := by decide +kernel
theorem dX7_lays_18 : decode cX7_lays 18 = .ok (.iconst 0, 1) := by decide +kernel
theorem dX7_lays_19 : decode cX7_lays 19 = .ok (.istore 4, 2) := by decide +kernel
theorem dX7_lays_21 : decode cX7_lays 21 = .ok (.iload 4, 2) := by decide +kernel
theorem dX7_lays_23 : decode cX7_lays 23 = .ok (.aload_n 0, 1) := by decide +kernel
theorem dX7_lays_24 : decode cX7_lays 24 = .ok (.getfield 43, 3) := by decide +kernel
theorem dX7_lays_27 : decode cX7_lays 27 = .ok (.iload_n 1, 1) := by decide +kernel
theorem dX7_lays_28 : decode cX7_lays 28 = .ok (.iaload, 1) := by decide +kernel
theorem dX7_lays_29 : decode cX7_lays 29 = .ok (.if_icmp .ge 67, 3) := by decide +kernel
theorem dX7_lays_32 : decode cX7_lays 32 = .ok (.iload 4, 2) := by decide +kernel
theorem dX7_lays_34 : decode cX7_lays 34 = .ok (.aload_n 0, 1) := by decide +kernel
theorem dX7_lays_35 : decode cX7_lays 35 = .ok (.getfield 7, 3) := by decide +kernel
theorem dX7_lays_38 : decode cX7_lays 38 = .ok (.iconst 1, 1) := by decide +kernel
theorem dX7_lays_39 : decode cX7_lays 39 = .ok (.iaload, 1) := by decide +kernel
theorem dX7_lays_40 : decode cX7_lays 40 = .ok (.if_icmp .ge 56, 3) := by decide +kernel
theorem dX7_lays_43 : decode cX7_lays 43 = .ok (.aload_n 0, 1) := by decide +kernel
theorem dX7_lays_44 : decode cX7_lays 44 = .ok (.getfield 46, 3) := by decide +kernel
theorem dX7_lays_47 : decode cX7_lays 47 = .ok (.bipush 40, 2) := by decide +kernel
theorem dX7_lays_49 : decode cX7_lays 49 = .ok (.iload_n 1, 1) := by decide +kernel
theorem dX7_lays_50 : decode cX7_lays 50 = .ok (.imul, 1) := by decide +kernel
theorem dX7_lays_51 : decode cX7_lays 51 = .ok (.iload 4, 2) := by decide +kernel
theorem dX7_lays_53 : decode cX7_lays 53 = .ok (.iadd, 1) := by decide +kernel
theorem dX7_lays_54 : decode cX7_lays 54 = .ok (.laload, 1) := by decide +kernel
theorem dX7_lays_55 : decode cX7_lays 55 = .ok (.lstore 5, 2) := by decide +kernel
theorem dX7_lays_57 : decode cX7_lays 57 = .ok (.lload 5, 2) := by decide +kernel
theorem dX7_lays_59 : decode cX7_lays 59 = .ok (.lconst 0, 1) := by decide +kernel
theorem dX7_lays_60 : decode cX7_lays 60 = .ok (.ldc2_w 94, 3) := by decide +kernel
theorem dX7_lays_63 : decode cX7_lays 63 = .ok (.invokestatic 54, 3) := by decide +kernel
theorem dX7_lays_66 : decode cX7_lays 66 = .ok (.ifCond .eq 24, 3) := by decide +kernel
theorem dX7_lays_69 : decode cX7_lays 69 = .ok (.aload_n 0, 1) := by decide +kernel
theorem dX7_lays_70 : decode cX7_lays 70 = .ok (.getfield 7, 3) := by decide +kernel
theorem dX7_lays_73 : decode cX7_lays 73 = .ok (.bipush 9, 2) := by decide +kernel
theorem dX7_lays_75 : decode cX7_lays 75 = .ok (.bipush 8, 2) := by decide +kernel
theorem dX7_lays_77 : decode cX7_lays 77 = .ok (.iload 4, 2) := by decide +kernel
theorem dX7_lays_79 : decode cX7_lays 79 = .ok (.imul, 1) := by decide +kernel
theorem dX7_lays_80 : decode cX7_lays 80 = .ok (.iadd, 1) := by decide +kernel
theorem dX7_lays_81 : decode cX7_lays 81 = .ok (.iconst 3, 1) := by decide +kernel
theorem dX7_lays_82 : decode cX7_lays 82 = .ok (.iadd, 1) := by decide +kernel
theorem dX7_lays_83 : decode cX7_lays 83 = .ok (.lload 5, 2) := by decide +kernel
theorem dX7_lays_85 : decode cX7_lays 85 = .ok (.l2i, 1) := by decide +kernel
theorem dX7_lays_86 : decode cX7_lays 86 = .ok (.iastore, 1) := by decide +kernel
theorem dX7_lays_87 : decode cX7_lays 87 = .ok (.iinc 3 1, 3) := by decide +kernel
theorem dX7_lays_90 : decode cX7_lays 90 = .ok (.iinc 4 1, 3) := by decide +kernel
theorem dX7_lays_93 : decode cX7_lays 93 = .ok (.goto (-72), 3) := by decide +kernel
theorem dX7_lays_96 : decode cX7_lays 96 = .ok (.iload_n 3, 1) := by decide +kernel
theorem dX7_lays_97 : decode cX7_lays 97 = .ok (.ireturn, 1) := by decide +kernel
theorem dX7_read_0 : decode cX7_read 0 = .ok (.aload_n 0, 1) := by decide +kernel
theorem dX7_read_1 : decode cX7_read 1 = .ok (.iload_n 1, 1) := by decide +kernel
theorem dX7_read_2 : decode cX7_read 2 = .ok (.invokevirtual 265, 3) := by decide +kernel
theorem dX7_read_5 : decode cX7_read 5 = .ok (.istore_n 2, 1) := by decide +kernel
theorem dX7_read_6 : decode cX7_read 6 = .ok (.iload_n 2, 1) := by decide +kernel
theorem dX7_read_7 : decode cX7_read 7 = .ok (.ifCond .eq 9, 3) := by decide +kernel
theorem dX7_read_10 : decode cX7_read 10 = .ok (.aload_n 0, 1) := by decide +kernel
theorem dX7_read_11 : decode cX7_read 11 = .ok (.iload_n 2, 1) := by decide +kernel
theorem dX7_read_12 : decode cX7_read 12 = .ok (.invokevirtual 59, 3) := by decide +kernel
theorem dX7_read_15 : decode cX7_read 15 = .ok (.ireturn, 1) := by decide +kernel
theorem dX7_read_16 : decode cX7_read 16 = .ok (.aload_n 0, 1) := by decide +kernel
theorem dX7_read_17 : decode cX7_read 17 = .ok (.invokevirtual 208, 3) := by decide +kernel
theorem dX7_read_20 : decode cX7_read 20 = .ok (.iconst 0, 1) := by decide +kernel
theorem dX7_read_21 : decode cX7_read 21 = .ok (.istore_n 3, 1) := by decide +kernel
theorem dX7_read_22 : decode cX7_read 22 = .ok (.iload_n 3, 1) := by decide +kernel
theorem dX7_read_23 : decode cX7_read 23 = .ok (.aload_n 0, 1) := by decide +kernel
theorem dX7_read_24 : decode cX7_read 24 = .ok (.getfield 43, 3) := by decide +kernel
theorem dX7_read_27 : decode cX7_read 27 = .ok (.iload_n 1, 1) := by decide +kernel
theorem dX7_read_28 : decode cX7_read 28 = .ok (.iaload, 1) := by decide +kernel
theorem dX7_read_29 : decode cX7_read 29 = .ok (.if_icmp .ge 42, 3) := by decide +kernel
theorem dX7_read_32 : decode cX7_read 32 = .ok (.aload_n 0, 1) := by decide +kernel
theorem dX7_read_33 : decode cX7_read 33 = .ok (.iload_n 3, 1) := by decide +kernel
theorem dX7_read_34 : decode cX7_read 34 = .ok (.invokevirtual 83, 3) := by decide +kernel
theorem dX7_read_37 : decode cX7_read 37 = .ok (.ifCond .eq 24, 3) := by decide +kernel
theorem dX7_read_40 : decode cX7_read 40 = .ok (.aload_n 0, 1) := by decide +kernel
theorem dX7_read_41 : decode cX7_read 41 = .ok (.getfield 46, 3) := by decide +kernel
theorem dX7_read_44 : decode cX7_read 44 = .ok (.bipush 40, 2) := by decide +kernel
theorem dX7_read_46 : decode cX7_read 46 = .ok (.iload_n 1, 1) := by decide +kernel
theorem dX7_read_47 : decode cX7_read 47 = .ok (.imul, 1) := by decide +kernel
theorem dX7_read_48 : decode cX7_read 48 = .ok (.iload_n 3, 1) := by decide +kernel
theorem dX7_read_49 : decode cX7_read 49 = .ok (.iadd, 1) := by decide +kernel
theorem dX7_read_50 : decode cX7_read 50 = .ok (.laload, 1) := by decide +kernel
theorem dX7_read_51 : decode cX7_read 51 = .ok (.aload_n 0, 1) := by decide +kernel
theorem dX7_read_52 : decode cX7_read 52 = .ok (.iload_n 3, 1) := by decide +kernel
theorem dX7_read_53 : decode cX7_read 53 = .ok (.invokevirtual 211, 3) := by decide +kernel
theorem dX7_read_56 : decode cX7_read 56 = .ok (.i2l, 1) := by decide +kernel
theorem dX7_read_57 : decode cX7_read 57 = .ok (.lcmp, 1) := by decide +kernel
theorem dX7_read_58 : decode cX7_read 58 = .ok (.ifCond .eq 7, 3) := by decide +kernel
theorem dX7_read_61 : decode cX7_read 61 = .ok (.iload_n 3, 1) := by decide +kernel
theorem dX7_read_62 : decode cX7_read 62 = .ok (.iconst 1, 1) := by decide +kernel
theorem dX7_read_63 : decode cX7_read 63 = .ok (.iadd, 1) := by decide +kernel
theorem dX7_read_64 : decode cX7_read 64 = .ok (.ireturn, 1) := by decide +kernel
theorem dX7_read_65 : decode cX7_read 65 = .ok (.iinc 3 1, 3) := by decide +kernel
theorem dX7_read_68 : decode cX7_read 68 = .ok (.goto (-46), 3) := by decide +kernel
theorem dX7_read_71 : decode cX7_read 71 = .ok (.iconst 0, 1) := by decide +kernel
theorem dX7_read_72 : decode cX7_read 72 = .ok (.ireturn, 1) := by decide +kernel
theorem dX7_image_0 : decode cX7_image 0 = .ok (.iconst 0, 1) := by decide +kernel
theorem dX7_image_1 : decode cX7_image 1 = .ok (.istore_n 1, 1) := by decide +kernel
theorem dX7_image_2 : decode cX7_image 2 = .ok (.iload_n 1, 1) := by decide +kernel
theorem dX7_image_3 : decode cX7_image 3 = .ok (.sipush 169, 3) := by decide +kernel
theorem dX7_image_6 : decode cX7_image 6 = .ok (.if_icmp .ge 21, 3) := by decide +kernel
theorem dX7_image_9 : decode cX7_image 9 = .ok (.aload_n 0, 1) := by decide +kernel
theorem dX7_image_10 : decode cX7_image 10 = .ok (.getfield 13, 3) := by decide +kernel
theorem dX7_image_13 : decode cX7_image 13 = .ok (.iload_n 1, 1) := by decide +kernel
theorem dX7_image_14 : decode cX7_image 14 = .ok (.aload_n 0, 1) := by decide +kernel
theorem dX7_image_15 : decode cX7_image 15 = .ok (.getfield 7, 3) := by decide +kernel
theorem dX7_image_18 : decode cX7_image 18 = .ok (.iload_n 1, 1) := by decide +kernel
theorem dX7_image_19 : decode cX7_image 19 = .ok (.iaload, 1) := by decide +kernel
theorem dX7_image_20 : decode cX7_image 20 = .ok (.iastore, 1) := by decide +kernel
theorem dX7_image_21 : decode cX7_image 21 = .ok (.iinc 1 1, 3) := by decide +kernel
theorem dX7_image_24 : decode cX7_image 24 = .ok (.goto (-22), 3) := by decide +kernel
theorem dX7_image_27 : decode cX7_image 27 = .ok (.aload_n 0, 1) := by decide +kernel
theorem dX7_image_28 : decode cX7_image 28 = .ok (.iconst 1, 1) := by decide +kernel
theorem dX7_image_29 : decode cX7_image 29 = .ok (.putfield 272, 3) := by decide +kernel
theorem dX7_image_32 : decode cX7_image 32 = .ok (.iconst 1, 1) := by decide +kernel
theorem dX7_image_33 : decode cX7_image 33 = .ok (.ireturn, 1) := by decide +kernel
theorem dX7_undo_0 : decode cX7_undo 0 = .ok (.aload_n 0, 1) := by decide +kernel
theorem dX7_undo_1 : decode cX7_undo 1 = .ok (.getfield 272, 3) := by decide +kernel
theorem dX7_undo_4 : decode cX7_undo 4 = .ok (.ifCond .ne 10, 3) := by decide +kernel
theorem dX7_undo_7 : decode cX7_undo 7 = .ok (.aload_n 0, 1) := by decide +kernel
theorem dX7_undo_8 : decode cX7_undo 8 = .ok (.ldc 230, 2) := by decide +kernel
theorem dX7_undo_10 : decode cX7_undo 10 = .ok (.invokevirtual 59, 3) := by decide +kernel
theorem dX7_undo_13 : decode cX7_undo 13 = .ok (.ireturn, 1) := by decide +kernel
theorem dX7_undo_14 : decode cX7_undo 14 = .ok (.iconst 0, 1) := by decide +kernel
theorem dX7_undo_15 : decode cX7_undo 15 = .ok (.istore_n 1, 1) := by decide +kernel
theorem dX7_undo_16 : decode cX7_undo 16 = .ok (.iload_n 1, 1) := by decide +kernel
theorem dX7_undo_17 : decode cX7_undo 17 = .ok (.sipush 169, 3) := by decide +kernel
theorem dX7_undo_20 : decode cX7_undo 20 = .ok (.if_icmp .ge 21, 3) := by decide +kernel
theorem dX7_undo_23 : decode cX7_undo 23 = .ok (.aload_n 0, 1) := by decide +kernel
theorem dX7_undo_24 : decode cX7_undo 24 = .ok (.getfield 7, 3) := by decide +kernel
theorem dX7_undo_27 : decode cX7_undo 27 = .ok (.iload_n 1, 1) := by decide +kernel
theorem dX7_undo_28 : decode cX7_undo 28 = .ok (.aload_n 0, 1) := by decide +kernel
theorem dX7_undo_29 : decode cX7_undo 29 = .ok (.getfield 13, 3) := by decide +kernel
theorem dX7_undo_32 : decode cX7_undo 32 = .ok (.iload_n 1, 1) := by decide +kernel
theorem dX7_undo_33 : decode cX7_undo 33 = .ok (.iaload, 1) := by decide +kernel
theorem dX7_undo_34 : decode cX7_undo 34 = .ok (.iastore, 1) := by decide +kernel
theorem dX7_undo_35 : decode cX7_undo 35 = .ok (.iinc 1 1, 3) := by decide +kernel
theorem dX7_undo_38 : decode cX7_undo 38 = .ok (.goto (-22), 3) := by decide +kernel
theorem dX7_undo_41 : decode cX7_undo 41 = .ok (.aload_n 0, 1) := by decide +kernel
theorem dX7_undo_42 : decode cX7_undo 42 = .ok (.getfield 7, 3) := by decide +kernel
theorem dX7_undo_45 : decode cX7_undo 45 = .ok (.iconst 1, 1) := by decide +kernel
theorem dX7_undo_46 : decode cX7_undo 46 = .ok (.iaload, 1) := by decide +kernel
theorem dX7_undo_47 : decode cX7_undo 47 = .ok (.ireturn, 1) := by decide +kernel
theorem dX7_tear_0 : decode cX7_tear 0 = .ok (.aload_n 0, 1) := by decide +kernel
theorem dX7_tear_1 : decode cX7_tear 1 = .ok (.getfield 272, 3) := by decide +kernel
theorem dX7_tear_4 : decode cX7_tear 4 = .ok (.ifCond .eq 7, 3) := by decide +kernel
theorem dX7_tear_7 : decode cX7_tear 7 = .ok (.iconst 1, 1) := by decide +kernel
theorem dX7_tear_8 : decode cX7_tear 8 = .ok (.goto 4, 3) := by decide +kernel
theorem dX7_tear_11 : decode cX7_tear 11 = .ok (.iconst 0, 1) := by decide +kernel
theorem dX7_tear_12 : decode cX7_tear 12 = .ok (.istore_n 1, 1) := by decide +kernel
theorem dX7_tear_13 : decode cX7_tear 13 = .ok (.aload_n 0, 1) := by decide +kernel
theorem dX7_tear_14 : decode cX7_tear 14 = .ok (.iconst 0, 1) := by decide +kernel
theorem dX7_tear_15 : decode cX7_tear 15 = .ok (.putfield 272, 3) := by decide +kernel
theorem dX7_tear_18 : decode cX7_tear 18 = .ok (.iload_n 1, 1) := by decide +kernel
theorem dX7_tear_19 : decode cX7_tear 19 = .ok (.ireturn, 1) := by decide +kernel
theorem dX7_count_0 : decode cX7_count 0 = .ok (.iconst 0, 1) := by decide +kernel
theorem dX7_count_1 : decode cX7_count 1 = .ok (.istore_n 2, 1) := by decide +kernel
theorem dX7_count_2 : decode cX7_count 2 = .ok (.iload_n 1, 1) := by decide +kernel
theorem dX7_count_3 : decode cX7_count 3 = .ok (.tableswitch 174 0 6 #[41, 48, 55, 87, 92, 100, 129], 41) := by decide +kernel
theorem dX7_count_44 : decode cX7_count 44 = .ok (.aload_n 0, 1) := by decide +kernel
theorem dX7_count_45 : decode cX7_count 45 = .ok (.getfield 7, 3) := by decide +kernel
theorem dX7_count_48 : decode cX7_count 48 = .ok (.iconst 0, 1) := by decide +kernel
theorem dX7_count_49 : decode cX7_count 49 = .ok (.iaload, 1) := by decide +kernel
theorem dX7_count_50 : decode cX7_count 50 = .ok (.ireturn, 1) := by decide +kernel
theorem dX7_count_51 : decode cX7_count 51 = .ok (.aload_n 0, 1) := by decide +kernel
theorem dX7_count_52 : decode cX7_count 52 = .ok (.getfield 7, 3) := by decide +kernel
theorem dX7_count_55 : decode cX7_count 55 = .ok (.iconst 1, 1) := by decide +kernel
theorem dX7_count_56 : decode cX7_count 56 = .ok (.iaload, 1) := by decide +kernel
theorem dX7_count_57 : decode cX7_count 57 = .ok (.ireturn, 1) := by decide +kernel
theorem dX7_count_58 : decode cX7_count 58 = .ok (.iconst 0, 1) := by decide +kernel
theorem dX7_count_59 : decode cX7_count 59 = .ok (.istore_n 3, 1) := by decide +kernel
theorem dX7_count_60 : decode cX7_count 60 = .ok (.iload_n 3, 1) := by decide +kernel
theorem dX7_count_61 : decode cX7_count 61 = .ok (.aload_n 0, 1) := by decide +kernel
theorem dX7_count_62 : decode cX7_count 62 = .ok (.getfield 7, 3) := by decide +kernel
theorem dX7_count_65 : decode cX7_count 65 = .ok (.iconst 1, 1) := by decide +kernel
theorem dX7_count_66 : decode cX7_count 66 = .ok (.iaload, 1) := by decide +kernel
theorem dX7_count_67 : decode cX7_count 67 = .ok (.if_icmp .ge 21, 3) := by decide +kernel
theorem dX7_count_70 : decode cX7_count 70 = .ok (.iload_n 2, 1) := by decide +kernel
theorem dX7_count_71 : decode cX7_count 71 = .ok (.iconst 1, 1) := by decide +kernel
theorem dX7_count_72 : decode cX7_count 72 = .ok (.aload_n 0, 1) := by decide +kernel
theorem dX7_count_73 : decode cX7_count 73 = .ok (.iload_n 3, 1) := by decide +kernel
theorem dX7_count_74 : decode cX7_count 74 = .ok (.bipush 7, 2) := by decide +kernel
theorem dX7_count_76 : decode cX7_count 76 = .ok (.invokevirtual 79, 3) := by decide +kernel
theorem dX7_count_79 : decode cX7_count 79 = .ok (.isub, 1) := by decide +kernel
theorem dX7_count_80 : decode cX7_count 80 = .ok (.iadd, 1) := by decide +kernel
theorem dX7_count_81 : decode cX7_count 81 = .ok (.istore_n 2, 1) := by decide +kernel
theorem dX7_count_82 : decode cX7_count 82 = .ok (.iinc 3 1, 3) := by decide +kernel
theorem dX7_count_85 : decode cX7_count 85 = .ok (.goto (-25), 3) := by decide +kernel
theorem dX7_count_88 : decode cX7_count 88 = .ok (.iload_n 2, 1) := by decide +kernel
theorem dX7_count_89 : decode cX7_count 89 = .ok (.ireturn, 1) := by decide +kernel
theorem dX7_count_90 : decode cX7_count 90 = .ok (.aload_n 0, 1) := by decide +kernel
theorem dX7_count_91 : decode cX7_count 91 = .ok (.getfield 108, 3) := by decide +kernel
theorem dX7_count_94 : decode cX7_count 94 = .ok (.ireturn, 1) := by decide +kernel
theorem dX7_count_95 : decode cX7_count 95 = .ok (.aload_n 0, 1) := by decide +kernel
theorem dX7_count_96 : decode cX7_count 96 = .ok (.getfield 7, 3) := by decide +kernel
theorem dX7_count_99 : decode cX7_count 99 = .ok (.bipush 8, 2) := by decide +kernel
theorem dX7_count_101 : decode cX7_count 101 = .ok (.iaload, 1) := by decide +kernel
theorem dX7_count_102 : decode cX7_count 102 = .ok (.ireturn, 1) := by decide +kernel
theorem dX7_count_103 : decode cX7_count 103 = .ok (.iconst 0, 1) := by decide +kernel
theorem dX7_count_104 : decode cX7_count 104 = .ok (.istore_n 3, 1) := by decide +kernel
theorem dX7_count_105 : decode cX7_count 105 = .ok (.iload_n 3, 1) := by decide +kernel
theorem dX7_count_106 : decode cX7_count 106 = .ok (.aload_n 0, 1) := by decide +kernel
theorem dX7_count_107 : decode cX7_count 107 = .ok (.getfield 7, 3) := by decide +kernel
theorem dX7_count_110 : decode cX7_count 110 = .ok (.iconst 1, 1) := by decide +kernel
theorem dX7_count_111 : decode cX7_count 111 = .ok (.iaload, 1) := by decide +kernel
theorem dX7_count_112 : decode cX7_count 112 = .ok (.if_icmp .ge 18, 3) := by decide +kernel
theorem dX7_count_115 : decode cX7_count 115 = .ok (.iload_n 2, 1) := by decide +kernel
theorem dX7_count_116 : decode cX7_count 116 = .ok (.aload_n 0, 1) := by decide +kernel
theorem dX7_count_117 : decode cX7_count 117 = .ok (.iload_n 3, 1) := by decide +kernel
theorem dX7_count_118 : decode cX7_count 118 = .ok (.iconst 3, 1) := by decide +kernel
theorem dX7_count_119 : decode cX7_count 119 = .ok (.invokevirtual 79, 3) := by decide +kernel
theorem dX7_count_122 : decode cX7_count 122 = .ok (.iadd, 1) := by decide +kernel
theorem dX7_count_123 : decode cX7_count 123 = .ok (.istore_n 2, 1) := by decide +kernel
theorem dX7_count_124 : decode cX7_count 124 = .ok (.iinc 3 1, 3) := by decide +kernel
theorem dX7_count_127 : decode cX7_count 127 = .ok (.goto (-22), 3) := by decide +kernel
theorem dX7_count_130 : decode cX7_count 130 = .ok (.iload_n 2, 1) := by decide +kernel
theorem dX7_count_131 : decode cX7_count 131 = .ok (.ireturn, 1) := by decide +kernel
theorem dX7_count_132 : decode cX7_count 132 = .ok (.iconst 0, 1) := by decide +kernel
theorem dX7_count_133 : decode cX7_count 133 = .ok (.istore_n 3, 1) := by decide +kernel
theorem dX7_count_134 : decode cX7_count 134 = .ok (.iload_n 3, 1) := by decide +kernel
theorem dX7_count_135 : decode cX7_count 135 = .ok (.aload_n 0, 1) := by decide +kernel
theorem dX7_count_136 : decode cX7_count 136 = .ok (.getfield 7, 3) := by decide +kernel
theorem dX7_count_139 : decode cX7_count 139 = .ok (.iconst 1, 1) := by decide +kernel
theorem dX7_count_140 : decode cX7_count 140 = .ok (.iaload, 1) := by decide +kernel
theorem dX7_count_141 : decode cX7_count 141 = .ok (.if_icmp .ge 34, 3) := by decide +kernel
theorem dX7_count_144 : decode cX7_count 144 = .ok (.iload_n 2, 1) := by decide +kernel
theorem dX7_count_145 : decode cX7_count 145 = .ok (.aload_n 0, 1) := by decide +kernel
theorem dX7_count_146 : decode cX7_count 146 = .ok (.iload_n 3, 1) := by decide +kernel
theorem dX7_count_147 : decode cX7_count 147 = .ok (.bipush 7, 2) := by decide +kernel
theorem dX7_count_149 : decode cX7_count 149 = .ok (.invokevirtual 79, 3) := by decide +kernel
theorem dX7_count_152 : decode cX7_count 152 = .ok (.iconst 1, 1) := by decide +kernel
theorem dX7_count_153 : decode cX7_count 153 = .ok (.if_icmp .ne 7, 3) := by decide +kernel
theorem dX7_count_156 : decode cX7_count 156 = .ok (.iconst 0, 1) := by decide +kernel
theorem dX7_count_157 : decode cX7_count 157 = .ok (.goto 10, 3) := by decide +kernel
theorem dX7_count_160 : decode cX7_count 160 = .ok (.aload_n 0, 1) := by decide +kernel
theorem dX7_count_161 : decode cX7_count 161 = .ok (.iload_n 3, 1) := by decide +kernel
theorem dX7_count_162 : decode cX7_count 162 = .ok (.bipush 6, 2) := by decide +kernel
theorem dX7_count_164 : decode cX7_count 164 = .ok (.invokevirtual 79, 3) := by decide +kernel
theorem dX7_count_167 : decode cX7_count 167 = .ok (.iadd, 1) := by decide +kernel
theorem dX7_count_168 : decode cX7_count 168 = .ok (.istore_n 2, 1) := by decide +kernel
theorem dX7_count_169 : decode cX7_count 169 = .ok (.iinc 3 1, 3) := by decide +kernel
theorem dX7_count_172 : decode cX7_count 172 = .ok (.goto (-38), 3) := by decide +kernel
theorem dX7_count_175 : decode cX7_count 175 = .ok (.iload_n 2, 1) := by decide +kernel
theorem dX7_count_176 : decode cX7_count 176 = .ok (.ireturn, 1) := by decide +kernel
theorem dX7_count_177 : decode cX7_count 177 = .ok (.aload_n 0, 1) := by decide +kernel
theorem dX7_count_178 : decode cX7_count 178 = .ok (.ldc 53, 2) := by decide +kernel
theorem dX7_count_180 : decode cX7_count 180 = .ok (.invokevirtual 59, 3) := by decide +kernel
theorem dX7_count_183 : decode cX7_count 183 = .ok (.ireturn, 1) := by decide +kernel
theorem dX7_status_0 : decode cX7_status 0 = .ok (.iload_n 1, 1) := by decide +kernel
theorem dX7_status_1 : decode cX7_status 1 = .ok (.i2l, 1) := by decide +kernel
theorem dX7_status_2 : decode cX7_status 2 = .ok (.ldc2_w 275, 3) := by decide +kernel
theorem dX7_status_5 : decode cX7_status 5 = .ok (.ldc2_w 277, 3) := by decide +kernel
theorem dX7_status_8 : decode cX7_status 8 = .ok (.invokestatic 54, 3) := by decide +kernel
theorem dX7_status_11 : decode cX7_status 11 = .ok (.ifCond .ne 10, 3) := by decide +kernel
theorem dX7_status_14 : decode cX7_status 14 = .ok (.aload_n 0, 1) := by decide +kernel
theorem dX7_status_15 : decode cX7_status 15 = .ok (.ldc 53, 2) := by decide +kernel
theorem dX7_status_17 : decode cX7_status 17 = .ok (.invokevirtual 59, 3) := by decide +kernel
theorem dX7_status_20 : decode cX7_status 20 = .ok (.ireturn, 1) := by decide +kernel
theorem dX7_status_21 : decode cX7_status 21 = .ok (.iconst 0, 1) := by decide +kernel
theorem dX7_status_22 : decode cX7_status 22 = .ok (.istore_n 2, 1) := by decide +kernel
theorem dX7_status_23 : decode cX7_status 23 = .ok (.iconst 0, 1) := by decide +kernel
theorem dX7_status_24 : decode cX7_status 24 = .ok (.istore_n 3, 1) := by decide +kernel
theorem dX7_status_25 : decode cX7_status 25 = .ok (.iload_n 3, 1) := by decide +kernel
theorem dX7_status_26 : decode cX7_status 26 = .ok (.bipush 7, 2) := by decide +kernel
theorem dX7_status_28 : decode cX7_status 28 = .ok (.if_icmp .ge 31, 3) := by decide +kernel
theorem dX7_status_31 : decode cX7_status 31 = .ok (.iload_n 2, 1) := by decide +kernel
theorem dX7_status_32 : decode cX7_status 32 = .ok (.iload_n 1, 1) := by decide +kernel
theorem dX7_status_33 : decode cX7_status 33 = .ok (.ifCond .lt 8, 3) := by decide +kernel
theorem dX7_status_36 : decode cX7_status 36 = .ok (.iload_n 3, 1) := by decide +kernel
theorem dX7_status_37 : decode cX7_status 37 = .ok (.iload_n 1, 1) := by decide +kernel
theorem dX7_status_38 : decode cX7_status 38 = .ok (.if_icmp .ne 12, 3) := by decide +kernel
theorem dX7_status_41 : decode cX7_status 41 = .ok (.aload_n 0, 1) := by decide +kernel
theorem dX7_status_42 : decode cX7_status 42 = .ok (.getfield 19, 3) := by decide +kernel
theorem dX7_status_45 : decode cX7_status 45 = .ok (.iload_n 3, 1) := by decide +kernel
theorem dX7_status_46 : decode cX7_status 46 = .ok (.iaload, 1) := by decide +kernel
theorem dX7_status_47 : decode cX7_status 47 = .ok (.goto 4, 3) := by decide +kernel
theorem dX7_status_50 : decode cX7_status 50 = .ok (.iconst 0, 1) := by decide +kernel
theorem dX7_status_51 : decode cX7_status 51 = .ok (.iadd, 1) := by decide +kernel
theorem dX7_status_52 : decode cX7_status 52 = .ok (.istore_n 2, 1) := by decide +kernel
theorem dX7_status_53 : decode cX7_status 53 = .ok (.iinc 3 1, 3) := by decide +kernel
theorem dX7_status_56 : decode cX7_status 56 = .ok (.goto (-31), 3) := by decide +kernel
theorem dX7_status_59 : decode cX7_status 59 = .ok (.iload_n 2, 1) := by decide +kernel
theorem dX7_status_60 : decode cX7_status 60 = .ok (.ireturn, 1) := by decide +kernel
