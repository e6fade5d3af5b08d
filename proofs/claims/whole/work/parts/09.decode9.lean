theorem dX9_init_0 : decode cX9_init 0 = .ok (.aload_n 0, 1) := by decide +kernel
theorem dX9_init_1 : decode cX9_init 1 = .ok (.invokespecial 1, 3) := by decide +kernel
theorem dX9_init_4 : decode cX9_init 4 = .ok (.aload_n 0, 1) := by decide +kernel
theorem dX9_init_5 : decode cX9_init 5 = .ok (.sipush 1776, 3) := by decide +kernel
theorem dX9_init_8 : decode cX9_init 8 = .ok (.newarray .int, 2) := by decide +kernel
theorem dX9_init_10 : decode cX9_init 10 = .ok (.putfield 7, 3) := by decide +kernel
theorem dX9_init_13 : decode cX9_init 13 = .ok (.aload_n 0, 1) := by decide +kernel
theorem dX9_init_14 : decode cX9_init 14 = .ok (.bipush 6, 2) := by decide +kernel
theorem dX9_init_16 : decode cX9_init 16 = .ok (.newarray .int, 2) := by decide +kernel
theorem dX9_init_18 : decode cX9_init 18 = .ok (.putfield 13, 3) := by decide +kernel
theorem dX9_init_21 : decode cX9_init 21 = .ok (.aload_n 0, 1) := by decide +kernel
theorem dX9_init_22 : decode cX9_init 22 = .ok (.sipush 240, 3) := by decide +kernel
theorem dX9_init_25 : decode cX9_init 25 = .ok (.newarray .int, 2) := by decide +kernel
theorem dX9_init_27 : decode cX9_init 27 = .ok (.putfield 16, 3) := by decide +kernel
theorem dX9_init_30 : decode cX9_init 30 = .ok (.aload_n 0, 1) := by decide +kernel
theorem dX9_init_31 : decode cX9_init 31 = .ok (.iconst 4, 1) := by decide +kernel
theorem dX9_init_32 : decode cX9_init 32 = .ok (.newarray .int, 2) := by decide +kernel
theorem dX9_init_34 : decode cX9_init 34 = .ok (.putfield 19, 3) := by decide +kernel
theorem dX9_init_37 : decode cX9_init 37 = .ok (.aload_n 0, 1) := by decide +kernel
theorem dX9_init_38 : decode cX9_init 38 = .ok (.sipush 240, 3) := by decide +kernel
theorem dX9_init_41 : decode cX9_init 41 = .ok (.newarray .int, 2) := by decide +kernel
theorem dX9_init_43 : decode cX9_init 43 = .ok (.putfield 22, 3) := by decide +kernel
theorem dX9_init_46 : decode cX9_init 46 = .ok (.aload_n 0, 1) := by decide +kernel
theorem dX9_init_47 : decode cX9_init 47 = .ok (.bipush 6, 2) := by decide +kernel
theorem dX9_init_49 : decode cX9_init 49 = .ok (.newarray .int, 2) := by decide +kernel
theorem dX9_init_51 : decode cX9_init 51 = .ok (.putfield 25, 3) := by decide +kernel
theorem dX9_init_54 : decode cX9_init 54 = .ok (.aload_n 0, 1) := by decide +kernel
theorem dX9_init_55 : decode cX9_init 55 = .ok (.lconst 1, 1) := by decide +kernel
theorem dX9_init_56 : decode cX9_init 56 = .ok (.putfield 28, 3) := by decide +kernel
theorem dX9_init_59 : decode cX9_init 59 = .ok (.aload_n 0, 1) := by decide +kernel
theorem dX9_init_60 : decode cX9_init 60 = .ok (.bipush 40, 2) := by decide +kernel
theorem dX9_init_62 : decode cX9_init 62 = .ok (.newarray .int, 2) := by decide +kernel
theorem dX9_init_64 : decode cX9_init 64 = .ok (.putfield 32, 3) := by decide +kernel
theorem dX9_init_67 : decode cX9_init 67 = .ok (.aload_n 0, 1) := by decide +kernel
theorem dX9_init_68 : decode cX9_init 68 = .ok (.bipush 40, 2) := by decide +kernel
theorem dX9_init_70 : decode cX9_init 70 = .ok (.newarray .int, 2) := by decide +kernel
theorem dX9_init_72 : decode cX9_init 72 = .ok (.putfield 35, 3) := by decide +kernel
theorem dX9_init_75 : decode cX9_init 75 = .ok (.aload_n 0, 1) := by decide +kernel
theorem dX9_init_76 : decode cX9_init 76 = .ok (.bipush 10, 2) := by decide +kernel
theorem dX9_init_78 : decode cX9_init 78 = .ok (.newarray .int, 2) := by decide +kernel
theorem dX9_init_80 : decode cX9_init 80 = .ok (.putfield 38, 3) := by decide +kernel
theorem dX9_init_83 : decode cX9_init 83 = .ok (.aload_n 0, 1) := by decide +kernel
theorem dX9_init_84 : decode cX9_init 84 = .ok (.bipush 6, 2) := by decide +kernel
theorem dX9_init_86 : decode cX9_init 86 = .ok (.newarray .int, 2) := by decide +kernel
theorem dX9_init_88 : decode cX9_init 88 = .ok (.putfield 41, 3) := by decide +kernel
theorem dX9_init_91 : decode cX9_init 91 = .ok (.aload_n 0, 1) := by decide +kernel
theorem dX9_init_92 : decode cX9_init 92 = .ok (.iconst 5, 1) := by decide +kernel
theorem dX9_init_93 : decode cX9_init 93 = .ok (.newarray .int, 2) := by decide +kernel
theorem dX9_init_95 : decode cX9_init 95 = .ok (.putfield 44, 3) := by decide +kernel
theorem dX9_init_98 : decode cX9_init 98 = .ok (.aload_n 0, 1) := by decide +kernel
theorem dX9_init_99 : decode cX9_init 99 = .ok (.iconst 5, 1) := by decide +kernel
theorem dX9_init_100 : decode cX9_init 100 = .ok (.newarray .int, 2) := by decide +kernel
theorem dX9_init_102 : decode cX9_init 102 = .ok (.putfield 47, 3) := by decide +kernel
theorem dX9_init_105 : decode cX9_init 105 = .ok (.aload_n 0, 1) := by decide +kernel
theorem dX9_init_106 : decode cX9_init 106 = .ok (.iconst 5, 1) := by decide +kernel
theorem dX9_init_107 : decode cX9_init 107 = .ok (.newarray .int, 2) := by decide +kernel
theorem dX9_init_109 : decode cX9_init 109 = .ok (.putfield 50, 3) := by decide +kernel
theorem dX9_init_112 : decode cX9_init 112 = .ok (.iconst 0, 1) := by decide +kernel
theorem dX9_init_113 : decode cX9_init 113 = .ok (.istore_n 1, 1) := by decide +kernel
theorem dX9_init_114 : decode cX9_init 114 = .ok (.iload_n 1, 1) := by decide +kernel
theorem dX9_init_115 : decode cX9_init 115 = .ok (.bipush 6, 2) := by decide +kernel
theorem dX9_init_117 : decode cX9_init 117 = .ok (.if_icmp .ge 16, 3) := by decide +kernel
theorem dX9_init_120 : decode cX9_init 120 = .ok (.aload_n 0, 1) := by decide +kernel
theorem dX9_init_121 : decode cX9_init 121 = .ok (.getfield 13, 3) := by decide +kernel
theorem dX9_init_124 : decode cX9_init 124 = .ok (.iload_n 1, 1) := by decide +kernel
theorem dX9_init_125 : decode cX9_init 125 = .ok (.iconst (-1), 1) := by decide +kernel
theorem dX9_init_126 : decode cX9_init 126 = .ok (.iastore, 1) := by decide +kernel
theorem dX9_init_127 : decode cX9_init 127 = .ok (.iinc 1 1, 3) := by decide +kernel
theorem dX9_init_130 : decode cX9_init 130 = .ok (.goto (-16), 3) := by decide +kernel
theorem dX9_init_133 : decode cX9_init 133 = .ok (.iconst 0, 1) := by decide +kernel
theorem dX9_init_134 : decode cX9_init 134 = .ok (.istore_n 1, 1) := by decide +kernel
theorem dX9_init_135 : decode cX9_init 135 = .ok (.iload_n 1, 1) := by decide +kernel
theorem dX9_init_136 : decode cX9_init 136 = .ok (.iconst 4, 1) := by decide +kernel
theorem dX9_init_137 : decode cX9_init 137 = .ok (.if_icmp .ge 16, 3) := by decide +kernel
theorem dX9_init_140 : decode cX9_init 140 = .ok (.aload_n 0, 1) := by decide +kernel
theorem dX9_init_141 : decode cX9_init 141 = .ok (.getfield 19, 3) := by decide +kernel
theorem dX9_init_144 : decode cX9_init 144 = .ok (.iload_n 1, 1) := by decide +kernel
theorem dX9_init_145 : decode cX9_init 145 = .ok (.iconst (-1), 1) := by decide +kernel
theorem dX9_init_146 : decode cX9_init 146 = .ok (.iastore, 1) := by decide +kernel
theorem dX9_init_147 : decode cX9_init 147 = .ok (.iinc 1 1, 3) := by decide +kernel
theorem dX9_init_150 : decode cX9_init 150 = .ok (.goto (-15), 3) := by decide +kernel
theorem dX9_init_153 : decode cX9_init 153 = .ok (.return_, 1) := by decide +kernel
theorem dX9_in_0 : decode cX9_in 0 = .ok (.lload_n 0, 1) := by decide +kernel
theorem dX9_in_1 : decode cX9_in 1 = .ok (.lload_n 2, 1) := by decide +kernel
theorem dX9_in_2 : decode cX9_in 2 = .ok (.lcmp, 1) := by decide +kernel
theorem dX9_in_3 : decode cX9_in 3 = .ok (.ifCond .lt 14, 3) := by decide +kernel
theorem dX9_in_6 : decode cX9_in 6 = .ok (.lload_n 0, 1) := by decide +kernel
theorem dX9_in_7 : decode cX9_in 7 = .ok (.lload 4, 2) := by decide +kernel
theorem dX9_in_9 : decode cX9_in 9 = .ok (.lcmp, 1) := by decide +kernel
theorem dX9_in_10 : decode cX9_in 10 = .ok (.ifCond .gt 7, 3) := by decide +kernel
theorem dX9_in_13 : decode cX9_in 13 = .ok (.iconst 1, 1) := by decide +kernel
theorem dX9_in_14 : decode cX9_in 14 = .ok (.goto 4, 3) := by decide +kernel
theorem dX9_in_17 : decode cX9_in 17 = .ok (.iconst 0, 1) := by decide +kernel
theorem dX9_in_18 : decode cX9_in 18 = .ok (.ireturn, 1) := by decide +kernel
theorem dX9_has_0 : decode cX9_has 0 = .ok (.iload_n 0, 1) := by decide +kernel
theorem dX9_has_1 : decode cX9_has 1 = .ok (.iload_n 1, 1) := by decide +kernel
theorem dX9_has_2 : decode cX9_has 2 = .ok (.ishr, 1) := by decide +kernel
theorem dX9_has_3 : decode cX9_has 3 = .ok (.iconst 1, 1) := by decide +kernel
theorem dX9_has_4 : decode cX9_has 4 = .ok (.iand, 1) := by decide +kernel
theorem dX9_has_5 : decode cX9_has 5 = .ok (.iconst 1, 1) := by decide +kernel
theorem dX9_has_6 : decode cX9_has 6 = .ok (.if_icmp .ne 7, 3) := by decide +kernel
theorem dX9_has_9 : decode cX9_has 9 = .ok (.iconst 1, 1) := by decide +kernel
theorem dX9_has_10 : decode cX9_has 10 = .ok (.goto 4, 3) := by decide +kernel
theorem dX9_has_13 : decode cX9_has 13 = .ok (.iconst 0, 1) := by decide +kernel
theorem dX9_has_14 : decode cX9_has 14 = .ok (.ireturn, 1) := by decide +kernel
theorem dX9_ones_0 : decode cX9_ones 0 = .ok (.iconst 0, 1) := by decide +kernel
theorem dX9_ones_1 : decode cX9_ones 1 = .ok (.istore_n 1, 1) := by decide +kernel
theorem dX9_ones_2 : decode cX9_ones 2 = .ok (.iconst 0, 1) := by decide +kernel
theorem dX9_ones_3 : decode cX9_ones 3 = .ok (.istore_n 2, 1) := by decide +kernel
theorem dX9_ones_4 : decode cX9_ones 4 = .ok (.iload_n 2, 1) := by decide +kernel
theorem dX9_ones_5 : decode cX9_ones 5 = .ok (.bipush 8, 2) := by decide +kernel
theorem dX9_ones_7 : decode cX9_ones 7 = .ok (.if_icmp .ge 17, 3) := by decide +kernel
theorem dX9_ones_10 : decode cX9_ones 10 = .ok (.iload_n 1, 1) := by decide +kernel
theorem dX9_ones_11 : decode cX9_ones 11 = .ok (.iload_n 0, 1) := by decide +kernel
theorem dX9_ones_12 : decode cX9_ones 12 = .ok (.iload_n 2, 1) := by decide +kernel
theorem dX9_ones_13 : decode cX9_ones 13 = .ok (.ishr, 1) := by decide +kernel
theorem dX9_ones_14 : decode cX9_ones 14 = .ok (.iconst 1, 1) := by decide +kernel
theorem dX9_ones_15 : decode cX9_ones 15 = .ok (.iand, 1) := by decide +kernel
theorem dX9_ones_16 : decode cX9_ones 16 = .ok (.iadd, 1) := by decide +kernel
theorem dX9_ones_17 : decode cX9_ones 17 = .ok (.istore_n 1, 1) := by decide +kernel
theorem dX9_ones_18 : decode cX9_ones 18 = .ok (.iinc 2 1, 3) := by decide +kernel
theorem dX9_ones_21 : decode cX9_ones 21 = .ok (.goto (-17), 3) := by decide +kernel
theorem dX9_ones_24 : decode cX9_ones 24 = .ok (.iload_n 1, 1) := by decide +kernel
theorem dX9_ones_25 : decode cX9_ones 25 = .ok (.ireturn, 1) := by decide +kernel
theorem dX9_finds_0 : decode cX9_finds 0 = .ok (.aload_n 0, 1) := by decide +kernel
theorem dX9_finds_1 : decode cX9_finds 1 = .ok (.iload_n 1, 1) := by decide +kernel
theorem dX9_finds_2 : decode cX9_finds 2 = .ok (.putfield 53, 3) := by decide +kernel
theorem dX9_finds_5 : decode cX9_finds 5 = .ok (.aload_n 0, 1) := by decide +kernel
theorem dX9_finds_6 : decode cX9_finds 6 = .ok (.getfield 25, 3) := by decide +kernel
theorem dX9_finds_9 : decode cX9_finds 9 = .ok (.iload_n 1, 1) := by decide +kernel
theorem dX9_finds_10 : decode cX9_finds 10 = .ok (.dup2, 1) := by decide +kernel
theorem dX9_finds_11 : decode cX9_finds 11 = .ok (.iaload, 1) := by decide +kernel
theorem dX9_finds_12 : decode cX9_finds 12 = .ok (.iconst 1, 1) := by decide +kernel
theorem dX9_finds_13 : decode cX9_finds 13 = .ok (.iadd, 1) := by decide +kernel
theorem dX9_finds_14 : decode cX9_finds 14 = .ok (.iastore, 1) := by decide +kernel
theorem dX9_finds_15 : decode cX9_finds 15 = .ok (.bipush (-3), 2) := by decide +kernel
theorem dX9_finds_17 : decode cX9_finds 17 = .ok (.ireturn, 1) := by decide +kernel
theorem dX9_tells_0 : decode cX9_tells 0 = .ok (.aload_n 0, 1) := by decide +kernel
theorem dX9_tells_1 : decode cX9_tells 1 = .ok (.iload_n 1, 1) := by decide +kernel
theorem dX9_tells_2 : decode cX9_tells 2 = .ok (.putfield 57, 3) := by decide +kernel
theorem dX9_tells_5 : decode cX9_tells 5 = .ok (.iconst 1, 1) := by decide +kernel
theorem dX9_tells_6 : decode cX9_tells 6 = .ok (.ireturn, 1) := by decide +kernel
theorem dX9_bring_0 : decode cX9_bring 0 = .ok (.iconst 0, 1) := by decide +kernel
theorem dX9_bring_1 : decode cX9_bring 1 = .ok (.istore_n 3, 1) := by decide +kernel
theorem dX9_bring_2 : decode cX9_bring 2 = .ok (.iload_n 3, 1) := by decide +kernel
theorem dX9_bring_3 : decode cX9_bring 3 = .ok (.sipush 444, 3) := by decide +kernel
theorem dX9_bring_6 : decode cX9_bring 6 = .ok (.if_icmp .ge 25, 3) := by decide +kernel
theorem dX9_bring_9 : decode cX9_bring 9 = .ok (.aload_n 0, 1) := by decide +kernel
theorem dX9_bring_10 : decode cX9_bring 10 = .ok (.getfield 7, 3) := by decide +kernel
theorem dX9_bring_13 : decode cX9_bring 13 = .ok (.iload_n 2, 1) := by decide +kernel
theorem dX9_bring_14 : decode cX9_bring 14 = .ok (.iload_n 3, 1) := by decide +kernel
theorem dX9_bring_15 : decode cX9_bring 15 = .ok (.iadd, 1) := by decide +kernel
theorem dX9_bring_16 : decode cX9_bring 16 = .ok (.aload_n 0, 1) := by decide +kernel
theorem dX9_bring_17 : decode cX9_bring 17 = .ok (.getfield 7, 3) := by decide +kernel
theorem dX9_bring_20 : decode cX9_bring 20 = .ok (.iload_n 1, 1) := by decide +kernel
theorem dX9_bring_21 : decode cX9_bring 21 = .ok (.iload_n 3, 1) := by decide +kernel
theorem dX9_bring_22 : decode cX9_bring 22 = .ok (.iadd, 1) := by decide +kernel
theorem dX9_bring_23 : decode cX9_bring 23 = .ok (.iaload, 1) := by decide +kernel
theorem dX9_bring_24 : decode cX9_bring 24 = .ok (.iastore, 1) := by decide +kernel
theorem dX9_bring_25 : decode cX9_bring 25 = .ok (.iinc 3 1, 3) := by decide +kernel
theorem dX9_bring_28 : decode cX9_bring 28 = .ok (.goto (-26), 3) := by decide +kernel
theorem dX9_bring_31 : decode cX9_bring 31 = .ok (.return_, 1) := by decide +kernel
theorem dX9_isRow_0 : decode cX9_isRow 0 = .ok (.iload_n 0, 1) := by decide +kernel
theorem dX9_isRow_1 : decode cX9_isRow 1 = .ok (.i2l, 1) := by decide +kernel
theorem dX9_isRow_2 : decode cX9_isRow 2 = .ok (.lconst 0, 1) := by decide +kernel
theorem dX9_isRow_3 : decode cX9_isRow 3 = .ok (.ldc2_w 60, 3) := by decide +kernel
theorem dX9_isRow_6 : decode cX9_isRow 6 = .ok (.invokestatic 62, 3) := by decide +kernel
theorem dX9_isRow_9 : decode cX9_isRow 9 = .ok (.ireturn, 1) := by decide +kernel
theorem dX9_isText_0 : decode cX9_isText 0 = .ok (.iload_n 0, 1) := by decide +kernel
theorem dX9_isText_1 : decode cX9_isText 1 = .ok (.i2l, 1) := by decide +kernel
theorem dX9_isText_2 : decode cX9_isText 2 = .ok (.lconst 0, 1) := by decide +kernel
theorem dX9_isText_3 : decode cX9_isText 3 = .ok (.ldc2_w 66, 3) := by decide +kernel
theorem dX9_isText_6 : decode cX9_isText 6 = .ok (.invokestatic 62, 3) := by decide +kernel
theorem dX9_isText_9 : decode cX9_isText 9 = .ok (.ireturn, 1) := by decide +kernel
theorem dX9_isLight_0 : decode cX9_isLight 0 = .ok (.iload_n 1, 1) := by decide +kernel
theorem dX9_isLight_1 : decode cX9_isLight 1 = .ok (.i2l, 1) := by decide +kernel
theorem dX9_isLight_2 : decode cX9_isLight 2 = .ok (.lconst 0, 1) := by decide +kernel
theorem dX9_isLight_3 : decode cX9_isLight 3 = .ok (.aload_n 0, 1) := by decide +kernel
theorem dX9_isLight_4 : decode cX9_isLight 4 = .ok (.getfield 7, 3) := by decide +kernel
theorem dX9_isLight_7 : decode cX9_isLight 7 = .ok (.iconst 0, 1) := by decide +kernel
theorem dX9_isLight_8 : decode cX9_isLight 8 = .ok (.iaload, 1) := by decide +kernel
theorem dX9_isLight_9 : decode cX9_isLight 9 = .ok (.iconst 1, 1) := by decide +kernel
theorem dX9_isLight_10 : decode cX9_isLight 10 = .ok (.isub, 1) := by decide +kernel
theorem dX9_isLight_11 : decode cX9_isLight 11 = .ok (.i2l, 1) := by decide +kernel
theorem dX9_isLight_12 : decode cX9_isLight 12 = .ok (.invokestatic 62, 3) := by decide +kernel
theorem dX9_isLight_15 : decode cX9_isLight 15 = .ok (.ireturn, 1) := by decide +kernel
theorem dX9_isPlace_0 : decode cX9_isPlace 0 = .ok (.iload_n 0, 1) := by decide +kernel
theorem dX9_isPlace_1 : decode cX9_isPlace 1 = .ok (.i2l, 1) := by decide +kernel
theorem dX9_isPlace_2 : decode cX9_isPlace 2 = .ok (.lconst 0, 1) := by decide +kernel
theorem dX9_isPlace_3 : decode cX9_isPlace 3 = .ok (.ldc2_w 68, 3) := by decide +kernel
theorem dX9_isPlace_6 : decode cX9_isPlace 6 = .ok (.invokestatic 62, 3) := by decide +kernel
theorem dX9_isPlace_9 : decode cX9_isPlace 9 = .ok (.ireturn, 1) := by decide +kernel
theorem dX9_row_0 : decode cX9_row 0 = .ok (.iload_n 1, 1) := by decide +kernel
theorem dX9_row_1 : decode cX9_row 1 = .ok (.invokestatic 70, 3) := by decide +kernel
theorem dX9_row_4 : decode cX9_row 4 = .ok (.ifCond .eq 9, 3) := by decide +kernel
theorem dX9_row_7 : decode cX9_row 7 = .ok (.iload_n 2, 1) := by decide +kernel
theorem dX9_row_8 : decode cX9_row 8 = .ok (.bipush 40, 2) := by decide +kernel
theorem dX9_row_10 : decode cX9_row 10 = .ok (.if_icmp .le 5, 3) := by decide +kernel
theorem dX9_row_13 : decode cX9_row 13 = .ok (.iconst (-1), 1) := by decide +kernel
theorem dX9_row_14 : decode cX9_row 14 = .ok (.ireturn, 1) := by decide +kernel
theorem dX9_row_15 : decode cX9_row 15 = .ok (.iload_n 2, 1) := by decide +kernel
theorem dX9_row_16 : decode cX9_row 16 = .ok (.ifCond .ge 9, 3) := by decide +kernel
theorem dX9_row_19 : decode cX9_row 19 = .ok (.aload_n 0, 1) := by decide +kernel
theorem dX9_row_20 : decode cX9_row 20 = .ok (.iconst 5, 1) := by decide +kernel
theorem dX9_row_21 : decode cX9_row 21 = .ok (.invokevirtual 74, 3) := by decide +kernel
theorem dX9_row_24 : decode cX9_row 24 = .ok (.ireturn, 1) := by decide +kernel
theorem dX9_row_25 : decode cX9_row 25 = .ok (.aload_n 0, 1) := by decide +kernel
theorem dX9_row_26 : decode cX9_row 26 = .ok (.getfield 13, 3) := by decide +kernel
theorem dX9_row_29 : decode cX9_row 29 = .ok (.iload_n 1, 1) := by decide +kernel
theorem dX9_row_30 : decode cX9_row 30 = .ok (.iload_n 2, 1) := by decide +kernel
theorem dX9_row_31 : decode cX9_row 31 = .ok (.iastore, 1) := by decide +kernel
theorem dX9_row_32 : decode cX9_row 32 = .ok (.iconst 0, 1) := by decide +kernel
theorem dX9_row_33 : decode cX9_row 33 = .ok (.istore_n 3, 1) := by decide +kernel
theorem dX9_row_34 : decode cX9_row 34 = .ok (.iload_n 3, 1) := by decide +kernel
theorem dX9_row_35 : decode cX9_row 35 = .ok (.bipush 40, 2) := by decide +kernel
theorem dX9_row_37 : decode cX9_row 37 = .ok (.if_icmp .ge 21, 3) := by decide +kernel
theorem dX9_row_40 : decode cX9_row 40 = .ok (.aload_n 0, 1) := by decide +kernel
theorem dX9_row_41 : decode cX9_row 41 = .ok (.getfield 16, 3) := by decide +kernel
theorem dX9_row_44 : decode cX9_row 44 = .ok (.bipush 40, 2) := by decide +kernel
theorem dX9_row_46 : decode cX9_row 46 = .ok (.iload_n 1, 1) := by decide +kernel
theorem dX9_row_47 : decode cX9_row 47 = .ok (.imul, 1) := by decide +kernel
theorem dX9_row_48 : decode cX9_row 48 = .ok (.iload_n 3, 1) := by decide +kernel
theorem dX9_row_49 : decode cX9_row 49 = .ok (.iadd, 1) := by decide +kernel
theorem dX9_row_50 : decode cX9_row 50 = .ok (.iconst 0, 1) := by decide +kernel
theorem dX9_row_51 : decode cX9_row 51 = .ok (.iastore, 1) := by decide +kernel
theorem dX9_row_52 : decode cX9_row 52 = .ok (.iinc 3 1, 3) := by decide +kernel
theorem dX9_row_55 : decode cX9_row 55 = .ok (.goto (-21), 3) := by decide +kernel
theorem dX9_row_58 : decode cX9_row 58 = .ok (.iload_n 2, 1) := by decide +kernel
theorem dX9_row_59 : decode cX9_row 59 = .ok (.ireturn, 1) := by decide +kernel
theorem dX9_lay_0 : decode cX9_lay 0 = .ok (.iload_n 1, 1) := by decide +kernel
theorem dX9_lay_1 : decode cX9_lay 1 = .ok (.invokestatic 70, 3) := by decide +kernel
theorem dX9_lay_4 : decode cX9_lay 4 = .ok (.ifCond .ne 5, 3) := by decide +kernel
theorem dX9_lay_7 : decode cX9_lay 7 = .ok (.iconst (-1), 1) := by decide +kernel
theorem dX9_lay_8 : decode cX9_lay 8 = .ok (.ireturn, 1) := by decide +kernel
theorem dX9_lay_9 : decode cX9_lay 9 = .ok (.aload_n 0, 1) := by decide +kernel
theorem dX9_lay_10 : decode cX9_lay 10 = .ok (.getfield 13, 3) := by decide +kernel
theorem dX9_lay_13 : decode cX9_lay 13 = .ok (.iload_n 1, 1) := by decide +kernel
theorem dX9_lay_14 : decode cX9_lay 14 = .ok (.iaload, 1) := by decide +kernel
theorem dX9_lay_15 : decode cX9_lay 15 = .ok (.ifCond .ge 9, 3) := by decide +kernel
theorem dX9_lay_18 : decode cX9_lay 18 = .ok (.aload_n 0, 1) := by decide +kernel
theorem dX9_lay_19 : decode cX9_lay 19 = .ok (.iconst 1, 1) := by decide +kernel
theorem dX9_lay_20 : decode cX9_lay 20 = .ok (.invokevirtual 74, 3) := by decide +kernel
theorem dX9_lay_23 : decode cX9_lay 23 = .ok (.ireturn, 1) := by decide +kernel
theorem dX9_lay_24 : decode cX9_lay 24 = .ok (.iload_n 2, 1) := by decide +kernel
theorem dX9_lay_25 : decode cX9_lay 25 = .ok (.i2l, 1) := by decide +kernel
theorem dX9_lay_26 : decode cX9_lay 26 = .ok (.lconst 0, 1) := by decide +kernel
theorem dX9_lay_27 : decode cX9_lay 27 = .ok (.aload_n 0, 1) := by decide +kernel
theorem dX9_lay_28 : decode cX9_lay 28 = .ok (.getfield 13, 3) := by decide +kernel
theorem dX9_lay_31 : decode cX9_lay 31 = .ok (.iload_n 1, 1) := by decide +kernel
theorem dX9_lay_32 : decode cX9_lay 32 = .ok (.iaload, 1) := by decide +kernel
theorem dX9_lay_33 : decode cX9_lay 33 = .ok (.iconst 1, 1) := by decide +kernel
theorem dX9_lay_34 : decode cX9_lay 34 = .ok (.isub, 1) := by decide +kernel
theorem dX9_lay_35 : decode cX9_lay 35 = .ok (.i2l, 1) := by decide +kernel
theorem dX9_lay_36 : decode cX9_lay 36 = .ok (.invokestatic 62, 3) := by decide +kernel
theorem dX9_lay_39 : decode cX9_lay 39 = .ok (.ifCond .ne 9, 3) := by decide +kernel
theorem dX9_lay_42 : decode cX9_lay 42 = .ok (.aload_n 0, 1) := by decide +kernel
theorem dX9_lay_43 : decode cX9_lay 43 = .ok (.iconst 2, 1) := by decide +kernel
theorem dX9_lay_44 : decode cX9_lay 44 = .ok (.invokevirtual 74, 3) := by decide +kernel
theorem dX9_lay_47 : decode cX9_lay 47 = .ok (.ireturn, 1) := by decide +kernel
theorem dX9_lay_48 : decode cX9_lay 48 = .ok (.aload_n 0, 1) := by decide +kernel
theorem dX9_lay_49 : decode cX9_lay 49 = .ok (.getfield 16, 3) := by decide +kernel
theorem dX9_lay_52 : decode cX9_lay 52 = .ok (.bipush 40, 2) := by decide +kernel
theorem dX9_lay_54 : decode cX9_lay 54 = .ok (.iload_n 1, 1) := by decide +kernel
theorem dX9_lay_55 : decode cX9_lay 55 = .ok (.imul, 1) := by decide +kernel
theorem dX9_lay_56 : decode cX9_lay 56 = .ok (.iload_n 2, 1) := by decide +kernel
theorem dX9_lay_57 : decode cX9_lay 57 = .ok (.iadd, 1) := by decide +kernel
theorem dX9_lay_58 : decode cX9_lay 58 = .ok (.iaload, 1) := by decide +kernel
theorem dX9_lay_59 : decode cX9_lay 59 = .ok (.istore 4, 2) := by decide +kernel
theorem dX9_lay_61 : decode cX9_lay 61 = .ok (.aload_n 0, 1) := by decide +kernel
theorem dX9_lay_62 : decode cX9_lay 62 = .ok (.getfield 16, 3) := by decide +kernel
theorem dX9_lay_65 : decode cX9_lay 65 = .ok (.bipush 40, 2) := by decide +kernel
theorem dX9_lay_67 : decode cX9_lay 67 = .ok (.iload_n 1, 1) := by decide +kernel
theorem dX9_lay_68 : decode cX9_lay 68 = .ok (.imul, 1) := by decide +kernel
theorem dX9_lay_69 : decode cX9_lay 69 = .ok (.iload_n 2, 1) := by decide +kernel
theorem dX9_lay_70 : decode cX9_lay 70 = .ok (.iadd, 1) := by decide +kernel
theorem dX9_lay_71 : decode cX9_lay 71 = .ok (.iload_n 3, 1) := by decide +kernel
theorem dX9_lay_72 : decode cX9_lay 72 = .ok (.iastore, 1) := by decide +kernel
theorem dX9_lay_73 : decode cX9_lay 73 = .ok (.aload_n 0, 1) := by decide +kernel
theorem dX9_lay_74 : decode cX9_lay 74 = .ok (.iload 4, 2) := by decide +kernel
theorem dX9_lay_76 : decode cX9_lay 76 = .ok (.invokevirtual 77, 3) := by decide +kernel
theorem dX9_lay_79 : decode cX9_lay 79 = .ok (.ireturn, 1) := by decide +kernel
theorem dX9_at_0 : decode cX9_at 0 = .ok (.iload_n 1, 1) := by decide +kernel
theorem dX9_at_1 : decode cX9_at 1 = .ok (.invokestatic 70, 3) := by decide +kernel
theorem dX9_at_4 : decode cX9_at 4 = .ok (.ifCond .ne 5, 3) := by decide +kernel
theorem dX9_at_7 : decode cX9_at 7 = .ok (.iconst (-1), 1) := by decide +kernel
theorem dX9_at_8 : decode cX9_at 8 = .ok (.ireturn, 1) := by decide +kernel
theorem dX9_at_9 : decode cX9_at 9 = .ok (.aload_n 0, 1) := by decide +kernel
theorem dX9_at_10 : decode cX9_at 10 = .ok (.getfield 13, 3) := by decide +kernel
theorem dX9_at_13 : decode cX9_at 13 = .ok (.iload_n 1, 1) := by decide +kernel
theorem dX9_at_14 : decode cX9_at 14 = .ok (.iaload, 1) := by decide +kernel
theorem dX9_at_15 : decode cX9_at 15 = .ok (.ifCond .ge 9, 3) := by decide +kernel
theorem dX9_at_18 : decode cX9_at 18 = .ok (.aload_n 0, 1) := by decide +kernel
theorem dX9_at_19 : decode cX9_at 19 = .ok (.iconst 1, 1) := by decide +kernel
theorem dX9_at_20 : decode cX9_at 20 = .ok (.invokevirtual 74, 3) := by decide +kernel
theorem dX9_at_23 : decode cX9_at 23 = .ok (.ireturn, 1) := by decide +kernel
theorem dX9_at_24 : decode cX9_at 24 = .ok (.iload_n 2, 1) := by decide +kernel
theorem dX9_at_25 : decode cX9_at 25 = .ok (.i2l, 1) := by decide +kernel
theorem dX9_at_26 : decode cX9_at 26 = .ok (.lconst 0, 1) := by decide +kernel
theorem dX9_at_27 : decode cX9_at 27 = .ok (.aload_n 0, 1) := by decide +kernel
theorem dX9_at_28 : decode cX9_at 28 = .ok (.getfield 13, 3) := by decide +kernel
theorem dX9_at_31 : decode cX9_at 31 = .ok (.iload_n 1, 1) := by decide +kernel
theorem dX9_at_32 : decode cX9_at 32 = .ok (.iaload, 1) := by decide +kernel
theorem dX9_at_33 : decode cX9_at 33 = .ok (.iconst 1, 1) := by decide +kernel
theorem dX9_at_34 : decode cX9_at 34 = .ok (.isub, 1) := by decide +kernel
theorem dX9_at_35 : decode cX9_at 35 = .ok (.i2l, 1) := by decide +kernel
theorem dX9_at_36 : decode cX9_at 36 = .ok (.invokestatic 62, 3) := by decide +kernel
theorem dX9_at_39 : decode cX9_at 39 = .ok (.ifCond .ne 9, 3) := by decide +kernel
theorem dX9_at_42 : decode cX9_at 42 = .ok (.aload_n 0, 1) := by decide +kernel
theorem dX9_at_43 : decode cX9_at 43 = .ok (.iconst 2, 1) := by decide +kernel
theorem dX9_at_44 : decode cX9_at 44 = .ok (.invokevirtual 74, 3) := by decide +kernel
theorem dX9_at_47 : decode cX9_at 47 = .ok (.ireturn, 1) := by decide +kernel
theorem dX9_at_48 : decode cX9_at 48 = .ok (.aload_n 0, 1) := by decide +kernel
theorem dX9_at_49 : decode cX9_at 49 = .ok (.aload_n 0, 1) := by decide +kernel
theorem dX9_at_50 : decode cX9_at 50 = .ok (.getfield 16, 3) := by decide +kernel
theorem dX9_at_53 : decode cX9_at 53 = .ok (.bipush 40, 2) := by decide +kernel
theorem dX9_at_55 : decode cX9_at 55 = .ok (.iload_n 1, 1) := by decide +kernel
theorem dX9_at_56 : decode cX9_at 56 = .ok (.imul, 1) := by decide +kernel
theorem dX9_at_57 : decode cX9_at 57 = .ok (.iload_n 2, 1) := by decide +kernel
theorem dX9_at_58 : decode cX9_at 58 = .ok (.iadd, 1) := by decide +kernel
theorem dX9_at_59 : decode cX9_at 59 = .ok (.iaload, 1) := by decide +kernel
theorem dX9_at_60 : decode cX9_at 60 = .ok (.invokevirtual 77, 3) := by decide +kernel
theorem dX9_at_63 : decode cX9_at 63 = .ok (.ireturn, 1) := by decide +kernel
theorem dX9_tear_0 : decode cX9_tear 0 = .ok (.iload_n 1, 1) := by decide +kernel
theorem dX9_tear_1 : decode cX9_tear 1 = .ok (.invokestatic 70, 3) := by decide +kernel
theorem dX9_tear_4 : decode cX9_tear 4 = .ok (.ifCond .ne 5, 3) := by decide +kernel
theorem dX9_tear_7 : decode cX9_tear 7 = .ok (.iconst (-1), 1) := by decide +kernel
theorem dX9_tear_8 : decode cX9_tear 8 = .ok (.ireturn, 1) := by decide +kernel
theorem dX9_tear_9 : decode cX9_tear 9 = .ok (.aload_n 0, 1) := by decide +kernel
theorem dX9_tear_10 : decode cX9_tear 10 = .ok (.getfield 13, 3) := by decide +kernel
theorem dX9_tear_13 : decode cX9_tear 13 = .ok (.iload_n 1, 1) := by decide +kernel
theorem dX9_tear_14 : decode cX9_tear 14 = .ok (.iaload, 1) := by decide +kernel
theorem dX9_tear_15 : decode cX9_tear 15 = .ok (.ifCond .ge 9, 3) := by decide +kernel
theorem dX9_tear_18 : decode cX9_tear 18 = .ok (.aload_n 0, 1) := by decide +kernel
theorem dX9_tear_19 : decode cX9_tear 19 = .ok (.iconst 1, 1) := by decide +kernel
theorem dX9_tear_20 : decode cX9_tear 20 = .ok (.invokevirtual 74, 3) := by decide +kernel
theorem dX9_tear_23 : decode cX9_tear 23 = .ok (.ireturn, 1) := by decide +kernel
theorem dX9_tear_24 : decode cX9_tear 24 = .ok (.aload_n 0, 1) := by decide +kernel
theorem dX9_tear_25 : decode cX9_tear 25 = .ok (.getfield 13, 3) := by decide +kernel
theorem dX9_tear_28 : decode cX9_tear 28 = .ok (.iload_n 1, 1) := by decide +kernel
theorem dX9_tear_29 : decode cX9_tear 29 = .ok (.iconst (-1), 1) := by decide +kernel
theorem dX9_tear_30 : decode cX9_tear 30 = .ok (.iastore, 1) := by decide +kernel
theorem dX9_tear_31 : decode cX9_tear 31 = .ok (.iconst 1, 1) := by decide +kernel
theorem dX9_tear_32 : decode cX9_tear 32 = .ok (.ireturn, 1) := by decide +kernel
theorem dX9_copy_0 : decode cX9_copy 0 = .ok (.iload_n 1, 1) := by decide +kernel
theorem dX9_copy_1 : decode cX9_copy 1 = .ok (.invokestatic 70, 3) := by decide +kernel
theorem dX9_copy_4 : decode cX9_copy 4 = .ok (.ifCond .eq 10, 3) := by decide +kernel
theorem dX9_copy_7 : decode cX9_copy 7 = .ok (.iload_n 3, 1) := by decide +kernel
theorem dX9_copy_8 : decode cX9_copy 8 = .ok (.invokestatic 70, 3) := by decide +kernel
theorem dX9_copy_11 : decode cX9_copy 11 = .ok (.ifCond .ne 5, 3) := by decide +kernel
theorem dX9_copy_14 : decode cX9_copy 14 = .ok (.iconst (-1), 1) := by decide +kernel
theorem dX9_copy_15 : decode cX9_copy 15 = .ok (.ireturn, 1) := by decide +kernel
theorem dX9_copy_16 : decode cX9_copy 16 = .ok (.iload 5, 2) := by decide +kernel
theorem dX9_copy_18 : decode cX9_copy 18 = .ok (.ifCond .ge 9, 3) := by decide +kernel
theorem dX9_copy_21 : decode cX9_copy 21 = .ok (.aload_n 0, 1) := by decide +kernel
theorem dX9_copy_22 : decode cX9_copy 22 = .ok (.iconst 5, 1) := by decide +kernel
theorem dX9_copy_23 : decode cX9_copy 23 = .ok (.invokevirtual 74, 3) := by decide +kernel
theorem dX9_copy_26 : decode cX9_copy 26 = .ok (.ireturn, 1) := by decide +kernel
theorem dX9_copy_27 : decode cX9_copy 27 = .ok (.aload_n 0, 1) := by decide +kernel
theorem dX9_copy_28 : decode cX9_copy 28 = .ok (.getfield 13, 3) := by decide +kernel
theorem dX9_copy_31 : decode cX9_copy 31 = .ok (.iload_n 1, 1) := by decide +kernel
theorem dX9_copy_32 : decode cX9_copy 32 = .ok (.iaload, 1) := by decide +kernel
theorem dX9_copy_33 : decode cX9_copy 33 = .ok (.ifCond .lt 12, 3) := by decide +kernel
theorem dX9_copy_36 : decode cX9_copy 36 = .ok (.aload_n 0, 1) := by decide +kernel
theorem dX9_copy_37 : decode cX9_copy 37 = .ok (.getfield 13, 3) := by decide +kernel
theorem dX9_copy_40 : decode cX9_copy 40 = .ok (.iload_n 3, 1) := by decide +kernel
theorem dX9_copy_41 : decode cX9_copy 41 = .ok (.iaload, 1) := by decide +kernel
theorem dX9_copy_42 : decode cX9_copy 42 = .ok (.ifCond .ge 9, 3) := by decide +kernel
theorem dX9_copy_45 : decode cX9_copy 45 = .ok (.aload_n 0, 1) := by decide +kernel
theorem dX9_copy_46 : decode cX9_copy 46 = .ok (.iconst 1, 1) := by decide +kernel
theorem dX9_copy_47 : decode cX9_copy 47 = .ok (.invokevirtual 74, 3) := by decide +kernel
theorem dX9_copy_50 : decode cX9_copy 50 = .ok (.ireturn, 1) := by decide +kernel
theorem dX9_copy_51 : decode cX9_copy 51 = .ok (.iload_n 2, 1) := by decide +kernel
theorem dX9_copy_52 : decode cX9_copy 52 = .ok (.ifCond .lt 43, 3) := by decide +kernel
theorem dX9_copy_55 : decode cX9_copy 55 = .ok (.iload 4, 2) := by decide +kernel
theorem dX9_copy_57 : decode cX9_copy 57 = .ok (.ifCond .lt 38, 3) := by decide +kernel
theorem dX9_copy_60 : decode cX9_copy 60 = .ok (.iload_n 2, 1) := by decide +kernel
theorem dX9_copy_61 : decode cX9_copy 61 = .ok (.i2l, 1) := by decide +kernel
theorem dX9_copy_62 : decode cX9_copy 62 = .ok (.iload 5, 2) := by decide +kernel
theorem dX9_copy_64 : decode cX9_copy 64 = .ok (.i2l, 1) := by decide +kernel
theorem dX9_copy_65 : decode cX9_copy 65 = .ok (.ladd, 1) := by decide +kernel
theorem dX9_copy_66 : decode cX9_copy 66 = .ok (.aload_n 0, 1) := by decide +kernel
theorem dX9_copy_67 : decode cX9_copy 67 = .ok (.getfield 13, 3) := by decide +kernel
theorem dX9_copy_70 : decode cX9_copy 70 = .ok (.iload_n 1, 1) := by decide +kernel
theorem dX9_copy_71 : decode cX9_copy 71 = .ok (.iaload, 1) := by decide +kernel
theorem dX9_copy_72 : decode cX9_copy 72 = .ok (.i2l, 1) := by decide +kernel
theorem dX9_copy_73 : decode cX9_copy 73 = .ok (.lcmp, 1) := by decide +kernel
theorem dX9_copy_74 : decode cX9_copy 74 = .ok (.ifCond .gt 21, 3) := by decide +kernel
theorem dX9_copy_77 : decode cX9_copy 77 = .ok (.iload 4, 2) := by decide +kernel
theorem dX9_copy_79 : decode cX9_copy 79 = .ok (.i2l, 1) := by decide +kernel
theorem dX9_copy_80 : decode cX9_copy 80 = .ok (.iload 5, 2) := by decide +kernel
theorem dX9_copy_82 : decode cX9_copy 82 = .ok (.i2l, 1) := by decide +kernel
theorem dX9_copy_83 : decode cX9_copy 83 = .ok (.ladd, 1) := by decide +kernel
theorem dX9_copy_84 : decode cX9_copy 84 = .ok (.aload_n 0, 1) := by decide +kernel
theorem dX9_copy_85 : decode cX9_copy 85 = .ok (.getfield 13, 3) := by decide +kernel
theorem dX9_copy_88 : decode cX9_copy 88 = .ok (.iload_n 3, 1) := by decide +kernel
theorem dX9_copy_89 : decode cX9_copy 89 = .ok (.iaload, 1) := by decide +kernel
theorem dX9_copy_90 : decode cX9_copy 90 = .ok (.i2l, 1) := by decide +kernel
theorem dX9_copy_91 : decode cX9_copy 91 = .ok (.lcmp, 1) := by decide +kernel
theorem dX9_copy_92 : decode cX9_copy 92 = .ok (.ifCond .le 9, 3) := by decide +kernel
theorem dX9_copy_95 : decode cX9_copy 95 = .ok (.aload_n 0, 1) := by decide +kernel
theorem dX9_copy_96 : decode cX9_copy 96 = .ok (.iconst 2, 1) := by decide +kernel
theorem dX9_copy_97 : decode cX9_copy 97 = .ok (.invokevirtual 74, 3) := by decide +kernel
theorem dX9_copy_100 : decode cX9_copy 100 = .ok (.ireturn, 1) := by decide +kernel
theorem dX9_copy_101 : decode cX9_copy 101 = .ok (.iconst 0, 1) := by decide +kernel
theorem dX9_copy_102 : decode cX9_copy 102 = .ok (.istore 6, 2) := by decide +kernel
theorem dX9_copy_104 : decode cX9_copy 104 = .ok (.iload 6, 2) := by decide +kernel
theorem dX9_copy_106 : decode cX9_copy 106 = .ok (.iload 5, 2) := by decide +kernel
theorem dX9_copy_108 : decode cX9_copy 108 = .ok (.if_icmp .ge 30, 3) := by decide +kernel
theorem dX9_copy_111 : decode cX9_copy 111 = .ok (.aload_n 0, 1) := by decide +kernel
theorem dX9_copy_112 : decode cX9_copy 112 = .ok (.getfield 32, 3) := by decide +kernel
theorem dX9_copy_115 : decode cX9_copy 115 = .ok (.iload 6, 2) := by decide +kernel
theorem dX9_copy_117 : decode cX9_copy 117 = .ok (.aload_n 0, 1) := by decide +kernel
theorem dX9_copy_118 : decode cX9_copy 118 = .ok (.getfield 16, 3) := by decide +kernel
theorem dX9_copy_121 : decode cX9_copy 121 = .ok (.bipush 40, 2) := by decide +kernel
theorem dX9_copy_123 : decode cX9_copy 123 = .ok (.iload_n 1, 1) := by decide +kernel
theorem dX9_copy_124 : decode cX9_copy 124 = .ok (.imul, 1) := by decide +kernel
theorem dX9_copy_125 : decode cX9_copy 125 = .ok (.iload_n 2, 1) := by decide +kernel
theorem dX9_copy_126 : decode cX9_copy 126 = .ok (.iadd, 1) := by decide +kernel
theorem dX9_copy_127 : decode cX9_copy 127 = .ok (.iload 6, 2) := by decide +kernel
theorem dX9_copy_129 : decode cX9_copy 129 = .ok (.iadd, 1) := by decide +kernel
theorem dX9_copy_130 : decode cX9_copy 130 = .ok (.iaload, 1) := by decide +kernel
theorem dX9_copy_131 : decode cX9_copy 131 = .ok (.iastore, 1) := by decide +kernel
theorem dX9_copy_132 : decode cX9_copy 132 = .ok (.iinc 6 1, 3) := by decide +kernel
theorem dX9_copy_135 : decode cX9_copy 135 = .ok (.goto (-31), 3) := by decide +kernel
theorem dX9_copy_138 : decode cX9_copy 138 = .ok (.iconst 0, 1) := by decide +kernel
theorem dX9_copy_139 : decode cX9_copy 139 = .ok (.istore 6, 2) := by decide +kernel
theorem dX9_copy_141 : decode cX9_copy 141 = .ok (.iload 6, 2) := by decide +kernel
theorem dX9_copy_143 : decode cX9_copy 143 = .ok (.iload 5, 2) := by decide +kernel
theorem dX9_copy_145 : decode cX9_copy 145 = .ok (.if_icmp .ge 31, 3) := by decide +kernel
theorem dX9_copy_148 : decode cX9_copy 148 = .ok (.aload_n 0, 1) := by decide +kernel
theorem dX9_copy_149 : decode cX9_copy 149 = .ok (.getfield 16, 3) := by decide +kernel
theorem dX9_copy_152 : decode cX9_copy 152 = .ok (.bipush 40, 2) := by decide +kernel
theorem dX9_copy_154 : decode cX9_copy 154 = .ok (.iload_n 3, 1) := by decide +kernel
theorem dX9_copy_155 : decode cX9_copy 155 = .ok (.imul, 1) := by decide +kernel
theorem dX9_copy_156 : decode cX9_copy 156 = .ok (.iload 4, 2) := by decide +kernel
theorem dX9_copy_158 : decode cX9_copy 158 = .ok (.iadd, 1) := by decide +kernel
theorem dX9_copy_159 : decode cX9_copy 159 = .ok (.iload 6, 2) := by decide +kernel
theorem dX9_copy_161 : decode cX9_copy 161 = .ok (.iadd, 1) := by decide +kernel
theorem dX9_copy_162 : decode cX9_copy 162 = .ok (.aload_n 0, 1) := by decide +kernel
theorem dX9_copy_163 : decode cX9_copy 163 = .ok (.getfield 32, 3) := by decide +kernel
theorem dX9_copy_166 : decode cX9_copy 166 = .ok (.iload 6, 2) := by decide +kernel
theorem dX9_copy_168 : decode cX9_copy 168 = .ok (.iaload, 1) := by decide +kernel
theorem dX9_copy_169 : decode cX9_copy 169 = .ok (.iastore, 1) := by decide +kernel
theorem dX9_copy_170 : decode cX9_copy 170 = .ok (.iinc 6 1, 3) := by decide +kernel
theorem dX9_copy_173 : decode cX9_copy 173 = .ok (.goto (-32), 3) := by decide +kernel
theorem dX9_copy_176 : decode cX9_copy 176 = .ok (.iconst 1, 1) := by decide +kernel
theorem dX9_copy_177 : decode cX9_copy 177 = .ok (.ireturn, 1) := by decide +kernel
theorem dX9_mean_0 : decode cX9_mean 0 = .ok (.iload_n 1, 1) := by decide +kernel
theorem dX9_mean_1 : decode cX9_mean 1 = .ok (.invokestatic 70, 3) := by decide +kernel
theorem dX9_mean_4 : decode cX9_mean 4 = .ok (.ifCond .ne 5, 3) := by decide +kernel
theorem dX9_mean_7 : decode cX9_mean 7 = .ok (.iconst (-1), 1) := by decide +kernel
theorem dX9_mean_8 : decode cX9_mean 8 = .ok (.ireturn, 1) := by decide +kernel
theorem dX9_mean_9 : decode cX9_mean 9 = .ok (.aload_n 0, 1) := by decide +kernel
theorem dX9_mean_10 : decode cX9_mean 10 = .ok (.getfield 13, 3) := by decide +kernel
theorem dX9_mean_13 : decode cX9_mean 13 = .ok (.iload_n 1, 1) := by decide +kernel
theorem dX9_mean_14 : decode cX9_mean 14 = .ok (.iaload, 1) := by decide +kernel
theorem dX9_mean_15 : decode cX9_mean 15 = .ok (.ifCond .ge 9, 3) := by decide +kernel
theorem dX9_mean_18 : decode cX9_mean 18 = .ok (.aload_n 0, 1) := by decide +kernel
theorem dX9_mean_19 : decode cX9_mean 19 = .ok (.iconst 1, 1) := by decide +kernel
theorem dX9_mean_20 : decode cX9_mean 20 = .ok (.invokevirtual 74, 3) := by decide +kernel
theorem dX9_mean_23 : decode cX9_mean 23 = .ok (.ireturn, 1) := by decide +kernel
theorem dX9_mean_24 : decode cX9_mean 24 = .ok (.aload_n 0, 1) := by decide +kernel
theorem dX9_mean_25 : decode cX9_mean 25 = .ok (.getfield 13, 3) := by decide +kernel
theorem dX9_mean_28 : decode cX9_mean 28 = .ok (.iload_n 1, 1) := by decide +kernel
theorem dX9_mean_29 : decode cX9_mean 29 = .ok (.iaload, 1) := by decide +kernel
theorem dX9_mean_30 : decode cX9_mean 30 = .ok (.ifCond .ne 9, 3) := by decide +kernel
theorem dX9_mean_33 : decode cX9_mean 33 = .ok (.aload_n 0, 1) := by decide +kernel
theorem dX9_mean_34 : decode cX9_mean 34 = .ok (.iconst 4, 1) := by decide +kernel
theorem dX9_mean_35 : decode cX9_mean 35 = .ok (.invokevirtual 74, 3) := by decide +kernel
theorem dX9_mean_38 : decode cX9_mean 38 = .ok (.ireturn, 1) := by decide +kernel
theorem dX9_mean_39 : decode cX9_mean 39 = .ok (.lconst 0, 1) := by decide +kernel
theorem dX9_mean_40 : decode cX9_mean 40 = .ok (.lstore_n 2, 1) := by decide +kernel
theorem dX9_mean_41 : decode cX9_mean 41 = .ok (.iconst 0, 1) := by decide +kernel
theorem dX9_mean_42 : decode cX9_mean 42 = .ok (.istore 4, 2) := by decide +kernel
theorem dX9_mean_44 : decode cX9_mean 44 = .ok (.iload 4, 2) := by decide +kernel
theorem dX9_mean_46 : decode cX9_mean 46 = .ok (.aload_n 0, 1) := by decide +kernel
theorem dX9_mean_47 : decode cX9_mean 47 = .ok (.getfield 13, 3) := by decide +kernel
theorem dX9_mean_50 : decode cX9_mean 50 = .ok (.iload_n 1, 1) := by decide +kernel
theorem dX9_mean_51 : decode cX9_mean 51 = .ok (.iaload, 1) := by decide +kernel
theorem dX9_mean_52 : decode cX9_mean 52 = .ok (.if_icmp .ge 25, 3) := by decide +kernel
theorem dX9_mean_55 : decode cX9_mean 55 = .ok (.lload_n 2, 1) := by decide +kernel
theorem dX9_mean_56 : decode cX9_mean 56 = .ok (.aload_n 0, 1) := by decide +kernel
theorem dX9_mean_57 : decode cX9_mean 57 = .ok (.getfield 16, 3) := by decide +kernel
theorem dX9_mean_60 : decode cX9_mean 60 = .ok (.bipush 40, 2) := by decide +kernel
theorem dX9_mean_62 : decode cX9_mean 62 = .ok (.iload_n 1, 1) := by decide +kernel
theorem dX9_mean_63 : decode cX9_mean 63 = .ok (.imul, 1) := by decide +kernel
theorem dX9_mean_64 : decode cX9_mean 64 = .ok (.iload 4, 2) := by decide +kernel
theorem dX9_mean_66 : decode cX9_mean 66 = .ok (.iadd, 1) := by decide +kernel
theorem dX9_mean_67 : decode cX9_mean 67 = .ok (.iaload, 1) := by decide +kernel
theorem dX9_mean_68 : decode cX9_mean 68 = .ok (.i2l, 1) := by decide +kernel
theorem dX9_mean_69 : decode cX9_mean 69 = .ok (.ladd, 1) := by decide +kernel
theorem dX9_mean_70 : decode cX9_mean 70 = .ok (.lstore_n 2, 1) := by decide +kernel
theorem dX9_mean_71 : decode cX9_mean 71 = .ok (.iinc 4 1, 3) := by decide +kernel
theorem dX9_mean_74 : decode cX9_mean 74 = .ok (.goto (-30), 3) := by decide +kernel
theorem dX9_mean_77 : decode cX9_mean 77 = .ok (.aload_n 0, 1) := by decide +kernel
theorem dX9_mean_78 : decode cX9_mean 78 = .ok (.lload_n 2, 1) := by decide +kernel
theorem dX9_mean_79 : decode cX9_mean 79 = .ok (.aload_n 0, 1) := by decide +kernel
theorem dX9_mean_80 : decode cX9_mean 80 = .ok (.getfield 13, 3) := by decide +kernel
theorem dX9_mean_83 : decode cX9_mean 83 = .ok (.iload_n 1, 1) := by decide +kernel
theorem dX9_mean_84 : decode cX9_mean 84 = .ok (.iaload, 1) := by decide +kernel
theorem dX9_mean_85 : decode cX9_mean 85 = .ok (.i2l, 1) := by decide +kernel
theorem dX9_mean_86 : decode cX9_mean 86 = .ok (.ldiv, 1) := by decide +kernel
theorem dX9_mean_87 : decode cX9_mean 87 = .ok (.l2i, 1) := by decide +kernel
theorem dX9_mean_88 : decode cX9_mean 88 = .ok (.invokevirtual 77, 3) := by decide +kernel
theorem dX9_mean_91 : decode cX9_mean 91 = .ok (.ireturn, 1) := by decide +kernel
theorem dX9_text_0 : decode cX9_text 0 = .ok (.iload_n 1, 1) := by decide +kernel
theorem dX9_text_1 : decode cX9_text 1 = .ok (.invokestatic 80, 3) := by decide +kernel
theorem dX9_text_4 : decode cX9_text 4 = .ok (.ifCond .eq 9, 3) := by decide +kernel
theorem dX9_text_7 : decode cX9_text 7 = .ok (.iload_n 2, 1) := by decide +kernel
theorem dX9_text_8 : decode cX9_text 8 = .ok (.bipush 60, 2) := by decide +kernel
theorem dX9_text_10 : decode cX9_text 10 = .ok (.if_icmp .le 5, 3) := by decide +kernel
theorem dX9_text_13 : decode cX9_text 13 = .ok (.iconst (-1), 1) := by decide +kernel
theorem dX9_text_14 : decode cX9_text 14 = .ok (.ireturn, 1) := by decide +kernel
theorem dX9_text_15 : decode cX9_text 15 = .ok (.iload_n 2, 1) := by decide +kernel
theorem dX9_text_16 : decode cX9_text 16 = .ok (.ifCond .ge 9, 3) := by decide +kernel
theorem dX9_text_19 : decode cX9_text 19 = .ok (.aload_n 0, 1) := by decide +kernel
theorem dX9_text_20 : decode cX9_text 20 = .ok (.iconst 5, 1) := by decide +kernel
theorem dX9_text_21 : decode cX9_text 21 = .ok (.invokevirtual 74, 3) := by decide +kernel
theorem dX9_text_24 : decode cX9_text 24 = .ok (.ireturn, 1) := by decide +kernel
theorem dX9_text_25 : decode cX9_text 25 = .ok (.aload_n 0, 1) := by decide +kernel
theorem dX9_text_26 : decode cX9_text 26 = .ok (.getfield 19, 3) := by decide +kernel
theorem dX9_text_29 : decode cX9_text 29 = .ok (.iload_n 1, 1) := by decide +kernel
theorem dX9_text_30 : decode cX9_text 30 = .ok (.iload_n 2, 1) := by decide +kernel
theorem dX9_text_31 : decode cX9_text 31 = .ok (.iastore, 1) := by decide +kernel
theorem dX9_text_32 : decode cX9_text 32 = .ok (.iconst 0, 1) := by decide +kernel
theorem dX9_text_33 : decode cX9_text 33 = .ok (.istore_n 3, 1) := by decide +kernel
theorem dX9_text_34 : decode cX9_text 34 = .ok (.iload_n 3, 1) := by decide +kernel
theorem dX9_text_35 : decode cX9_text 35 = .ok (.bipush 60, 2) := by decide +kernel
theorem dX9_text_37 : decode cX9_text 37 = .ok (.if_icmp .ge 22, 3) := by decide +kernel
theorem dX9_text_40 : decode cX9_text 40 = .ok (.aload_n 0, 1) := by decide +kernel
theorem dX9_text_41 : decode cX9_text 41 = .ok (.getfield 22, 3) := by decide +kernel
theorem dX9_text_44 : decode cX9_text 44 = .ok (.bipush 60, 2) := by decide +kernel
theorem dX9_text_46 : decode cX9_text 46 = .ok (.iload_n 1, 1) := by decide +kernel
theorem dX9_text_47 : decode cX9_text 47 = .ok (.imul, 1) := by decide +kernel
theorem dX9_text_48 : decode cX9_text 48 = .ok (.iload_n 3, 1) := by decide +kernel
theorem dX9_text_49 : decode cX9_text 49 = .ok (.iadd, 1) := by decide +kernel
theorem dX9_text_50 : decode cX9_text 50 = .ok (.bipush 32, 2) := by decide +kernel
theorem dX9_text_52 : decode cX9_text 52 = .ok (.iastore, 1) := by decide +kernel
theorem dX9_text_53 : decode cX9_text 53 = .ok (.iinc 3 1, 3) := by decide +kernel
theorem dX9_text_56 : decode cX9_text 56 = .ok (.goto (-22), 3) := by decide +kernel
theorem dX9_text_59 : decode cX9_text 59 = .ok (.iload_n 2, 1) := by decide +kernel
theorem dX9_text_60 : decode cX9_text 60 = .ok (.ireturn, 1) := by decide +kernel
theorem dX9_put_0 : decode cX9_put 0 = .ok (.iload_n 1, 1) := by decide +kernel
theorem dX9_put_1 : decode cX9_put 1 = .ok (.invokestatic 80, 3) := by decide +kernel
theorem dX9_put_4 : decode cX9_put 4 = .ok (.ifCond .ne 5, 3) := by decide +kernel
theorem dX9_put_7 : decode cX9_put 7 = .ok (.iconst (-1), 1) := by decide +kernel
theorem dX9_put_8 : decode cX9_put 8 = .ok (.ireturn, 1) := by decide +kernel
theorem dX9_put_9 : decode cX9_put 9 = .ok (.aload_n 0, 1) := by decide +kernel
theorem dX9_put_10 : decode cX9_put 10 = .ok (.getfield 19, 3) := by decide +kernel
theorem dX9_put_13 : decode cX9_put 13 = .ok (.iload_n 1, 1) := by decide +kernel
theorem dX9_put_14 : decode cX9_put 14 = .ok (.iaload, 1) := by decide +kernel
theorem dX9_put_15 : decode cX9_put 15 = .ok (.ifCond .ge 9, 3) := by decide +kernel
theorem dX9_put_18 : decode cX9_put 18 = .ok (.aload_n 0, 1) := by decide +kernel
theorem dX9_put_19 : decode cX9_put 19 = .ok (.iconst 1, 1) := by decide +kernel
theorem dX9_put_20 : decode cX9_put 20 = .ok (.invokevirtual 74, 3) := by decide +kernel
theorem dX9_put_23 : decode cX9_put 23 = .ok (.ireturn, 1) := by decide +kernel
theorem dX9_put_24 : decode cX9_put 24 = .ok (.iload_n 2, 1) := by decide +kernel
theorem dX9_put_25 : decode cX9_put 25 = .ok (.i2l, 1) := by decide +kernel
theorem dX9_put_26 : decode cX9_put 26 = .ok (.lconst 0, 1) := by decide +kernel
theorem dX9_put_27 : decode cX9_put 27 = .ok (.aload_n 0, 1) := by decide +kernel
theorem dX9_put_28 : decode cX9_put 28 = .ok (.getfield 19, 3) := by decide +kernel
theorem dX9_put_31 : decode cX9_put 31 = .ok (.iload_n 1, 1) := by decide +kernel
theorem dX9_put_32 : decode cX9_put 32 = .ok (.iaload, 1) := by decide +kernel
theorem dX9_put_33 : decode cX9_put 33 = .ok (.iconst 1, 1) := by decide +kernel
theorem dX9_put_34 : decode cX9_put 34 = .ok (.isub, 1) := by decide +kernel
theorem dX9_put_35 : decode cX9_put 35 = .ok (.i2l, 1) := by decide +kernel
theorem dX9_put_36 : decode cX9_put 36 = .ok (.invokestatic 62, 3) := by decide +kernel
theorem dX9_put_39 : decode cX9_put 39 = .ok (.ifCond .ne 9, 3) := by decide +kernel
theorem dX9_put_42 : decode cX9_put 42 = .ok (.aload_n 0, 1) := by decide +kernel
theorem dX9_put_43 : decode cX9_put 43 = .ok (.iconst 2, 1) := by decide +kernel
theorem dX9_put_44 : decode cX9_put 44 = .ok (.invokevirtual 74, 3) := by decide +kernel
theorem dX9_put_47 : decode cX9_put 47 = .ok (.ireturn, 1) := by decide +kernel
theorem dX9_put_48 : decode cX9_put 48 = .ok (.aload_n 0, 1) := by decide +kernel
theorem dX9_put_49 : decode cX9_put 49 = .ok (.getfield 22, 3) := by decide +kernel
theorem dX9_put_52 : decode cX9_put 52 = .ok (.bipush 60, 2) := by decide +kernel
theorem dX9_put_54 : decode cX9_put 54 = .ok (.iload_n 1, 1) := by decide +kernel
theorem dX9_put_55 : decode cX9_put 55 = .ok (.imul, 1) := by decide +kernel
theorem dX9_put_56 : decode cX9_put 56 = .ok (.iload_n 2, 1) := by decide +kernel
theorem dX9_put_57 : decode cX9_put 57 = .ok (.iadd, 1) := by decide +kernel
theorem dX9_put_58 : decode cX9_put 58 = .ok (.iaload, 1) := by decide +kernel
theorem dX9_put_59 : decode cX9_put 59 = .ok (.istore 4, 2) := by decide +kernel
theorem dX9_put_61 : decode cX9_put 61 = .ok (.aload_n 0, 1) := by decide +kernel
theorem dX9_put_62 : decode cX9_put 62 = .ok (.getfield 22, 3) := by decide +kernel
theorem dX9_put_65 : decode cX9_put 65 = .ok (.bipush 60, 2) := by decide +kernel
theorem dX9_put_67 : decode cX9_put 67 = .ok (.iload_n 1, 1) := by decide +kernel
theorem dX9_put_68 : decode cX9_put 68 = .ok (.imul, 1) := by decide +kernel
theorem dX9_put_69 : decode cX9_put 69 = .ok (.iload_n 2, 1) := by decide +kernel
theorem dX9_put_70 : decode cX9_put 70 = .ok (.iadd, 1) := by decide +kernel
theorem dX9_put_71 : decode cX9_put 71 = .ok (.iload_n 3, 1) := by decide +kernel
theorem dX9_put_72 : decode cX9_put 72 = .ok (.i2b, 1) := by decide +kernel
theorem dX9_put_73 : decode cX9_put 73 = .ok (.iastore, 1) := by decide +kernel
theorem dX9_put_74 : decode cX9_put 74 = .ok (.iload 4, 2) := by decide +kernel
theorem dX9_put_76 : decode cX9_put 76 = .ok (.sipush 1000, 3) := by decide +kernel
theorem dX9_put_79 : decode cX9_put 79 = .ok (.iadd, 1) := by decide +kernel
theorem dX9_put_80 : decode cX9_put 80 = .ok (.ireturn, 1) := by decide +kernel
theorem dX9_here_0 : decode cX9_here 0 = .ok (.aload_n 0, 1) := by decide +kernel
theorem dX9_here_1 : decode cX9_here 1 = .ok (.getfield 83, 3) := by decide +kernel
theorem dX9_here_4 : decode cX9_here 4 = .ok (.aload_n 0, 1) := by decide +kernel
theorem dX9_here_5 : decode cX9_here 5 = .ok (.getfield 86, 3) := by decide +kernel
theorem dX9_here_8 : decode cX9_here 8 = .ok (.if_icmp .ge 20, 3) := by decide +kernel
theorem dX9_here_11 : decode cX9_here 11 = .ok (.aload_n 0, 1) := by decide +kernel
theorem dX9_here_12 : decode cX9_here 12 = .ok (.getfield 22, 3) := by decide +kernel
theorem dX9_here_15 : decode cX9_here 15 = .ok (.aload_n 0, 1) := by decide +kernel
theorem dX9_here_16 : decode cX9_here 16 = .ok (.getfield 89, 3) := by decide +kernel
theorem dX9_here_19 : decode cX9_here 19 = .ok (.aload_n 0, 1) := by decide +kernel
theorem dX9_here_20 : decode cX9_here 20 = .ok (.getfield 83, 3) := by decide +kernel
theorem dX9_here_23 : decode cX9_here 23 = .ok (.iadd, 1) := by decide +kernel
theorem dX9_here_24 : decode cX9_here 24 = .ok (.iaload, 1) := by decide +kernel
theorem dX9_here_25 : decode cX9_here 25 = .ok (.goto 6, 3) := by decide +kernel
theorem dX9_here_28 : decode cX9_here 28 = .ok (.sipush (-1000), 3) := by decide +kernel
theorem dX9_here_31 : decode cX9_here 31 = .ok (.ireturn, 1) := by decide +kernel
theorem dX9_kindOf_0 : decode cX9_kindOf 0 = .ok (.iload_n 0, 1) := by decide +kernel
theorem dX9_kindOf_1 : decode cX9_kindOf 1 = .ok (.bipush 108, 2) := by decide +kernel
theorem dX9_kindOf_3 : decode cX9_kindOf 3 = .ok (.if_icmp .ne 7, 3) := by decide +kernel
theorem dX9_kindOf_6 : decode cX9_kindOf 6 = .ok (.iconst 0, 1) := by decide +kernel
theorem dX9_kindOf_7 : decode cX9_kindOf 7 = .ok (.goto 54, 3) := by decide +kernel
theorem dX9_kindOf_10 : decode cX9_kindOf 10 = .ok (.iload_n 0, 1) := by decide +kernel
theorem dX9_kindOf_11 : decode cX9_kindOf 11 = .ok (.bipush 106, 2) := by decide +kernel
theorem dX9_kindOf_13 : decode cX9_kindOf 13 = .ok (.if_icmp .ne 7, 3) := by decide +kernel
theorem dX9_kindOf_16 : decode cX9_kindOf 16 = .ok (.iconst 1, 1) := by decide +kernel
theorem dX9_kindOf_17 : decode cX9_kindOf 17 = .ok (.goto 44, 3) := by decide +kernel
theorem dX9_kindOf_20 : decode cX9_kindOf 20 = .ok (.iload_n 0, 1) := by decide +kernel
theorem dX9_kindOf_21 : decode cX9_kindOf 21 = .ok (.bipush 100, 2) := by decide +kernel
theorem dX9_kindOf_23 : decode cX9_kindOf 23 = .ok (.if_icmp .ne 7, 3) := by decide +kernel
theorem dX9_kindOf_26 : decode cX9_kindOf 26 = .ok (.iconst 2, 1) := by decide +kernel
theorem dX9_kindOf_27 : decode cX9_kindOf 27 = .ok (.goto 34, 3) := by decide +kernel
theorem dX9_kindOf_30 : decode cX9_kindOf 30 = .ok (.iload_n 0, 1) := by decide +kernel
theorem dX9_kindOf_31 : decode cX9_kindOf 31 = .ok (.bipush 102, 2) := by decide +kernel
theorem dX9_kindOf_33 : decode cX9_kindOf 33 = .ok (.if_icmp .ne 7, 3) := by decide +kernel
theorem dX9_kindOf_36 : decode cX9_kindOf 36 = .ok (.iconst 3, 1) := by decide +kernel
theorem dX9_kindOf_37 : decode cX9_kindOf 37 = .ok (.goto 24, 3) := by decide +kernel
theorem dX9_kindOf_40 : decode cX9_kindOf 40 = .ok (.iload_n 0, 1) := by decide +kernel
theorem dX9_kindOf_41 : decode cX9_kindOf 41 = .ok (.bipush 111, 2) := by decide +kernel
theorem dX9_kindOf_43 : decode cX9_kindOf 43 = .ok (.if_icmp .ne 7, 3) := by decide +kernel
theorem dX9_kindOf_46 : decode cX9_kindOf 46 = .ok (.iconst 4, 1) := by decide +kernel
theorem dX9_kindOf_47 : decode cX9_kindOf 47 = .ok (.goto 14, 3) := by decide +kernel
theorem dX9_kindOf_50 : decode cX9_kindOf 50 = .ok (.iload_n 0, 1) := by decide +kernel
theorem dX9_kindOf_51 : decode cX9_kindOf 51 = .ok (.bipush 109, 2) := by decide +kernel
theorem dX9_kindOf_53 : decode cX9_kindOf 53 = .ok (.if_icmp .ne 7, 3) := by decide +kernel
theorem dX9_kindOf_56 : decode cX9_kindOf 56 = .ok (.iconst 5, 1) := by decide +kernel
theorem dX9_kindOf_57 : decode cX9_kindOf 57 = .ok (.goto 4, 3) := by decide +kernel
theorem dX9_kindOf_60 : decode cX9_kindOf 60 = .ok (.iconst (-1), 1) := by decide +kernel
theorem dX9_kindOf_61 : decode cX9_kindOf 61 = .ok (.ireturn, 1) := by decide +kernel
theorem dX9_takes_0 : decode cX9_takes 0 = .ok (.aload_n 0, 1) := by decide +kernel
theorem dX9_takes_1 : decode cX9_takes 1 = .ok (.invokevirtual 92, 3) := by decide +kernel
theorem dX9_takes_4 : decode cX9_takes 4 = .ok (.bipush 48, 2) := by decide +kernel
theorem dX9_takes_6 : decode cX9_takes 6 = .ok (.isub, 1) := by decide +kernel
theorem dX9_takes_7 : decode cX9_takes 7 = .ok (.istore_n 3, 1) := by decide +kernel
theorem dX9_takes_8 : decode cX9_takes 8 = .ok (.iload_n 3, 1) := by decide +kernel
theorem dX9_takes_9 : decode cX9_takes 9 = .ok (.i2l, 1) := by decide +kernel
theorem dX9_takes_10 : decode cX9_takes 10 = .ok (.lconst 0, 1) := by decide +kernel
theorem dX9_takes_11 : decode cX9_takes 11 = .ok (.iload_n 1, 1) := by decide +kernel
theorem dX9_takes_12 : decode cX9_takes 12 = .ok (.i2l, 1) := by decide +kernel
theorem dX9_takes_13 : decode cX9_takes 13 = .ok (.invokestatic 62, 3) := by decide +kernel
theorem dX9_takes_16 : decode cX9_takes 16 = .ok (.ifCond .eq 8, 3) := by decide +kernel
theorem dX9_takes_19 : decode cX9_takes 19 = .ok (.iload_n 3, 1) := by decide +kernel
theorem dX9_takes_20 : decode cX9_takes 20 = .ok (.iload_n 2, 1) := by decide +kernel
theorem dX9_takes_21 : decode cX9_takes 21 = .ok (.if_icmp .ne 5, 3) := by decide +kernel
theorem dX9_takes_24 : decode cX9_takes 24 = .ok (.iconst 0, 1) := by decide +kernel
theorem dX9_takes_25 : decode cX9_takes 25 = .ok (.ireturn, 1) := by decide +kernel
theorem dX9_takes_26 : decode cX9_takes 26 = .ok (.aload_n 0, 1) := by decide +kernel
theorem dX9_takes_27 : decode cX9_takes 27 = .ok (.iload_n 3, 1) := by decide +kernel
theorem dX9_takes_28 : decode cX9_takes 28 = .ok (.putfield 96, 3) := by decide +kernel
theorem dX9_takes_31 : decode cX9_takes 31 = .ok (.aload_n 0, 1) := by decide +kernel
theorem dX9_takes_32 : decode cX9_takes 32 = .ok (.dup, 1) := by decide +kernel
theorem dX9_takes_33 : decode cX9_takes 33 = .ok (.getfield 83, 3) := by decide +kernel
theorem dX9_takes_36 : decode cX9_takes 36 = .ok (.iconst 1, 1) := by decide +kernel
theorem dX9_takes_37 : decode cX9_takes 37 = .ok (.iadd, 1) := by decide +kernel
theorem dX9_takes_38 : decode cX9_takes 38 = .ok (.putfield 83, 3) := by decide +kernel
theorem dX9_takes_41 : decode cX9_takes 41 = .ok (.iconst 1, 1) := by decide +kernel
theorem dX9_takes_42 : decode cX9_takes 42 = .ok (.ireturn, 1) := by decide +kernel
theorem dX9_takesLight_0 : decode cX9_takesLight 0 = .ok (.aload_n 0, 1) := by decide +kernel
theorem dX9_takesLight_1 : decode cX9_takesLight 1 = .ok (.invokevirtual 92, 3) := by decide +kernel
theorem dX9_takesLight_4 : decode cX9_takesLight 4 = .ok (.invokestatic 99, 3) := by decide +kernel
theorem dX9_takesLight_7 : decode cX9_takesLight 7 = .ok (.istore_n 1, 1) := by decide +kernel
theorem dX9_takesLight_8 : decode cX9_takesLight 8 = .ok (.iload_n 1, 1) := by decide +kernel
theorem dX9_takesLight_9 : decode cX9_takesLight 9 = .ok (.ifCond .lt 12, 3) := by decide +kernel
theorem dX9_takesLight_12 : decode cX9_takesLight 12 = .ok (.aload_n 0, 1) := by decide +kernel
theorem dX9_takesLight_13 : decode cX9_takesLight 13 = .ok (.getfield 102, 3) := by decide +kernel
theorem dX9_takesLight_16 : decode cX9_takesLight 16 = .ok (.bipush 8, 2) := by decide +kernel
theorem dX9_takesLight_18 : decode cX9_takesLight 18 = .ok (.if_icmp .ne 5, 3) := by decide +kernel
theorem dX9_takesLight_21 : decode cX9_takesLight 21 = .ok (.iconst 0, 1) := by decide +kernel
theorem dX9_takesLight_22 : decode cX9_takesLight 22 = .ok (.ireturn, 1) := by decide +kernel
theorem dX9_takesLight_23 : decode cX9_takesLight 23 = .ok (.aload_n 0, 1) := by decide +kernel
theorem dX9_takesLight_24 : decode cX9_takesLight 24 = .ok (.dup, 1) := by decide +kernel
theorem dX9_takesLight_25 : decode cX9_takesLight 25 = .ok (.getfield 83, 3) := by decide +kernel
theorem dX9_takesLight_28 : decode cX9_takesLight 28 = .ok (.iconst 1, 1) := by decide +kernel
theorem dX9_takesLight_29 : decode cX9_takesLight 29 = .ok (.iadd, 1) := by decide +kernel
theorem dX9_takesLight_30 : decode cX9_takesLight 30 = .ok (.putfield 83, 3) := by decide +kernel
theorem dX9_takesLight_33 : decode cX9_takesLight 33 = .ok (.iconst 5, 1) := by decide +kernel
theorem dX9_takesLight_34 : decode cX9_takesLight 34 = .ok (.aload_n 0, 1) := by decide +kernel
theorem dX9_takesLight_35 : decode cX9_takesLight 35 = .ok (.getfield 102, 3) := by decide +kernel
theorem dX9_takesLight_38 : decode cX9_takesLight 38 = .ok (.imul, 1) := by decide +kernel
theorem dX9_takesLight_39 : decode cX9_takesLight 39 = .ok (.istore_n 2, 1) := by decide +kernel
theorem dX9_takesLight_40 : decode cX9_takesLight 40 = .ok (.aload_n 0, 1) := by decide +kernel
theorem dX9_takesLight_41 : decode cX9_takesLight 41 = .ok (.getfield 35, 3) := by decide +kernel
theorem dX9_takesLight_44 : decode cX9_takesLight 44 = .ok (.iload_n 2, 1) := by decide +kernel
theorem dX9_takesLight_45 : decode cX9_takesLight 45 = .ok (.iload_n 1, 1) := by decide +kernel
theorem dX9_takesLight_46 : decode cX9_takesLight 46 = .ok (.iastore, 1) := by decide +kernel
theorem dX9_takesLight_47 : decode cX9_takesLight 47 = .ok (.iconst 1, 1) := by decide +kernel
theorem dX9_takesLight_48 : decode cX9_takesLight 48 = .ok (.istore_n 3, 1) := by decide +kernel
theorem dX9_takesLight_49 : decode cX9_takesLight 49 = .ok (.iload_n 3, 1) := by decide +kernel
theorem dX9_takesLight_50 : decode cX9_takesLight 50 = .ok (.iconst 5, 1) := by decide +kernel
theorem dX9_takesLight_51 : decode cX9_takesLight 51 = .ok (.if_icmp .ge 58, 3) := by decide +kernel
theorem dX9_takesLight_54 : decode cX9_takesLight 54 = .ok (.aload_n 0, 1) := by decide +kernel
theorem dX9_takesLight_55 : decode cX9_takesLight 55 = .ok (.iload_n 3, 1) := by decide +kernel
theorem dX9_takesLight_56 : decode cX9_takesLight 56 = .ok (.iconst 3, 1) := by decide +kernel
theorem dX9_takesLight_57 : decode cX9_takesLight 57 = .ok (.if_icmp .ge 7, 3) := by decide +kernel
theorem dX9_takesLight_60 : decode cX9_takesLight 60 = .ok (.iconst 5, 1) := by decide +kernel
theorem dX9_takesLight_61 : decode cX9_takesLight 61 = .ok (.goto 5, 3) := by decide +kernel
theorem dX9_takesLight_64 : decode cX9_takesLight 64 = .ok (.bipush 9, 2) := by decide +kernel
theorem dX9_takesLight_66 : decode cX9_takesLight 66 = .ok (.iload_n 3, 1) := by decide +kernel
theorem dX9_takesLight_67 : decode cX9_takesLight 67 = .ok (.iconst 2, 1) := by decide +kernel
theorem dX9_takesLight_68 : decode cX9_takesLight 68 = .ok (.if_icmp .ne 14, 3) := by decide +kernel
theorem dX9_takesLight_71 : decode cX9_takesLight 71 = .ok (.aload_n 0, 1) := by decide +kernel
theorem dX9_takesLight_72 : decode cX9_takesLight 72 = .ok (.getfield 35, 3) := by decide +kernel
theorem dX9_takesLight_75 : decode cX9_takesLight 75 = .ok (.iload_n 2, 1) := by decide +kernel
theorem dX9_takesLight_76 : decode cX9_takesLight 76 = .ok (.iconst 1, 1) := by decide +kernel
theorem dX9_takesLight_77 : decode cX9_takesLight 77 = .ok (.iadd, 1) := by decide +kernel
theorem dX9_takesLight_78 : decode cX9_takesLight 78 = .ok (.iaload, 1) := by decide +kernel
theorem dX9_takesLight_79 : decode cX9_takesLight 79 = .ok (.goto 4, 3) := by decide +kernel
theorem dX9_takesLight_82 : decode cX9_takesLight 82 = .ok (.iconst (-1), 1) := by decide +kernel
theorem dX9_takesLight_83 : decode cX9_takesLight 83 = .ok (.invokevirtual 105, 3) := by decide +kernel
theorem dX9_takesLight_86 : decode cX9_takesLight 86 = .ok (.ifCond .ne 5, 3) := by decide +kernel
theorem dX9_takesLight_89 : decode cX9_takesLight 89 = .ok (.iconst 0, 1) := by decide +kernel
theorem dX9_takesLight_90 : decode cX9_takesLight 90 = .ok (.ireturn, 1) := by decide +kernel
theorem dX9_takesLight_91 : decode cX9_takesLight 91 = .ok (.aload_n 0, 1) := by decide +kernel
theorem dX9_takesLight_92 : decode cX9_takesLight 92 = .ok (.getfield 35, 3) := by decide +kernel
theorem dX9_takesLight_95 : decode cX9_takesLight 95 = .ok (.iload_n 2, 1) := by decide +kernel
theorem dX9_takesLight_96 : decode cX9_takesLight 96 = .ok (.iload_n 3, 1) := by decide +kernel
theorem dX9_takesLight_97 : decode cX9_takesLight 97 = .ok (.iadd, 1) := by decide +kernel
theorem dX9_takesLight_98 : decode cX9_takesLight 98 = .ok (.aload_n 0, 1) := by decide +kernel
theorem dX9_takesLight_99 : decode cX9_takesLight 99 = .ok (.getfield 96, 3) := by decide +kernel
theorem dX9_takesLight_102 : decode cX9_takesLight 102 = .ok (.iastore, 1) := by decide +kernel
theorem dX9_takesLight_103 : decode cX9_takesLight 103 = .ok (.iinc 3 1, 3) := by decide +kernel
theorem dX9_takesLight_106 : decode cX9_takesLight 106 = .ok (.goto (-57), 3) := by decide +kernel
theorem dX9_takesLight_109 : decode cX9_takesLight 109 = .ok (.aload_n 0, 1) := by decide +kernel
theorem dX9_takesLight_110 : decode cX9_takesLight 110 = .ok (.dup, 1) := by decide +kernel
theorem dX9_takesLight_111 : decode cX9_takesLight 111 = .ok (.getfield 102, 3) := by decide +kernel
theorem dX9_takesLight_114 : decode cX9_takesLight 114 = .ok (.iconst 1, 1) := by decide +kernel
theorem dX9_takesLight_115 : decode cX9_takesLight 115 = .ok (.iadd, 1) := by decide +kernel
theorem dX9_takesLight_116 : decode cX9_takesLight 116 = .ok (.putfield 102, 3) := by decide +kernel
theorem dX9_takesLight_119 : decode cX9_takesLight 119 = .ok (.iconst 1, 1) := by decide +kernel
theorem dX9_takesLight_120 : decode cX9_takesLight 120 = .ok (.ireturn, 1) := by decide +kernel
theorem dX9_faultOf_0 : decode cX9_faultOf 0 = .ok (.aload_n 0, 1) := by decide +kernel
theorem dX9_faultOf_1 : decode cX9_faultOf 1 = .ok (.bipush 60, 2) := by decide +kernel
theorem dX9_faultOf_3 : decode cX9_faultOf 3 = .ok (.iload_n 1, 1) := by decide +kernel
theorem dX9_faultOf_4 : decode cX9_faultOf 4 = .ok (.imul, 1) := by decide +kernel
theorem dX9_faultOf_5 : decode cX9_faultOf 5 = .ok (.putfield 89, 3) := by decide +kernel
theorem dX9_faultOf_8 : decode cX9_faultOf 8 = .ok (.aload_n 0, 1) := by decide +kernel
theorem dX9_faultOf_9 : decode cX9_faultOf 9 = .ok (.iconst 0, 1) := by decide +kernel
theorem dX9_faultOf_10 : decode cX9_faultOf 10 = .ok (.putfield 83, 3) := by decide +kernel
theorem dX9_faultOf_13 : decode cX9_faultOf 13 = .ok (.aload_n 0, 1) := by decide +kernel
theorem dX9_faultOf_14 : decode cX9_faultOf 14 = .ok (.aload_n 0, 1) := by decide +kernel
theorem dX9_faultOf_15 : decode cX9_faultOf 15 = .ok (.getfield 19, 3) := by decide +kernel
theorem dX9_faultOf_18 : decode cX9_faultOf 18 = .ok (.iload_n 1, 1) := by decide +kernel
theorem dX9_faultOf_19 : decode cX9_faultOf 19 = .ok (.iaload, 1) := by decide +kernel
theorem dX9_faultOf_20 : decode cX9_faultOf 20 = .ok (.putfield 86, 3) := by decide +kernel
theorem dX9_faultOf_23 : decode cX9_faultOf 23 = .ok (.aload_n 0, 1) := by decide +kernel
theorem dX9_faultOf_24 : decode cX9_faultOf 24 = .ok (.iconst 0, 1) := by decide +kernel
theorem dX9_faultOf_25 : decode cX9_faultOf 25 = .ok (.putfield 102, 3) := by decide +kernel
theorem dX9_faultOf_28 : decode cX9_faultOf 28 = .ok (.iconst 1, 1) := by decide +kernel
theorem dX9_faultOf_29 : decode cX9_faultOf 29 = .ok (.istore_n 2, 1) := by decide +kernel
theorem dX9_faultOf_30 : decode cX9_faultOf 30 = .ok (.iload_n 2, 1) := by decide +kernel
theorem dX9_faultOf_31 : decode cX9_faultOf 31 = .ok (.ifCond .eq 65, 3) := by decide +kernel
theorem dX9_faultOf_34 : decode cX9_faultOf 34 = .ok (.aload_n 0, 1) := by decide +kernel
theorem dX9_faultOf_35 : decode cX9_faultOf 35 = .ok (.invokevirtual 92, 3) := by decide +kernel
theorem dX9_faultOf_38 : decode cX9_faultOf 38 = .ok (.bipush 32, 2) := by decide +kernel
theorem dX9_faultOf_40 : decode cX9_faultOf 40 = .ok (.if_icmp .ne 16, 3) := by decide +kernel
theorem dX9_faultOf_43 : decode cX9_faultOf 43 = .ok (.aload_n 0, 1) := by decide +kernel
theorem dX9_faultOf_44 : decode cX9_faultOf 44 = .ok (.dup, 1) := by decide +kernel
theorem dX9_faultOf_45 : decode cX9_faultOf 45 = .ok (.getfield 83, 3) := by decide +kernel
theorem dX9_faultOf_48 : decode cX9_faultOf 48 = .ok (.iconst 1, 1) := by decide +kernel
theorem dX9_faultOf_49 : decode cX9_faultOf 49 = .ok (.iadd, 1) := by decide +kernel
theorem dX9_faultOf_50 : decode cX9_faultOf 50 = .ok (.putfield 83, 3) := by decide +kernel
theorem dX9_faultOf_53 : decode cX9_faultOf 53 = .ok (.goto (-19), 3) := by decide +kernel
theorem dX9_faultOf_56 : decode cX9_faultOf 56 = .ok (.aload_n 0, 1) := by decide +kernel
theorem dX9_faultOf_57 : decode cX9_faultOf 57 = .ok (.getfield 83, 3) := by decide +kernel
theorem dX9_faultOf_60 : decode cX9_faultOf 60 = .ok (.aload_n 0, 1) := by decide +kernel
theorem dX9_faultOf_61 : decode cX9_faultOf 61 = .ok (.getfield 86, 3) := by decide +kernel
theorem dX9_faultOf_64 : decode cX9_faultOf 64 = .ok (.if_icmp .lt 10, 3) := by decide +kernel
theorem dX9_faultOf_67 : decode cX9_faultOf 67 = .ok (.aload_n 0, 1) := by decide +kernel
theorem dX9_faultOf_68 : decode cX9_faultOf 68 = .ok (.getfield 102, 3) := by decide +kernel
theorem dX9_faultOf_71 : decode cX9_faultOf 71 = .ok (.ifCond .ne 7, 3) := by decide +kernel
theorem dX9_faultOf_74 : decode cX9_faultOf 74 = .ok (.iconst 1, 1) := by decide +kernel
theorem dX9_faultOf_75 : decode cX9_faultOf 75 = .ok (.goto 4, 3) := by decide +kernel
theorem dX9_faultOf_78 : decode cX9_faultOf 78 = .ok (.iconst 0, 1) := by decide +kernel
theorem dX9_faultOf_79 : decode cX9_faultOf 79 = .ok (.istore_n 2, 1) := by decide +kernel
theorem dX9_faultOf_80 : decode cX9_faultOf 80 = .ok (.iload_n 2, 1) := by decide +kernel
theorem dX9_faultOf_81 : decode cX9_faultOf 81 = .ok (.ifCond .eq (-51), 3) := by decide +kernel
theorem dX9_faultOf_84 : decode cX9_faultOf 84 = .ok (.aload_n 0, 1) := by decide +kernel
theorem dX9_faultOf_85 : decode cX9_faultOf 85 = .ok (.invokevirtual 109, 3) := by decide +kernel
theorem dX9_faultOf_88 : decode cX9_faultOf 88 = .ok (.ifCond .ne (-58), 3) := by decide +kernel
theorem dX9_faultOf_91 : decode cX9_faultOf 91 = .ok (.aload_n 0, 1) := by decide +kernel
theorem dX9_faultOf_92 : decode cX9_faultOf 92 = .ok (.getfield 83, 3) := by decide +kernel
theorem dX9_faultOf_95 : decode cX9_faultOf 95 = .ok (.ireturn, 1) := by decide +kernel
theorem dX9_faultOf_96 : decode cX9_faultOf 96 = .ok (.bipush (-9), 2) := by decide +kernel
theorem dX9_faultOf_98 : decode cX9_faultOf 98 = .ok (.ireturn, 1) := by decide +kernel
theorem dX9_fault_0 : decode cX9_fault 0 = .ok (.iload_n 1, 1) := by decide +kernel
theorem dX9_fault_1 : decode cX9_fault 1 = .ok (.invokestatic 80, 3) := by decide +kernel
theorem dX9_fault_4 : decode cX9_fault 4 = .ok (.ifCond .ne 5, 3) := by decide +kernel
theorem dX9_fault_7 : decode cX9_fault 7 = .ok (.iconst (-1), 1) := by decide +kernel
theorem dX9_fault_8 : decode cX9_fault 8 = .ok (.ireturn, 1) := by decide +kernel
theorem dX9_fault_9 : decode cX9_fault 9 = .ok (.aload_n 0, 1) := by decide +kernel
theorem dX9_fault_10 : decode cX9_fault 10 = .ok (.getfield 19, 3) := by decide +kernel
theorem dX9_fault_13 : decode cX9_fault 13 = .ok (.iload_n 1, 1) := by decide +kernel
theorem dX9_fault_14 : decode cX9_fault 14 = .ok (.iaload, 1) := by decide +kernel
theorem dX9_fault_15 : decode cX9_fault 15 = .ok (.ifCond .ge 11, 3) := by decide +kernel
theorem dX9_fault_18 : decode cX9_fault 18 = .ok (.aload_n 0, 1) := by decide +kernel
theorem dX9_fault_19 : decode cX9_fault 19 = .ok (.iconst 1, 1) := by decide +kernel
theorem dX9_fault_20 : decode cX9_fault 20 = .ok (.invokevirtual 74, 3) := by decide +kernel
theorem dX9_fault_23 : decode cX9_fault 23 = .ok (.goto 8, 3) := by decide +kernel
theorem dX9_fault_26 : decode cX9_fault 26 = .ok (.aload_n 0, 1) := by decide +kernel
theorem dX9_fault_27 : decode cX9_fault 27 = .ok (.iload_n 1, 1) := by decide +kernel
theorem dX9_fault_28 : decode cX9_fault 28 = .ok (.invokevirtual 113, 3) := by decide +kernel
theorem dX9_fault_31 : decode cX9_fault 31 = .ok (.ireturn, 1) := by decide +kernel
theorem dX9_bank_0 : decode cX9_bank 0 = .ok (.iload_n 1, 1) := by decide +kernel
theorem dX9_bank_1 : decode cX9_bank 1 = .ok (.invokestatic 80, 3) := by decide +kernel
theorem dX9_bank_4 : decode cX9_bank 4 = .ok (.ifCond .ne 5, 3) := by decide +kernel
theorem dX9_bank_7 : decode cX9_bank 7 = .ok (.iconst (-1), 1) := by decide +kernel
theorem dX9_bank_8 : decode cX9_bank 8 = .ok (.ireturn, 1) := by decide +kernel
theorem dX9_bank_9 : decode cX9_bank 9 = .ok (.aload_n 0, 1) := by decide +kernel
theorem dX9_bank_10 : decode cX9_bank 10 = .ok (.getfield 19, 3) := by decide +kernel
theorem dX9_bank_13 : decode cX9_bank 13 = .ok (.iload_n 1, 1) := by decide +kernel
theorem dX9_bank_14 : decode cX9_bank 14 = .ok (.iaload, 1) := by decide +kernel
theorem dX9_bank_15 : decode cX9_bank 15 = .ok (.ifCond .ge 9, 3) := by decide +kernel
theorem dX9_bank_18 : decode cX9_bank 18 = .ok (.aload_n 0, 1) := by decide +kernel
theorem dX9_bank_19 : decode cX9_bank 19 = .ok (.iconst 1, 1) := by decide +kernel
theorem dX9_bank_20 : decode cX9_bank 20 = .ok (.invokevirtual 74, 3) := by decide +kernel
theorem dX9_bank_23 : decode cX9_bank 23 = .ok (.ireturn, 1) := by decide +kernel
theorem dX9_bank_24 : decode cX9_bank 24 = .ok (.aload_n 0, 1) := by decide +kernel
theorem dX9_bank_25 : decode cX9_bank 25 = .ok (.iload_n 1, 1) := by decide +kernel
theorem dX9_bank_26 : decode cX9_bank 26 = .ok (.invokevirtual 113, 3) := by decide +kernel
theorem dX9_bank_29 : decode cX9_bank 29 = .ok (.bipush (-9), 2) := by decide +kernel
theorem dX9_bank_31 : decode cX9_bank 31 = .ok (.if_icmp .eq 6, 3) := by decide +kernel
theorem dX9_bank_34 : decode cX9_bank 34 = .ok (.bipush (-4), 2) := by decide +kernel
theorem dX9_bank_36 : decode cX9_bank 36 = .ok (.ireturn, 1) := by decide +kernel
theorem dX9_bank_37 : decode cX9_bank 37 = .ok (.iconst 0, 1) := by decide +kernel
theorem dX9_bank_38 : decode cX9_bank 38 = .ok (.istore_n 2, 1) := by decide +kernel
theorem dX9_bank_39 : decode cX9_bank 39 = .ok (.iload_n 2, 1) := by decide +kernel
theorem dX9_bank_40 : decode cX9_bank 40 = .ok (.sipush 1776, 3) := by decide +kernel
theorem dX9_bank_43 : decode cX9_bank 43 = .ok (.if_icmp .ge 16, 3) := by decide +kernel
theorem dX9_bank_46 : decode cX9_bank 46 = .ok (.aload_n 0, 1) := by decide +kernel
theorem dX9_bank_47 : decode cX9_bank 47 = .ok (.getfield 7, 3) := by decide +kernel
theorem dX9_bank_50 : decode cX9_bank 50 = .ok (.iload_n 2, 1) := by decide +kernel
theorem dX9_bank_51 : decode cX9_bank 51 = .ok (.iconst 0, 1) := by decide +kernel
theorem dX9_bank_52 : decode cX9_bank 52 = .ok (.iastore, 1) := by decide +kernel
theorem dX9_bank_53 : decode cX9_bank 53 = .ok (.iinc 2 1, 3) := by decide +kernel
theorem dX9_bank_56 : decode cX9_bank 56 = .ok (.goto (-17), 3) := by decide +kernel
theorem dX9_bank_59 : decode cX9_bank 59 = .ok (.aload_n 0, 1) := by decide +kernel
theorem dX9_bank_60 : decode cX9_bank 60 = .ok (.getfield 7, 3) := by decide +kernel
theorem dX9_bank_63 : decode cX9_bank 63 = .ok (.iconst 0, 1) := by decide +kernel
theorem dX9_bank_64 : decode cX9_bank 64 = .ok (.aload_n 0, 1) := by decide +kernel
theorem dX9_bank_65 : decode cX9_bank 65 = .ok (.getfield 102, 3) := by decide +kernel
theorem dX9_bank_68 : decode cX9_bank 68 = .ok (.iastore, 1) := by decide +kernel
theorem dX9_bank_69 : decode cX9_bank 69 = .ok (.aload_n 0, 1) := by decide +kernel
theorem dX9_bank_70 : decode cX9_bank 70 = .ok (.getfield 7, 3) := by decide +kernel
theorem dX9_bank_73 : decode cX9_bank 73 = .ok (.iconst 2, 1) := by decide +kernel
theorem dX9_bank_74 : decode cX9_bank 74 = .ok (.iconst 1, 1) := by decide +kernel
theorem dX9_bank_75 : decode cX9_bank 75 = .ok (.aload_n 0, 1) := by decide +kernel
theorem dX9_bank_76 : decode cX9_bank 76 = .ok (.getfield 102, 3) := by decide +kernel
theorem dX9_bank_79 : decode cX9_bank 79 = .ok (.ishl, 1) := by decide +kernel
theorem dX9_bank_80 : decode cX9_bank 80 = .ok (.iconst 1, 1) := by decide +kernel
theorem dX9_bank_81 : decode cX9_bank 81 = .ok (.isub, 1) := by decide +kernel
theorem dX9_bank_82 : decode cX9_bank 82 = .ok (.iastore, 1) := by decide +kernel
theorem dX9_bank_83 : decode cX9_bank 83 = .ok (.iconst 0, 1) := by decide +kernel
theorem dX9_bank_84 : decode cX9_bank 84 = .ok (.istore_n 2, 1) := by decide +kernel
theorem dX9_bank_85 : decode cX9_bank 85 = .ok (.iload_n 2, 1) := by decide +kernel
theorem dX9_bank_86 : decode cX9_bank 86 = .ok (.aload_n 0, 1) := by decide +kernel
theorem dX9_bank_87 : decode cX9_bank 87 = .ok (.getfield 102, 3) := by decide +kernel
theorem dX9_bank_90 : decode cX9_bank 90 = .ok (.if_icmp .ge 101, 3) := by decide +kernel
theorem dX9_bank_93 : decode cX9_bank 93 = .ok (.aload_n 0, 1) := by decide +kernel
theorem dX9_bank_94 : decode cX9_bank 94 = .ok (.getfield 7, 3) := by decide +kernel
theorem dX9_bank_97 : decode cX9_bank 97 = .ok (.bipush 11, 2) := by decide +kernel
theorem dX9_bank_99 : decode cX9_bank 99 = .ok (.iload_n 2, 1) := by decide +kernel
theorem dX9_bank_100 : decode cX9_bank 100 = .ok (.iadd, 1) := by decide +kernel
theorem dX9_bank_101 : decode cX9_bank 101 = .ok (.aload_n 0, 1) := by decide +kernel
theorem dX9_bank_102 : decode cX9_bank 102 = .ok (.getfield 35, 3) := by decide +kernel
theorem dX9_bank_105 : decode cX9_bank 105 = .ok (.iconst 5, 1) := by decide +kernel
theorem dX9_bank_106 : decode cX9_bank 106 = .ok (.iload_n 2, 1) := by decide +kernel
theorem dX9_bank_107 : decode cX9_bank 107 = .ok (.imul, 1) := by decide +kernel
theorem dX9_bank_108 : decode cX9_bank 108 = .ok (.iaload, 1) := by decide +kernel
theorem dX9_bank_109 : decode cX9_bank 109 = .ok (.iastore, 1) := by decide +kernel
theorem dX9_bank_110 : decode cX9_bank 110 = .ok (.aload_n 0, 1) := by decide +kernel
theorem dX9_bank_111 : decode cX9_bank 111 = .ok (.getfield 7, 3) := by decide +kernel
theorem dX9_bank_114 : decode cX9_bank 114 = .ok (.bipush 19, 2) := by decide +kernel
theorem dX9_bank_116 : decode cX9_bank 116 = .ok (.iload_n 2, 1) := by decide +kernel
theorem dX9_bank_117 : decode cX9_bank 117 = .ok (.iadd, 1) := by decide +kernel
theorem dX9_bank_118 : decode cX9_bank 118 = .ok (.aload_n 0, 1) := by decide +kernel
theorem dX9_bank_119 : decode cX9_bank 119 = .ok (.getfield 35, 3) := by decide +kernel
theorem dX9_bank_122 : decode cX9_bank 122 = .ok (.iconst 5, 1) := by decide +kernel
theorem dX9_bank_123 : decode cX9_bank 123 = .ok (.iload_n 2, 1) := by decide +kernel
theorem dX9_bank_124 : decode cX9_bank 124 = .ok (.imul, 1) := by decide +kernel
theorem dX9_bank_125 : decode cX9_bank 125 = .ok (.iconst 1, 1) := by decide +kernel
theorem dX9_bank_126 : decode cX9_bank 126 = .ok (.iadd, 1) := by decide +kernel
theorem dX9_bank_127 : decode cX9_bank 127 = .ok (.iaload, 1) := by decide +kernel
theorem dX9_bank_128 : decode cX9_bank 128 = .ok (.iastore, 1) := by decide +kernel
theorem dX9_bank_129 : decode cX9_bank 129 = .ok (.aload_n 0, 1) := by decide +kernel
theorem dX9_bank_130 : decode cX9_bank 130 = .ok (.getfield 7, 3) := by decide +kernel
theorem dX9_bank_133 : decode cX9_bank 133 = .ok (.bipush 27, 2) := by decide +kernel
theorem dX9_bank_135 : decode cX9_bank 135 = .ok (.iload_n 2, 1) := by decide +kernel
theorem dX9_bank_136 : decode cX9_bank 136 = .ok (.iadd, 1) := by decide +kernel
theorem dX9_bank_137 : decode cX9_bank 137 = .ok (.aload_n 0, 1) := by decide +kernel
theorem dX9_bank_138 : decode cX9_bank 138 = .ok (.getfield 35, 3) := by decide +kernel
theorem dX9_bank_141 : decode cX9_bank 141 = .ok (.iconst 5, 1) := by decide +kernel
theorem dX9_bank_142 : decode cX9_bank 142 = .ok (.iload_n 2, 1) := by decide +kernel
theorem dX9_bank_143 : decode cX9_bank 143 = .ok (.imul, 1) := by decide +kernel
theorem dX9_bank_144 : decode cX9_bank 144 = .ok (.iconst 2, 1) := by decide +kernel
theorem dX9_bank_145 : decode cX9_bank 145 = .ok (.iadd, 1) := by decide +kernel
theorem dX9_bank_146 : decode cX9_bank 146 = .ok (.iaload, 1) := by decide +kernel
theorem dX9_bank_147 : decode cX9_bank 147 = .ok (.iastore, 1) := by decide +kernel
theorem dX9_bank_148 : decode cX9_bank 148 = .ok (.aload_n 0, 1) := by decide +kernel
theorem dX9_bank_149 : decode cX9_bank 149 = .ok (.getfield 7, 3) := by decide +kernel
theorem dX9_bank_152 : decode cX9_bank 152 = .ok (.iconst 3, 1) := by decide +kernel
theorem dX9_bank_153 : decode cX9_bank 153 = .ok (.iload_n 2, 1) := by decide +kernel
theorem dX9_bank_154 : decode cX9_bank 154 = .ok (.iadd, 1) := by decide +kernel
theorem dX9_bank_155 : decode cX9_bank 155 = .ok (.aload_n 0, 1) := by decide +kernel
theorem dX9_bank_156 : decode cX9_bank 156 = .ok (.getfield 35, 3) := by decide +kernel
theorem dX9_bank_159 : decode cX9_bank 159 = .ok (.iconst 5, 1) := by decide +kernel
theorem dX9_bank_160 : decode cX9_bank 160 = .ok (.iload_n 2, 1) := by decide +kernel
theorem dX9_bank_161 : decode cX9_bank 161 = .ok (.imul, 1) := by decide +kernel
theorem dX9_bank_162 : decode cX9_bank 162 = .ok (.iconst 3, 1) := by decide +kernel
theorem dX9_bank_163 : decode cX9_bank 163 = .ok (.iadd, 1) := by decide +kernel
theorem dX9_bank_164 : decode cX9_bank 164 = .ok (.iaload, 1) := by decide +kernel
theorem dX9_bank_165 : decode cX9_bank 165 = .ok (.iastore, 1) := by decide +kernel
theorem dX9_bank_166 : decode cX9_bank 166 = .ok (.aload_n 0, 1) := by decide +kernel
theorem dX9_bank_167 : decode cX9_bank 167 = .ok (.getfield 7, 3) := by decide +kernel
theorem dX9_bank_170 : decode cX9_bank 170 = .ok (.bipush 35, 2) := by decide +kernel
theorem dX9_bank_172 : decode cX9_bank 172 = .ok (.iload_n 2, 1) := by decide +kernel
theorem dX9_bank_173 : decode cX9_bank 173 = .ok (.iadd, 1) := by decide +kernel
theorem dX9_bank_174 : decode cX9_bank 174 = .ok (.aload_n 0, 1) := by decide +kernel
theorem dX9_bank_175 : decode cX9_bank 175 = .ok (.getfield 35, 3) := by decide +kernel
theorem dX9_bank_178 : decode cX9_bank 178 = .ok (.iconst 5, 1) := by decide +kernel
theorem dX9_bank_179 : decode cX9_bank 179 = .ok (.iload_n 2, 1) := by decide +kernel
theorem dX9_bank_180 : decode cX9_bank 180 = .ok (.imul, 1) := by decide +kernel
theorem dX9_bank_181 : decode cX9_bank 181 = .ok (.iconst 4, 1) := by decide +kernel
theorem dX9_bank_182 : decode cX9_bank 182 = .ok (.iadd, 1) := by decide +kernel
theorem dX9_bank_183 : decode cX9_bank 183 = .ok (.iaload, 1) := by decide +kernel
theorem dX9_bank_184 : decode cX9_bank 184 = .ok (.iastore, 1) := by decide +kernel
theorem dX9_bank_185 : decode cX9_bank 185 = .ok (.iinc 2 1, 3) := by decide +kernel
theorem dX9_bank_188 : decode cX9_bank 188 = .ok (.goto (-103), 3) := by decide +kernel
theorem dX9_bank_191 : decode cX9_bank 191 = .ok (.aload_n 0, 1) := by decide +kernel
theorem dX9_bank_192 : decode cX9_bank 192 = .ok (.getfield 102, 3) := by decide +kernel
theorem dX9_bank_195 : decode cX9_bank 195 = .ok (.ireturn, 1) := by decide +kernel
theorem dX9_dew_0 : decode cX9_dew 0 = .ok (.iload_n 0, 1) := by decide +kernel
theorem dX9_dew_1 : decode cX9_dew 1 = .ok (.iload_n 1, 1) := by decide +kernel
theorem dX9_dew_2 : decode cX9_dew 2 = .ok (.iadd, 1) := by decide +kernel
theorem dX9_dew_3 : decode cX9_dew 3 = .ok (.bipush 20, 2) := by decide +kernel
theorem dX9_dew_5 : decode cX9_dew 5 = .ok (.if_icmp .le 8, 3) := by decide +kernel
theorem dX9_dew_8 : decode cX9_dew 8 = .ok (.bipush 20, 2) := by decide +kernel
theorem dX9_dew_10 : decode cX9_dew 10 = .ok (.goto 6, 3) := by decide +kernel
theorem dX9_dew_13 : decode cX9_dew 13 = .ok (.iload_n 0, 1) := by decide +kernel
theorem dX9_dew_14 : decode cX9_dew 14 = .ok (.iload_n 1, 1) := by decide +kernel
theorem dX9_dew_15 : decode cX9_dew 15 = .ok (.iadd, 1) := by decide +kernel
theorem dX9_dew_16 : decode cX9_dew 16 = .ok (.ireturn, 1) := by decide +kernel
theorem dX9_forged_0 : decode cX9_forged 0 = .ok (.bipush 9, 2) := by decide +kernel
theorem dX9_forged_2 : decode cX9_forged 2 = .ok (.iload_n 0, 1) := by decide +kernel
theorem dX9_forged_3 : decode cX9_forged 3 = .ok (.isub, 1) := by decide +kernel
theorem dX9_forged_4 : decode cX9_forged 4 = .ok (.iload_n 1, 1) := by decide +kernel
theorem dX9_forged_5 : decode cX9_forged 5 = .ok (.iconst 2, 1) := by decide +kernel
theorem dX9_forged_6 : decode cX9_forged 6 = .ok (.irem, 1) := by decide +kernel
theorem dX9_forged_7 : decode cX9_forged 7 = .ok (.iadd, 1) := by decide +kernel
theorem dX9_forged_8 : decode cX9_forged 8 = .ok (.ireturn, 1) := by decide +kernel
theorem dX9_glowBy_0 : decode cX9_glowBy 0 = .ok (.iload_n 0, 1) := by decide +kernel
theorem dX9_glowBy_1 : decode cX9_glowBy 1 = .ok (.tableswitch 93 1 5 #[35, 41, 47, 53, 74], 35) := by decide +kernel
theorem dX9_glowBy_36 : decode cX9_glowBy 36 = .ok (.iload_n 1, 1) := by decide +kernel
theorem dX9_glowBy_37 : decode cX9_glowBy 37 = .ok (.iconst 1, 1) := by decide +kernel
theorem dX9_glowBy_38 : decode cX9_glowBy 38 = .ok (.iadd, 1) := by decide +kernel
theorem dX9_glowBy_39 : decode cX9_glowBy 39 = .ok (.iconst 2, 1) := by decide +kernel
theorem dX9_glowBy_40 : decode cX9_glowBy 40 = .ok (.idiv, 1) := by decide +kernel
theorem dX9_glowBy_41 : decode cX9_glowBy 41 = .ok (.ireturn, 1) := by decide +kernel
theorem dX9_glowBy_42 : decode cX9_glowBy 42 = .ok (.iload_n 1, 1) := by decide +kernel
theorem dX9_glowBy_43 : decode cX9_glowBy 43 = .ok (.iload_n 2, 1) := by decide +kernel
theorem dX9_glowBy_44 : decode cX9_glowBy 44 = .ok (.invokestatic 116, 3) := by decide +kernel
theorem dX9_glowBy_47 : decode cX9_glowBy 47 = .ok (.ireturn, 1) := by decide +kernel
theorem dX9_glowBy_48 : decode cX9_glowBy 48 = .ok (.iload_n 1, 1) := by decide +kernel
theorem dX9_glowBy_49 : decode cX9_glowBy 49 = .ok (.iload_n 2, 1) := by decide +kernel
theorem dX9_glowBy_50 : decode cX9_glowBy 50 = .ok (.invokestatic 120, 3) := by decide +kernel
theorem dX9_glowBy_53 : decode cX9_glowBy 53 = .ok (.ireturn, 1) := by decide +kernel
theorem dX9_glowBy_54 : decode cX9_glowBy 54 = .ok (.iload_n 2, 1) := by decide +kernel
theorem dX9_glowBy_55 : decode cX9_glowBy 55 = .ok (.iconst 5, 1) := by decide +kernel
theorem dX9_glowBy_56 : decode cX9_glowBy 56 = .ok (.if_icmp .lt 13, 3) := by decide +kernel
theorem dX9_glowBy_59 : decode cX9_glowBy 59 = .ok (.iload_n 1, 1) := by decide +kernel
theorem dX9_glowBy_60 : decode cX9_glowBy 60 = .ok (.iload_n 2, 1) := by decide +kernel
theorem dX9_glowBy_61 : decode cX9_glowBy 61 = .ok (.invokestatic 116, 3) := by decide +kernel
theorem dX9_glowBy_64 : decode cX9_glowBy 64 = .ok (.iconst 2, 1) := by decide +kernel
theorem dX9_glowBy_65 : decode cX9_glowBy 65 = .ok (.idiv, 1) := by decide +kernel
theorem dX9_glowBy_66 : decode cX9_glowBy 66 = .ok (.goto 8, 3) := by decide +kernel
theorem dX9_glowBy_69 : decode cX9_glowBy 69 = .ok (.iload_n 1, 1) := by decide +kernel
theorem dX9_glowBy_70 : decode cX9_glowBy 70 = .ok (.iload_n 2, 1) := by decide +kernel
theorem dX9_glowBy_71 : decode cX9_glowBy 71 = .ok (.invokestatic 116, 3) := by decide +kernel
theorem dX9_glowBy_74 : decode cX9_glowBy 74 = .ok (.ireturn, 1) := by decide +kernel
theorem dX9_glowBy_75 : decode cX9_glowBy 75 = .ok (.iload_n 1, 1) := by decide +kernel
theorem dX9_glowBy_76 : decode cX9_glowBy 76 = .ok (.iload_n 2, 1) := by decide +kernel
theorem dX9_glowBy_77 : decode cX9_glowBy 77 = .ok (.invokestatic 120, 3) := by decide +kernel
theorem dX9_glowBy_80 : decode cX9_glowBy 80 = .ok (.iconst 5, 1) := by decide +kernel
theorem dX9_glowBy_81 : decode cX9_glowBy 81 = .ok (.if_icmp .ge 7, 3) := by decide +kernel
theorem dX9_glowBy_84 : decode cX9_glowBy 84 = .ok (.iconst 5, 1) := by decide +kernel
theorem dX9_glowBy_85 : decode cX9_glowBy 85 = .ok (.goto 8, 3) := by decide +kernel
theorem dX9_glowBy_88 : decode cX9_glowBy 88 = .ok (.iload_n 1, 1) := by decide +kernel
theorem dX9_glowBy_89 : decode cX9_glowBy 89 = .ok (.iload_n 2, 1) := by decide +kernel
theorem dX9_glowBy_90 : decode cX9_glowBy 90 = .ok (.invokestatic 120, 3) := by decide +kernel
theorem dX9_glowBy_93 : decode cX9_glowBy 93 = .ok (.ireturn, 1) := by decide +kernel
theorem dX9_glowBy_94 : decode cX9_glowBy 94 = .ok (.iload_n 1, 1) := by decide +kernel
theorem dX9_glowBy_95 : decode cX9_glowBy 95 = .ok (.ireturn, 1) := by decide +kernel
theorem dX9_glowOf_0 : decode cX9_glowOf 0 = .ok (.aload_n 0, 1) := by decide +kernel
theorem dX9_glowOf_1 : decode cX9_glowOf 1 = .ok (.getfield 7, 3) := by decide +kernel
theorem dX9_glowOf_4 : decode cX9_glowOf 4 = .ok (.bipush 11, 2) := by decide +kernel
theorem dX9_glowOf_6 : decode cX9_glowOf 6 = .ok (.iload_n 1, 1) := by decide +kernel
theorem dX9_glowOf_7 : decode cX9_glowOf 7 = .ok (.iadd, 1) := by decide +kernel
theorem dX9_glowOf_8 : decode cX9_glowOf 8 = .ok (.iaload, 1) := by decide +kernel
theorem dX9_glowOf_9 : decode cX9_glowOf 9 = .ok (.aload_n 0, 1) := by decide +kernel
theorem dX9_glowOf_10 : decode cX9_glowOf 10 = .ok (.getfield 7, 3) := by decide +kernel
theorem dX9_glowOf_13 : decode cX9_glowOf 13 = .ok (.bipush 35, 2) := by decide +kernel
theorem dX9_glowOf_15 : decode cX9_glowOf 15 = .ok (.iload_n 1, 1) := by decide +kernel
theorem dX9_glowOf_16 : decode cX9_glowOf 16 = .ok (.iadd, 1) := by decide +kernel
theorem dX9_glowOf_17 : decode cX9_glowOf 17 = .ok (.iaload, 1) := by decide +kernel
theorem dX9_glowOf_18 : decode cX9_glowOf 18 = .ok (.iload_n 2, 1) := by decide +kernel
theorem dX9_glowOf_19 : decode cX9_glowOf 19 = .ok (.invokestatic 123, 3) := by decide +kernel
theorem dX9_glowOf_22 : decode cX9_glowOf 22 = .ok (.ireturn, 1) := by decide +kernel
theorem dX9_light_0 : decode cX9_light 0 = .ok (.aload_n 0, 1) := by decide +kernel
theorem dX9_light_1 : decode cX9_light 1 = .ok (.iload_n 1, 1) := by decide +kernel
theorem dX9_light_2 : decode cX9_light 2 = .ok (.invokevirtual 127, 3) := by decide +kernel
theorem dX9_light_5 : decode cX9_light 5 = .ok (.ifCond .eq 15, 3) := by decide +kernel
theorem dX9_light_8 : decode cX9_light 8 = .ok (.iload_n 2, 1) := by decide +kernel
theorem dX9_light_9 : decode cX9_light 9 = .ok (.i2l, 1) := by decide +kernel
theorem dX9_light_10 : decode cX9_light 10 = .ok (.lconst 0, 1) := by decide +kernel
theorem dX9_light_11 : decode cX9_light 11 = .ok (.ldc2_w 130, 3) := by decide +kernel
theorem dX9_light_14 : decode cX9_light 14 = .ok (.invokestatic 62, 3) := by decide +kernel
theorem dX9_light_17 : decode cX9_light 17 = .ok (.ifCond .ne 5, 3) := by decide +kernel
theorem dX9_light_20 : decode cX9_light 20 = .ok (.iconst (-1), 1) := by decide +kernel
theorem dX9_light_21 : decode cX9_light 21 = .ok (.ireturn, 1) := by decide +kernel
theorem dX9_light_22 : decode cX9_light 22 = .ok (.aload_n 0, 1) := by decide +kernel
theorem dX9_light_23 : decode cX9_light 23 = .ok (.aload_n 0, 1) := by decide +kernel
theorem dX9_light_24 : decode cX9_light 24 = .ok (.iload_n 1, 1) := by decide +kernel
theorem dX9_light_25 : decode cX9_light 25 = .ok (.iload_n 2, 1) := by decide +kernel
theorem dX9_light_26 : decode cX9_light 26 = .ok (.invokevirtual 132, 3) := by decide +kernel
theorem dX9_light_29 : decode cX9_light 29 = .ok (.invokevirtual 77, 3) := by decide +kernel
theorem dX9_light_32 : decode cX9_light 32 = .ok (.ireturn, 1) := by decide +kernel
theorem dX9_lightOf_0 : decode cX9_lightOf 0 = .ok (.iload_n 2, 1) := by decide +kernel
theorem dX9_lightOf_1 : decode cX9_lightOf 1 = .ok (.tableswitch 99 0 5 #[39, 49, 59, 69, 78, 88], 39) := by decide +kernel
theorem dX9_lightOf_40 : decode cX9_lightOf 40 = .ok (.aload_n 0, 1) := by decide +kernel
theorem dX9_lightOf_41 : decode cX9_lightOf 41 = .ok (.getfield 7, 3) := by decide +kernel
theorem dX9_lightOf_44 : decode cX9_lightOf 44 = .ok (.bipush 11, 2) := by decide +kernel
theorem dX9_lightOf_46 : decode cX9_lightOf 46 = .ok (.iload_n 1, 1) := by decide +kernel
theorem dX9_lightOf_47 : decode cX9_lightOf 47 = .ok (.iadd, 1) := by decide +kernel
theorem dX9_lightOf_48 : decode cX9_lightOf 48 = .ok (.iaload, 1) := by decide +kernel
theorem dX9_lightOf_49 : decode cX9_lightOf 49 = .ok (.ireturn, 1) := by decide +kernel
theorem dX9_lightOf_50 : decode cX9_lightOf 50 = .ok (.aload_n 0, 1) := by decide +kernel
theorem dX9_lightOf_51 : decode cX9_lightOf 51 = .ok (.getfield 7, 3) := by decide +kernel
theorem dX9_lightOf_54 : decode cX9_lightOf 54 = .ok (.bipush 19, 2) := by decide +kernel
theorem dX9_lightOf_56 : decode cX9_lightOf 56 = .ok (.iload_n 1, 1) := by decide +kernel
theorem dX9_lightOf_57 : decode cX9_lightOf 57 = .ok (.iadd, 1) := by decide +kernel
theorem dX9_lightOf_58 : decode cX9_lightOf 58 = .ok (.iaload, 1) := by decide +kernel
theorem dX9_lightOf_59 : decode cX9_lightOf 59 = .ok (.ireturn, 1) := by decide +kernel
theorem dX9_lightOf_60 : decode cX9_lightOf 60 = .ok (.aload_n 0, 1) := by decide +kernel
theorem dX9_lightOf_61 : decode cX9_lightOf 61 = .ok (.getfield 7, 3) := by decide +kernel
theorem dX9_lightOf_64 : decode cX9_lightOf 64 = .ok (.bipush 27, 2) := by decide +kernel
theorem dX9_lightOf_66 : decode cX9_lightOf 66 = .ok (.iload_n 1, 1) := by decide +kernel
theorem dX9_lightOf_67 : decode cX9_lightOf 67 = .ok (.iadd, 1) := by decide +kernel
theorem dX9_lightOf_68 : decode cX9_lightOf 68 = .ok (.iaload, 1) := by decide +kernel
theorem dX9_lightOf_69 : decode cX9_lightOf 69 = .ok (.ireturn, 1) := by decide +kernel
theorem dX9_lightOf_70 : decode cX9_lightOf 70 = .ok (.aload_n 0, 1) := by decide +kernel
theorem dX9_lightOf_71 : decode cX9_lightOf 71 = .ok (.getfield 7, 3) := by decide +kernel
theorem dX9_lightOf_74 : decode cX9_lightOf 74 = .ok (.iconst 3, 1) := by decide +kernel
theorem dX9_lightOf_75 : decode cX9_lightOf 75 = .ok (.iload_n 1, 1) := by decide +kernel
theorem dX9_lightOf_76 : decode cX9_lightOf 76 = .ok (.iadd, 1) := by decide +kernel
theorem dX9_lightOf_77 : decode cX9_lightOf 77 = .ok (.iaload, 1) := by decide +kernel
theorem dX9_lightOf_78 : decode cX9_lightOf 78 = .ok (.ireturn, 1) := by decide +kernel
theorem dX9_lightOf_79 : decode cX9_lightOf 79 = .ok (.aload_n 0, 1) := by decide +kernel
theorem dX9_lightOf_80 : decode cX9_lightOf 80 = .ok (.getfield 7, 3) := by decide +kernel
theorem dX9_lightOf_83 : decode cX9_lightOf 83 = .ok (.bipush 35, 2) := by decide +kernel
theorem dX9_lightOf_85 : decode cX9_lightOf 85 = .ok (.iload_n 1, 1) := by decide +kernel
theorem dX9_lightOf_86 : decode cX9_lightOf 86 = .ok (.iadd, 1) := by decide +kernel
theorem dX9_lightOf_87 : decode cX9_lightOf 87 = .ok (.iaload, 1) := by decide +kernel
theorem dX9_lightOf_88 : decode cX9_lightOf 88 = .ok (.ireturn, 1) := by decide +kernel
theorem dX9_lightOf_89 : decode cX9_lightOf 89 = .ok (.aload_n 0, 1) := by decide +kernel
theorem dX9_lightOf_90 : decode cX9_lightOf 90 = .ok (.getfield 7, 3) := by decide +kernel
theorem dX9_lightOf_93 : decode cX9_lightOf 93 = .ok (.iconst 2, 1) := by decide +kernel
theorem dX9_lightOf_94 : decode cX9_lightOf 94 = .ok (.iaload, 1) := by decide +kernel
theorem dX9_lightOf_95 : decode cX9_lightOf 95 = .ok (.iload_n 1, 1) := by decide +kernel
theorem dX9_lightOf_96 : decode cX9_lightOf 96 = .ok (.ishr, 1) := by decide +kernel
theorem dX9_lightOf_97 : decode cX9_lightOf 97 = .ok (.iconst 1, 1) := by decide +kernel
theorem dX9_lightOf_98 : decode cX9_lightOf 98 = .ok (.iand, 1) := by decide +kernel
theorem dX9_lightOf_99 : decode cX9_lightOf 99 = .ok (.ireturn, 1) := by decide +kernel
theorem dX9_lightOf_100 : decode cX9_lightOf 100 = .ok (.aload_n 0, 1) := by decide +kernel
theorem dX9_lightOf_101 : decode cX9_lightOf 101 = .ok (.iload_n 1, 1) := by decide +kernel
theorem dX9_lightOf_102 : decode cX9_lightOf 102 = .ok (.aload_n 0, 1) := by decide +kernel
theorem dX9_lightOf_103 : decode cX9_lightOf 103 = .ok (.getfield 7, 3) := by decide +kernel
theorem dX9_lightOf_106 : decode cX9_lightOf 106 = .ok (.iconst 1, 1) := by decide +kernel
theorem dX9_lightOf_107 : decode cX9_lightOf 107 = .ok (.iaload, 1) := by decide +kernel
theorem dX9_lightOf_108 : decode cX9_lightOf 108 = .ok (.invokevirtual 135, 3) := by decide +kernel
theorem dX9_lightOf_111 : decode cX9_lightOf 111 = .ok (.ireturn, 1) := by decide +kernel
theorem dX9_isA_0 : decode cX9_isA 0 = .ok (.iload_n 0, 1) := by decide +kernel
theorem dX9_isA_1 : decode cX9_isA 1 = .ok (.iload_n 1, 1) := by decide +kernel
theorem dX9_isA_2 : decode cX9_isA 2 = .ok (.if_icmp .eq 23, 3) := by decide +kernel
theorem dX9_isA_5 : decode cX9_isA 5 = .ok (.iload_n 1, 1) := by decide +kernel
theorem dX9_isA_6 : decode cX9_isA 6 = .ok (.iconst 2, 1) := by decide +kernel
theorem dX9_isA_7 : decode cX9_isA 7 = .ok (.if_icmp .ne 8, 3) := by decide +kernel
theorem dX9_isA_10 : decode cX9_isA 10 = .ok (.iload_n 0, 1) := by decide +kernel
theorem dX9_isA_11 : decode cX9_isA 11 = .ok (.iconst 4, 1) := by decide +kernel
theorem dX9_isA_12 : decode cX9_isA 12 = .ok (.if_icmp .eq 13, 3) := by decide +kernel
theorem dX9_isA_15 : decode cX9_isA 15 = .ok (.iload_n 1, 1) := by decide +kernel
theorem dX9_isA_16 : decode cX9_isA 16 = .ok (.iconst 3, 1) := by decide +kernel
theorem dX9_isA_17 : decode cX9_isA 17 = .ok (.if_icmp .ne 12, 3) := by decide +kernel
theorem dX9_isA_20 : decode cX9_isA 20 = .ok (.iload_n 0, 1) := by decide +kernel
theorem dX9_isA_21 : decode cX9_isA 21 = .ok (.iconst 5, 1) := by decide +kernel
theorem dX9_isA_22 : decode cX9_isA 22 = .ok (.if_icmp .ne 7, 3) := by decide +kernel
theorem dX9_isA_25 : decode cX9_isA 25 = .ok (.iconst 1, 1) := by decide +kernel
theorem dX9_isA_26 : decode cX9_isA 26 = .ok (.goto 4, 3) := by decide +kernel
theorem dX9_isA_29 : decode cX9_isA 29 = .ok (.iconst 0, 1) := by decide +kernel
theorem dX9_isA_30 : decode cX9_isA 30 = .ok (.ireturn, 1) := by decide +kernel
theorem dX9_mark_0 : decode cX9_mark 0 = .ok (.aload_n 0, 1) := by decide +kernel
theorem dX9_mark_1 : decode cX9_mark 1 = .ok (.iload_n 1, 1) := by decide +kernel
theorem dX9_mark_2 : decode cX9_mark 2 = .ok (.invokevirtual 127, 3) := by decide +kernel
theorem dX9_mark_5 : decode cX9_mark 5 = .ok (.ifCond .eq 15, 3) := by decide +kernel
theorem dX9_mark_8 : decode cX9_mark 8 = .ok (.iload_n 2, 1) := by decide +kernel
theorem dX9_mark_9 : decode cX9_mark 9 = .ok (.i2l, 1) := by decide +kernel
theorem dX9_mark_10 : decode cX9_mark 10 = .ok (.lconst 1, 1) := by decide +kernel
theorem dX9_mark_11 : decode cX9_mark 11 = .ok (.ldc2_w 60, 3) := by decide +kernel
theorem dX9_mark_14 : decode cX9_mark 14 = .ok (.invokestatic 62, 3) := by decide +kernel
theorem dX9_mark_17 : decode cX9_mark 17 = .ok (.ifCond .ne 5, 3) := by decide +kernel
theorem dX9_mark_20 : decode cX9_mark 20 = .ok (.iconst (-1), 1) := by decide +kernel
theorem dX9_mark_21 : decode cX9_mark 21 = .ok (.ireturn, 1) := by decide +kernel
theorem dX9_mark_22 : decode cX9_mark 22 = .ok (.aload_n 0, 1) := by decide +kernel
theorem dX9_mark_23 : decode cX9_mark 23 = .ok (.getfield 7, 3) := by decide +kernel
theorem dX9_mark_26 : decode cX9_mark 26 = .ok (.bipush 11, 2) := by decide +kernel
theorem dX9_mark_28 : decode cX9_mark 28 = .ok (.iload_n 1, 1) := by decide +kernel
theorem dX9_mark_29 : decode cX9_mark 29 = .ok (.iadd, 1) := by decide +kernel
theorem dX9_mark_30 : decode cX9_mark 30 = .ok (.iaload, 1) := by decide +kernel
theorem dX9_mark_31 : decode cX9_mark 31 = .ok (.iload_n 2, 1) := by decide +kernel
theorem dX9_mark_32 : decode cX9_mark 32 = .ok (.invokestatic 138, 3) := by decide +kernel
theorem dX9_mark_35 : decode cX9_mark 35 = .ok (.ifCond .ne 9, 3) := by decide +kernel
theorem dX9_mark_38 : decode cX9_mark 38 = .ok (.aload_n 0, 1) := by decide +kernel
theorem dX9_mark_39 : decode cX9_mark 39 = .ok (.iconst 3, 1) := by decide +kernel
theorem dX9_mark_40 : decode cX9_mark 40 = .ok (.invokevirtual 74, 3) := by decide +kernel
theorem dX9_mark_43 : decode cX9_mark 43 = .ok (.ireturn, 1) := by decide +kernel
theorem dX9_mark_44 : decode cX9_mark 44 = .ok (.aload_n 0, 1) := by decide +kernel
theorem dX9_mark_45 : decode cX9_mark 45 = .ok (.getfield 7, 3) := by decide +kernel
theorem dX9_mark_48 : decode cX9_mark 48 = .ok (.bipush 35, 2) := by decide +kernel
theorem dX9_mark_50 : decode cX9_mark 50 = .ok (.iload_n 1, 1) := by decide +kernel
theorem dX9_mark_51 : decode cX9_mark 51 = .ok (.iadd, 1) := by decide +kernel
theorem dX9_mark_52 : decode cX9_mark 52 = .ok (.iaload, 1) := by decide +kernel
theorem dX9_mark_53 : decode cX9_mark 53 = .ok (.istore_n 3, 1) := by decide +kernel
theorem dX9_mark_54 : decode cX9_mark 54 = .ok (.aload_n 0, 1) := by decide +kernel
theorem dX9_mark_55 : decode cX9_mark 55 = .ok (.iload_n 1, 1) := by decide +kernel
theorem dX9_mark_56 : decode cX9_mark 56 = .ok (.aload_n 0, 1) := by decide +kernel
theorem dX9_mark_57 : decode cX9_mark 57 = .ok (.getfield 7, 3) := by decide +kernel
theorem dX9_mark_60 : decode cX9_mark 60 = .ok (.iconst 1, 1) := by decide +kernel
theorem dX9_mark_61 : decode cX9_mark 61 = .ok (.iaload, 1) := by decide +kernel
theorem dX9_mark_62 : decode cX9_mark 62 = .ok (.invokevirtual 135, 3) := by decide +kernel
theorem dX9_mark_65 : decode cX9_mark 65 = .ok (.istore 4, 2) := by decide +kernel
theorem dX9_mark_67 : decode cX9_mark 67 = .ok (.iload_n 2, 1) := by decide +kernel
theorem dX9_mark_68 : decode cX9_mark 68 = .ok (.tableswitch 67 1 4 #[32, 37, 45, 53], 32) := by decide +kernel
theorem dX9_mark_100 : decode cX9_mark 100 = .ok (.iload_n 3, 1) := by decide +kernel
theorem dX9_mark_101 : decode cX9_mark 101 = .ok (.iload 4, 2) := by decide +kernel
theorem dX9_mark_103 : decode cX9_mark 103 = .ok (.isub, 1) := by decide +kernel
theorem dX9_mark_104 : decode cX9_mark 104 = .ok (.ireturn, 1) := by decide +kernel
theorem dX9_mark_105 : decode cX9_mark 105 = .ok (.bipush 100, 2) := by decide +kernel
theorem dX9_mark_107 : decode cX9_mark 107 = .ok (.iload 4, 2) := by decide +kernel
theorem dX9_mark_109 : decode cX9_mark 109 = .ok (.iadd, 1) := by decide +kernel
theorem dX9_mark_110 : decode cX9_mark 110 = .ok (.iload_n 3, 1) := by decide +kernel
theorem dX9_mark_111 : decode cX9_mark 111 = .ok (.isub, 1) := by decide +kernel
theorem dX9_mark_112 : decode cX9_mark 112 = .ok (.ireturn, 1) := by decide +kernel
theorem dX9_mark_113 : decode cX9_mark 113 = .ok (.bipush 100, 2) := by decide +kernel
theorem dX9_mark_115 : decode cX9_mark 115 = .ok (.iload_n 3, 1) := by decide +kernel
theorem dX9_mark_116 : decode cX9_mark 116 = .ok (.iadd, 1) := by decide +kernel
theorem dX9_mark_117 : decode cX9_mark 117 = .ok (.iload 4, 2) := by decide +kernel
theorem dX9_mark_119 : decode cX9_mark 119 = .ok (.isub, 1) := by decide +kernel
theorem dX9_mark_120 : decode cX9_mark 120 = .ok (.ireturn, 1) := by decide +kernel
theorem dX9_mark_121 : decode cX9_mark 121 = .ok (.iload_n 3, 1) := by decide +kernel
theorem dX9_mark_122 : decode cX9_mark 122 = .ok (.aload_n 0, 1) := by decide +kernel
theorem dX9_mark_123 : decode cX9_mark 123 = .ok (.getfield 7, 3) := by decide +kernel
theorem dX9_mark_126 : decode cX9_mark 126 = .ok (.iconst 1, 1) := by decide +kernel
theorem dX9_mark_127 : decode cX9_mark 127 = .ok (.iaload, 1) := by decide +kernel
theorem dX9_mark_128 : decode cX9_mark 128 = .ok (.invokestatic 116, 3) := by decide +kernel
theorem dX9_mark_131 : decode cX9_mark 131 = .ok (.iload 4, 2) := by decide +kernel
theorem dX9_mark_133 : decode cX9_mark 133 = .ok (.isub, 1) := by decide +kernel
theorem dX9_mark_134 : decode cX9_mark 134 = .ok (.ireturn, 1) := by decide +kernel
theorem dX9_mark_135 : decode cX9_mark 135 = .ok (.iload 4, 2) := by decide +kernel
theorem dX9_mark_137 : decode cX9_mark 137 = .ok (.iload_n 3, 1) := by decide +kernel
theorem dX9_mark_138 : decode cX9_mark 138 = .ok (.aload_n 0, 1) := by decide +kernel
theorem dX9_mark_139 : decode cX9_mark 139 = .ok (.getfield 7, 3) := by decide +kernel
theorem dX9_mark_142 : decode cX9_mark 142 = .ok (.iconst 1, 1) := by decide +kernel
theorem dX9_mark_143 : decode cX9_mark 143 = .ok (.iaload, 1) := by decide +kernel
theorem dX9_mark_144 : decode cX9_mark 144 = .ok (.invokestatic 120, 3) := by decide +kernel
theorem dX9_mark_147 : decode cX9_mark 147 = .ok (.isub, 1) := by decide +kernel
theorem dX9_mark_148 : decode cX9_mark 148 = .ok (.ireturn, 1) := by decide +kernel
theorem dX9_glows_0 : decode cX9_glows 0 = .ok (.aload_n 0, 1) := by decide +kernel
theorem dX9_glows_1 : decode cX9_glows 1 = .ok (.iload_n 1, 1) := by decide +kernel
theorem dX9_glows_2 : decode cX9_glows 2 = .ok (.invokevirtual 127, 3) := by decide +kernel
theorem dX9_glows_5 : decode cX9_glows 5 = .ok (.ifCond .eq 24, 3) := by decide +kernel
theorem dX9_glows_8 : decode cX9_glows 8 = .ok (.iload_n 2, 1) := by decide +kernel
theorem dX9_glows_9 : decode cX9_glows 9 = .ok (.i2l, 1) := by decide +kernel
theorem dX9_glows_10 : decode cX9_glows 10 = .ok (.lconst 0, 1) := by decide +kernel
theorem dX9_glows_11 : decode cX9_glows 11 = .ok (.ldc2_w 141, 3) := by decide +kernel
theorem dX9_glows_14 : decode cX9_glows 14 = .ok (.invokestatic 62, 3) := by decide +kernel
theorem dX9_glows_17 : decode cX9_glows 17 = .ok (.ifCond .eq 12, 3) := by decide +kernel
theorem dX9_glows_20 : decode cX9_glows 20 = .ok (.aload_n 0, 1) := by decide +kernel
theorem dX9_glows_21 : decode cX9_glows 21 = .ok (.iload_n 1, 1) := by decide +kernel
theorem dX9_glows_22 : decode cX9_glows 22 = .ok (.iload_n 2, 1) := by decide +kernel
theorem dX9_glows_23 : decode cX9_glows 23 = .ok (.invokevirtual 135, 3) := by decide +kernel
theorem dX9_glows_26 : decode cX9_glows 26 = .ok (.goto 4, 3) := by decide +kernel
theorem dX9_glows_29 : decode cX9_glows 29 = .ok (.iconst (-1), 1) := by decide +kernel
theorem dX9_glows_30 : decode cX9_glows 30 = .ok (.ireturn, 1) := by decide +kernel
theorem dX9_minds_0 : decode cX9_minds 0 = .ok (.bipush 44, 2) := by decide +kernel
theorem dX9_minds_2 : decode cX9_minds 2 = .ok (.bipush 10, 2) := by decide +kernel
theorem dX9_minds_4 : decode cX9_minds 4 = .ok (.aload_n 0, 1) := by decide +kernel
theorem dX9_minds_5 : decode cX9_minds 5 = .ok (.getfield 7, 3) := by decide +kernel
theorem dX9_minds_8 : decode cX9_minds 8 = .ok (.bipush 43, 2) := by decide +kernel
theorem dX9_minds_10 : decode cX9_minds 10 = .ok (.iaload, 1) := by decide +kernel
theorem dX9_minds_11 : decode cX9_minds 11 = .ok (.imul, 1) := by decide +kernel
theorem dX9_minds_12 : decode cX9_minds 12 = .ok (.iadd, 1) := by decide +kernel
theorem dX9_minds_13 : decode cX9_minds 13 = .ok (.istore_n 1, 1) := by decide +kernel
theorem dX9_minds_14 : decode cX9_minds 14 = .ok (.aload_n 0, 1) := by decide +kernel
theorem dX9_minds_15 : decode cX9_minds 15 = .ok (.getfield 7, 3) := by decide +kernel
theorem dX9_minds_18 : decode cX9_minds 18 = .ok (.iload_n 1, 1) := by decide +kernel
theorem dX9_minds_19 : decode cX9_minds 19 = .ok (.aload_n 0, 1) := by decide +kernel
theorem dX9_minds_20 : decode cX9_minds 20 = .ok (.getfield 7, 3) := by decide +kernel
theorem dX9_minds_23 : decode cX9_minds 23 = .ok (.iconst 1, 1) := by decide +kernel
theorem dX9_minds_24 : decode cX9_minds 24 = .ok (.iaload, 1) := by decide +kernel
theorem dX9_minds_25 : decode cX9_minds 25 = .ok (.iastore, 1) := by decide +kernel
theorem dX9_minds_26 : decode cX9_minds 26 = .ok (.aload_n 0, 1) := by decide +kernel
theorem dX9_minds_27 : decode cX9_minds 27 = .ok (.getfield 7, 3) := by decide +kernel
theorem dX9_minds_30 : decode cX9_minds 30 = .ok (.iload_n 1, 1) := by decide +kernel
theorem dX9_minds_31 : decode cX9_minds 31 = .ok (.iconst 1, 1) := by decide +kernel
theorem dX9_minds_32 : decode cX9_minds 32 = .ok (.iadd, 1) := by decide +kernel
theorem dX9_minds_33 : decode cX9_minds 33 = .ok (.aload_n 0, 1) := by decide +kernel
theorem dX9_minds_34 : decode cX9_minds 34 = .ok (.getfield 7, 3) := by decide +kernel
theorem dX9_minds_37 : decode cX9_minds 37 = .ok (.iconst 2, 1) := by decide +kernel
theorem dX9_minds_38 : decode cX9_minds 38 = .ok (.iaload, 1) := by decide +kernel
theorem dX9_minds_39 : decode cX9_minds 39 = .ok (.iastore, 1) := by decide +kernel
theorem dX9_minds_40 : decode cX9_minds 40 = .ok (.iconst 0, 1) := by decide +kernel
theorem dX9_minds_41 : decode cX9_minds 41 = .ok (.istore_n 2, 1) := by decide +kernel
theorem dX9_minds_42 : decode cX9_minds 42 = .ok (.iload_n 2, 1) := by decide +kernel
theorem dX9_minds_43 : decode cX9_minds 43 = .ok (.bipush 8, 2) := by decide +kernel
theorem dX9_minds_45 : decode cX9_minds 45 = .ok (.if_icmp .ge 27, 3) := by decide +kernel
theorem dX9_minds_48 : decode cX9_minds 48 = .ok (.aload_n 0, 1) := by decide +kernel
theorem dX9_minds_49 : decode cX9_minds 49 = .ok (.getfield 7, 3) := by decide +kernel
theorem dX9_minds_52 : decode cX9_minds 52 = .ok (.iload_n 1, 1) := by decide +kernel
theorem dX9_minds_53 : decode cX9_minds 53 = .ok (.iconst 2, 1) := by decide +kernel
theorem dX9_minds_54 : decode cX9_minds 54 = .ok (.iadd, 1) := by decide +kernel
theorem dX9_minds_55 : decode cX9_minds 55 = .ok (.iload_n 2, 1) := by decide +kernel
theorem dX9_minds_56 : decode cX9_minds 56 = .ok (.iadd, 1) := by decide +kernel
theorem dX9_minds_57 : decode cX9_minds 57 = .ok (.aload_n 0, 1) := by decide +kernel
theorem dX9_minds_58 : decode cX9_minds 58 = .ok (.getfield 7, 3) := by decide +kernel
theorem dX9_minds_61 : decode cX9_minds 61 = .ok (.iconst 3, 1) := by decide +kernel
theorem dX9_minds_62 : decode cX9_minds 62 = .ok (.iload_n 2, 1) := by decide +kernel
theorem dX9_minds_63 : decode cX9_minds 63 = .ok (.iadd, 1) := by decide +kernel
theorem dX9_minds_64 : decode cX9_minds 64 = .ok (.iaload, 1) := by decide +kernel
theorem dX9_minds_65 : decode cX9_minds 65 = .ok (.iastore, 1) := by decide +kernel
theorem dX9_minds_66 : decode cX9_minds 66 = .ok (.iinc 2 1, 3) := by decide +kernel
theorem dX9_minds_69 : decode cX9_minds 69 = .ok (.goto (-27), 3) := by decide +kernel
theorem dX9_minds_72 : decode cX9_minds 72 = .ok (.aload_n 0, 1) := by decide +kernel
theorem dX9_minds_73 : decode cX9_minds 73 = .ok (.getfield 7, 3) := by decide +kernel
theorem dX9_minds_76 : decode cX9_minds 76 = .ok (.bipush 43, 2) := by decide +kernel
theorem dX9_minds_78 : decode cX9_minds 78 = .ok (.dup2, 1) := by decide +kernel
theorem dX9_minds_79 : decode cX9_minds 79 = .ok (.iaload, 1) := by decide +kernel
theorem dX9_minds_80 : decode cX9_minds 80 = .ok (.iconst 1, 1) := by decide +kernel
theorem dX9_minds_81 : decode cX9_minds 81 = .ok (.iadd, 1) := by decide +kernel
theorem dX9_minds_82 : decode cX9_minds 82 = .ok (.iastore, 1) := by decide +kernel
theorem dX9_minds_83 : decode cX9_minds 83 = .ok (.return_, 1) := by decide +kernel
theorem dX9_glowAll_0 : decode cX9_glowAll 0 = .ok (.iconst 0, 1) := by decide +kernel
theorem dX9_glowAll_1 : decode cX9_glowAll 1 = .ok (.istore_n 1, 1) := by decide +kernel
theorem dX9_glowAll_2 : decode cX9_glowAll 2 = .ok (.iconst 0, 1) := by decide +kernel
theorem dX9_glowAll_3 : decode cX9_glowAll 3 = .ok (.istore_n 2, 1) := by decide +kernel
theorem dX9_glowAll_4 : decode cX9_glowAll 4 = .ok (.iload_n 2, 1) := by decide +kernel
theorem dX9_glowAll_5 : decode cX9_glowAll 5 = .ok (.aload_n 0, 1) := by decide +kernel
theorem dX9_glowAll_6 : decode cX9_glowAll 6 = .ok (.getfield 7, 3) := by decide +kernel
theorem dX9_glowAll_9 : decode cX9_glowAll 9 = .ok (.iconst 0, 1) := by decide +kernel
theorem dX9_glowAll_10 : decode cX9_glowAll 10 = .ok (.iaload, 1) := by decide +kernel
theorem dX9_glowAll_11 : decode cX9_glowAll 11 = .ok (.if_icmp .ge 40, 3) := by decide +kernel
theorem dX9_glowAll_14 : decode cX9_glowAll 14 = .ok (.iload_n 1, 1) := by decide +kernel
theorem dX9_glowAll_15 : decode cX9_glowAll 15 = .ok (.aload_n 0, 1) := by decide +kernel
theorem dX9_glowAll_16 : decode cX9_glowAll 16 = .ok (.getfield 7, 3) := by decide +kernel
theorem dX9_glowAll_19 : decode cX9_glowAll 19 = .ok (.iconst 2, 1) := by decide +kernel
theorem dX9_glowAll_20 : decode cX9_glowAll 20 = .ok (.iaload, 1) := by decide +kernel
theorem dX9_glowAll_21 : decode cX9_glowAll 21 = .ok (.iload_n 2, 1) := by decide +kernel
theorem dX9_glowAll_22 : decode cX9_glowAll 22 = .ok (.invokestatic 143, 3) := by decide +kernel
theorem dX9_glowAll_25 : decode cX9_glowAll 25 = .ok (.ifCond .eq 17, 3) := by decide +kernel
theorem dX9_glowAll_28 : decode cX9_glowAll 28 = .ok (.aload_n 0, 1) := by decide +kernel
theorem dX9_glowAll_29 : decode cX9_glowAll 29 = .ok (.iload_n 2, 1) := by decide +kernel
theorem dX9_glowAll_30 : decode cX9_glowAll 30 = .ok (.aload_n 0, 1) := by decide +kernel
theorem dX9_glowAll_31 : decode cX9_glowAll 31 = .ok (.getfield 7, 3) := by decide +kernel
theorem dX9_glowAll_34 : decode cX9_glowAll 34 = .ok (.iconst 1, 1) := by decide +kernel
theorem dX9_glowAll_35 : decode cX9_glowAll 35 = .ok (.iaload, 1) := by decide +kernel
theorem dX9_glowAll_36 : decode cX9_glowAll 36 = .ok (.invokevirtual 135, 3) := by decide +kernel
theorem dX9_glowAll_39 : decode cX9_glowAll 39 = .ok (.goto 4, 3) := by decide +kernel
theorem dX9_glowAll_42 : decode cX9_glowAll 42 = .ok (.iconst 0, 1) := by decide +kernel
theorem dX9_glowAll_43 : decode cX9_glowAll 43 = .ok (.iadd, 1) := by decide +kernel
theorem dX9_glowAll_44 : decode cX9_glowAll 44 = .ok (.istore_n 1, 1) := by decide +kernel
theorem dX9_glowAll_45 : decode cX9_glowAll 45 = .ok (.iinc 2 1, 3) := by decide +kernel
theorem dX9_glowAll_48 : decode cX9_glowAll 48 = .ok (.goto (-44), 3) := by decide +kernel
theorem dX9_glowAll_51 : decode cX9_glowAll 51 = .ok (.iload_n 1, 1) := by decide +kernel
theorem dX9_glowAll_52 : decode cX9_glowAll 52 = .ok (.ireturn, 1) := by decide +kernel
theorem dX9_night_0 : decode cX9_night 0 = .ok (.aload_n 0, 1) := by decide +kernel
theorem dX9_night_1 : decode cX9_night 1 = .ok (.getfield 7, 3) := by decide +kernel
theorem dX9_night_4 : decode cX9_night 4 = .ok (.iconst 0, 1) := by decide +kernel
theorem dX9_night_5 : decode cX9_night 5 = .ok (.iaload, 1) := by decide +kernel
theorem dX9_night_6 : decode cX9_night 6 = .ok (.ifCond .eq 14, 3) := by decide +kernel
theorem dX9_night_9 : decode cX9_night 9 = .ok (.aload_n 0, 1) := by decide +kernel
theorem dX9_night_10 : decode cX9_night 10 = .ok (.getfield 7, 3) := by decide +kernel
theorem dX9_night_13 : decode cX9_night 13 = .ok (.iconst 1, 1) := by decide +kernel
theorem dX9_night_14 : decode cX9_night 14 = .ok (.iaload, 1) := by decide +kernel
theorem dX9_night_15 : decode cX9_night 15 = .ok (.bipush 40, 2) := by decide +kernel
theorem dX9_night_17 : decode cX9_night 17 = .ok (.if_icmp .ne 6, 3) := by decide +kernel
theorem dX9_night_20 : decode cX9_night 20 = .ok (.bipush (-4), 2) := by decide +kernel
theorem dX9_night_22 : decode cX9_night 22 = .ok (.ireturn, 1) := by decide +kernel
theorem dX9_night_23 : decode cX9_night 23 = .ok (.aload_n 0, 1) := by decide +kernel
theorem dX9_night_24 : decode cX9_night 24 = .ok (.getfield 7, 3) := by decide +kernel
theorem dX9_night_27 : decode cX9_night 27 = .ok (.bipush 43, 2) := by decide +kernel
theorem dX9_night_29 : decode cX9_night 29 = .ok (.iaload, 1) := by decide +kernel
theorem dX9_night_30 : decode cX9_night 30 = .ok (.bipush 40, 2) := by decide +kernel
theorem dX9_night_32 : decode cX9_night 32 = .ok (.if_icmp .ne 6, 3) := by decide +kernel
theorem dX9_night_35 : decode cX9_night 35 = .ok (.bipush (-2), 2) := by decide +kernel
theorem dX9_night_37 : decode cX9_night 37 = .ok (.ireturn, 1) := by decide +kernel
theorem dX9_night_38 : decode cX9_night 38 = .ok (.aload_n 0, 1) := by decide +kernel
theorem dX9_night_39 : decode cX9_night 39 = .ok (.invokevirtual 146, 3) := by decide +kernel
theorem dX9_night_42 : decode cX9_night 42 = .ok (.aload_n 0, 1) := by decide +kernel
theorem dX9_night_43 : decode cX9_night 43 = .ok (.getfield 7, 3) := by decide +kernel
theorem dX9_night_46 : decode cX9_night 46 = .ok (.iconst 1, 1) := by decide +kernel
theorem dX9_night_47 : decode cX9_night 47 = .ok (.dup2, 1) := by decide +kernel
theorem dX9_night_48 : decode cX9_night 48 = .ok (.iaload, 1) := by decide +kernel
theorem dX9_night_49 : decode cX9_night 49 = .ok (.iconst 1, 1) := by decide +kernel
theorem dX9_night_50 : decode cX9_night 50 = .ok (.iadd, 1) := by decide +kernel
theorem dX9_night_51 : decode cX9_night 51 = .ok (.iastore, 1) := by decide +kernel
theorem dX9_night_52 : decode cX9_night 52 = .ok (.aload_n 0, 1) := by decide +kernel
theorem dX9_night_53 : decode cX9_night 53 = .ok (.invokevirtual 149, 3) := by decide +kernel
theorem dX9_night_56 : decode cX9_night 56 = .ok (.ireturn, 1) := by decide +kernel
theorem dX9_lights_0 : decode cX9_lights 0 = .ok (.aload_n 0, 1) := by decide +kernel
theorem dX9_lights_1 : decode cX9_lights 1 = .ok (.iload_n 1, 1) := by decide +kernel
theorem dX9_lights_2 : decode cX9_lights 2 = .ok (.invokevirtual 127, 3) := by decide +kernel
theorem dX9_lights_5 : decode cX9_lights 5 = .ok (.ifCond .ne 5, 3) := by decide +kernel
theorem dX9_lights_8 : decode cX9_lights 8 = .ok (.iconst (-1), 1) := by decide +kernel
theorem dX9_lights_9 : decode cX9_lights 9 = .ok (.ireturn, 1) := by decide +kernel
theorem dX9_lights_10 : decode cX9_lights 10 = .ok (.aload_n 0, 1) := by decide +kernel
theorem dX9_lights_11 : decode cX9_lights 11 = .ok (.getfield 7, 3) := by decide +kernel
theorem dX9_lights_14 : decode cX9_lights 14 = .ok (.iconst 2, 1) := by decide +kernel
theorem dX9_lights_15 : decode cX9_lights 15 = .ok (.iaload, 1) := by decide +kernel
theorem dX9_lights_16 : decode cX9_lights 16 = .ok (.iload_n 1, 1) := by decide +kernel
theorem dX9_lights_17 : decode cX9_lights 17 = .ok (.invokestatic 143, 3) := by decide +kernel
theorem dX9_lights_20 : decode cX9_lights 20 = .ok (.iload_n 2, 1) := by decide +kernel
theorem dX9_lights_21 : decode cX9_lights 21 = .ok (.if_icmp .ne 6, 3) := by decide +kernel
theorem dX9_lights_24 : decode cX9_lights 24 = .ok (.bipush (-4), 2) := by decide +kernel
theorem dX9_lights_26 : decode cX9_lights 26 = .ok (.ireturn, 1) := by decide +kernel
theorem dX9_lights_27 : decode cX9_lights 27 = .ok (.aload_n 0, 1) := by decide +kernel
theorem dX9_lights_28 : decode cX9_lights 28 = .ok (.getfield 7, 3) := by decide +kernel
theorem dX9_lights_31 : decode cX9_lights 31 = .ok (.bipush 43, 2) := by decide +kernel
theorem dX9_lights_33 : decode cX9_lights 33 = .ok (.iaload, 1) := by decide +kernel
theorem dX9_lights_34 : decode cX9_lights 34 = .ok (.bipush 40, 2) := by decide +kernel
theorem dX9_lights_36 : decode cX9_lights 36 = .ok (.if_icmp .ne 6, 3) := by decide +kernel
theorem dX9_lights_39 : decode cX9_lights 39 = .ok (.bipush (-2), 2) := by decide +kernel
theorem dX9_lights_41 : decode cX9_lights 41 = .ok (.ireturn, 1) := by decide +kernel
theorem dX9_lights_42 : decode cX9_lights 42 = .ok (.aload_n 0, 1) := by decide +kernel
theorem dX9_lights_43 : decode cX9_lights 43 = .ok (.invokevirtual 146, 3) := by decide +kernel
theorem dX9_lights_46 : decode cX9_lights 46 = .ok (.aload_n 0, 1) := by decide +kernel
theorem dX9_lights_47 : decode cX9_lights 47 = .ok (.getfield 7, 3) := by decide +kernel
theorem dX9_lights_50 : decode cX9_lights 50 = .ok (.iconst 2, 1) := by decide +kernel
theorem dX9_lights_51 : decode cX9_lights 51 = .ok (.dup2, 1) := by decide +kernel
theorem dX9_lights_52 : decode cX9_lights 52 = .ok (.iaload, 1) := by decide +kernel
theorem dX9_lights_53 : decode cX9_lights 53 = .ok (.iconst 1, 1) := by decide +kernel
theorem dX9_lights_54 : decode cX9_lights 54 = .ok (.iload_n 1, 1) := by decide +kernel
theorem dX9_lights_55 : decode cX9_lights 55 = .ok (.ishl, 1) := by decide +kernel
theorem dX9_lights_56 : decode cX9_lights 56 = .ok (.ixor, 1) := by decide +kernel
theorem dX9_lights_57 : decode cX9_lights 57 = .ok (.iastore, 1) := by decide +kernel
theorem dX9_lights_58 : decode cX9_lights 58 = .ok (.aload_n 0, 1) := by decide +kernel
theorem dX9_lights_59 : decode cX9_lights 59 = .ok (.iload_n 1, 1) := by decide +kernel
theorem dX9_lights_60 : decode cX9_lights 60 = .ok (.aload_n 0, 1) := by decide +kernel
theorem dX9_lights_61 : decode cX9_lights 61 = .ok (.getfield 7, 3) := by decide +kernel
theorem dX9_lights_64 : decode cX9_lights 64 = .ok (.iconst 1, 1) := by decide +kernel
theorem dX9_lights_65 : decode cX9_lights 65 = .ok (.iaload, 1) := by decide +kernel
theorem dX9_lights_66 : decode cX9_lights 66 = .ok (.invokevirtual 135, 3) := by decide +kernel
theorem dX9_lights_69 : decode cX9_lights 69 = .ok (.ireturn, 1) := by decide +kernel
theorem dX9_answer_0 : decode cX9_answer 0 = .ok (.aload_n 0, 1) := by decide +kernel
theorem dX9_answer_1 : decode cX9_answer 1 = .ok (.iload_n 1, 1) := by decide +kernel
theorem dX9_answer_2 : decode cX9_answer 2 = .ok (.iconst 0, 1) := by decide +kernel
theorem dX9_answer_3 : decode cX9_answer 3 = .ok (.invokevirtual 152, 3) := by decide +kernel
theorem dX9_answer_6 : decode cX9_answer 6 = .ok (.ireturn, 1) := by decide +kernel
theorem dX9_relight_0 : decode cX9_relight 0 = .ok (.aload_n 0, 1) := by decide +kernel
theorem dX9_relight_1 : decode cX9_relight 1 = .ok (.iload_n 1, 1) := by decide +kernel
theorem dX9_relight_2 : decode cX9_relight 2 = .ok (.iconst 1, 1) := by decide +kernel
theorem dX9_relight_3 : decode cX9_relight 3 = .ok (.invokevirtual 152, 3) := by decide +kernel
theorem dX9_relight_6 : decode cX9_relight 6 = .ok (.ireturn, 1) := by decide +kernel
theorem dX9_carry_0 : decode cX9_carry 0 = .ok (.aload_n 0, 1) := by decide +kernel
theorem dX9_carry_1 : decode cX9_carry 1 = .ok (.iload_n 1, 1) := by decide +kernel
theorem dX9_carry_2 : decode cX9_carry 2 = .ok (.invokevirtual 127, 3) := by decide +kernel
theorem dX9_carry_5 : decode cX9_carry 5 = .ok (.ifCond .eq 10, 3) := by decide +kernel
theorem dX9_carry_8 : decode cX9_carry 8 = .ok (.iload_n 2, 1) := by decide +kernel
theorem dX9_carry_9 : decode cX9_carry 9 = .ok (.invokestatic 156, 3) := by decide +kernel
theorem dX9_carry_12 : decode cX9_carry 12 = .ok (.ifCond .ne 5, 3) := by decide +kernel
theorem dX9_carry_15 : decode cX9_carry 15 = .ok (.iconst (-1), 1) := by decide +kernel
theorem dX9_carry_16 : decode cX9_carry 16 = .ok (.ireturn, 1) := by decide +kernel
theorem dX9_carry_17 : decode cX9_carry 17 = .ok (.aload_n 0, 1) := by decide +kernel
theorem dX9_carry_18 : decode cX9_carry 18 = .ok (.getfield 7, 3) := by decide +kernel
theorem dX9_carry_21 : decode cX9_carry 21 = .ok (.iconst 3, 1) := by decide +kernel
theorem dX9_carry_22 : decode cX9_carry 22 = .ok (.iload_n 1, 1) := by decide +kernel
theorem dX9_carry_23 : decode cX9_carry 23 = .ok (.iadd, 1) := by decide +kernel
theorem dX9_carry_24 : decode cX9_carry 24 = .ok (.iaload, 1) := by decide +kernel
theorem dX9_carry_25 : decode cX9_carry 25 = .ok (.istore_n 3, 1) := by decide +kernel
theorem dX9_carry_26 : decode cX9_carry 26 = .ok (.iload_n 3, 1) := by decide +kernel
theorem dX9_carry_27 : decode cX9_carry 27 = .ok (.iload_n 2, 1) := by decide +kernel
theorem dX9_carry_28 : decode cX9_carry 28 = .ok (.if_icmp .ne 6, 3) := by decide +kernel
theorem dX9_carry_31 : decode cX9_carry 31 = .ok (.bipush (-4), 2) := by decide +kernel
theorem dX9_carry_33 : decode cX9_carry 33 = .ok (.ireturn, 1) := by decide +kernel
theorem dX9_carry_34 : decode cX9_carry 34 = .ok (.aload_n 0, 1) := by decide +kernel
theorem dX9_carry_35 : decode cX9_carry 35 = .ok (.getfield 7, 3) := by decide +kernel
theorem dX9_carry_38 : decode cX9_carry 38 = .ok (.bipush 43, 2) := by decide +kernel
theorem dX9_carry_40 : decode cX9_carry 40 = .ok (.iaload, 1) := by decide +kernel
theorem dX9_carry_41 : decode cX9_carry 41 = .ok (.bipush 40, 2) := by decide +kernel
theorem dX9_carry_43 : decode cX9_carry 43 = .ok (.if_icmp .ne 6, 3) := by decide +kernel
theorem dX9_carry_46 : decode cX9_carry 46 = .ok (.bipush (-2), 2) := by decide +kernel
theorem dX9_carry_48 : decode cX9_carry 48 = .ok (.ireturn, 1) := by decide +kernel
theorem dX9_carry_49 : decode cX9_carry 49 = .ok (.aload_n 0, 1) := by decide +kernel
theorem dX9_carry_50 : decode cX9_carry 50 = .ok (.invokevirtual 146, 3) := by decide +kernel
theorem dX9_carry_53 : decode cX9_carry 53 = .ok (.aload_n 0, 1) := by decide +kernel
theorem dX9_carry_54 : decode cX9_carry 54 = .ok (.getfield 7, 3) := by decide +kernel
theorem dX9_carry_57 : decode cX9_carry 57 = .ok (.iconst 3, 1) := by decide +kernel
theorem dX9_carry_58 : decode cX9_carry 58 = .ok (.iload_n 1, 1) := by decide +kernel
theorem dX9_carry_59 : decode cX9_carry 59 = .ok (.iadd, 1) := by decide +kernel
theorem dX9_carry_60 : decode cX9_carry 60 = .ok (.iload_n 2, 1) := by decide +kernel
theorem dX9_carry_61 : decode cX9_carry 61 = .ok (.iastore, 1) := by decide +kernel
theorem dX9_carry_62 : decode cX9_carry 62 = .ok (.iload_n 3, 1) := by decide +kernel
theorem dX9_carry_63 : decode cX9_carry 63 = .ok (.ireturn, 1) := by decide +kernel
theorem dX9_undo_0 : decode cX9_undo 0 = .ok (.iload_n 1, 1) := by decide +kernel
theorem dX9_undo_1 : decode cX9_undo 1 = .ok (.i2l, 1) := by decide +kernel
theorem dX9_undo_2 : decode cX9_undo 2 = .ok (.lconst 0, 1) := by decide +kernel
theorem dX9_undo_3 : decode cX9_undo 3 = .ok (.aload_n 0, 1) := by decide +kernel
theorem dX9_undo_4 : decode cX9_undo 4 = .ok (.getfield 7, 3) := by decide +kernel
theorem dX9_undo_7 : decode cX9_undo 7 = .ok (.bipush 43, 2) := by decide +kernel
theorem dX9_undo_9 : decode cX9_undo 9 = .ok (.iaload, 1) := by decide +kernel
theorem dX9_undo_10 : decode cX9_undo 10 = .ok (.i2l, 1) := by decide +kernel
theorem dX9_undo_11 : decode cX9_undo 11 = .ok (.invokestatic 62, 3) := by decide +kernel
theorem dX9_undo_14 : decode cX9_undo 14 = .ok (.ifCond .ne 5, 3) := by decide +kernel
theorem dX9_undo_17 : decode cX9_undo 17 = .ok (.iconst (-1), 1) := by decide +kernel
theorem dX9_undo_18 : decode cX9_undo 18 = .ok (.ireturn, 1) := by decide +kernel
theorem dX9_undo_19 : decode cX9_undo 19 = .ok (.aload_n 0, 1) := by decide +kernel
theorem dX9_undo_20 : decode cX9_undo 20 = .ok (.getfield 7, 3) := by decide +kernel
theorem dX9_undo_23 : decode cX9_undo 23 = .ok (.bipush 43, 2) := by decide +kernel
theorem dX9_undo_25 : decode cX9_undo 25 = .ok (.iaload, 1) := by decide +kernel
theorem dX9_undo_26 : decode cX9_undo 26 = .ok (.iload_n 1, 1) := by decide +kernel
theorem dX9_undo_27 : decode cX9_undo 27 = .ok (.isub, 1) := by decide +kernel
theorem dX9_undo_28 : decode cX9_undo 28 = .ok (.istore_n 2, 1) := by decide +kernel
theorem dX9_undo_29 : decode cX9_undo 29 = .ok (.iload_n 2, 1) := by decide +kernel
theorem dX9_undo_30 : decode cX9_undo 30 = .ok (.ifCond .le 81, 3) := by decide +kernel
theorem dX9_undo_33 : decode cX9_undo 33 = .ok (.bipush 44, 2) := by decide +kernel
theorem dX9_undo_35 : decode cX9_undo 35 = .ok (.bipush 10, 2) := by decide +kernel
theorem dX9_undo_37 : decode cX9_undo 37 = .ok (.iload_n 1, 1) := by decide +kernel
theorem dX9_undo_38 : decode cX9_undo 38 = .ok (.imul, 1) := by decide +kernel
theorem dX9_undo_39 : decode cX9_undo 39 = .ok (.iadd, 1) := by decide +kernel
theorem dX9_undo_40 : decode cX9_undo 40 = .ok (.istore_n 3, 1) := by decide +kernel
theorem dX9_undo_41 : decode cX9_undo 41 = .ok (.aload_n 0, 1) := by decide +kernel
theorem dX9_undo_42 : decode cX9_undo 42 = .ok (.getfield 7, 3) := by decide +kernel
theorem dX9_undo_45 : decode cX9_undo 45 = .ok (.iconst 1, 1) := by decide +kernel
theorem dX9_undo_46 : decode cX9_undo 46 = .ok (.aload_n 0, 1) := by decide +kernel
theorem dX9_undo_47 : decode cX9_undo 47 = .ok (.getfield 7, 3) := by decide +kernel
theorem dX9_undo_50 : decode cX9_undo 50 = .ok (.iload_n 3, 1) := by decide +kernel
theorem dX9_undo_51 : decode cX9_undo 51 = .ok (.iaload, 1) := by decide +kernel
theorem dX9_undo_52 : decode cX9_undo 52 = .ok (.iastore, 1) := by decide +kernel
theorem dX9_undo_53 : decode cX9_undo 53 = .ok (.aload_n 0, 1) := by decide +kernel
theorem dX9_undo_54 : decode cX9_undo 54 = .ok (.getfield 7, 3) := by decide +kernel
theorem dX9_undo_57 : decode cX9_undo 57 = .ok (.iconst 2, 1) := by decide +kernel
theorem dX9_undo_58 : decode cX9_undo 58 = .ok (.aload_n 0, 1) := by decide +kernel
theorem dX9_undo_59 : decode cX9_undo 59 = .ok (.getfield 7, 3) := by decide +kernel
theorem dX9_undo_62 : decode cX9_undo 62 = .ok (.iload_n 3, 1) := by decide +kernel
theorem dX9_undo_63 : decode cX9_undo 63 = .ok (.iconst 1, 1) := by decide +kernel
theorem dX9_undo_64 : decode cX9_undo 64 = .ok (.iadd, 1) := by decide +kernel
theorem dX9_undo_65 : decode cX9_undo 65 = .ok (.iaload, 1) := by decide +kernel
theorem dX9_undo_66 : decode cX9_undo 66 = .ok (.iastore, 1) := by decide +kernel
theorem dX9_undo_67 : decode cX9_undo 67 = .ok (.iconst 0, 1) := by decide +kernel
theorem dX9_undo_68 : decode cX9_undo 68 = .ok (.istore 4, 2) := by decide +kernel
theorem dX9_undo_70 : decode cX9_undo 70 = .ok (.iload 4, 2) := by decide +kernel
theorem dX9_undo_72 : decode cX9_undo 72 = .ok (.bipush 8, 2) := by decide +kernel
theorem dX9_undo_74 : decode cX9_undo 74 = .ok (.if_icmp .ge 29, 3) := by decide +kernel
theorem dX9_undo_77 : decode cX9_undo 77 = .ok (.aload_n 0, 1) := by decide +kernel
theorem dX9_undo_78 : decode cX9_undo 78 = .ok (.getfield 7, 3) := by decide +kernel
theorem dX9_undo_81 : decode cX9_undo 81 = .ok (.iconst 3, 1) := by decide +kernel
theorem dX9_undo_82 : decode cX9_undo 82 = .ok (.iload 4, 2) := by decide +kernel
theorem dX9_undo_84 : decode cX9_undo 84 = .ok (.iadd, 1) := by decide +kernel
theorem dX9_undo_85 : decode cX9_undo 85 = .ok (.aload_n 0, 1) := by decide +kernel
theorem dX9_undo_86 : decode cX9_undo 86 = .ok (.getfield 7, 3) := by decide +kernel
theorem dX9_undo_89 : decode cX9_undo 89 = .ok (.iload_n 3, 1) := by decide +kernel
theorem dX9_undo_90 : decode cX9_undo 90 = .ok (.iconst 2, 1) := by decide +kernel
theorem dX9_undo_91 : decode cX9_undo 91 = .ok (.iadd, 1) := by decide +kernel
theorem dX9_undo_92 : decode cX9_undo 92 = .ok (.iload 4, 2) := by decide +kernel
theorem dX9_undo_94 : decode cX9_undo 94 = .ok (.iadd, 1) := by decide +kernel
theorem dX9_undo_95 : decode cX9_undo 95 = .ok (.iaload, 1) := by decide +kernel
theorem dX9_undo_96 : decode cX9_undo 96 = .ok (.iastore, 1) := by decide +kernel
theorem dX9_undo_97 : decode cX9_undo 97 = .ok (.iinc 4 1, 3) := by decide +kernel
theorem dX9_undo_100 : decode cX9_undo 100 = .ok (.goto (-30), 3) := by decide +kernel
theorem dX9_undo_103 : decode cX9_undo 103 = .ok (.aload_n 0, 1) := by decide +kernel
theorem dX9_undo_104 : decode cX9_undo 104 = .ok (.getfield 7, 3) := by decide +kernel
theorem dX9_undo_107 : decode cX9_undo 107 = .ok (.bipush 43, 2) := by decide +kernel
theorem dX9_undo_109 : decode cX9_undo 109 = .ok (.iload_n 1, 1) := by decide +kernel
theorem dX9_undo_110 : decode cX9_undo 110 = .ok (.iastore, 1) := by decide +kernel
theorem dX9_undo_111 : decode cX9_undo 111 = .ok (.iload_n 2, 1) := by decide +kernel
theorem dX9_undo_112 : decode cX9_undo 112 = .ok (.ireturn, 1) := by decide +kernel
theorem dX9_keep_0 : decode cX9_keep 0 = .ok (.iload_n 1, 1) := by decide +kernel
theorem dX9_keep_1 : decode cX9_keep 1 = .ok (.i2l, 1) := by decide +kernel
theorem dX9_keep_2 : decode cX9_keep 2 = .ok (.lconst 0, 1) := by decide +kernel
theorem dX9_keep_3 : decode cX9_keep 3 = .ok (.ldc2_w 159, 3) := by decide +kernel
theorem dX9_keep_6 : decode cX9_keep 6 = .ok (.invokestatic 62, 3) := by decide +kernel
theorem dX9_keep_9 : decode cX9_keep 9 = .ok (.ifCond .ne 5, 3) := by decide +kernel
theorem dX9_keep_12 : decode cX9_keep 12 = .ok (.iconst (-1), 1) := by decide +kernel
theorem dX9_keep_13 : decode cX9_keep 13 = .ok (.ireturn, 1) := by decide +kernel
theorem dX9_keep_14 : decode cX9_keep 14 = .ok (.aload_n 0, 1) := by decide +kernel
theorem dX9_keep_15 : decode cX9_keep 15 = .ok (.getfield 7, 3) := by decide +kernel
theorem dX9_keep_18 : decode cX9_keep 18 = .ok (.iconst 0, 1) := by decide +kernel
theorem dX9_keep_19 : decode cX9_keep 19 = .ok (.iaload, 1) := by decide +kernel
theorem dX9_keep_20 : decode cX9_keep 20 = .ok (.ifCond .ne 6, 3) := by decide +kernel
theorem dX9_keep_23 : decode cX9_keep 23 = .ok (.bipush (-4), 2) := by decide +kernel
theorem dX9_keep_25 : decode cX9_keep 25 = .ok (.ireturn, 1) := by decide +kernel
theorem dX9_keep_26 : decode cX9_keep 26 = .ok (.aload_n 0, 1) := by decide +kernel
theorem dX9_keep_27 : decode cX9_keep 27 = .ok (.iconst 0, 1) := by decide +kernel
theorem dX9_keep_28 : decode cX9_keep 28 = .ok (.sipush 444, 3) := by decide +kernel
theorem dX9_keep_31 : decode cX9_keep 31 = .ok (.sipush 444, 3) := by decide +kernel
theorem dX9_keep_34 : decode cX9_keep 34 = .ok (.iload_n 1, 1) := by decide +kernel
theorem dX9_keep_35 : decode cX9_keep 35 = .ok (.imul, 1) := by decide +kernel
theorem dX9_keep_36 : decode cX9_keep 36 = .ok (.iadd, 1) := by decide +kernel
theorem dX9_keep_37 : decode cX9_keep 37 = .ok (.invokevirtual 161, 3) := by decide +kernel
theorem dX9_keep_40 : decode cX9_keep 40 = .ok (.aload_n 0, 1) := by decide +kernel
theorem dX9_keep_41 : decode cX9_keep 41 = .ok (.getfield 7, 3) := by decide +kernel
theorem dX9_keep_44 : decode cX9_keep 44 = .ok (.bipush 43, 2) := by decide +kernel
theorem dX9_keep_46 : decode cX9_keep 46 = .ok (.iaload, 1) := by decide +kernel
theorem dX9_keep_47 : decode cX9_keep 47 = .ok (.ireturn, 1) := by decide +kernel
theorem dX9_on_0 : decode cX9_on 0 = .ok (.iload_n 1, 1) := by decide +kernel
theorem dX9_on_1 : decode cX9_on 1 = .ok (.i2l, 1) := by decide +kernel
theorem dX9_on_2 : decode cX9_on 2 = .ok (.lconst 0, 1) := by decide +kernel
theorem dX9_on_3 : decode cX9_on 3 = .ok (.ldc2_w 159, 3) := by decide +kernel
theorem dX9_on_6 : decode cX9_on 6 = .ok (.invokestatic 62, 3) := by decide +kernel
theorem dX9_on_9 : decode cX9_on 9 = .ok (.ifCond .ne 5, 3) := by decide +kernel
theorem dX9_on_12 : decode cX9_on 12 = .ok (.iconst (-1), 1) := by decide +kernel
theorem dX9_on_13 : decode cX9_on 13 = .ok (.ireturn, 1) := by decide +kernel
theorem dX9_on_14 : decode cX9_on 14 = .ok (.aload_n 0, 1) := by decide +kernel
theorem dX9_on_15 : decode cX9_on 15 = .ok (.getfield 7, 3) := by decide +kernel
theorem dX9_on_18 : decode cX9_on 18 = .ok (.sipush 444, 3) := by decide +kernel
theorem dX9_on_21 : decode cX9_on 21 = .ok (.sipush 444, 3) := by decide +kernel
theorem dX9_on_24 : decode cX9_on 24 = .ok (.iload_n 1, 1) := by decide +kernel
theorem dX9_on_25 : decode cX9_on 25 = .ok (.imul, 1) := by decide +kernel
theorem dX9_on_26 : decode cX9_on 26 = .ok (.iadd, 1) := by decide +kernel
theorem dX9_on_27 : decode cX9_on 27 = .ok (.iconst 0, 1) := by decide +kernel
theorem dX9_on_28 : decode cX9_on 28 = .ok (.iadd, 1) := by decide +kernel
theorem dX9_on_29 : decode cX9_on 29 = .ok (.iaload, 1) := by decide +kernel
theorem dX9_on_30 : decode cX9_on 30 = .ok (.ifCond .ne 9, 3) := by decide +kernel
theorem dX9_on_33 : decode cX9_on 33 = .ok (.aload_n 0, 1) := by decide +kernel
theorem dX9_on_34 : decode cX9_on 34 = .ok (.iconst 1, 1) := by decide +kernel
theorem dX9_on_35 : decode cX9_on 35 = .ok (.invokevirtual 74, 3) := by decide +kernel
theorem dX9_on_38 : decode cX9_on 38 = .ok (.ireturn, 1) := by decide +kernel
theorem dX9_on_39 : decode cX9_on 39 = .ok (.aload_n 0, 1) := by decide +kernel
theorem dX9_on_40 : decode cX9_on 40 = .ok (.sipush 444, 3) := by decide +kernel
theorem dX9_on_43 : decode cX9_on 43 = .ok (.sipush 444, 3) := by decide +kernel
theorem dX9_on_46 : decode cX9_on 46 = .ok (.iload_n 1, 1) := by decide +kernel
theorem dX9_on_47 : decode cX9_on 47 = .ok (.imul, 1) := by decide +kernel
theorem dX9_on_48 : decode cX9_on 48 = .ok (.iadd, 1) := by decide +kernel
theorem dX9_on_49 : decode cX9_on 49 = .ok (.iconst 0, 1) := by decide +kernel
theorem dX9_on_50 : decode cX9_on 50 = .ok (.invokevirtual 161, 3) := by decide +kernel
theorem dX9_on_53 : decode cX9_on 53 = .ok (.aload_n 0, 1) := by decide +kernel
theorem dX9_on_54 : decode cX9_on 54 = .ok (.getfield 7, 3) := by decide +kernel
theorem dX9_on_57 : decode cX9_on 57 = .ok (.bipush 43, 2) := by decide +kernel
theorem dX9_on_59 : decode cX9_on 59 = .ok (.iaload, 1) := by decide +kernel
theorem dX9_on_60 : decode cX9_on 60 = .ok (.ireturn, 1) := by decide +kernel
theorem dX9_size_0 : decode cX9_size 0 = .ok (.iload_n 0, 1) := by decide +kernel
theorem dX9_size_1 : decode cX9_size 1 = .ok (.ifCond .ge 8, 3) := by decide +kernel
theorem dX9_size_4 : decode cX9_size 4 = .ok (.iload_n 0, 1) := by decide +kernel
theorem dX9_size_5 : decode cX9_size 5 = .ok (.ineg, 1) := by decide +kernel
theorem dX9_size_6 : decode cX9_size 6 = .ok (.goto 4, 3) := by decide +kernel
theorem dX9_size_9 : decode cX9_size 9 = .ok (.iload_n 0, 1) := by decide +kernel
theorem dX9_size_10 : decode cX9_size 10 = .ok (.ireturn, 1) := by decide +kernel
theorem dX9_gives_0 : decode cX9_gives 0 = .ok (.aload_n 0, 1) := by decide +kernel
theorem dX9_gives_1 : decode cX9_gives 1 = .ok (.iload_n 1, 1) := by decide +kernel
theorem dX9_gives_2 : decode cX9_gives 2 = .ok (.iload 4, 2) := by decide +kernel
theorem dX9_gives_4 : decode cX9_gives 4 = .ok (.invokevirtual 135, 3) := by decide +kernel
theorem dX9_gives_7 : decode cX9_gives 7 = .ok (.iconst 2, 1) := by decide +kernel
theorem dX9_gives_8 : decode cX9_gives 8 = .ok (.iload_n 2, 1) := by decide +kernel
theorem dX9_gives_9 : decode cX9_gives 9 = .ok (.iload_n 3, 1) := by decide +kernel
theorem dX9_gives_10 : decode cX9_gives 10 = .ok (.isub, 1) := by decide +kernel
theorem dX9_gives_11 : decode cX9_gives 11 = .ok (.invokestatic 165, 3) := by decide +kernel
theorem dX9_gives_14 : decode cX9_gives 14 = .ok (.imul, 1) := by decide +kernel
theorem dX9_gives_15 : decode cX9_gives 15 = .ok (.isub, 1) := by decide +kernel
theorem dX9_gives_16 : decode cX9_gives 16 = .ok (.istore 5, 2) := by decide +kernel
theorem dX9_gives_18 : decode cX9_gives 18 = .ok (.iload 5, 2) := by decide +kernel
theorem dX9_gives_20 : decode cX9_gives 20 = .ok (.ifCond .ge 7, 3) := by decide +kernel
theorem dX9_gives_23 : decode cX9_gives 23 = .ok (.iconst 0, 1) := by decide +kernel
theorem dX9_gives_24 : decode cX9_gives 24 = .ok (.goto 5, 3) := by decide +kernel
theorem dX9_gives_27 : decode cX9_gives 27 = .ok (.iload 5, 2) := by decide +kernel
theorem dX9_gives_29 : decode cX9_gives 29 = .ok (.ireturn, 1) := by decide +kernel
theorem dX9_brightBy_0 : decode cX9_brightBy 0 = .ok (.iconst 0, 1) := by decide +kernel
theorem dX9_brightBy_1 : decode cX9_brightBy 1 = .ok (.istore 4, 2) := by decide +kernel
theorem dX9_brightBy_3 : decode cX9_brightBy 3 = .ok (.iconst 0, 1) := by decide +kernel
theorem dX9_brightBy_4 : decode cX9_brightBy 4 = .ok (.istore 5, 2) := by decide +kernel
theorem dX9_brightBy_6 : decode cX9_brightBy 6 = .ok (.iload 5, 2) := by decide +kernel
theorem dX9_brightBy_8 : decode cX9_brightBy 8 = .ok (.aload_n 0, 1) := by decide +kernel
theorem dX9_brightBy_9 : decode cX9_brightBy 9 = .ok (.getfield 7, 3) := by decide +kernel
theorem dX9_brightBy_12 : decode cX9_brightBy 12 = .ok (.iconst 0, 1) := by decide +kernel
theorem dX9_brightBy_13 : decode cX9_brightBy 13 = .ok (.iaload, 1) := by decide +kernel
theorem dX9_brightBy_14 : decode cX9_brightBy 14 = .ok (.if_icmp .ge 44, 3) := by decide +kernel
theorem dX9_brightBy_17 : decode cX9_brightBy 17 = .ok (.iload 4, 2) := by decide +kernel
theorem dX9_brightBy_19 : decode cX9_brightBy 19 = .ok (.iload_n 2, 1) := by decide +kernel
theorem dX9_brightBy_20 : decode cX9_brightBy 20 = .ok (.iload 5, 2) := by decide +kernel
theorem dX9_brightBy_22 : decode cX9_brightBy 22 = .ok (.invokestatic 143, 3) := by decide +kernel
theorem dX9_brightBy_25 : decode cX9_brightBy 25 = .ok (.ifCond .eq 23, 3) := by decide +kernel
theorem dX9_brightBy_28 : decode cX9_brightBy 28 = .ok (.aload_n 0, 1) := by decide +kernel
theorem dX9_brightBy_29 : decode cX9_brightBy 29 = .ok (.iload 5, 2) := by decide +kernel
theorem dX9_brightBy_31 : decode cX9_brightBy 31 = .ok (.aload_n 0, 1) := by decide +kernel
theorem dX9_brightBy_32 : decode cX9_brightBy 32 = .ok (.getfield 7, 3) := by decide +kernel
theorem dX9_brightBy_35 : decode cX9_brightBy 35 = .ok (.iconst 3, 1) := by decide +kernel
theorem dX9_brightBy_36 : decode cX9_brightBy 36 = .ok (.iload 5, 2) := by decide +kernel
theorem dX9_brightBy_38 : decode cX9_brightBy 38 = .ok (.iadd, 1) := by decide +kernel
theorem dX9_brightBy_39 : decode cX9_brightBy 39 = .ok (.iaload, 1) := by decide +kernel
theorem dX9_brightBy_40 : decode cX9_brightBy 40 = .ok (.iload_n 1, 1) := by decide +kernel
theorem dX9_brightBy_41 : decode cX9_brightBy 41 = .ok (.iload_n 3, 1) := by decide +kernel
theorem dX9_brightBy_42 : decode cX9_brightBy 42 = .ok (.invokevirtual 168, 3) := by decide +kernel
theorem dX9_brightBy_45 : decode cX9_brightBy 45 = .ok (.goto 4, 3) := by decide +kernel
theorem dX9_brightBy_48 : decode cX9_brightBy 48 = .ok (.iconst 0, 1) := by decide +kernel
theorem dX9_brightBy_49 : decode cX9_brightBy 49 = .ok (.iadd, 1) := by decide +kernel
theorem dX9_brightBy_50 : decode cX9_brightBy 50 = .ok (.istore 4, 2) := by decide +kernel
theorem dX9_brightBy_52 : decode cX9_brightBy 52 = .ok (.iinc 5 1, 3) := by decide +kernel
theorem dX9_brightBy_55 : decode cX9_brightBy 55 = .ok (.goto (-49), 3) := by decide +kernel
theorem dX9_brightBy_58 : decode cX9_brightBy 58 = .ok (.iload 4, 2) := by decide +kernel
theorem dX9_brightBy_60 : decode cX9_brightBy 60 = .ok (.ireturn, 1) := by decide +kernel
theorem dX9_brightNow_0 : decode cX9_brightNow 0 = .ok (.aload_n 0, 1) := by decide +kernel
theorem dX9_brightNow_1 : decode cX9_brightNow 1 = .ok (.iload_n 1, 1) := by decide +kernel
theorem dX9_brightNow_2 : decode cX9_brightNow 2 = .ok (.aload_n 0, 1) := by decide +kernel
theorem dX9_brightNow_3 : decode cX9_brightNow 3 = .ok (.getfield 7, 3) := by decide +kernel
theorem dX9_brightNow_6 : decode cX9_brightNow 6 = .ok (.iconst 2, 1) := by decide +kernel
theorem dX9_brightNow_7 : decode cX9_brightNow 7 = .ok (.iaload, 1) := by decide +kernel
theorem dX9_brightNow_8 : decode cX9_brightNow 8 = .ok (.aload_n 0, 1) := by decide +kernel
theorem dX9_brightNow_9 : decode cX9_brightNow 9 = .ok (.getfield 7, 3) := by decide +kernel
theorem dX9_brightNow_12 : decode cX9_brightNow 12 = .ok (.iconst 1, 1) := by decide +kernel
theorem dX9_brightNow_13 : decode cX9_brightNow 13 = .ok (.iaload, 1) := by decide +kernel
theorem dX9_brightNow_14 : decode cX9_brightNow 14 = .ok (.invokevirtual 172, 3) := by decide +kernel
theorem dX9_brightNow_17 : decode cX9_brightNow 17 = .ok (.ireturn, 1) := by decide +kernel
theorem dX9_alongNow_0 : decode cX9_alongNow 0 = .ok (.iconst 0, 1) := by decide +kernel
theorem dX9_alongNow_1 : decode cX9_alongNow 1 = .ok (.istore_n 3, 1) := by decide +kernel
theorem dX9_alongNow_2 : decode cX9_alongNow 2 = .ok (.iload_n 1, 1) := by decide +kernel
theorem dX9_alongNow_3 : decode cX9_alongNow 3 = .ok (.istore 4, 2) := by decide +kernel
theorem dX9_alongNow_5 : decode cX9_alongNow 5 = .ok (.iload 4, 2) := by decide +kernel
theorem dX9_alongNow_7 : decode cX9_alongNow 7 = .ok (.iload_n 2, 1) := by decide +kernel
theorem dX9_alongNow_8 : decode cX9_alongNow 8 = .ok (.if_icmp .gt 18, 3) := by decide +kernel
theorem dX9_alongNow_11 : decode cX9_alongNow 11 = .ok (.iload_n 3, 1) := by decide +kernel
theorem dX9_alongNow_12 : decode cX9_alongNow 12 = .ok (.aload_n 0, 1) := by decide +kernel
theorem dX9_alongNow_13 : decode cX9_alongNow 13 = .ok (.iload 4, 2) := by decide +kernel
theorem dX9_alongNow_15 : decode cX9_alongNow 15 = .ok (.invokevirtual 175, 3) := by decide +kernel
theorem dX9_alongNow_18 : decode cX9_alongNow 18 = .ok (.iadd, 1) := by decide +kernel
theorem dX9_alongNow_19 : decode cX9_alongNow 19 = .ok (.istore_n 3, 1) := by decide +kernel
theorem dX9_alongNow_20 : decode cX9_alongNow 20 = .ok (.iinc 4 1, 3) := by decide +kernel
theorem dX9_alongNow_23 : decode cX9_alongNow 23 = .ok (.goto (-18), 3) := by decide +kernel
theorem dX9_alongNow_26 : decode cX9_alongNow 26 = .ok (.iload_n 3, 1) := by decide +kernel
theorem dX9_alongNow_27 : decode cX9_alongNow 27 = .ok (.ireturn, 1) := by decide +kernel
theorem dX9_bright_0 : decode cX9_bright 0 = .ok (.iload_n 1, 1) := by decide +kernel
theorem dX9_bright_1 : decode cX9_bright 1 = .ok (.invokestatic 156, 3) := by decide +kernel
theorem dX9_bright_4 : decode cX9_bright 4 = .ok (.ifCond .eq 11, 3) := by decide +kernel
theorem dX9_bright_7 : decode cX9_bright 7 = .ok (.aload_n 0, 1) := by decide +kernel
theorem dX9_bright_8 : decode cX9_bright 8 = .ok (.iload_n 1, 1) := by decide +kernel
theorem dX9_bright_9 : decode cX9_bright 9 = .ok (.invokevirtual 175, 3) := by decide +kernel
theorem dX9_bright_12 : decode cX9_bright 12 = .ok (.goto 4, 3) := by decide +kernel
theorem dX9_bright_15 : decode cX9_bright 15 = .ok (.iconst (-1), 1) := by decide +kernel
theorem dX9_bright_16 : decode cX9_bright 16 = .ok (.ireturn, 1) := by decide +kernel
theorem dX9_along_0 : decode cX9_along 0 = .ok (.iload_n 1, 1) := by decide +kernel
theorem dX9_along_1 : decode cX9_along 1 = .ok (.invokestatic 156, 3) := by decide +kernel
theorem dX9_along_4 : decode cX9_along 4 = .ok (.ifCond .eq 25, 3) := by decide +kernel
theorem dX9_along_7 : decode cX9_along 7 = .ok (.iload_n 2, 1) := by decide +kernel
theorem dX9_along_8 : decode cX9_along 8 = .ok (.i2l, 1) := by decide +kernel
theorem dX9_along_9 : decode cX9_along 9 = .ok (.iload_n 1, 1) := by decide +kernel
theorem dX9_along_10 : decode cX9_along 10 = .ok (.i2l, 1) := by decide +kernel
theorem dX9_along_11 : decode cX9_along 11 = .ok (.ldc2_w 68, 3) := by decide +kernel
theorem dX9_along_14 : decode cX9_along 14 = .ok (.invokestatic 62, 3) := by decide +kernel
theorem dX9_along_17 : decode cX9_along 17 = .ok (.ifCond .eq 12, 3) := by decide +kernel
theorem dX9_along_20 : decode cX9_along 20 = .ok (.aload_n 0, 1) := by decide +kernel
theorem dX9_along_21 : decode cX9_along 21 = .ok (.iload_n 1, 1) := by decide +kernel
theorem dX9_along_22 : decode cX9_along 22 = .ok (.iload_n 2, 1) := by decide +kernel
theorem dX9_along_23 : decode cX9_along 23 = .ok (.invokevirtual 178, 3) := by decide +kernel
theorem dX9_along_26 : decode cX9_along 26 = .ok (.goto 4, 3) := by decide +kernel
theorem dX9_along_29 : decode cX9_along 29 = .ok (.iconst (-1), 1) := by decide +kernel
theorem dX9_along_30 : decode cX9_along 30 = .ok (.ireturn, 1) := by decide +kernel
theorem dX9_when_0 : decode cX9_when 0 = .ok (.iload_n 1, 1) := by decide +kernel
theorem dX9_when_1 : decode cX9_when 1 = .ok (.invokestatic 156, 3) := by decide +kernel
theorem dX9_when_4 : decode cX9_when 4 = .ok (.ifCond .eq 15, 3) := by decide +kernel
theorem dX9_when_7 : decode cX9_when 7 = .ok (.iload_n 2, 1) := by decide +kernel
theorem dX9_when_8 : decode cX9_when 8 = .ok (.i2l, 1) := by decide +kernel
theorem dX9_when_9 : decode cX9_when 9 = .ok (.lconst 0, 1) := by decide +kernel
theorem dX9_when_10 : decode cX9_when 10 = .ok (.ldc2_w 181, 3) := by decide +kernel
theorem dX9_when_13 : decode cX9_when 13 = .ok (.invokestatic 62, 3) := by decide +kernel
theorem dX9_when_16 : decode cX9_when 16 = .ok (.ifCond .ne 5, 3) := by decide +kernel
theorem dX9_when_19 : decode cX9_when 19 = .ok (.iconst (-1), 1) := by decide +kernel
theorem dX9_when_20 : decode cX9_when 20 = .ok (.ireturn, 1) := by decide +kernel
theorem dX9_when_21 : decode cX9_when 21 = .ok (.iconst 0, 1) := by decide +kernel
theorem dX9_when_22 : decode cX9_when 22 = .ok (.istore_n 3, 1) := by decide +kernel
theorem dX9_when_23 : decode cX9_when 23 = .ok (.iload_n 3, 1) := by decide +kernel
theorem dX9_when_24 : decode cX9_when 24 = .ok (.bipush 40, 2) := by decide +kernel
theorem dX9_when_26 : decode cX9_when 26 = .ok (.if_icmp .gt 44, 3) := by decide +kernel
theorem dX9_when_29 : decode cX9_when 29 = .ok (.aload_n 0, 1) := by decide +kernel
theorem dX9_when_30 : decode cX9_when 30 = .ok (.iload_n 1, 1) := by decide +kernel
theorem dX9_when_31 : decode cX9_when 31 = .ok (.aload_n 0, 1) := by decide +kernel
theorem dX9_when_32 : decode cX9_when 32 = .ok (.getfield 7, 3) := by decide +kernel
theorem dX9_when_35 : decode cX9_when 35 = .ok (.iconst 2, 1) := by decide +kernel
theorem dX9_when_36 : decode cX9_when 36 = .ok (.iaload, 1) := by decide +kernel
theorem dX9_when_37 : decode cX9_when 37 = .ok (.aload_n 0, 1) := by decide +kernel
theorem dX9_when_38 : decode cX9_when 38 = .ok (.getfield 7, 3) := by decide +kernel
theorem dX9_when_41 : decode cX9_when 41 = .ok (.iconst 1, 1) := by decide +kernel
theorem dX9_when_42 : decode cX9_when 42 = .ok (.iaload, 1) := by decide +kernel
theorem dX9_when_43 : decode cX9_when 43 = .ok (.iload_n 3, 1) := by decide +kernel
theorem dX9_when_44 : decode cX9_when 44 = .ok (.iadd, 1) := by decide +kernel
theorem dX9_when_45 : decode cX9_when 45 = .ok (.invokevirtual 172, 3) := by decide +kernel
theorem dX9_when_48 : decode cX9_when 48 = .ok (.istore 4, 2) := by decide +kernel
theorem dX9_when_50 : decode cX9_when 50 = .ok (.iload 4, 2) := by decide +kernel
theorem dX9_when_52 : decode cX9_when 52 = .ok (.iload_n 2, 1) := by decide +kernel
theorem dX9_when_53 : decode cX9_when 53 = .ok (.if_icmp .lt 11, 3) := by decide +kernel
theorem dX9_when_56 : decode cX9_when 56 = .ok (.aload_n 0, 1) := by decide +kernel
theorem dX9_when_57 : decode cX9_when 57 = .ok (.iload 4, 2) := by decide +kernel
theorem dX9_when_59 : decode cX9_when 59 = .ok (.putfield 57, 3) := by decide +kernel
theorem dX9_when_62 : decode cX9_when 62 = .ok (.iload_n 3, 1) := by decide +kernel
theorem dX9_when_63 : decode cX9_when 63 = .ok (.ireturn, 1) := by decide +kernel
theorem dX9_when_64 : decode cX9_when 64 = .ok (.iinc 3 1, 3) := by decide +kernel
theorem dX9_when_67 : decode cX9_when 67 = .ok (.goto (-44), 3) := by decide +kernel
theorem dX9_when_70 : decode cX9_when 70 = .ok (.bipush (-9), 2) := by decide +kernel
theorem dX9_when_72 : decode cX9_when 72 = .ok (.ireturn, 1) := by decide +kernel
theorem dX9_stow_0 : decode cX9_stow 0 = .ok (.aload_n 0, 1) := by decide +kernel
theorem dX9_stow_1 : decode cX9_stow 1 = .ok (.iload_n 1, 1) := by decide +kernel
theorem dX9_stow_2 : decode cX9_stow 2 = .ok (.invokevirtual 127, 3) := by decide +kernel
theorem dX9_stow_5 : decode cX9_stow 5 = .ok (.ifCond .eq 23, 3) := by decide +kernel
theorem dX9_stow_8 : decode cX9_stow 8 = .ok (.iload_n 2, 1) := by decide +kernel
theorem dX9_stow_9 : decode cX9_stow 9 = .ok (.invokestatic 156, 3) := by decide +kernel
theorem dX9_stow_12 : decode cX9_stow 12 = .ok (.ifCond .eq 16, 3) := by decide +kernel
theorem dX9_stow_15 : decode cX9_stow 15 = .ok (.iload_n 3, 1) := by decide +kernel
theorem dX9_stow_16 : decode cX9_stow 16 = .ok (.i2l, 1) := by decide +kernel
theorem dX9_stow_17 : decode cX9_stow 17 = .ok (.iload_n 2, 1) := by decide +kernel
theorem dX9_stow_18 : decode cX9_stow 18 = .ok (.i2l, 1) := by decide +kernel
theorem dX9_stow_19 : decode cX9_stow 19 = .ok (.ldc2_w 68, 3) := by decide +kernel
theorem dX9_stow_22 : decode cX9_stow 22 = .ok (.invokestatic 62, 3) := by decide +kernel
theorem dX9_stow_25 : decode cX9_stow 25 = .ok (.ifCond .ne 5, 3) := by decide +kernel
theorem dX9_stow_28 : decode cX9_stow 28 = .ok (.iconst (-1), 1) := by decide +kernel
theorem dX9_stow_29 : decode cX9_stow 29 = .ok (.ireturn, 1) := by decide +kernel
theorem dX9_stow_30 : decode cX9_stow 30 = .ok (.aload_n 0, 1) := by decide +kernel
theorem dX9_stow_31 : decode cX9_stow 31 = .ok (.getfield 7, 3) := by decide +kernel
theorem dX9_stow_34 : decode cX9_stow 34 = .ok (.iconst 3, 1) := by decide +kernel
theorem dX9_stow_35 : decode cX9_stow 35 = .ok (.iload_n 1, 1) := by decide +kernel
theorem dX9_stow_36 : decode cX9_stow 36 = .ok (.iadd, 1) := by decide +kernel
theorem dX9_stow_37 : decode cX9_stow 37 = .ok (.iaload, 1) := by decide +kernel
theorem dX9_stow_38 : decode cX9_stow 38 = .ok (.istore 4, 2) := by decide +kernel
theorem dX9_stow_40 : decode cX9_stow 40 = .ok (.iconst 0, 1) := by decide +kernel
theorem dX9_stow_41 : decode cX9_stow 41 = .ok (.istore 5, 2) := by decide +kernel
theorem dX9_stow_43 : decode cX9_stow 43 = .ok (.ldc 183, 2) := by decide +kernel
theorem dX9_stow_45 : decode cX9_stow 45 = .ok (.istore 6, 2) := by decide +kernel
theorem dX9_stow_47 : decode cX9_stow 47 = .ok (.iconst 0, 1) := by decide +kernel
theorem dX9_stow_48 : decode cX9_stow 48 = .ok (.istore 7, 2) := by decide +kernel
theorem dX9_stow_50 : decode cX9_stow 50 = .ok (.iload 7, 2) := by decide +kernel
theorem dX9_stow_52 : decode cX9_stow 52 = .ok (.bipush 10, 2) := by decide +kernel
theorem dX9_stow_54 : decode cX9_stow 54 = .ok (.if_icmp .ge 59, 3) := by decide +kernel
theorem dX9_stow_57 : decode cX9_stow 57 = .ok (.aload_n 0, 1) := by decide +kernel
theorem dX9_stow_58 : decode cX9_stow 58 = .ok (.getfield 7, 3) := by decide +kernel
theorem dX9_stow_61 : decode cX9_stow 61 = .ok (.iconst 3, 1) := by decide +kernel
theorem dX9_stow_62 : decode cX9_stow 62 = .ok (.iload_n 1, 1) := by decide +kernel
theorem dX9_stow_63 : decode cX9_stow 63 = .ok (.iadd, 1) := by decide +kernel
theorem dX9_stow_64 : decode cX9_stow 64 = .ok (.iload 7, 2) := by decide +kernel
theorem dX9_stow_66 : decode cX9_stow 66 = .ok (.iastore, 1) := by decide +kernel
theorem dX9_stow_67 : decode cX9_stow 67 = .ok (.aload_n 0, 1) := by decide +kernel
theorem dX9_stow_68 : decode cX9_stow 68 = .ok (.iload_n 2, 1) := by decide +kernel
theorem dX9_stow_69 : decode cX9_stow 69 = .ok (.iload_n 3, 1) := by decide +kernel
theorem dX9_stow_70 : decode cX9_stow 70 = .ok (.invokevirtual 178, 3) := by decide +kernel
theorem dX9_stow_73 : decode cX9_stow 73 = .ok (.istore 8, 2) := by decide +kernel
theorem dX9_stow_75 : decode cX9_stow 75 = .ok (.iload 8, 2) := by decide +kernel
theorem dX9_stow_77 : decode cX9_stow 77 = .ok (.iload 6, 2) := by decide +kernel
theorem dX9_stow_79 : decode cX9_stow 79 = .ok (.if_icmp .ge 8, 3) := by decide +kernel
theorem dX9_stow_82 : decode cX9_stow 82 = .ok (.iload 7, 2) := by decide +kernel
theorem dX9_stow_84 : decode cX9_stow 84 = .ok (.goto 5, 3) := by decide +kernel
theorem dX9_stow_87 : decode cX9_stow 87 = .ok (.iload 5, 2) := by decide +kernel
theorem dX9_stow_89 : decode cX9_stow 89 = .ok (.istore 5, 2) := by decide +kernel
theorem dX9_stow_91 : decode cX9_stow 91 = .ok (.iload 8, 2) := by decide +kernel
theorem dX9_stow_93 : decode cX9_stow 93 = .ok (.iload 6, 2) := by decide +kernel
theorem dX9_stow_95 : decode cX9_stow 95 = .ok (.if_icmp .ge 8, 3) := by decide +kernel
theorem dX9_stow_98 : decode cX9_stow 98 = .ok (.iload 8, 2) := by decide +kernel
theorem dX9_stow_100 : decode cX9_stow 100 = .ok (.goto 5, 3) := by decide +kernel
theorem dX9_stow_103 : decode cX9_stow 103 = .ok (.iload 6, 2) := by decide +kernel
theorem dX9_stow_105 : decode cX9_stow 105 = .ok (.istore 6, 2) := by decide +kernel
theorem dX9_stow_107 : decode cX9_stow 107 = .ok (.iinc 7 1, 3) := by decide +kernel
theorem dX9_stow_110 : decode cX9_stow 110 = .ok (.goto (-60), 3) := by decide +kernel
theorem dX9_stow_113 : decode cX9_stow 113 = .ok (.aload_n 0, 1) := by decide +kernel
theorem dX9_stow_114 : decode cX9_stow 114 = .ok (.getfield 7, 3) := by decide +kernel
theorem dX9_stow_117 : decode cX9_stow 117 = .ok (.iconst 3, 1) := by decide +kernel
theorem dX9_stow_118 : decode cX9_stow 118 = .ok (.iload_n 1, 1) := by decide +kernel
theorem dX9_stow_119 : decode cX9_stow 119 = .ok (.iadd, 1) := by decide +kernel
theorem dX9_stow_120 : decode cX9_stow 120 = .ok (.iload 4, 2) := by decide +kernel
theorem dX9_stow_122 : decode cX9_stow 122 = .ok (.iastore, 1) := by decide +kernel
theorem dX9_stow_123 : decode cX9_stow 123 = .ok (.aload_n 0, 1) := by decide +kernel
theorem dX9_stow_124 : decode cX9_stow 124 = .ok (.iload 6, 2) := by decide +kernel
theorem dX9_stow_126 : decode cX9_stow 126 = .ok (.putfield 57, 3) := by decide +kernel
theorem dX9_stow_129 : decode cX9_stow 129 = .ok (.iload 5, 2) := by decide +kernel
theorem dX9_stow_131 : decode cX9_stow 131 = .ok (.ireturn, 1) := by decide +kernel
theorem dX9_dark_0 : decode cX9_dark 0 = .ok (.iload_n 1, 1) := by decide +kernel
theorem dX9_dark_1 : decode cX9_dark 1 = .ok (.i2l, 1) := by decide +kernel
theorem dX9_dark_2 : decode cX9_dark 2 = .ok (.lconst 1, 1) := by decide +kernel
theorem dX9_dark_3 : decode cX9_dark 3 = .ok (.ldc2_w 184, 3) := by decide +kernel
theorem dX9_dark_6 : decode cX9_dark 6 = .ok (.invokestatic 62, 3) := by decide +kernel
theorem dX9_dark_9 : decode cX9_dark 9 = .ok (.ifCond .ne 5, 3) := by decide +kernel
theorem dX9_dark_12 : decode cX9_dark 12 = .ok (.iconst (-1), 1) := by decide +kernel
theorem dX9_dark_13 : decode cX9_dark 13 = .ok (.ireturn, 1) := by decide +kernel
theorem dX9_dark_14 : decode cX9_dark 14 = .ok (.aload_n 0, 1) := by decide +kernel
theorem dX9_dark_15 : decode cX9_dark 15 = .ok (.getfield 7, 3) := by decide +kernel
theorem dX9_dark_18 : decode cX9_dark 18 = .ok (.iconst 0, 1) := by decide +kernel
theorem dX9_dark_19 : decode cX9_dark 19 = .ok (.iaload, 1) := by decide +kernel
theorem dX9_dark_20 : decode cX9_dark 20 = .ok (.ifCond .ne 6, 3) := by decide +kernel
theorem dX9_dark_23 : decode cX9_dark 23 = .ok (.bipush (-4), 2) := by decide +kernel
theorem dX9_dark_25 : decode cX9_dark 25 = .ok (.ireturn, 1) := by decide +kernel
theorem dX9_dark_26 : decode cX9_dark 26 = .ok (.iconst 0, 1) := by decide +kernel
theorem dX9_dark_27 : decode cX9_dark 27 = .ok (.istore_n 2, 1) := by decide +kernel
theorem dX9_dark_28 : decode cX9_dark 28 = .ok (.ldc 183, 2) := by decide +kernel
theorem dX9_dark_30 : decode cX9_dark 30 = .ok (.istore_n 3, 1) := by decide +kernel
theorem dX9_dark_31 : decode cX9_dark 31 = .ok (.iconst 0, 1) := by decide +kernel
theorem dX9_dark_32 : decode cX9_dark 32 = .ok (.istore 4, 2) := by decide +kernel
theorem dX9_dark_34 : decode cX9_dark 34 = .ok (.iload 4, 2) := by decide +kernel
theorem dX9_dark_36 : decode cX9_dark 36 = .ok (.iload_n 1, 1) := by decide +kernel
theorem dX9_dark_37 : decode cX9_dark 37 = .ok (.iadd, 1) := by decide +kernel
theorem dX9_dark_38 : decode cX9_dark 38 = .ok (.bipush 10, 2) := by decide +kernel
theorem dX9_dark_40 : decode cX9_dark 40 = .ok (.if_icmp .gt 49, 3) := by decide +kernel
theorem dX9_dark_43 : decode cX9_dark 43 = .ok (.aload_n 0, 1) := by decide +kernel
theorem dX9_dark_44 : decode cX9_dark 44 = .ok (.iload 4, 2) := by decide +kernel
theorem dX9_dark_46 : decode cX9_dark 46 = .ok (.iload 4, 2) := by decide +kernel
theorem dX9_dark_48 : decode cX9_dark 48 = .ok (.iload_n 1, 1) := by decide +kernel
theorem dX9_dark_49 : decode cX9_dark 49 = .ok (.iadd, 1) := by decide +kernel
theorem dX9_dark_50 : decode cX9_dark 50 = .ok (.iconst 1, 1) := by decide +kernel
theorem dX9_dark_51 : decode cX9_dark 51 = .ok (.isub, 1) := by decide +kernel
theorem dX9_dark_52 : decode cX9_dark 52 = .ok (.invokevirtual 178, 3) := by decide +kernel
theorem dX9_dark_55 : decode cX9_dark 55 = .ok (.istore 5, 2) := by decide +kernel
theorem dX9_dark_57 : decode cX9_dark 57 = .ok (.iload 5, 2) := by decide +kernel
theorem dX9_dark_59 : decode cX9_dark 59 = .ok (.iload_n 3, 1) := by decide +kernel
theorem dX9_dark_60 : decode cX9_dark 60 = .ok (.if_icmp .ge 8, 3) := by decide +kernel
theorem dX9_dark_63 : decode cX9_dark 63 = .ok (.iload 4, 2) := by decide +kernel
theorem dX9_dark_65 : decode cX9_dark 65 = .ok (.goto 4, 3) := by decide +kernel
theorem dX9_dark_68 : decode cX9_dark 68 = .ok (.iload_n 2, 1) := by decide +kernel
theorem dX9_dark_69 : decode cX9_dark 69 = .ok (.istore_n 2, 1) := by decide +kernel
theorem dX9_dark_70 : decode cX9_dark 70 = .ok (.iload 5, 2) := by decide +kernel
theorem dX9_dark_72 : decode cX9_dark 72 = .ok (.iload_n 3, 1) := by decide +kernel
theorem dX9_dark_73 : decode cX9_dark 73 = .ok (.if_icmp .ge 8, 3) := by decide +kernel
theorem dX9_dark_76 : decode cX9_dark 76 = .ok (.iload 5, 2) := by decide +kernel
theorem dX9_dark_78 : decode cX9_dark 78 = .ok (.goto 4, 3) := by decide +kernel
theorem dX9_dark_81 : decode cX9_dark 81 = .ok (.iload_n 3, 1) := by decide +kernel
theorem dX9_dark_82 : decode cX9_dark 82 = .ok (.istore_n 3, 1) := by decide +kernel
theorem dX9_dark_83 : decode cX9_dark 83 = .ok (.iinc 4 1, 3) := by decide +kernel
theorem dX9_dark_86 : decode cX9_dark 86 = .ok (.goto (-52), 3) := by decide +kernel
theorem dX9_dark_89 : decode cX9_dark 89 = .ok (.aload_n 0, 1) := by decide +kernel
theorem dX9_dark_90 : decode cX9_dark 90 = .ok (.iload_n 3, 1) := by decide +kernel
theorem dX9_dark_91 : decode cX9_dark 91 = .ok (.putfield 57, 3) := by decide +kernel
theorem dX9_dark_94 : decode cX9_dark 94 = .ok (.iload_n 2, 1) := by decide +kernel
theorem dX9_dark_95 : decode cX9_dark 95 = .ok (.ireturn, 1) := by decide +kernel
theorem dX9_road_0 : decode cX9_road 0 = .ok (.aload_n 0, 1) := by decide +kernel
theorem dX9_road_1 : decode cX9_road 1 = .ok (.getfield 7, 3) := by decide +kernel
theorem dX9_road_4 : decode cX9_road 4 = .ok (.iconst 0, 1) := by decide +kernel
theorem dX9_road_5 : decode cX9_road 5 = .ok (.iaload, 1) := by decide +kernel
theorem dX9_road_6 : decode cX9_road 6 = .ok (.ifCond .ne 6, 3) := by decide +kernel
theorem dX9_road_9 : decode cX9_road 9 = .ok (.bipush (-4), 2) := by decide +kernel
theorem dX9_road_11 : decode cX9_road 11 = .ok (.ireturn, 1) := by decide +kernel
theorem dX9_road_12 : decode cX9_road 12 = .ok (.iconst 0, 1) := by decide +kernel
theorem dX9_road_13 : decode cX9_road 13 = .ok (.istore_n 1, 1) := by decide +kernel
theorem dX9_road_14 : decode cX9_road 14 = .ok (.iload_n 1, 1) := by decide +kernel
theorem dX9_road_15 : decode cX9_road 15 = .ok (.bipush 10, 2) := by decide +kernel
theorem dX9_road_17 : decode cX9_road 17 = .ok (.if_icmp .ge 20, 3) := by decide +kernel
theorem dX9_road_20 : decode cX9_road 20 = .ok (.aload_n 0, 1) := by decide +kernel
theorem dX9_road_21 : decode cX9_road 21 = .ok (.getfield 38, 3) := by decide +kernel
theorem dX9_road_24 : decode cX9_road 24 = .ok (.iload_n 1, 1) := by decide +kernel
theorem dX9_road_25 : decode cX9_road 25 = .ok (.aload_n 0, 1) := by decide +kernel
theorem dX9_road_26 : decode cX9_road 26 = .ok (.iload_n 1, 1) := by decide +kernel
theorem dX9_road_27 : decode cX9_road 27 = .ok (.invokevirtual 175, 3) := by decide +kernel
theorem dX9_road_30 : decode cX9_road 30 = .ok (.iastore, 1) := by decide +kernel
theorem dX9_road_31 : decode cX9_road 31 = .ok (.iinc 1 1, 3) := by decide +kernel
theorem dX9_road_34 : decode cX9_road 34 = .ok (.goto (-20), 3) := by decide +kernel
theorem dX9_road_37 : decode cX9_road 37 = .ok (.iconst 0, 1) := by decide +kernel
theorem dX9_road_38 : decode cX9_road 38 = .ok (.istore_n 1, 1) := by decide +kernel
theorem dX9_road_39 : decode cX9_road 39 = .ok (.ldc 183, 2) := by decide +kernel
theorem dX9_road_41 : decode cX9_road 41 = .ok (.istore_n 2, 1) := by decide +kernel
theorem dX9_road_42 : decode cX9_road 42 = .ok (.iconst 0, 1) := by decide +kernel
theorem dX9_road_43 : decode cX9_road 43 = .ok (.istore_n 3, 1) := by decide +kernel
theorem dX9_road_44 : decode cX9_road 44 = .ok (.iload_n 3, 1) := by decide +kernel
theorem dX9_road_45 : decode cX9_road 45 = .ok (.sipush 1024, 3) := by decide +kernel
theorem dX9_road_48 : decode cX9_road 48 = .ok (.if_icmp .ge 118, 3) := by decide +kernel
theorem dX9_road_51 : decode cX9_road 51 = .ok (.iconst 0, 1) := by decide +kernel
theorem dX9_road_52 : decode cX9_road 52 = .ok (.istore 4, 2) := by decide +kernel
theorem dX9_road_54 : decode cX9_road 54 = .ok (.iconst 0, 1) := by decide +kernel
theorem dX9_road_55 : decode cX9_road 55 = .ok (.istore 5, 2) := by decide +kernel
theorem dX9_road_57 : decode cX9_road 57 = .ok (.iload 5, 2) := by decide +kernel
theorem dX9_road_59 : decode cX9_road 59 = .ok (.bipush 10, 2) := by decide +kernel
theorem dX9_road_61 : decode cX9_road 61 = .ok (.if_icmp .ge 74, 3) := by decide +kernel
theorem dX9_road_64 : decode cX9_road 64 = .ok (.iload 4, 2) := by decide +kernel
theorem dX9_road_66 : decode cX9_road 66 = .ok (.iload_n 3, 1) := by decide +kernel
theorem dX9_road_67 : decode cX9_road 67 = .ok (.iload 5, 2) := by decide +kernel
theorem dX9_road_69 : decode cX9_road 69 = .ok (.invokestatic 143, 3) := by decide +kernel
theorem dX9_road_72 : decode cX9_road 72 = .ok (.ifCond .eq 15, 3) := by decide +kernel
theorem dX9_road_75 : decode cX9_road 75 = .ok (.aload_n 0, 1) := by decide +kernel
theorem dX9_road_76 : decode cX9_road 76 = .ok (.getfield 38, 3) := by decide +kernel
theorem dX9_road_79 : decode cX9_road 79 = .ok (.iload 5, 2) := by decide +kernel
theorem dX9_road_81 : decode cX9_road 81 = .ok (.iaload, 1) := by decide +kernel
theorem dX9_road_82 : decode cX9_road 82 = .ok (.iconst 2, 1) := by decide +kernel
theorem dX9_road_83 : decode cX9_road 83 = .ok (.idiv, 1) := by decide +kernel
theorem dX9_road_84 : decode cX9_road 84 = .ok (.goto 10, 3) := by decide +kernel
theorem dX9_road_87 : decode cX9_road 87 = .ok (.aload_n 0, 1) := by decide +kernel
theorem dX9_road_88 : decode cX9_road 88 = .ok (.getfield 38, 3) := by decide +kernel
theorem dX9_road_91 : decode cX9_road 91 = .ok (.iload 5, 2) := by decide +kernel
theorem dX9_road_93 : decode cX9_road 93 = .ok (.iaload, 1) := by decide +kernel
theorem dX9_road_94 : decode cX9_road 94 = .ok (.iadd, 1) := by decide +kernel
theorem dX9_road_95 : decode cX9_road 95 = .ok (.istore 4, 2) := by decide +kernel
theorem dX9_road_97 : decode cX9_road 97 = .ok (.iload 4, 2) := by decide +kernel
theorem dX9_road_99 : decode cX9_road 99 = .ok (.iload 5, 2) := by decide +kernel
theorem dX9_road_101 : decode cX9_road 101 = .ok (.ifCond .le 24, 3) := by decide +kernel
theorem dX9_road_104 : decode cX9_road 104 = .ok (.iload_n 3, 1) := by decide +kernel
theorem dX9_road_105 : decode cX9_road 105 = .ok (.iload 5, 2) := by decide +kernel
theorem dX9_road_107 : decode cX9_road 107 = .ok (.invokestatic 143, 3) := by decide +kernel
theorem dX9_road_110 : decode cX9_road 110 = .ok (.iload_n 3, 1) := by decide +kernel
theorem dX9_road_111 : decode cX9_road 111 = .ok (.iload 5, 2) := by decide +kernel
theorem dX9_road_113 : decode cX9_road 113 = .ok (.iconst 1, 1) := by decide +kernel
theorem dX9_road_114 : decode cX9_road 114 = .ok (.isub, 1) := by decide +kernel
theorem dX9_road_115 : decode cX9_road 115 = .ok (.invokestatic 143, 3) := by decide +kernel
theorem dX9_road_118 : decode cX9_road 118 = .ok (.if_icmp .eq 7, 3) := by decide +kernel
theorem dX9_road_121 : decode cX9_road 121 = .ok (.iconst 3, 1) := by decide +kernel
theorem dX9_road_122 : decode cX9_road 122 = .ok (.goto 4, 3) := by decide +kernel
theorem dX9_road_125 : decode cX9_road 125 = .ok (.iconst 0, 1) := by decide +kernel
theorem dX9_road_126 : decode cX9_road 126 = .ok (.iadd, 1) := by decide +kernel
theorem dX9_road_127 : decode cX9_road 127 = .ok (.istore 4, 2) := by decide +kernel
theorem dX9_road_129 : decode cX9_road 129 = .ok (.iinc 5 1, 3) := by decide +kernel
theorem dX9_road_132 : decode cX9_road 132 = .ok (.goto (-75), 3) := by decide +kernel
theorem dX9_road_135 : decode cX9_road 135 = .ok (.iload 4, 2) := by decide +kernel
theorem dX9_road_137 : decode cX9_road 137 = .ok (.iload_n 2, 1) := by decide +kernel
theorem dX9_road_138 : decode cX9_road 138 = .ok (.if_icmp .ge 7, 3) := by decide +kernel
theorem dX9_road_141 : decode cX9_road 141 = .ok (.iload_n 3, 1) := by decide +kernel
theorem dX9_road_142 : decode cX9_road 142 = .ok (.goto 4, 3) := by decide +kernel
theorem dX9_road_145 : decode cX9_road 145 = .ok (.iload_n 1, 1) := by decide +kernel
theorem dX9_road_146 : decode cX9_road 146 = .ok (.istore_n 1, 1) := by decide +kernel
theorem dX9_road_147 : decode cX9_road 147 = .ok (.iload 4, 2) := by decide +kernel
theorem dX9_road_149 : decode cX9_road 149 = .ok (.iload_n 2, 1) := by decide +kernel
theorem dX9_road_150 : decode cX9_road 150 = .ok (.if_icmp .ge 8, 3) := by decide +kernel
theorem dX9_road_153 : decode cX9_road 153 = .ok (.iload 4, 2) := by decide +kernel
theorem dX9_road_155 : decode cX9_road 155 = .ok (.goto 4, 3) := by decide +kernel
theorem dX9_road_158 : decode cX9_road 158 = .ok (.iload_n 2, 1) := by decide +kernel
theorem dX9_road_159 : decode cX9_road 159 = .ok (.istore_n 2, 1) := by decide +kernel
theorem dX9_road_160 : decode cX9_road 160 = .ok (.iinc 3 1, 3) := by decide +kernel
theorem dX9_road_163 : decode cX9_road 163 = .ok (.goto (-119), 3) := by decide +kernel
theorem dX9_road_166 : decode cX9_road 166 = .ok (.aload_n 0, 1) := by decide +kernel
theorem dX9_road_167 : decode cX9_road 167 = .ok (.iload_n 1, 1) := by decide +kernel
theorem dX9_road_168 : decode cX9_road 168 = .ok (.putfield 57, 3) := by decide +kernel
theorem dX9_road_171 : decode cX9_road 171 = .ok (.iload_n 2, 1) := by decide +kernel
theorem dX9_road_172 : decode cX9_road 172 = .ok (.ireturn, 1) := by decide +kernel
theorem dX9_isForged_0 : decode cX9_isForged 0 = .ok (.aload_n 0, 1) := by decide +kernel
theorem dX9_isForged_1 : decode cX9_isForged 1 = .ok (.getfield 7, 3) := by decide +kernel
theorem dX9_isForged_4 : decode cX9_isForged 4 = .ok (.bipush 11, 2) := by decide +kernel
theorem dX9_isForged_6 : decode cX9_isForged 6 = .ok (.iload_n 1, 1) := by decide +kernel
theorem dX9_isForged_7 : decode cX9_isForged 7 = .ok (.iadd, 1) := by decide +kernel
theorem dX9_isForged_8 : decode cX9_isForged 8 = .ok (.iaload, 1) := by decide +kernel
theorem dX9_isForged_9 : decode cX9_isForged 9 = .ok (.iconst 3, 1) := by decide +kernel
theorem dX9_isForged_10 : decode cX9_isForged 10 = .ok (.if_icmp .eq 16, 3) := by decide +kernel
theorem dX9_isForged_13 : decode cX9_isForged 13 = .ok (.aload_n 0, 1) := by decide +kernel
theorem dX9_isForged_14 : decode cX9_isForged 14 = .ok (.getfield 7, 3) := by decide +kernel
theorem dX9_isForged_17 : decode cX9_isForged 17 = .ok (.bipush 11, 2) := by decide +kernel
theorem dX9_isForged_19 : decode cX9_isForged 19 = .ok (.iload_n 1, 1) := by decide +kernel
theorem dX9_isForged_20 : decode cX9_isForged 20 = .ok (.iadd, 1) := by decide +kernel
theorem dX9_isForged_21 : decode cX9_isForged 21 = .ok (.iaload, 1) := by decide +kernel
theorem dX9_isForged_22 : decode cX9_isForged 22 = .ok (.iconst 5, 1) := by decide +kernel
theorem dX9_isForged_23 : decode cX9_isForged 23 = .ok (.if_icmp .ne 7, 3) := by decide +kernel
theorem dX9_isForged_26 : decode cX9_isForged 26 = .ok (.iconst 1, 1) := by decide +kernel
theorem dX9_isForged_27 : decode cX9_isForged 27 = .ok (.goto 4, 3) := by decide +kernel
theorem dX9_isForged_30 : decode cX9_isForged 30 = .ok (.iconst 0, 1) := by decide +kernel
theorem dX9_isForged_31 : decode cX9_isForged 31 = .ok (.ireturn, 1) := by decide +kernel
theorem dX9_debts_0 : decode cX9_debts 0 = .ok (.iconst 0, 1) := by decide +kernel
theorem dX9_debts_1 : decode cX9_debts 1 = .ok (.istore_n 1, 1) := by decide +kernel
theorem dX9_debts_2 : decode cX9_debts 2 = .ok (.iconst 0, 1) := by decide +kernel
theorem dX9_debts_3 : decode cX9_debts 3 = .ok (.istore_n 2, 1) := by decide +kernel
theorem dX9_debts_4 : decode cX9_debts 4 = .ok (.iload_n 2, 1) := by decide +kernel
theorem dX9_debts_5 : decode cX9_debts 5 = .ok (.aload_n 0, 1) := by decide +kernel
theorem dX9_debts_6 : decode cX9_debts 6 = .ok (.getfield 7, 3) := by decide +kernel
theorem dX9_debts_9 : decode cX9_debts 9 = .ok (.iconst 0, 1) := by decide +kernel
theorem dX9_debts_10 : decode cX9_debts 10 = .ok (.iaload, 1) := by decide +kernel
theorem dX9_debts_11 : decode cX9_debts 11 = .ok (.if_icmp .ge 40, 3) := by decide +kernel
theorem dX9_debts_14 : decode cX9_debts 14 = .ok (.iload_n 1, 1) := by decide +kernel
theorem dX9_debts_15 : decode cX9_debts 15 = .ok (.aload_n 0, 1) := by decide +kernel
theorem dX9_debts_16 : decode cX9_debts 16 = .ok (.getfield 7, 3) := by decide +kernel
theorem dX9_debts_19 : decode cX9_debts 19 = .ok (.iconst 2, 1) := by decide +kernel
theorem dX9_debts_20 : decode cX9_debts 20 = .ok (.iaload, 1) := by decide +kernel
theorem dX9_debts_21 : decode cX9_debts 21 = .ok (.iload_n 2, 1) := by decide +kernel
theorem dX9_debts_22 : decode cX9_debts 22 = .ok (.invokestatic 143, 3) := by decide +kernel
theorem dX9_debts_25 : decode cX9_debts 25 = .ok (.ifCond .eq 17, 3) := by decide +kernel
theorem dX9_debts_28 : decode cX9_debts 28 = .ok (.aload_n 0, 1) := by decide +kernel
theorem dX9_debts_29 : decode cX9_debts 29 = .ok (.iload_n 2, 1) := by decide +kernel
theorem dX9_debts_30 : decode cX9_debts 30 = .ok (.invokevirtual 186, 3) := by decide +kernel
theorem dX9_debts_33 : decode cX9_debts 33 = .ok (.ifCond .ne 9, 3) := by decide +kernel
theorem dX9_debts_36 : decode cX9_debts 36 = .ok (.iconst 1, 1) := by decide +kernel
theorem dX9_debts_37 : decode cX9_debts 37 = .ok (.iload_n 2, 1) := by decide +kernel
theorem dX9_debts_38 : decode cX9_debts 38 = .ok (.ishl, 1) := by decide +kernel
theorem dX9_debts_39 : decode cX9_debts 39 = .ok (.goto 4, 3) := by decide +kernel
theorem dX9_debts_42 : decode cX9_debts 42 = .ok (.iconst 0, 1) := by decide +kernel
theorem dX9_debts_43 : decode cX9_debts 43 = .ok (.ior, 1) := by decide +kernel
theorem dX9_debts_44 : decode cX9_debts 44 = .ok (.istore_n 1, 1) := by decide +kernel
theorem dX9_debts_45 : decode cX9_debts 45 = .ok (.iinc 2 1, 3) := by decide +kernel
theorem dX9_debts_48 : decode cX9_debts 48 = .ok (.goto (-44), 3) := by decide +kernel
theorem dX9_debts_51 : decode cX9_debts 51 = .ok (.iload_n 1, 1) := by decide +kernel
theorem dX9_debts_52 : decode cX9_debts 52 = .ok (.ireturn, 1) := by decide +kernel
theorem dX9_owesBy_0 : decode cX9_owesBy 0 = .ok (.iconst 0, 1) := by decide +kernel
theorem dX9_owesBy_1 : decode cX9_owesBy 1 = .ok (.istore_n 3, 1) := by decide +kernel
theorem dX9_owesBy_2 : decode cX9_owesBy 2 = .ok (.iconst 0, 1) := by decide +kernel
theorem dX9_owesBy_3 : decode cX9_owesBy 3 = .ok (.istore 4, 2) := by decide +kernel
theorem dX9_owesBy_5 : decode cX9_owesBy 5 = .ok (.iload 4, 2) := by decide +kernel
theorem dX9_owesBy_7 : decode cX9_owesBy 7 = .ok (.aload_n 0, 1) := by decide +kernel
theorem dX9_owesBy_8 : decode cX9_owesBy 8 = .ok (.getfield 7, 3) := by decide +kernel
theorem dX9_owesBy_11 : decode cX9_owesBy 11 = .ok (.iconst 0, 1) := by decide +kernel
theorem dX9_owesBy_12 : decode cX9_owesBy 12 = .ok (.iaload, 1) := by decide +kernel
theorem dX9_owesBy_13 : decode cX9_owesBy 13 = .ok (.if_icmp .ge 71, 3) := by decide +kernel
theorem dX9_owesBy_16 : decode cX9_owesBy 16 = .ok (.iload_n 3, 1) := by decide +kernel
theorem dX9_owesBy_17 : decode cX9_owesBy 17 = .ok (.iload_n 2, 1) := by decide +kernel
theorem dX9_owesBy_18 : decode cX9_owesBy 18 = .ok (.iload 4, 2) := by decide +kernel
theorem dX9_owesBy_20 : decode cX9_owesBy 20 = .ok (.invokestatic 143, 3) := by decide +kernel
theorem dX9_owesBy_23 : decode cX9_owesBy 23 = .ok (.ifCond .eq 21, 3) := by decide +kernel
theorem dX9_owesBy_26 : decode cX9_owesBy 26 = .ok (.aload_n 0, 1) := by decide +kernel
theorem dX9_owesBy_27 : decode cX9_owesBy 27 = .ok (.getfield 7, 3) := by decide +kernel
theorem dX9_owesBy_30 : decode cX9_owesBy 30 = .ok (.bipush 19, 2) := by decide +kernel
theorem dX9_owesBy_32 : decode cX9_owesBy 32 = .ok (.iload 4, 2) := by decide +kernel
theorem dX9_owesBy_34 : decode cX9_owesBy 34 = .ok (.iadd, 1) := by decide +kernel
theorem dX9_owesBy_35 : decode cX9_owesBy 35 = .ok (.iaload, 1) := by decide +kernel
theorem dX9_owesBy_36 : decode cX9_owesBy 36 = .ok (.iload_n 1, 1) := by decide +kernel
theorem dX9_owesBy_37 : decode cX9_owesBy 37 = .ok (.if_icmp .ne 7, 3) := by decide +kernel
theorem dX9_owesBy_40 : decode cX9_owesBy 40 = .ok (.iconst 1, 1) := by decide +kernel
theorem dX9_owesBy_41 : decode cX9_owesBy 41 = .ok (.goto 4, 3) := by decide +kernel
theorem dX9_owesBy_44 : decode cX9_owesBy 44 = .ok (.iconst 0, 1) := by decide +kernel
theorem dX9_owesBy_45 : decode cX9_owesBy 45 = .ok (.iadd, 1) := by decide +kernel
theorem dX9_owesBy_46 : decode cX9_owesBy 46 = .ok (.istore_n 3, 1) := by decide +kernel
theorem dX9_owesBy_47 : decode cX9_owesBy 47 = .ok (.iload_n 3, 1) := by decide +kernel
theorem dX9_owesBy_48 : decode cX9_owesBy 48 = .ok (.iload_n 2, 1) := by decide +kernel
theorem dX9_owesBy_49 : decode cX9_owesBy 49 = .ok (.iload 4, 2) := by decide +kernel
theorem dX9_owesBy_51 : decode cX9_owesBy 51 = .ok (.invokestatic 143, 3) := by decide +kernel
theorem dX9_owesBy_54 : decode cX9_owesBy 54 = .ok (.ifCond .eq 21, 3) := by decide +kernel
theorem dX9_owesBy_57 : decode cX9_owesBy 57 = .ok (.aload_n 0, 1) := by decide +kernel
theorem dX9_owesBy_58 : decode cX9_owesBy 58 = .ok (.getfield 7, 3) := by decide +kernel
theorem dX9_owesBy_61 : decode cX9_owesBy 61 = .ok (.bipush 27, 2) := by decide +kernel
theorem dX9_owesBy_63 : decode cX9_owesBy 63 = .ok (.iload 4, 2) := by decide +kernel
theorem dX9_owesBy_65 : decode cX9_owesBy 65 = .ok (.iadd, 1) := by decide +kernel
theorem dX9_owesBy_66 : decode cX9_owesBy 66 = .ok (.iaload, 1) := by decide +kernel
theorem dX9_owesBy_67 : decode cX9_owesBy 67 = .ok (.iload_n 1, 1) := by decide +kernel
theorem dX9_owesBy_68 : decode cX9_owesBy 68 = .ok (.if_icmp .ne 7, 3) := by decide +kernel
theorem dX9_owesBy_71 : decode cX9_owesBy 71 = .ok (.iconst 1, 1) := by decide +kernel
theorem dX9_owesBy_72 : decode cX9_owesBy 72 = .ok (.goto 4, 3) := by decide +kernel
theorem dX9_owesBy_75 : decode cX9_owesBy 75 = .ok (.iconst 0, 1) := by decide +kernel
theorem dX9_owesBy_76 : decode cX9_owesBy 76 = .ok (.isub, 1) := by decide +kernel
theorem dX9_owesBy_77 : decode cX9_owesBy 77 = .ok (.istore_n 3, 1) := by decide +kernel
theorem dX9_owesBy_78 : decode cX9_owesBy 78 = .ok (.iinc 4 1, 3) := by decide +kernel
theorem dX9_owesBy_81 : decode cX9_owesBy 81 = .ok (.goto (-76), 3) := by decide +kernel
theorem dX9_owesBy_84 : decode cX9_owesBy 84 = .ok (.iload_n 3, 1) := by decide +kernel
theorem dX9_owesBy_85 : decode cX9_owesBy 85 = .ok (.ireturn, 1) := by decide +kernel
theorem dX9_isRing_0 : decode cX9_isRing 0 = .ok (.iload_n 1, 1) := by decide +kernel
theorem dX9_isRing_1 : decode cX9_isRing 1 = .ok (.aload_n 0, 1) := by decide +kernel
theorem dX9_isRing_2 : decode cX9_isRing 2 = .ok (.invokevirtual 189, 3) := by decide +kernel
theorem dX9_isRing_5 : decode cX9_isRing 5 = .ok (.iconst (-1), 1) := by decide +kernel
theorem dX9_isRing_6 : decode cX9_isRing 6 = .ok (.ixor, 1) := by decide +kernel
theorem dX9_isRing_7 : decode cX9_isRing 7 = .ok (.iand, 1) := by decide +kernel
theorem dX9_isRing_8 : decode cX9_isRing 8 = .ok (.ifCond .ne 7, 3) := by decide +kernel
theorem dX9_isRing_11 : decode cX9_isRing 11 = .ok (.iconst 1, 1) := by decide +kernel
theorem dX9_isRing_12 : decode cX9_isRing 12 = .ok (.goto 4, 3) := by decide +kernel
theorem dX9_isRing_15 : decode cX9_isRing 15 = .ok (.iconst 0, 1) := by decide +kernel
theorem dX9_isRing_16 : decode cX9_isRing 16 = .ok (.istore_n 2, 1) := by decide +kernel
theorem dX9_isRing_17 : decode cX9_isRing 17 = .ok (.iconst 0, 1) := by decide +kernel
theorem dX9_isRing_18 : decode cX9_isRing 18 = .ok (.istore_n 3, 1) := by decide +kernel
theorem dX9_isRing_19 : decode cX9_isRing 19 = .ok (.iload_n 3, 1) := by decide +kernel
theorem dX9_isRing_20 : decode cX9_isRing 20 = .ok (.bipush 6, 2) := by decide +kernel
theorem dX9_isRing_22 : decode cX9_isRing 22 = .ok (.if_icmp .ge 28, 3) := by decide +kernel
theorem dX9_isRing_25 : decode cX9_isRing 25 = .ok (.iload_n 2, 1) := by decide +kernel
theorem dX9_isRing_26 : decode cX9_isRing 26 = .ok (.ifCond .eq 24, 3) := by decide +kernel
theorem dX9_isRing_29 : decode cX9_isRing 29 = .ok (.aload_n 0, 1) := by decide +kernel
theorem dX9_isRing_30 : decode cX9_isRing 30 = .ok (.iload_n 3, 1) := by decide +kernel
theorem dX9_isRing_31 : decode cX9_isRing 31 = .ok (.iload_n 1, 1) := by decide +kernel
theorem dX9_isRing_32 : decode cX9_isRing 32 = .ok (.invokevirtual 192, 3) := by decide +kernel
theorem dX9_isRing_35 : decode cX9_isRing 35 = .ok (.ifCond .ne 7, 3) := by decide +kernel
theorem dX9_isRing_38 : decode cX9_isRing 38 = .ok (.iconst 1, 1) := by decide +kernel
theorem dX9_isRing_39 : decode cX9_isRing 39 = .ok (.goto 4, 3) := by decide +kernel
theorem dX9_isRing_42 : decode cX9_isRing 42 = .ok (.iconst 0, 1) := by decide +kernel
theorem dX9_isRing_43 : decode cX9_isRing 43 = .ok (.istore_n 2, 1) := by decide +kernel
theorem dX9_isRing_44 : decode cX9_isRing 44 = .ok (.iinc 3 1, 3) := by decide +kernel
theorem dX9_isRing_47 : decode cX9_isRing 47 = .ok (.goto (-28), 3) := by decide +kernel
theorem dX9_isRing_50 : decode cX9_isRing 50 = .ok (.iload_n 2, 1) := by decide +kernel
theorem dX9_isRing_51 : decode cX9_isRing 51 = .ok (.ireturn, 1) := by decide +kernel
theorem dX9_owes_0 : decode cX9_owes 0 = .ok (.iload_n 1, 1) := by decide +kernel
theorem dX9_owes_1 : decode cX9_owes 1 = .ok (.i2l, 1) := by decide +kernel
theorem dX9_owes_2 : decode cX9_owes 2 = .ok (.lconst 0, 1) := by decide +kernel
theorem dX9_owes_3 : decode cX9_owes 3 = .ok (.ldc2_w 60, 3) := by decide +kernel
theorem dX9_owes_6 : decode cX9_owes 6 = .ok (.invokestatic 62, 3) := by decide +kernel
theorem dX9_owes_9 : decode cX9_owes 9 = .ok (.ifCond .eq 18, 3) := by decide +kernel
theorem dX9_owes_12 : decode cX9_owes 12 = .ok (.aload_n 0, 1) := by decide +kernel
theorem dX9_owes_13 : decode cX9_owes 13 = .ok (.iload_n 1, 1) := by decide +kernel
theorem dX9_owes_14 : decode cX9_owes 14 = .ok (.aload_n 0, 1) := by decide +kernel
theorem dX9_owes_15 : decode cX9_owes 15 = .ok (.invokevirtual 189, 3) := by decide +kernel
theorem dX9_owes_18 : decode cX9_owes 18 = .ok (.invokevirtual 192, 3) := by decide +kernel
theorem dX9_owes_21 : decode cX9_owes 21 = .ok (.bipush 100, 2) := by decide +kernel
theorem dX9_owes_23 : decode cX9_owes 23 = .ok (.iadd, 1) := by decide +kernel
theorem dX9_owes_24 : decode cX9_owes 24 = .ok (.goto 4, 3) := by decide +kernel
theorem dX9_owes_27 : decode cX9_owes 27 = .ok (.iconst (-1), 1) := by decide +kernel
theorem dX9_owes_28 : decode cX9_owes 28 = .ok (.ireturn, 1) := by decide +kernel
theorem dX9_ring_0 : decode cX9_ring 0 = .ok (.aload_n 0, 1) := by decide +kernel
theorem dX9_ring_1 : decode cX9_ring 1 = .ok (.getfield 7, 3) := by decide +kernel
theorem dX9_ring_4 : decode cX9_ring 4 = .ok (.iconst 0, 1) := by decide +kernel
theorem dX9_ring_5 : decode cX9_ring 5 = .ok (.iaload, 1) := by decide +kernel
theorem dX9_ring_6 : decode cX9_ring 6 = .ok (.ifCond .ne 6, 3) := by decide +kernel
theorem dX9_ring_9 : decode cX9_ring 9 = .ok (.bipush (-4), 2) := by decide +kernel
theorem dX9_ring_11 : decode cX9_ring 11 = .ok (.ireturn, 1) := by decide +kernel
theorem dX9_ring_12 : decode cX9_ring 12 = .ok (.iconst 0, 1) := by decide +kernel
theorem dX9_ring_13 : decode cX9_ring 13 = .ok (.istore_n 1, 1) := by decide +kernel
theorem dX9_ring_14 : decode cX9_ring 14 = .ok (.iconst 0, 1) := by decide +kernel
theorem dX9_ring_15 : decode cX9_ring 15 = .ok (.istore_n 2, 1) := by decide +kernel
theorem dX9_ring_16 : decode cX9_ring 16 = .ok (.iload_n 2, 1) := by decide +kernel
theorem dX9_ring_17 : decode cX9_ring 17 = .ok (.iconst 1, 1) := by decide +kernel
theorem dX9_ring_18 : decode cX9_ring 18 = .ok (.aload_n 0, 1) := by decide +kernel
theorem dX9_ring_19 : decode cX9_ring 19 = .ok (.getfield 7, 3) := by decide +kernel
theorem dX9_ring_22 : decode cX9_ring 22 = .ok (.iconst 0, 1) := by decide +kernel
theorem dX9_ring_23 : decode cX9_ring 23 = .ok (.iaload, 1) := by decide +kernel
theorem dX9_ring_24 : decode cX9_ring 24 = .ok (.ishl, 1) := by decide +kernel
theorem dX9_ring_25 : decode cX9_ring 25 = .ok (.if_icmp .ge 34, 3) := by decide +kernel
theorem dX9_ring_28 : decode cX9_ring 28 = .ok (.aload_n 0, 1) := by decide +kernel
theorem dX9_ring_29 : decode cX9_ring 29 = .ok (.iload_n 2, 1) := by decide +kernel
theorem dX9_ring_30 : decode cX9_ring 30 = .ok (.invokevirtual 195, 3) := by decide +kernel
theorem dX9_ring_33 : decode cX9_ring 33 = .ok (.ifCond .eq 18, 3) := by decide +kernel
theorem dX9_ring_36 : decode cX9_ring 36 = .ok (.iload_n 2, 1) := by decide +kernel
theorem dX9_ring_37 : decode cX9_ring 37 = .ok (.invokestatic 198, 3) := by decide +kernel
theorem dX9_ring_40 : decode cX9_ring 40 = .ok (.iload_n 1, 1) := by decide +kernel
theorem dX9_ring_41 : decode cX9_ring 41 = .ok (.invokestatic 198, 3) := by decide +kernel
theorem dX9_ring_44 : decode cX9_ring 44 = .ok (.if_icmp .le 7, 3) := by decide +kernel
theorem dX9_ring_47 : decode cX9_ring 47 = .ok (.iload_n 2, 1) := by decide +kernel
theorem dX9_ring_48 : decode cX9_ring 48 = .ok (.goto 4, 3) := by decide +kernel
theorem dX9_ring_51 : decode cX9_ring 51 = .ok (.iload_n 1, 1) := by decide +kernel
theorem dX9_ring_52 : decode cX9_ring 52 = .ok (.istore_n 1, 1) := by decide +kernel
theorem dX9_ring_53 : decode cX9_ring 53 = .ok (.iinc 2 1, 3) := by decide +kernel
theorem dX9_ring_56 : decode cX9_ring 56 = .ok (.goto (-40), 3) := by decide +kernel
theorem dX9_ring_59 : decode cX9_ring 59 = .ok (.aload_n 0, 1) := by decide +kernel
theorem dX9_ring_60 : decode cX9_ring 60 = .ok (.iload_n 1, 1) := by decide +kernel
theorem dX9_ring_61 : decode cX9_ring 61 = .ok (.putfield 57, 3) := by decide +kernel
theorem dX9_ring_64 : decode cX9_ring 64 = .ok (.iload_n 1, 1) := by decide +kernel
theorem dX9_ring_65 : decode cX9_ring 65 = .ok (.invokestatic 198, 3) := by decide +kernel
theorem dX9_ring_68 : decode cX9_ring 68 = .ok (.ireturn, 1) := by decide +kernel
theorem dX9_rings_0 : decode cX9_rings 0 = .ok (.aload_n 0, 1) := by decide +kernel
theorem dX9_rings_1 : decode cX9_rings 1 = .ok (.iload_n 1, 1) := by decide +kernel
theorem dX9_rings_2 : decode cX9_rings 2 = .ok (.invokevirtual 127, 3) := by decide +kernel
theorem dX9_rings_5 : decode cX9_rings 5 = .ok (.ifCond .ne 5, 3) := by decide +kernel
theorem dX9_rings_8 : decode cX9_rings 8 = .ok (.iconst (-1), 1) := by decide +kernel
theorem dX9_rings_9 : decode cX9_rings 9 = .ok (.ireturn, 1) := by decide +kernel
theorem dX9_rings_10 : decode cX9_rings 10 = .ok (.iconst 0, 1) := by decide +kernel
theorem dX9_rings_11 : decode cX9_rings 11 = .ok (.istore_n 2, 1) := by decide +kernel
theorem dX9_rings_12 : decode cX9_rings 12 = .ok (.iconst 0, 1) := by decide +kernel
theorem dX9_rings_13 : decode cX9_rings 13 = .ok (.istore_n 3, 1) := by decide +kernel
theorem dX9_rings_14 : decode cX9_rings 14 = .ok (.iload_n 3, 1) := by decide +kernel
theorem dX9_rings_15 : decode cX9_rings 15 = .ok (.iconst 1, 1) := by decide +kernel
theorem dX9_rings_16 : decode cX9_rings 16 = .ok (.aload_n 0, 1) := by decide +kernel
theorem dX9_rings_17 : decode cX9_rings 17 = .ok (.getfield 7, 3) := by decide +kernel
theorem dX9_rings_20 : decode cX9_rings 20 = .ok (.iconst 0, 1) := by decide +kernel
theorem dX9_rings_21 : decode cX9_rings 21 = .ok (.iaload, 1) := by decide +kernel
theorem dX9_rings_22 : decode cX9_rings 22 = .ok (.ishl, 1) := by decide +kernel
theorem dX9_rings_23 : decode cX9_rings 23 = .ok (.if_icmp .ge 33, 3) := by decide +kernel
theorem dX9_rings_26 : decode cX9_rings 26 = .ok (.iload_n 2, 1) := by decide +kernel
theorem dX9_rings_27 : decode cX9_rings 27 = .ok (.iload_n 3, 1) := by decide +kernel
theorem dX9_rings_28 : decode cX9_rings 28 = .ok (.iload_n 1, 1) := by decide +kernel
theorem dX9_rings_29 : decode cX9_rings 29 = .ok (.invokestatic 143, 3) := by decide +kernel
theorem dX9_rings_32 : decode cX9_rings 32 = .ok (.ifCond .eq 15, 3) := by decide +kernel
theorem dX9_rings_35 : decode cX9_rings 35 = .ok (.aload_n 0, 1) := by decide +kernel
theorem dX9_rings_36 : decode cX9_rings 36 = .ok (.iload_n 3, 1) := by decide +kernel
theorem dX9_rings_37 : decode cX9_rings 37 = .ok (.invokevirtual 195, 3) := by decide +kernel
theorem dX9_rings_40 : decode cX9_rings 40 = .ok (.ifCond .eq 7, 3) := by decide +kernel
theorem dX9_rings_43 : decode cX9_rings 43 = .ok (.iconst 1, 1) := by decide +kernel
theorem dX9_rings_44 : decode cX9_rings 44 = .ok (.goto 4, 3) := by decide +kernel
theorem dX9_rings_47 : decode cX9_rings 47 = .ok (.iconst 0, 1) := by decide +kernel
theorem dX9_rings_48 : decode cX9_rings 48 = .ok (.iadd, 1) := by decide +kernel
theorem dX9_rings_49 : decode cX9_rings 49 = .ok (.istore_n 2, 1) := by decide +kernel
theorem dX9_rings_50 : decode cX9_rings 50 = .ok (.iinc 3 1, 3) := by decide +kernel
theorem dX9_rings_53 : decode cX9_rings 53 = .ok (.goto (-39), 3) := by decide +kernel
theorem dX9_rings_56 : decode cX9_rings 56 = .ok (.iload_n 2, 1) := by decide +kernel
theorem dX9_rings_57 : decode cX9_rings 57 = .ok (.ireturn, 1) := by decide +kernel
theorem dX9_least_0 : decode cX9_least 0 = .ok (.aload_n 0, 1) := by decide +kernel
theorem dX9_least_1 : decode cX9_least 1 = .ok (.iload_n 1, 1) := by decide +kernel
theorem dX9_least_2 : decode cX9_least 2 = .ok (.invokevirtual 127, 3) := by decide +kernel
theorem dX9_least_5 : decode cX9_least 5 = .ok (.ifCond .ne 5, 3) := by decide +kernel
theorem dX9_least_8 : decode cX9_least 8 = .ok (.iconst (-1), 1) := by decide +kernel
theorem dX9_least_9 : decode cX9_least 9 = .ok (.ireturn, 1) := by decide +kernel
theorem dX9_least_10 : decode cX9_least 10 = .ok (.iconst 0, 1) := by decide +kernel
theorem dX9_least_11 : decode cX9_least 11 = .ok (.istore_n 2, 1) := by decide +kernel
theorem dX9_least_12 : decode cX9_least 12 = .ok (.iconst 0, 1) := by decide +kernel
theorem dX9_least_13 : decode cX9_least 13 = .ok (.istore_n 3, 1) := by decide +kernel
theorem dX9_least_14 : decode cX9_least 14 = .ok (.iload_n 3, 1) := by decide +kernel
theorem dX9_least_15 : decode cX9_least 15 = .ok (.iconst 1, 1) := by decide +kernel
theorem dX9_least_16 : decode cX9_least 16 = .ok (.aload_n 0, 1) := by decide +kernel
theorem dX9_least_17 : decode cX9_least 17 = .ok (.getfield 7, 3) := by decide +kernel
theorem dX9_least_20 : decode cX9_least 20 = .ok (.iconst 0, 1) := by decide +kernel
theorem dX9_least_21 : decode cX9_least 21 = .ok (.iaload, 1) := by decide +kernel
theorem dX9_least_22 : decode cX9_least 22 = .ok (.ishl, 1) := by decide +kernel
theorem dX9_least_23 : decode cX9_least 23 = .ok (.if_icmp .ge 46, 3) := by decide +kernel
theorem dX9_least_26 : decode cX9_least 26 = .ok (.iload_n 3, 1) := by decide +kernel
theorem dX9_least_27 : decode cX9_least 27 = .ok (.iload_n 1, 1) := by decide +kernel
theorem dX9_least_28 : decode cX9_least 28 = .ok (.invokestatic 143, 3) := by decide +kernel
theorem dX9_least_31 : decode cX9_least 31 = .ok (.ifCond .eq 30, 3) := by decide +kernel
theorem dX9_least_34 : decode cX9_least 34 = .ok (.aload_n 0, 1) := by decide +kernel
theorem dX9_least_35 : decode cX9_least 35 = .ok (.iload_n 3, 1) := by decide +kernel
theorem dX9_least_36 : decode cX9_least 36 = .ok (.invokevirtual 195, 3) := by decide +kernel
theorem dX9_least_39 : decode cX9_least 39 = .ok (.ifCond .eq 22, 3) := by decide +kernel
theorem dX9_least_42 : decode cX9_least 42 = .ok (.iload_n 2, 1) := by decide +kernel
theorem dX9_least_43 : decode cX9_least 43 = .ok (.ifCond .eq 14, 3) := by decide +kernel
theorem dX9_least_46 : decode cX9_least 46 = .ok (.iload_n 3, 1) := by decide +kernel
theorem dX9_least_47 : decode cX9_least 47 = .ok (.invokestatic 198, 3) := by decide +kernel
theorem dX9_least_50 : decode cX9_least 50 = .ok (.iload_n 2, 1) := by decide +kernel
theorem dX9_least_51 : decode cX9_least 51 = .ok (.invokestatic 198, 3) := by decide +kernel
theorem dX9_least_54 : decode cX9_least 54 = .ok (.if_icmp .ge 7, 3) := by decide +kernel
theorem dX9_least_57 : decode cX9_least 57 = .ok (.iload_n 3, 1) := by decide +kernel
theorem dX9_least_58 : decode cX9_least 58 = .ok (.goto 4, 3) := by decide +kernel
theorem dX9_least_61 : decode cX9_least 61 = .ok (.iload_n 2, 1) := by decide +kernel
theorem dX9_least_62 : decode cX9_least 62 = .ok (.istore_n 2, 1) := by decide +kernel
theorem dX9_least_63 : decode cX9_least 63 = .ok (.iinc 3 1, 3) := by decide +kernel
theorem dX9_least_66 : decode cX9_least 66 = .ok (.goto (-52), 3) := by decide +kernel
theorem dX9_least_69 : decode cX9_least 69 = .ok (.iload_n 2, 1) := by decide +kernel
theorem dX9_least_70 : decode cX9_least 70 = .ok (.ifCond .ne 6, 3) := by decide +kernel
theorem dX9_least_73 : decode cX9_least 73 = .ok (.bipush (-9), 2) := by decide +kernel
theorem dX9_least_75 : decode cX9_least 75 = .ok (.ireturn, 1) := by decide +kernel
theorem dX9_least_76 : decode cX9_least 76 = .ok (.aload_n 0, 1) := by decide +kernel
theorem dX9_least_77 : decode cX9_least 77 = .ok (.iload_n 2, 1) := by decide +kernel
theorem dX9_least_78 : decode cX9_least 78 = .ok (.putfield 57, 3) := by decide +kernel
theorem dX9_least_81 : decode cX9_least 81 = .ok (.iload_n 2, 1) := by decide +kernel
theorem dX9_least_82 : decode cX9_least 82 = .ok (.invokestatic 198, 3) := by decide +kernel
theorem dX9_least_85 : decode cX9_least 85 = .ok (.ireturn, 1) := by decide +kernel
theorem dX9_chain_0 : decode cX9_chain 0 = .ok (.iload_n 1, 1) := by decide +kernel
theorem dX9_chain_1 : decode cX9_chain 1 = .ok (.i2l, 1) := by decide +kernel
theorem dX9_chain_2 : decode cX9_chain 2 = .ok (.lconst 0, 1) := by decide +kernel
theorem dX9_chain_3 : decode cX9_chain 3 = .ok (.ldc2_w 60, 3) := by decide +kernel
theorem dX9_chain_6 : decode cX9_chain 6 = .ok (.invokestatic 62, 3) := by decide +kernel
theorem dX9_chain_9 : decode cX9_chain 9 = .ok (.ifCond .eq 22, 3) := by decide +kernel
theorem dX9_chain_12 : decode cX9_chain 12 = .ok (.iload_n 2, 1) := by decide +kernel
theorem dX9_chain_13 : decode cX9_chain 13 = .ok (.i2l, 1) := by decide +kernel
theorem dX9_chain_14 : decode cX9_chain 14 = .ok (.lconst 0, 1) := by decide +kernel
theorem dX9_chain_15 : decode cX9_chain 15 = .ok (.ldc2_w 60, 3) := by decide +kernel
theorem dX9_chain_18 : decode cX9_chain 18 = .ok (.invokestatic 62, 3) := by decide +kernel
theorem dX9_chain_21 : decode cX9_chain 21 = .ok (.ifCond .eq 10, 3) := by decide +kernel
theorem dX9_chain_24 : decode cX9_chain 24 = .ok (.iload_n 3, 1) := by decide +kernel
theorem dX9_chain_25 : decode cX9_chain 25 = .ok (.invokestatic 70, 3) := by decide +kernel
theorem dX9_chain_28 : decode cX9_chain 28 = .ok (.ifCond .ne 5, 3) := by decide +kernel
theorem dX9_chain_31 : decode cX9_chain 31 = .ok (.iconst (-1), 1) := by decide +kernel
theorem dX9_chain_32 : decode cX9_chain 32 = .ok (.ireturn, 1) := by decide +kernel
theorem dX9_chain_33 : decode cX9_chain 33 = .ok (.aload_n 0, 1) := by decide +kernel
theorem dX9_chain_34 : decode cX9_chain 34 = .ok (.invokevirtual 189, 3) := by decide +kernel
theorem dX9_chain_37 : decode cX9_chain 37 = .ok (.istore 4, 2) := by decide +kernel
theorem dX9_chain_39 : decode cX9_chain 39 = .ok (.iconst 0, 1) := by decide +kernel
theorem dX9_chain_40 : decode cX9_chain 40 = .ok (.istore 5, 2) := by decide +kernel
theorem dX9_chain_42 : decode cX9_chain 42 = .ok (.iload 5, 2) := by decide +kernel
theorem dX9_chain_44 : decode cX9_chain 44 = .ok (.bipush 6, 2) := by decide +kernel
theorem dX9_chain_46 : decode cX9_chain 46 = .ok (.if_icmp .ge 28, 3) := by decide +kernel
theorem dX9_chain_49 : decode cX9_chain 49 = .ok (.aload_n 0, 1) := by decide +kernel
theorem dX9_chain_50 : decode cX9_chain 50 = .ok (.getfield 41, 3) := by decide +kernel
theorem dX9_chain_53 : decode cX9_chain 53 = .ok (.iload 5, 2) := by decide +kernel
theorem dX9_chain_55 : decode cX9_chain 55 = .ok (.iload 5, 2) := by decide +kernel
theorem dX9_chain_57 : decode cX9_chain 57 = .ok (.iload_n 2, 1) := by decide +kernel
theorem dX9_chain_58 : decode cX9_chain 58 = .ok (.if_icmp .ne 7, 3) := by decide +kernel
theorem dX9_chain_61 : decode cX9_chain 61 = .ok (.iconst 0, 1) := by decide +kernel
theorem dX9_chain_62 : decode cX9_chain 62 = .ok (.goto 5, 3) := by decide +kernel
theorem dX9_chain_65 : decode cX9_chain 65 = .ok (.ldc 183, 2) := by decide +kernel
theorem dX9_chain_67 : decode cX9_chain 67 = .ok (.iastore, 1) := by decide +kernel
theorem dX9_chain_68 : decode cX9_chain 68 = .ok (.iinc 5 1, 3) := by decide +kernel
theorem dX9_chain_71 : decode cX9_chain 71 = .ok (.goto (-29), 3) := by decide +kernel
theorem dX9_chain_74 : decode cX9_chain 74 = .ok (.iconst 0, 1) := by decide +kernel
theorem dX9_chain_75 : decode cX9_chain 75 = .ok (.istore 5, 2) := by decide +kernel
theorem dX9_chain_77 : decode cX9_chain 77 = .ok (.iload 5, 2) := by decide +kernel
theorem dX9_chain_79 : decode cX9_chain 79 = .ok (.bipush 6, 2) := by decide +kernel
theorem dX9_chain_81 : decode cX9_chain 81 = .ok (.if_icmp .ge 106, 3) := by decide +kernel
theorem dX9_chain_84 : decode cX9_chain 84 = .ok (.iconst 0, 1) := by decide +kernel
theorem dX9_chain_85 : decode cX9_chain 85 = .ok (.istore 6, 2) := by decide +kernel
theorem dX9_chain_87 : decode cX9_chain 87 = .ok (.iload 6, 2) := by decide +kernel
theorem dX9_chain_89 : decode cX9_chain 89 = .ok (.aload_n 0, 1) := by decide +kernel
theorem dX9_chain_90 : decode cX9_chain 90 = .ok (.getfield 7, 3) := by decide +kernel
theorem dX9_chain_93 : decode cX9_chain 93 = .ok (.iconst 0, 1) := by decide +kernel
theorem dX9_chain_94 : decode cX9_chain 94 = .ok (.iaload, 1) := by decide +kernel
theorem dX9_chain_95 : decode cX9_chain 95 = .ok (.if_icmp .ge 86, 3) := by decide +kernel
theorem dX9_chain_98 : decode cX9_chain 98 = .ok (.iload 4, 2) := by decide +kernel
theorem dX9_chain_100 : decode cX9_chain 100 = .ok (.iload 6, 2) := by decide +kernel
theorem dX9_chain_102 : decode cX9_chain 102 = .ok (.invokestatic 143, 3) := by decide +kernel
theorem dX9_chain_105 : decode cX9_chain 105 = .ok (.ifCond .eq 70, 3) := by decide +kernel
theorem dX9_chain_108 : decode cX9_chain 108 = .ok (.aload_n 0, 1) := by decide +kernel
theorem dX9_chain_109 : decode cX9_chain 109 = .ok (.getfield 41, 3) := by decide +kernel
theorem dX9_chain_112 : decode cX9_chain 112 = .ok (.aload_n 0, 1) := by decide +kernel
theorem dX9_chain_113 : decode cX9_chain 113 = .ok (.getfield 7, 3) := by decide +kernel
theorem dX9_chain_116 : decode cX9_chain 116 = .ok (.bipush 27, 2) := by decide +kernel
theorem dX9_chain_118 : decode cX9_chain 118 = .ok (.iload 6, 2) := by decide +kernel
theorem dX9_chain_120 : decode cX9_chain 120 = .ok (.iadd, 1) := by decide +kernel
theorem dX9_chain_121 : decode cX9_chain 121 = .ok (.iaload, 1) := by decide +kernel
theorem dX9_chain_122 : decode cX9_chain 122 = .ok (.iaload, 1) := by decide +kernel
theorem dX9_chain_123 : decode cX9_chain 123 = .ok (.iconst 1, 1) := by decide +kernel
theorem dX9_chain_124 : decode cX9_chain 124 = .ok (.iadd, 1) := by decide +kernel
theorem dX9_chain_125 : decode cX9_chain 125 = .ok (.aload_n 0, 1) := by decide +kernel
theorem dX9_chain_126 : decode cX9_chain 126 = .ok (.getfield 41, 3) := by decide +kernel
theorem dX9_chain_129 : decode cX9_chain 129 = .ok (.aload_n 0, 1) := by decide +kernel
theorem dX9_chain_130 : decode cX9_chain 130 = .ok (.getfield 7, 3) := by decide +kernel
theorem dX9_chain_133 : decode cX9_chain 133 = .ok (.bipush 19, 2) := by decide +kernel
theorem dX9_chain_135 : decode cX9_chain 135 = .ok (.iload 6, 2) := by decide +kernel
theorem dX9_chain_137 : decode cX9_chain 137 = .ok (.iadd, 1) := by decide +kernel
theorem dX9_chain_138 : decode cX9_chain 138 = .ok (.iaload, 1) := by decide +kernel
theorem dX9_chain_139 : decode cX9_chain 139 = .ok (.iaload, 1) := by decide +kernel
theorem dX9_chain_140 : decode cX9_chain 140 = .ok (.if_icmp .ge 35, 3) := by decide +kernel
theorem dX9_chain_143 : decode cX9_chain 143 = .ok (.aload_n 0, 1) := by decide +kernel
theorem dX9_chain_144 : decode cX9_chain 144 = .ok (.getfield 41, 3) := by decide +kernel
theorem dX9_chain_147 : decode cX9_chain 147 = .ok (.aload_n 0, 1) := by decide +kernel
theorem dX9_chain_148 : decode cX9_chain 148 = .ok (.getfield 7, 3) := by decide +kernel
theorem dX9_chain_151 : decode cX9_chain 151 = .ok (.bipush 19, 2) := by decide +kernel
theorem dX9_chain_153 : decode cX9_chain 153 = .ok (.iload 6, 2) := by decide +kernel
theorem dX9_chain_155 : decode cX9_chain 155 = .ok (.iadd, 1) := by decide +kernel
theorem dX9_chain_156 : decode cX9_chain 156 = .ok (.iaload, 1) := by decide +kernel
theorem dX9_chain_157 : decode cX9_chain 157 = .ok (.aload_n 0, 1) := by decide +kernel
theorem dX9_chain_158 : decode cX9_chain 158 = .ok (.getfield 41, 3) := by decide +kernel
theorem dX9_chain_161 : decode cX9_chain 161 = .ok (.aload_n 0, 1) := by decide +kernel
theorem dX9_chain_162 : decode cX9_chain 162 = .ok (.getfield 7, 3) := by decide +kernel
theorem dX9_chain_165 : decode cX9_chain 165 = .ok (.bipush 27, 2) := by decide +kernel
theorem dX9_chain_167 : decode cX9_chain 167 = .ok (.iload 6, 2) := by decide +kernel
theorem dX9_chain_169 : decode cX9_chain 169 = .ok (.iadd, 1) := by decide +kernel
theorem dX9_chain_170 : decode cX9_chain 170 = .ok (.iaload, 1) := by decide +kernel
theorem dX9_chain_171 : decode cX9_chain 171 = .ok (.iaload, 1) := by decide +kernel
theorem dX9_chain_172 : decode cX9_chain 172 = .ok (.iconst 1, 1) := by decide +kernel
theorem dX9_chain_173 : decode cX9_chain 173 = .ok (.iadd, 1) := by decide +kernel
theorem dX9_chain_174 : decode cX9_chain 174 = .ok (.iastore, 1) := by decide +kernel
theorem dX9_chain_175 : decode cX9_chain 175 = .ok (.iinc 6 1, 3) := by decide +kernel
theorem dX9_chain_178 : decode cX9_chain 178 = .ok (.goto (-91), 3) := by decide +kernel
theorem dX9_chain_181 : decode cX9_chain 181 = .ok (.iinc 5 1, 3) := by decide +kernel
theorem dX9_chain_184 : decode cX9_chain 184 = .ok (.goto (-107), 3) := by decide +kernel
theorem dX9_chain_187 : decode cX9_chain 187 = .ok (.aload_n 0, 1) := by decide +kernel
theorem dX9_chain_188 : decode cX9_chain 188 = .ok (.getfield 41, 3) := by decide +kernel
theorem dX9_chain_191 : decode cX9_chain 191 = .ok (.iload_n 1, 1) := by decide +kernel
theorem dX9_chain_192 : decode cX9_chain 192 = .ok (.iaload, 1) := by decide +kernel
theorem dX9_chain_193 : decode cX9_chain 193 = .ok (.ldc 183, 2) := by decide +kernel
theorem dX9_chain_195 : decode cX9_chain 195 = .ok (.if_icmp .lt 6, 3) := by decide +kernel
theorem dX9_chain_198 : decode cX9_chain 198 = .ok (.bipush (-9), 2) := by decide +kernel
theorem dX9_chain_200 : decode cX9_chain 200 = .ok (.ireturn, 1) := by decide +kernel
theorem dX9_chain_201 : decode cX9_chain 201 = .ok (.aload_n 0, 1) := by decide +kernel
theorem dX9_chain_202 : decode cX9_chain 202 = .ok (.getfield 41, 3) := by decide +kernel
theorem dX9_chain_205 : decode cX9_chain 205 = .ok (.iload_n 1, 1) := by decide +kernel
theorem dX9_chain_206 : decode cX9_chain 206 = .ok (.iaload, 1) := by decide +kernel
theorem dX9_chain_207 : decode cX9_chain 207 = .ok (.istore 5, 2) := by decide +kernel
theorem dX9_chain_209 : decode cX9_chain 209 = .ok (.aload_n 0, 1) := by decide +kernel
theorem dX9_chain_210 : decode cX9_chain 210 = .ok (.iload_n 3, 1) := by decide +kernel
theorem dX9_chain_211 : decode cX9_chain 211 = .ok (.iload 5, 2) := by decide +kernel
theorem dX9_chain_213 : decode cX9_chain 213 = .ok (.invokevirtual 201, 3) := by decide +kernel
theorem dX9_chain_216 : decode cX9_chain 216 = .ok (.pop, 1) := by decide +kernel
theorem dX9_chain_217 : decode cX9_chain 217 = .ok (.iload_n 1, 1) := by decide +kernel
theorem dX9_chain_218 : decode cX9_chain 218 = .ok (.istore 6, 2) := by decide +kernel
theorem dX9_chain_220 : decode cX9_chain 220 = .ok (.iconst 0, 1) := by decide +kernel
theorem dX9_chain_221 : decode cX9_chain 221 = .ok (.istore 7, 2) := by decide +kernel
theorem dX9_chain_223 : decode cX9_chain 223 = .ok (.iload 7, 2) := by decide +kernel
theorem dX9_chain_225 : decode cX9_chain 225 = .ok (.iload 5, 2) := by decide +kernel
theorem dX9_chain_227 : decode cX9_chain 227 = .ok (.if_icmp .ge 94, 3) := by decide +kernel
theorem dX9_chain_230 : decode cX9_chain 230 = .ok (.iconst 0, 1) := by decide +kernel
theorem dX9_chain_231 : decode cX9_chain 231 = .ok (.istore 8, 2) := by decide +kernel
theorem dX9_chain_233 : decode cX9_chain 233 = .ok (.iload 4, 2) := by decide +kernel
theorem dX9_chain_235 : decode cX9_chain 235 = .ok (.iload 8, 2) := by decide +kernel
theorem dX9_chain_237 : decode cX9_chain 237 = .ok (.invokestatic 143, 3) := by decide +kernel
theorem dX9_chain_240 : decode cX9_chain 240 = .ok (.ifCond .eq 43, 3) := by decide +kernel
theorem dX9_chain_243 : decode cX9_chain 243 = .ok (.aload_n 0, 1) := by decide +kernel
theorem dX9_chain_244 : decode cX9_chain 244 = .ok (.getfield 7, 3) := by decide +kernel
theorem dX9_chain_247 : decode cX9_chain 247 = .ok (.bipush 19, 2) := by decide +kernel
theorem dX9_chain_249 : decode cX9_chain 249 = .ok (.iload 8, 2) := by decide +kernel
theorem dX9_chain_251 : decode cX9_chain 251 = .ok (.iadd, 1) := by decide +kernel
theorem dX9_chain_252 : decode cX9_chain 252 = .ok (.iaload, 1) := by decide +kernel
theorem dX9_chain_253 : decode cX9_chain 253 = .ok (.iload 6, 2) := by decide +kernel
theorem dX9_chain_255 : decode cX9_chain 255 = .ok (.if_icmp .ne 28, 3) := by decide +kernel
theorem dX9_chain_258 : decode cX9_chain 258 = .ok (.aload_n 0, 1) := by decide +kernel
theorem dX9_chain_259 : decode cX9_chain 259 = .ok (.getfield 41, 3) := by decide +kernel
theorem dX9_chain_262 : decode cX9_chain 262 = .ok (.aload_n 0, 1) := by decide +kernel
theorem dX9_chain_263 : decode cX9_chain 263 = .ok (.getfield 7, 3) := by decide +kernel
theorem dX9_chain_266 : decode cX9_chain 266 = .ok (.bipush 27, 2) := by decide +kernel
theorem dX9_chain_268 : decode cX9_chain 268 = .ok (.iload 8, 2) := by decide +kernel
theorem dX9_chain_270 : decode cX9_chain 270 = .ok (.iadd, 1) := by decide +kernel
theorem dX9_chain_271 : decode cX9_chain 271 = .ok (.iaload, 1) := by decide +kernel
theorem dX9_chain_272 : decode cX9_chain 272 = .ok (.iaload, 1) := by decide +kernel
theorem dX9_chain_273 : decode cX9_chain 273 = .ok (.iload 5, 2) := by decide +kernel
theorem dX9_chain_275 : decode cX9_chain 275 = .ok (.iload 7, 2) := by decide +kernel
theorem dX9_chain_277 : decode cX9_chain 277 = .ok (.isub, 1) := by decide +kernel
theorem dX9_chain_278 : decode cX9_chain 278 = .ok (.iconst 1, 1) := by decide +kernel
theorem dX9_chain_279 : decode cX9_chain 279 = .ok (.isub, 1) := by decide +kernel
theorem dX9_chain_280 : decode cX9_chain 280 = .ok (.if_icmp .eq 9, 3) := by decide +kernel
theorem dX9_chain_283 : decode cX9_chain 283 = .ok (.iinc 8 1, 3) := by decide +kernel
theorem dX9_chain_286 : decode cX9_chain 286 = .ok (.goto (-53), 3) := by decide +kernel
theorem dX9_chain_289 : decode cX9_chain 289 = .ok (.aload_n 0, 1) := by decide +kernel
theorem dX9_chain_290 : decode cX9_chain 290 = .ok (.getfield 16, 3) := by decide +kernel
theorem dX9_chain_293 : decode cX9_chain 293 = .ok (.bipush 40, 2) := by decide +kernel
theorem dX9_chain_295 : decode cX9_chain 295 = .ok (.iload_n 3, 1) := by decide +kernel
theorem dX9_chain_296 : decode cX9_chain 296 = .ok (.imul, 1) := by decide +kernel
theorem dX9_chain_297 : decode cX9_chain 297 = .ok (.iload 7, 2) := by decide +kernel
theorem dX9_chain_299 : decode cX9_chain 299 = .ok (.iadd, 1) := by decide +kernel
theorem dX9_chain_300 : decode cX9_chain 300 = .ok (.iload 8, 2) := by decide +kernel
theorem dX9_chain_302 : decode cX9_chain 302 = .ok (.iastore, 1) := by decide +kernel
theorem dX9_chain_303 : decode cX9_chain 303 = .ok (.aload_n 0, 1) := by decide +kernel
theorem dX9_chain_304 : decode cX9_chain 304 = .ok (.getfield 7, 3) := by decide +kernel
theorem dX9_chain_307 : decode cX9_chain 307 = .ok (.bipush 27, 2) := by decide +kernel
theorem dX9_chain_309 : decode cX9_chain 309 = .ok (.iload 8, 2) := by decide +kernel
theorem dX9_chain_311 : decode cX9_chain 311 = .ok (.iadd, 1) := by decide +kernel
theorem dX9_chain_312 : decode cX9_chain 312 = .ok (.iaload, 1) := by decide +kernel
theorem dX9_chain_313 : decode cX9_chain 313 = .ok (.istore 6, 2) := by decide +kernel
theorem dX9_chain_315 : decode cX9_chain 315 = .ok (.iinc 7 1, 3) := by decide +kernel
theorem dX9_chain_318 : decode cX9_chain 318 = .ok (.goto (-95), 3) := by decide +kernel
theorem dX9_chain_321 : decode cX9_chain 321 = .ok (.iload 5, 2) := by decide +kernel
theorem dX9_chain_323 : decode cX9_chain 323 = .ok (.ireturn, 1) := by decide +kernel
theorem dX9_dim_0 : decode cX9_dim 0 = .ok (.iload_n 1, 1) := by decide +kernel
theorem dX9_dim_1 : decode cX9_dim 1 = .ok (.invokestatic 156, 3) := by decide +kernel
theorem dX9_dim_4 : decode cX9_dim 4 = .ok (.ifCond .eq 15, 3) := by decide +kernel
theorem dX9_dim_7 : decode cX9_dim 7 = .ok (.iload_n 2, 1) := by decide +kernel
theorem dX9_dim_8 : decode cX9_dim 8 = .ok (.i2l, 1) := by decide +kernel
theorem dX9_dim_9 : decode cX9_dim 9 = .ok (.lconst 0, 1) := by decide +kernel
theorem dX9_dim_10 : decode cX9_dim 10 = .ok (.ldc2_w 141, 3) := by decide +kernel
theorem dX9_dim_13 : decode cX9_dim 13 = .ok (.invokestatic 62, 3) := by decide +kernel
theorem dX9_dim_16 : decode cX9_dim 16 = .ok (.ifCond .ne 5, 3) := by decide +kernel
theorem dX9_dim_19 : decode cX9_dim 19 = .ok (.iconst (-1), 1) := by decide +kernel
theorem dX9_dim_20 : decode cX9_dim 20 = .ok (.ireturn, 1) := by decide +kernel
theorem dX9_dim_21 : decode cX9_dim 21 = .ok (.aload_n 0, 1) := by decide +kernel
theorem dX9_dim_22 : decode cX9_dim 22 = .ok (.getfield 7, 3) := by decide +kernel
theorem dX9_dim_25 : decode cX9_dim 25 = .ok (.iconst 2, 1) := by decide +kernel
theorem dX9_dim_26 : decode cX9_dim 26 = .ok (.iaload, 1) := by decide +kernel
theorem dX9_dim_27 : decode cX9_dim 27 = .ok (.istore_n 3, 1) := by decide +kernel
theorem dX9_dim_28 : decode cX9_dim 28 = .ok (.iconst 0, 1) := by decide +kernel
theorem dX9_dim_29 : decode cX9_dim 29 = .ok (.istore 4, 2) := by decide +kernel
theorem dX9_dim_31 : decode cX9_dim 31 = .ok (.iload 4, 2) := by decide +kernel
theorem dX9_dim_33 : decode cX9_dim 33 = .ok (.iconst 1, 1) := by decide +kernel
theorem dX9_dim_34 : decode cX9_dim 34 = .ok (.aload_n 0, 1) := by decide +kernel
theorem dX9_dim_35 : decode cX9_dim 35 = .ok (.getfield 7, 3) := by decide +kernel
theorem dX9_dim_38 : decode cX9_dim 38 = .ok (.iconst 0, 1) := by decide +kernel
theorem dX9_dim_39 : decode cX9_dim 39 = .ok (.iaload, 1) := by decide +kernel
theorem dX9_dim_40 : decode cX9_dim 40 = .ok (.ishl, 1) := by decide +kernel
theorem dX9_dim_41 : decode cX9_dim 41 = .ok (.if_icmp .ge 80, 3) := by decide +kernel
theorem dX9_dim_44 : decode cX9_dim 44 = .ok (.iload 4, 2) := by decide +kernel
theorem dX9_dim_46 : decode cX9_dim 46 = .ok (.aload_n 0, 1) := by decide +kernel
theorem dX9_dim_47 : decode cX9_dim 47 = .ok (.getfield 7, 3) := by decide +kernel
theorem dX9_dim_50 : decode cX9_dim 50 = .ok (.iconst 2, 1) := by decide +kernel
theorem dX9_dim_51 : decode cX9_dim 51 = .ok (.iaload, 1) := by decide +kernel
theorem dX9_dim_52 : decode cX9_dim 52 = .ok (.iconst (-1), 1) := by decide +kernel
theorem dX9_dim_53 : decode cX9_dim 53 = .ok (.ixor, 1) := by decide +kernel
theorem dX9_dim_54 : decode cX9_dim 54 = .ok (.iand, 1) := by decide +kernel
theorem dX9_dim_55 : decode cX9_dim 55 = .ok (.ifCond .ne 33, 3) := by decide +kernel
theorem dX9_dim_58 : decode cX9_dim 58 = .ok (.aload_n 0, 1) := by decide +kernel
theorem dX9_dim_59 : decode cX9_dim 59 = .ok (.iload_n 1, 1) := by decide +kernel
theorem dX9_dim_60 : decode cX9_dim 60 = .ok (.aload_n 0, 1) := by decide +kernel
theorem dX9_dim_61 : decode cX9_dim 61 = .ok (.getfield 7, 3) := by decide +kernel
theorem dX9_dim_64 : decode cX9_dim 64 = .ok (.iconst 2, 1) := by decide +kernel
theorem dX9_dim_65 : decode cX9_dim 65 = .ok (.iaload, 1) := by decide +kernel
theorem dX9_dim_66 : decode cX9_dim 66 = .ok (.iload 4, 2) := by decide +kernel
theorem dX9_dim_68 : decode cX9_dim 68 = .ok (.iconst (-1), 1) := by decide +kernel
theorem dX9_dim_69 : decode cX9_dim 69 = .ok (.ixor, 1) := by decide +kernel
theorem dX9_dim_70 : decode cX9_dim 70 = .ok (.iand, 1) := by decide +kernel
theorem dX9_dim_71 : decode cX9_dim 71 = .ok (.aload_n 0, 1) := by decide +kernel
theorem dX9_dim_72 : decode cX9_dim 72 = .ok (.getfield 7, 3) := by decide +kernel
theorem dX9_dim_75 : decode cX9_dim 75 = .ok (.iconst 1, 1) := by decide +kernel
theorem dX9_dim_76 : decode cX9_dim 76 = .ok (.iaload, 1) := by decide +kernel
theorem dX9_dim_77 : decode cX9_dim 77 = .ok (.invokevirtual 172, 3) := by decide +kernel
theorem dX9_dim_80 : decode cX9_dim 80 = .ok (.iload_n 2, 1) := by decide +kernel
theorem dX9_dim_81 : decode cX9_dim 81 = .ok (.if_icmp .gt 7, 3) := by decide +kernel
theorem dX9_dim_84 : decode cX9_dim 84 = .ok (.iconst 1, 1) := by decide +kernel
theorem dX9_dim_85 : decode cX9_dim 85 = .ok (.goto 4, 3) := by decide +kernel
theorem dX9_dim_88 : decode cX9_dim 88 = .ok (.iconst 0, 1) := by decide +kernel
theorem dX9_dim_89 : decode cX9_dim 89 = .ok (.istore 5, 2) := by decide +kernel
theorem dX9_dim_91 : decode cX9_dim 91 = .ok (.iload 5, 2) := by decide +kernel
theorem dX9_dim_93 : decode cX9_dim 93 = .ok (.ifCond .eq 20, 3) := by decide +kernel
theorem dX9_dim_96 : decode cX9_dim 96 = .ok (.iload 4, 2) := by decide +kernel
theorem dX9_dim_98 : decode cX9_dim 98 = .ok (.invokestatic 198, 3) := by decide +kernel
theorem dX9_dim_101 : decode cX9_dim 101 = .ok (.iload_n 3, 1) := by decide +kernel
theorem dX9_dim_102 : decode cX9_dim 102 = .ok (.invokestatic 198, 3) := by decide +kernel
theorem dX9_dim_105 : decode cX9_dim 105 = .ok (.if_icmp .ge 8, 3) := by decide +kernel
theorem dX9_dim_108 : decode cX9_dim 108 = .ok (.iload 4, 2) := by decide +kernel
theorem dX9_dim_110 : decode cX9_dim 110 = .ok (.goto 4, 3) := by decide +kernel
theorem dX9_dim_113 : decode cX9_dim 113 = .ok (.iload_n 3, 1) := by decide +kernel
theorem dX9_dim_114 : decode cX9_dim 114 = .ok (.istore_n 3, 1) := by decide +kernel
theorem dX9_dim_115 : decode cX9_dim 115 = .ok (.iinc 4 1, 3) := by decide +kernel
theorem dX9_dim_118 : decode cX9_dim 118 = .ok (.goto (-87), 3) := by decide +kernel
theorem dX9_dim_121 : decode cX9_dim 121 = .ok (.iconst 1, 1) := by decide +kernel
theorem dX9_dim_122 : decode cX9_dim 122 = .ok (.aload_n 0, 1) := by decide +kernel
theorem dX9_dim_123 : decode cX9_dim 123 = .ok (.getfield 7, 3) := by decide +kernel
theorem dX9_dim_126 : decode cX9_dim 126 = .ok (.iconst 0, 1) := by decide +kernel
theorem dX9_dim_127 : decode cX9_dim 127 = .ok (.iaload, 1) := by decide +kernel
theorem dX9_dim_128 : decode cX9_dim 128 = .ok (.ishl, 1) := by decide +kernel
theorem dX9_dim_129 : decode cX9_dim 129 = .ok (.iconst 1, 1) := by decide +kernel
theorem dX9_dim_130 : decode cX9_dim 130 = .ok (.isub, 1) := by decide +kernel
theorem dX9_dim_131 : decode cX9_dim 131 = .ok (.istore 4, 2) := by decide +kernel
theorem dX9_dim_133 : decode cX9_dim 133 = .ok (.iload 4, 2) := by decide +kernel
theorem dX9_dim_135 : decode cX9_dim 135 = .ok (.ifCond .lt 80, 3) := by decide +kernel
theorem dX9_dim_138 : decode cX9_dim 138 = .ok (.iload 4, 2) := by decide +kernel
theorem dX9_dim_140 : decode cX9_dim 140 = .ok (.aload_n 0, 1) := by decide +kernel
theorem dX9_dim_141 : decode cX9_dim 141 = .ok (.getfield 7, 3) := by decide +kernel
theorem dX9_dim_144 : decode cX9_dim 144 = .ok (.iconst 2, 1) := by decide +kernel
theorem dX9_dim_145 : decode cX9_dim 145 = .ok (.iaload, 1) := by decide +kernel
theorem dX9_dim_146 : decode cX9_dim 146 = .ok (.iconst (-1), 1) := by decide +kernel
theorem dX9_dim_147 : decode cX9_dim 147 = .ok (.ixor, 1) := by decide +kernel
theorem dX9_dim_148 : decode cX9_dim 148 = .ok (.iand, 1) := by decide +kernel
theorem dX9_dim_149 : decode cX9_dim 149 = .ok (.ifCond .ne 33, 3) := by decide +kernel
theorem dX9_dim_152 : decode cX9_dim 152 = .ok (.aload_n 0, 1) := by decide +kernel
theorem dX9_dim_153 : decode cX9_dim 153 = .ok (.iload_n 1, 1) := by decide +kernel
theorem dX9_dim_154 : decode cX9_dim 154 = .ok (.aload_n 0, 1) := by decide +kernel
theorem dX9_dim_155 : decode cX9_dim 155 = .ok (.getfield 7, 3) := by decide +kernel
theorem dX9_dim_158 : decode cX9_dim 158 = .ok (.iconst 2, 1) := by decide +kernel
theorem dX9_dim_159 : decode cX9_dim 159 = .ok (.iaload, 1) := by decide +kernel
theorem dX9_dim_160 : decode cX9_dim 160 = .ok (.iload 4, 2) := by decide +kernel
theorem dX9_dim_162 : decode cX9_dim 162 = .ok (.iconst (-1), 1) := by decide +kernel
theorem dX9_dim_163 : decode cX9_dim 163 = .ok (.ixor, 1) := by decide +kernel
theorem dX9_dim_164 : decode cX9_dim 164 = .ok (.iand, 1) := by decide +kernel
theorem dX9_dim_165 : decode cX9_dim 165 = .ok (.aload_n 0, 1) := by decide +kernel
theorem dX9_dim_166 : decode cX9_dim 166 = .ok (.getfield 7, 3) := by decide +kernel
theorem dX9_dim_169 : decode cX9_dim 169 = .ok (.iconst 1, 1) := by decide +kernel
theorem dX9_dim_170 : decode cX9_dim 170 = .ok (.iaload, 1) := by decide +kernel
theorem dX9_dim_171 : decode cX9_dim 171 = .ok (.invokevirtual 172, 3) := by decide +kernel
theorem dX9_dim_174 : decode cX9_dim 174 = .ok (.iload_n 2, 1) := by decide +kernel
theorem dX9_dim_175 : decode cX9_dim 175 = .ok (.if_icmp .gt 7, 3) := by decide +kernel
theorem dX9_dim_178 : decode cX9_dim 178 = .ok (.iconst 1, 1) := by decide +kernel
theorem dX9_dim_179 : decode cX9_dim 179 = .ok (.goto 4, 3) := by decide +kernel
theorem dX9_dim_182 : decode cX9_dim 182 = .ok (.iconst 0, 1) := by decide +kernel
theorem dX9_dim_183 : decode cX9_dim 183 = .ok (.istore 5, 2) := by decide +kernel
theorem dX9_dim_185 : decode cX9_dim 185 = .ok (.iload 5, 2) := by decide +kernel
theorem dX9_dim_187 : decode cX9_dim 187 = .ok (.ifCond .eq 20, 3) := by decide +kernel
theorem dX9_dim_190 : decode cX9_dim 190 = .ok (.iload 4, 2) := by decide +kernel
theorem dX9_dim_192 : decode cX9_dim 192 = .ok (.invokestatic 198, 3) := by decide +kernel
theorem dX9_dim_195 : decode cX9_dim 195 = .ok (.iload_n 3, 1) := by decide +kernel
theorem dX9_dim_196 : decode cX9_dim 196 = .ok (.invokestatic 198, 3) := by decide +kernel
theorem dX9_dim_199 : decode cX9_dim 199 = .ok (.if_icmp .ne 8, 3) := by decide +kernel
theorem dX9_dim_202 : decode cX9_dim 202 = .ok (.iload 4, 2) := by decide +kernel
theorem dX9_dim_204 : decode cX9_dim 204 = .ok (.goto 4, 3) := by decide +kernel
theorem dX9_dim_207 : decode cX9_dim 207 = .ok (.iload_n 3, 1) := by decide +kernel
theorem dX9_dim_208 : decode cX9_dim 208 = .ok (.istore_n 3, 1) := by decide +kernel
theorem dX9_dim_209 : decode cX9_dim 209 = .ok (.iinc 4 (-1), 3) := by decide +kernel
theorem dX9_dim_212 : decode cX9_dim 212 = .ok (.goto (-79), 3) := by decide +kernel
theorem dX9_dim_215 : decode cX9_dim 215 = .ok (.aload_n 0, 1) := by decide +kernel
theorem dX9_dim_216 : decode cX9_dim 216 = .ok (.iload_n 3, 1) := by decide +kernel
theorem dX9_dim_217 : decode cX9_dim 217 = .ok (.putfield 57, 3) := by decide +kernel
theorem dX9_dim_220 : decode cX9_dim 220 = .ok (.iload_n 3, 1) := by decide +kernel
theorem dX9_dim_221 : decode cX9_dim 221 = .ok (.invokestatic 198, 3) := by decide +kernel
theorem dX9_dim_224 : decode cX9_dim 224 = .ok (.ireturn, 1) := by decide +kernel
theorem dX9_against_0 : decode cX9_against 0 = .ok (.aload_n 0, 1) := by decide +kernel
theorem dX9_against_1 : decode cX9_against 1 = .ok (.getfield 13, 3) := by decide +kernel
theorem dX9_against_4 : decode cX9_against 4 = .ok (.iload_n 1, 1) := by decide +kernel
theorem dX9_against_5 : decode cX9_against 5 = .ok (.iaload, 1) := by decide +kernel
theorem dX9_against_6 : decode cX9_against 6 = .ok (.ifCond .ge 5, 3) := by decide +kernel
theorem dX9_against_9 : decode cX9_against 9 = .ok (.iconst 1, 1) := by decide +kernel
theorem dX9_against_10 : decode cX9_against 10 = .ok (.ireturn, 1) := by decide +kernel
theorem dX9_against_11 : decode cX9_against 11 = .ok (.aload_n 0, 1) := by decide +kernel
theorem dX9_against_12 : decode cX9_against 12 = .ok (.getfield 13, 3) := by decide +kernel
theorem dX9_against_15 : decode cX9_against 15 = .ok (.iload_n 1, 1) := by decide +kernel
theorem dX9_against_16 : decode cX9_against 16 = .ok (.iaload, 1) := by decide +kernel
theorem dX9_against_17 : decode cX9_against 17 = .ok (.iconst 2, 1) := by decide +kernel
theorem dX9_against_18 : decode cX9_against 18 = .ok (.irem, 1) := by decide +kernel
theorem dX9_against_19 : decode cX9_against 19 = .ok (.ifCond .eq 5, 3) := by decide +kernel
theorem dX9_against_22 : decode cX9_against 22 = .ok (.iconst 5, 1) := by decide +kernel
theorem dX9_against_23 : decode cX9_against 23 = .ok (.ireturn, 1) := by decide +kernel
theorem dX9_against_24 : decode cX9_against 24 = .ok (.iconst 1, 1) := by decide +kernel
theorem dX9_against_25 : decode cX9_against 25 = .ok (.istore_n 2, 1) := by decide +kernel
theorem dX9_against_26 : decode cX9_against 26 = .ok (.iconst 0, 1) := by decide +kernel
theorem dX9_against_27 : decode cX9_against 27 = .ok (.istore_n 3, 1) := by decide +kernel
theorem dX9_against_28 : decode cX9_against 28 = .ok (.iload_n 3, 1) := by decide +kernel
theorem dX9_against_29 : decode cX9_against 29 = .ok (.aload_n 0, 1) := by decide +kernel
theorem dX9_against_30 : decode cX9_against 30 = .ok (.getfield 13, 3) := by decide +kernel
theorem dX9_against_33 : decode cX9_against 33 = .ok (.iload_n 1, 1) := by decide +kernel
theorem dX9_against_34 : decode cX9_against 34 = .ok (.iaload, 1) := by decide +kernel
theorem dX9_against_35 : decode cX9_against 35 = .ok (.if_icmp .ge 41, 3) := by decide +kernel
theorem dX9_against_38 : decode cX9_against 38 = .ok (.iload_n 2, 1) := by decide +kernel
theorem dX9_against_39 : decode cX9_against 39 = .ok (.ifCond .eq 29, 3) := by decide +kernel
theorem dX9_against_42 : decode cX9_against 42 = .ok (.aload_n 0, 1) := by decide +kernel
theorem dX9_against_43 : decode cX9_against 43 = .ok (.getfield 16, 3) := by decide +kernel
theorem dX9_against_46 : decode cX9_against 46 = .ok (.bipush 40, 2) := by decide +kernel
theorem dX9_against_48 : decode cX9_against 48 = .ok (.iload_n 1, 1) := by decide +kernel
theorem dX9_against_49 : decode cX9_against 49 = .ok (.imul, 1) := by decide +kernel
theorem dX9_against_50 : decode cX9_against 50 = .ok (.iload_n 3, 1) := by decide +kernel
theorem dX9_against_51 : decode cX9_against 51 = .ok (.iadd, 1) := by decide +kernel
theorem dX9_against_52 : decode cX9_against 52 = .ok (.iaload, 1) := by decide +kernel
theorem dX9_against_53 : decode cX9_against 53 = .ok (.i2l, 1) := by decide +kernel
theorem dX9_against_54 : decode cX9_against 54 = .ok (.lconst 0, 1) := by decide +kernel
theorem dX9_against_55 : decode cX9_against 55 = .ok (.ldc2_w 141, 3) := by decide +kernel
theorem dX9_against_58 : decode cX9_against 58 = .ok (.invokestatic 62, 3) := by decide +kernel
theorem dX9_against_61 : decode cX9_against 61 = .ok (.ifCond .eq 7, 3) := by decide +kernel
theorem dX9_against_64 : decode cX9_against 64 = .ok (.iconst 1, 1) := by decide +kernel
theorem dX9_against_65 : decode cX9_against 65 = .ok (.goto 4, 3) := by decide +kernel
theorem dX9_against_68 : decode cX9_against 68 = .ok (.iconst 0, 1) := by decide +kernel
theorem dX9_against_69 : decode cX9_against 69 = .ok (.istore_n 2, 1) := by decide +kernel
theorem dX9_against_70 : decode cX9_against 70 = .ok (.iinc 3 1, 3) := by decide +kernel
theorem dX9_against_73 : decode cX9_against 73 = .ok (.goto (-45), 3) := by decide +kernel
theorem dX9_against_76 : decode cX9_against 76 = .ok (.iload_n 2, 1) := by decide +kernel
theorem dX9_against_77 : decode cX9_against 77 = .ok (.ifCond .eq 7, 3) := by decide +kernel
theorem dX9_against_80 : decode cX9_against 80 = .ok (.iconst 0, 1) := by decide +kernel
theorem dX9_against_81 : decode cX9_against 81 = .ok (.goto 4, 3) := by decide +kernel
theorem dX9_against_84 : decode cX9_against 84 = .ok (.iconst 3, 1) := by decide +kernel
theorem dX9_against_85 : decode cX9_against 85 = .ok (.ireturn, 1) := by decide +kernel
theorem dX9_fits_0 : decode cX9_fits 0 = .ok (.iconst 1, 1) := by decide +kernel
theorem dX9_fits_1 : decode cX9_fits 1 = .ok (.istore 4, 2) := by decide +kernel
theorem dX9_fits_3 : decode cX9_fits 3 = .ok (.iconst 0, 1) := by decide +kernel
theorem dX9_fits_4 : decode cX9_fits 4 = .ok (.istore 5, 2) := by decide +kernel
theorem dX9_fits_6 : decode cX9_fits 6 = .ok (.iload 5, 2) := by decide +kernel
theorem dX9_fits_8 : decode cX9_fits 8 = .ok (.aload_n 0, 1) := by decide +kernel
theorem dX9_fits_9 : decode cX9_fits 9 = .ok (.getfield 13, 3) := by decide +kernel
theorem dX9_fits_12 : decode cX9_fits 12 = .ok (.iload_n 3, 1) := by decide +kernel
theorem dX9_fits_13 : decode cX9_fits 13 = .ok (.iaload, 1) := by decide +kernel
theorem dX9_fits_14 : decode cX9_fits 14 = .ok (.if_icmp .ge 55, 3) := by decide +kernel
theorem dX9_fits_17 : decode cX9_fits 17 = .ok (.iload 4, 2) := by decide +kernel
theorem dX9_fits_19 : decode cX9_fits 19 = .ok (.ifCond .eq 41, 3) := by decide +kernel
theorem dX9_fits_22 : decode cX9_fits 22 = .ok (.iload_n 1, 1) := by decide +kernel
theorem dX9_fits_23 : decode cX9_fits 23 = .ok (.iload_n 2, 1) := by decide +kernel
theorem dX9_fits_24 : decode cX9_fits 24 = .ok (.aload_n 0, 1) := by decide +kernel
theorem dX9_fits_25 : decode cX9_fits 25 = .ok (.getfield 16, 3) := by decide +kernel
theorem dX9_fits_28 : decode cX9_fits 28 = .ok (.bipush 40, 2) := by decide +kernel
theorem dX9_fits_30 : decode cX9_fits 30 = .ok (.iload_n 3, 1) := by decide +kernel
theorem dX9_fits_31 : decode cX9_fits 31 = .ok (.imul, 1) := by decide +kernel
theorem dX9_fits_32 : decode cX9_fits 32 = .ok (.iload 5, 2) := by decide +kernel
theorem dX9_fits_34 : decode cX9_fits 34 = .ok (.iadd, 1) := by decide +kernel
theorem dX9_fits_35 : decode cX9_fits 35 = .ok (.iaload, 1) := by decide +kernel
theorem dX9_fits_36 : decode cX9_fits 36 = .ok (.invokestatic 123, 3) := by decide +kernel
theorem dX9_fits_39 : decode cX9_fits 39 = .ok (.aload_n 0, 1) := by decide +kernel
theorem dX9_fits_40 : decode cX9_fits 40 = .ok (.getfield 16, 3) := by decide +kernel
theorem dX9_fits_43 : decode cX9_fits 43 = .ok (.bipush 40, 2) := by decide +kernel
theorem dX9_fits_45 : decode cX9_fits 45 = .ok (.iload_n 3, 1) := by decide +kernel
theorem dX9_fits_46 : decode cX9_fits 46 = .ok (.imul, 1) := by decide +kernel
theorem dX9_fits_47 : decode cX9_fits 47 = .ok (.iload 5, 2) := by decide +kernel
theorem dX9_fits_49 : decode cX9_fits 49 = .ok (.iadd, 1) := by decide +kernel
theorem dX9_fits_50 : decode cX9_fits 50 = .ok (.iconst 1, 1) := by decide +kernel
theorem dX9_fits_51 : decode cX9_fits 51 = .ok (.iadd, 1) := by decide +kernel
theorem dX9_fits_52 : decode cX9_fits 52 = .ok (.iaload, 1) := by decide +kernel
theorem dX9_fits_53 : decode cX9_fits 53 = .ok (.if_icmp .ne 7, 3) := by decide +kernel
theorem dX9_fits_56 : decode cX9_fits 56 = .ok (.iconst 1, 1) := by decide +kernel
theorem dX9_fits_57 : decode cX9_fits 57 = .ok (.goto 4, 3) := by decide +kernel
theorem dX9_fits_60 : decode cX9_fits 60 = .ok (.iconst 0, 1) := by decide +kernel
theorem dX9_fits_61 : decode cX9_fits 61 = .ok (.istore 4, 2) := by decide +kernel
theorem dX9_fits_63 : decode cX9_fits 63 = .ok (.iinc 5 2, 3) := by decide +kernel
theorem dX9_fits_66 : decode cX9_fits 66 = .ok (.goto (-60), 3) := by decide +kernel
theorem dX9_fits_69 : decode cX9_fits 69 = .ok (.iload 4, 2) := by decide +kernel
theorem dX9_fits_71 : decode cX9_fits 71 = .ok (.ireturn, 1) := by decide +kernel
theorem dX9_firsts_0 : decode cX9_firsts 0 = .ok (.aload_n 0, 1) := by decide +kernel
theorem dX9_firsts_1 : decode cX9_firsts 1 = .ok (.iload_n 1, 1) := by decide +kernel
theorem dX9_firsts_2 : decode cX9_firsts 2 = .ok (.invokevirtual 127, 3) := by decide +kernel
theorem dX9_firsts_5 : decode cX9_firsts 5 = .ok (.ifCond .eq 10, 3) := by decide +kernel
theorem dX9_firsts_8 : decode cX9_firsts 8 = .ok (.iload_n 2, 1) := by decide +kernel
theorem dX9_firsts_9 : decode cX9_firsts 9 = .ok (.invokestatic 70, 3) := by decide +kernel
theorem dX9_firsts_12 : decode cX9_firsts 12 = .ok (.ifCond .ne 5, 3) := by decide +kernel
theorem dX9_firsts_15 : decode cX9_firsts 15 = .ok (.iconst (-1), 1) := by decide +kernel
theorem dX9_firsts_16 : decode cX9_firsts 16 = .ok (.ireturn, 1) := by decide +kernel
theorem dX9_firsts_17 : decode cX9_firsts 17 = .ok (.aload_n 0, 1) := by decide +kernel
theorem dX9_firsts_18 : decode cX9_firsts 18 = .ok (.iload_n 2, 1) := by decide +kernel
theorem dX9_firsts_19 : decode cX9_firsts 19 = .ok (.invokevirtual 204, 3) := by decide +kernel
theorem dX9_firsts_22 : decode cX9_firsts 22 = .ok (.istore_n 3, 1) := by decide +kernel
theorem dX9_firsts_23 : decode cX9_firsts 23 = .ok (.iload_n 3, 1) := by decide +kernel
theorem dX9_firsts_24 : decode cX9_firsts 24 = .ok (.ifCond .le 9, 3) := by decide +kernel
theorem dX9_firsts_27 : decode cX9_firsts 27 = .ok (.aload_n 0, 1) := by decide +kernel
theorem dX9_firsts_28 : decode cX9_firsts 28 = .ok (.iload_n 3, 1) := by decide +kernel
theorem dX9_firsts_29 : decode cX9_firsts 29 = .ok (.invokevirtual 74, 3) := by decide +kernel
theorem dX9_firsts_32 : decode cX9_firsts 32 = .ok (.ireturn, 1) := by decide +kernel
theorem dX9_firsts_33 : decode cX9_firsts 33 = .ok (.iconst 0, 1) := by decide +kernel
theorem dX9_firsts_34 : decode cX9_firsts 34 = .ok (.istore 4, 2) := by decide +kernel
theorem dX9_firsts_36 : decode cX9_firsts 36 = .ok (.iconst 0, 1) := by decide +kernel
theorem dX9_firsts_37 : decode cX9_firsts 37 = .ok (.istore 5, 2) := by decide +kernel
theorem dX9_firsts_39 : decode cX9_firsts 39 = .ok (.iload 5, 2) := by decide +kernel
theorem dX9_firsts_41 : decode cX9_firsts 41 = .ok (.bipush 10, 2) := by decide +kernel
theorem dX9_firsts_43 : decode cX9_firsts 43 = .ok (.if_icmp .ge 41, 3) := by decide +kernel
theorem dX9_firsts_46 : decode cX9_firsts 46 = .ok (.iload 4, 2) := by decide +kernel
theorem dX9_firsts_48 : decode cX9_firsts 48 = .ok (.aload_n 0, 1) := by decide +kernel
theorem dX9_firsts_49 : decode cX9_firsts 49 = .ok (.aload_n 0, 1) := by decide +kernel
theorem dX9_firsts_50 : decode cX9_firsts 50 = .ok (.getfield 7, 3) := by decide +kernel
theorem dX9_firsts_53 : decode cX9_firsts 53 = .ok (.bipush 11, 2) := by decide +kernel
theorem dX9_firsts_55 : decode cX9_firsts 55 = .ok (.iload_n 1, 1) := by decide +kernel
theorem dX9_firsts_56 : decode cX9_firsts 56 = .ok (.iadd, 1) := by decide +kernel
theorem dX9_firsts_57 : decode cX9_firsts 57 = .ok (.iaload, 1) := by decide +kernel
theorem dX9_firsts_58 : decode cX9_firsts 58 = .ok (.iload 5, 2) := by decide +kernel
theorem dX9_firsts_60 : decode cX9_firsts 60 = .ok (.iload_n 2, 1) := by decide +kernel
theorem dX9_firsts_61 : decode cX9_firsts 61 = .ok (.invokevirtual 207, 3) := by decide +kernel
theorem dX9_firsts_64 : decode cX9_firsts 64 = .ok (.ifCond .eq 10, 3) := by decide +kernel
theorem dX9_firsts_67 : decode cX9_firsts 67 = .ok (.iconst 1, 1) := by decide +kernel
theorem dX9_firsts_68 : decode cX9_firsts 68 = .ok (.iload 5, 2) := by decide +kernel
theorem dX9_firsts_70 : decode cX9_firsts 70 = .ok (.ishl, 1) := by decide +kernel
theorem dX9_firsts_71 : decode cX9_firsts 71 = .ok (.goto 4, 3) := by decide +kernel
theorem dX9_firsts_74 : decode cX9_firsts 74 = .ok (.iconst 0, 1) := by decide +kernel
theorem dX9_firsts_75 : decode cX9_firsts 75 = .ok (.ior, 1) := by decide +kernel
theorem dX9_firsts_76 : decode cX9_firsts 76 = .ok (.istore 4, 2) := by decide +kernel
theorem dX9_firsts_78 : decode cX9_firsts 78 = .ok (.iinc 5 1, 3) := by decide +kernel
theorem dX9_firsts_81 : decode cX9_firsts 81 = .ok (.goto (-42), 3) := by decide +kernel
theorem dX9_firsts_84 : decode cX9_firsts 84 = .ok (.iload 4, 2) := by decide +kernel
theorem dX9_firsts_86 : decode cX9_firsts 86 = .ok (.ireturn, 1) := by decide +kernel
theorem dX9_kindsOf_0 : decode cX9_kindsOf 0 = .ok (.iconst 0, 1) := by decide +kernel
theorem dX9_kindsOf_1 : decode cX9_kindsOf 1 = .ok (.istore_n 3, 1) := by decide +kernel
theorem dX9_kindsOf_2 : decode cX9_kindsOf 2 = .ok (.iconst 0, 1) := by decide +kernel
theorem dX9_kindsOf_3 : decode cX9_kindsOf 3 = .ok (.istore 4, 2) := by decide +kernel
theorem dX9_kindsOf_5 : decode cX9_kindsOf 5 = .ok (.iload 4, 2) := by decide +kernel
theorem dX9_kindsOf_7 : decode cX9_kindsOf 7 = .ok (.iconst 5, 1) := by decide +kernel
theorem dX9_kindsOf_8 : decode cX9_kindsOf 8 = .ok (.if_icmp .gt 39, 3) := by decide +kernel
theorem dX9_kindsOf_11 : decode cX9_kindsOf 11 = .ok (.iload_n 3, 1) := by decide +kernel
theorem dX9_kindsOf_12 : decode cX9_kindsOf 12 = .ok (.aload_n 0, 1) := by decide +kernel
theorem dX9_kindsOf_13 : decode cX9_kindsOf 13 = .ok (.iload 4, 2) := by decide +kernel
theorem dX9_kindsOf_15 : decode cX9_kindsOf 15 = .ok (.aload_n 0, 1) := by decide +kernel
theorem dX9_kindsOf_16 : decode cX9_kindsOf 16 = .ok (.getfield 7, 3) := by decide +kernel
theorem dX9_kindsOf_19 : decode cX9_kindsOf 19 = .ok (.bipush 35, 2) := by decide +kernel
theorem dX9_kindsOf_21 : decode cX9_kindsOf 21 = .ok (.iload_n 1, 1) := by decide +kernel
theorem dX9_kindsOf_22 : decode cX9_kindsOf 22 = .ok (.iadd, 1) := by decide +kernel
theorem dX9_kindsOf_23 : decode cX9_kindsOf 23 = .ok (.iaload, 1) := by decide +kernel
theorem dX9_kindsOf_24 : decode cX9_kindsOf 24 = .ok (.iload_n 2, 1) := by decide +kernel
theorem dX9_kindsOf_25 : decode cX9_kindsOf 25 = .ok (.invokevirtual 207, 3) := by decide +kernel
theorem dX9_kindsOf_28 : decode cX9_kindsOf 28 = .ok (.ifCond .eq 10, 3) := by decide +kernel
theorem dX9_kindsOf_31 : decode cX9_kindsOf 31 = .ok (.iconst 1, 1) := by decide +kernel
theorem dX9_kindsOf_32 : decode cX9_kindsOf 32 = .ok (.iload 4, 2) := by decide +kernel
theorem dX9_kindsOf_34 : decode cX9_kindsOf 34 = .ok (.ishl, 1) := by decide +kernel
theorem dX9_kindsOf_35 : decode cX9_kindsOf 35 = .ok (.goto 4, 3) := by decide +kernel
theorem dX9_kindsOf_38 : decode cX9_kindsOf 38 = .ok (.iconst 0, 1) := by decide +kernel
theorem dX9_kindsOf_39 : decode cX9_kindsOf 39 = .ok (.ior, 1) := by decide +kernel
theorem dX9_kindsOf_40 : decode cX9_kindsOf 40 = .ok (.istore_n 3, 1) := by decide +kernel
theorem dX9_kindsOf_41 : decode cX9_kindsOf 41 = .ok (.iinc 4 1, 3) := by decide +kernel
theorem dX9_kindsOf_44 : decode cX9_kindsOf 44 = .ok (.goto (-39), 3) := by decide +kernel
theorem dX9_kindsOf_47 : decode cX9_kindsOf 47 = .ok (.iload_n 3, 1) := by decide +kernel
theorem dX9_kindsOf_48 : decode cX9_kindsOf 48 = .ok (.ireturn, 1) := by decide +kernel
theorem dX9_kinds_0 : decode cX9_kinds 0 = .ok (.aload_n 0, 1) := by decide +kernel
theorem dX9_kinds_1 : decode cX9_kinds 1 = .ok (.iload_n 1, 1) := by decide +kernel
theorem dX9_kinds_2 : decode cX9_kinds 2 = .ok (.invokevirtual 127, 3) := by decide +kernel
theorem dX9_kinds_5 : decode cX9_kinds 5 = .ok (.ifCond .eq 10, 3) := by decide +kernel
theorem dX9_kinds_8 : decode cX9_kinds 8 = .ok (.iload_n 2, 1) := by decide +kernel
theorem dX9_kinds_9 : decode cX9_kinds 9 = .ok (.invokestatic 70, 3) := by decide +kernel
theorem dX9_kinds_12 : decode cX9_kinds 12 = .ok (.ifCond .ne 5, 3) := by decide +kernel
theorem dX9_kinds_15 : decode cX9_kinds 15 = .ok (.iconst (-1), 1) := by decide +kernel
theorem dX9_kinds_16 : decode cX9_kinds 16 = .ok (.ireturn, 1) := by decide +kernel
theorem dX9_kinds_17 : decode cX9_kinds 17 = .ok (.aload_n 0, 1) := by decide +kernel
theorem dX9_kinds_18 : decode cX9_kinds 18 = .ok (.iload_n 2, 1) := by decide +kernel
theorem dX9_kinds_19 : decode cX9_kinds 19 = .ok (.invokevirtual 204, 3) := by decide +kernel
theorem dX9_kinds_22 : decode cX9_kinds 22 = .ok (.istore_n 3, 1) := by decide +kernel
theorem dX9_kinds_23 : decode cX9_kinds 23 = .ok (.iload_n 3, 1) := by decide +kernel
theorem dX9_kinds_24 : decode cX9_kinds 24 = .ok (.ifCond .le 11, 3) := by decide +kernel
theorem dX9_kinds_27 : decode cX9_kinds 27 = .ok (.aload_n 0, 1) := by decide +kernel
theorem dX9_kinds_28 : decode cX9_kinds 28 = .ok (.iload_n 3, 1) := by decide +kernel
theorem dX9_kinds_29 : decode cX9_kinds 29 = .ok (.invokevirtual 74, 3) := by decide +kernel
theorem dX9_kinds_32 : decode cX9_kinds 32 = .ok (.goto 9, 3) := by decide +kernel
theorem dX9_kinds_35 : decode cX9_kinds 35 = .ok (.aload_n 0, 1) := by decide +kernel
theorem dX9_kinds_36 : decode cX9_kinds 36 = .ok (.iload_n 1, 1) := by decide +kernel
theorem dX9_kinds_37 : decode cX9_kinds 37 = .ok (.iload_n 2, 1) := by decide +kernel
theorem dX9_kinds_38 : decode cX9_kinds 38 = .ok (.invokevirtual 211, 3) := by decide +kernel
theorem dX9_kinds_41 : decode cX9_kinds 41 = .ok (.ireturn, 1) := by decide +kernel
theorem dX9_greatestPart_0 : decode cX9_greatestPart 0 = .ok (.iconst 0, 1) := by decide +kernel
theorem dX9_greatestPart_1 : decode cX9_greatestPart 1 = .ok (.istore 4, 2) := by decide +kernel
theorem dX9_greatestPart_3 : decode cX9_greatestPart 3 = .ok (.iconst 0, 1) := by decide +kernel
theorem dX9_greatestPart_4 : decode cX9_greatestPart 4 = .ok (.istore 5, 2) := by decide +kernel
theorem dX9_greatestPart_6 : decode cX9_greatestPart 6 = .ok (.iload 5, 2) := by decide +kernel
theorem dX9_greatestPart_8 : decode cX9_greatestPart 8 = .ok (.iconst 5, 1) := by decide +kernel
theorem dX9_greatestPart_9 : decode cX9_greatestPart 9 = .ok (.if_icmp .gt 88, 3) := by decide +kernel
theorem dX9_greatestPart_12 : decode cX9_greatestPart 12 = .ok (.iconst 0, 1) := by decide +kernel
theorem dX9_greatestPart_13 : decode cX9_greatestPart 13 = .ok (.istore 6, 2) := by decide +kernel
theorem dX9_greatestPart_15 : decode cX9_greatestPart 15 = .ok (.iconst 0, 1) := by decide +kernel
theorem dX9_greatestPart_16 : decode cX9_greatestPart 16 = .ok (.istore 7, 2) := by decide +kernel
theorem dX9_greatestPart_18 : decode cX9_greatestPart 18 = .ok (.iload 7, 2) := by decide +kernel
theorem dX9_greatestPart_20 : decode cX9_greatestPart 20 = .ok (.iconst 5, 1) := by decide +kernel
theorem dX9_greatestPart_21 : decode cX9_greatestPart 21 = .ok (.if_icmp .gt 54, 3) := by decide +kernel
theorem dX9_greatestPart_24 : decode cX9_greatestPart 24 = .ok (.iload 6, 2) := by decide +kernel
theorem dX9_greatestPart_26 : decode cX9_greatestPart 26 = .ok (.iload_n 1, 1) := by decide +kernel
theorem dX9_greatestPart_27 : decode cX9_greatestPart 27 = .ok (.iload 5, 2) := by decide +kernel
theorem dX9_greatestPart_29 : decode cX9_greatestPart 29 = .ok (.invokestatic 143, 3) := by decide +kernel
theorem dX9_greatestPart_32 : decode cX9_greatestPart 32 = .ok (.ifCond .eq 33, 3) := by decide +kernel
theorem dX9_greatestPart_35 : decode cX9_greatestPart 35 = .ok (.iload_n 1, 1) := by decide +kernel
theorem dX9_greatestPart_36 : decode cX9_greatestPart 36 = .ok (.iload 7, 2) := by decide +kernel
theorem dX9_greatestPart_38 : decode cX9_greatestPart 38 = .ok (.invokestatic 143, 3) := by decide +kernel
theorem dX9_greatestPart_41 : decode cX9_greatestPart 41 = .ok (.ifCond .eq 24, 3) := by decide +kernel
theorem dX9_greatestPart_44 : decode cX9_greatestPart 44 = .ok (.iload 5, 2) := by decide +kernel
theorem dX9_greatestPart_46 : decode cX9_greatestPart 46 = .ok (.iload_n 2, 1) := by decide +kernel
theorem dX9_greatestPart_47 : decode cX9_greatestPart 47 = .ok (.iload_n 3, 1) := by decide +kernel
theorem dX9_greatestPart_48 : decode cX9_greatestPart 48 = .ok (.invokestatic 123, 3) := by decide +kernel
theorem dX9_greatestPart_51 : decode cX9_greatestPart 51 = .ok (.iload 7, 2) := by decide +kernel
theorem dX9_greatestPart_53 : decode cX9_greatestPart 53 = .ok (.iload_n 2, 1) := by decide +kernel
theorem dX9_greatestPart_54 : decode cX9_greatestPart 54 = .ok (.iload_n 3, 1) := by decide +kernel
theorem dX9_greatestPart_55 : decode cX9_greatestPart 55 = .ok (.invokestatic 123, 3) := by decide +kernel
theorem dX9_greatestPart_58 : decode cX9_greatestPart 58 = .ok (.if_icmp .ne 7, 3) := by decide +kernel
theorem dX9_greatestPart_61 : decode cX9_greatestPart 61 = .ok (.iconst 1, 1) := by decide +kernel
theorem dX9_greatestPart_62 : decode cX9_greatestPart 62 = .ok (.goto 4, 3) := by decide +kernel
theorem dX9_greatestPart_65 : decode cX9_greatestPart 65 = .ok (.iconst 0, 1) := by decide +kernel
theorem dX9_greatestPart_66 : decode cX9_greatestPart 66 = .ok (.iadd, 1) := by decide +kernel
theorem dX9_greatestPart_67 : decode cX9_greatestPart 67 = .ok (.istore 6, 2) := by decide +kernel
theorem dX9_greatestPart_69 : decode cX9_greatestPart 69 = .ok (.iinc 7 1, 3) := by decide +kernel
theorem dX9_greatestPart_72 : decode cX9_greatestPart 72 = .ok (.goto (-54), 3) := by decide +kernel
theorem dX9_greatestPart_75 : decode cX9_greatestPart 75 = .ok (.iload 6, 2) := by decide +kernel
theorem dX9_greatestPart_77 : decode cX9_greatestPart 77 = .ok (.iload 4, 2) := by decide +kernel
theorem dX9_greatestPart_79 : decode cX9_greatestPart 79 = .ok (.if_icmp .le 8, 3) := by decide +kernel
theorem dX9_greatestPart_82 : decode cX9_greatestPart 82 = .ok (.iload 6, 2) := by decide +kernel
theorem dX9_greatestPart_84 : decode cX9_greatestPart 84 = .ok (.goto 5, 3) := by decide +kernel
theorem dX9_greatestPart_87 : decode cX9_greatestPart 87 = .ok (.iload 4, 2) := by decide +kernel
theorem dX9_greatestPart_89 : decode cX9_greatestPart 89 = .ok (.istore 4, 2) := by decide +kernel
theorem dX9_greatestPart_91 : decode cX9_greatestPart 91 = .ok (.iinc 5 1, 3) := by decide +kernel
theorem dX9_greatestPart_94 : decode cX9_greatestPart 94 = .ok (.goto (-88), 3) := by decide +kernel
theorem dX9_greatestPart_97 : decode cX9_greatestPart 97 = .ok (.iload 4, 2) := by decide +kernel
theorem dX9_greatestPart_99 : decode cX9_greatestPart 99 = .ok (.ireturn, 1) := by decide +kernel
theorem dX9_test_0 : decode cX9_test 0 = .ok (.aload_n 0, 1) := by decide +kernel
theorem dX9_test_1 : decode cX9_test 1 = .ok (.iload_n 1, 1) := by decide +kernel
theorem dX9_test_2 : decode cX9_test 2 = .ok (.invokevirtual 127, 3) := by decide +kernel
theorem dX9_test_5 : decode cX9_test 5 = .ok (.ifCond .eq 10, 3) := by decide +kernel
theorem dX9_test_8 : decode cX9_test 8 = .ok (.iload_n 2, 1) := by decide +kernel
theorem dX9_test_9 : decode cX9_test 9 = .ok (.invokestatic 70, 3) := by decide +kernel
theorem dX9_test_12 : decode cX9_test 12 = .ok (.ifCond .ne 5, 3) := by decide +kernel
theorem dX9_test_15 : decode cX9_test 15 = .ok (.iconst (-1), 1) := by decide +kernel
theorem dX9_test_16 : decode cX9_test 16 = .ok (.ireturn, 1) := by decide +kernel
theorem dX9_test_17 : decode cX9_test 17 = .ok (.aload_n 0, 1) := by decide +kernel
theorem dX9_test_18 : decode cX9_test 18 = .ok (.iload_n 2, 1) := by decide +kernel
theorem dX9_test_19 : decode cX9_test 19 = .ok (.invokevirtual 204, 3) := by decide +kernel
theorem dX9_test_22 : decode cX9_test 22 = .ok (.istore_n 3, 1) := by decide +kernel
theorem dX9_test_23 : decode cX9_test 23 = .ok (.iload_n 3, 1) := by decide +kernel
theorem dX9_test_24 : decode cX9_test 24 = .ok (.ifCond .le 9, 3) := by decide +kernel
theorem dX9_test_27 : decode cX9_test 27 = .ok (.aload_n 0, 1) := by decide +kernel
theorem dX9_test_28 : decode cX9_test 28 = .ok (.iload_n 3, 1) := by decide +kernel
theorem dX9_test_29 : decode cX9_test 29 = .ok (.invokevirtual 74, 3) := by decide +kernel
theorem dX9_test_32 : decode cX9_test 32 = .ok (.ireturn, 1) := by decide +kernel
theorem dX9_test_33 : decode cX9_test 33 = .ok (.aload_n 0, 1) := by decide +kernel
theorem dX9_test_34 : decode cX9_test 34 = .ok (.iload_n 1, 1) := by decide +kernel
theorem dX9_test_35 : decode cX9_test 35 = .ok (.iload_n 2, 1) := by decide +kernel
theorem dX9_test_36 : decode cX9_test 36 = .ok (.invokevirtual 211, 3) := by decide +kernel
theorem dX9_test_39 : decode cX9_test 39 = .ok (.istore 4, 2) := by decide +kernel
theorem dX9_test_41 : decode cX9_test 41 = .ok (.iload 4, 2) := by decide +kernel
theorem dX9_test_43 : decode cX9_test 43 = .ok (.ifCond .ne 6, 3) := by decide +kernel
theorem dX9_test_46 : decode cX9_test 46 = .ok (.bipush (-9), 2) := by decide +kernel
theorem dX9_test_48 : decode cX9_test 48 = .ok (.ireturn, 1) := by decide +kernel
theorem dX9_test_49 : decode cX9_test 49 = .ok (.iconst 0, 1) := by decide +kernel
theorem dX9_test_50 : decode cX9_test 50 = .ok (.istore 5, 2) := by decide +kernel
theorem dX9_test_52 : decode cX9_test 52 = .ok (.ldc 183, 2) := by decide +kernel
theorem dX9_test_54 : decode cX9_test 54 = .ok (.istore 6, 2) := by decide +kernel
theorem dX9_test_56 : decode cX9_test 56 = .ok (.iconst 0, 1) := by decide +kernel
theorem dX9_test_57 : decode cX9_test 57 = .ok (.istore 7, 2) := by decide +kernel
theorem dX9_test_59 : decode cX9_test 59 = .ok (.iload 7, 2) := by decide +kernel
theorem dX9_test_61 : decode cX9_test 61 = .ok (.bipush 20, 2) := by decide +kernel
theorem dX9_test_63 : decode cX9_test 63 = .ok (.if_icmp .gt 60, 3) := by decide +kernel
theorem dX9_test_66 : decode cX9_test 66 = .ok (.aload_n 0, 1) := by decide +kernel
theorem dX9_test_67 : decode cX9_test 67 = .ok (.iload 4, 2) := by decide +kernel
theorem dX9_test_69 : decode cX9_test 69 = .ok (.aload_n 0, 1) := by decide +kernel
theorem dX9_test_70 : decode cX9_test 70 = .ok (.getfield 7, 3) := by decide +kernel
theorem dX9_test_73 : decode cX9_test 73 = .ok (.bipush 35, 2) := by decide +kernel
theorem dX9_test_75 : decode cX9_test 75 = .ok (.iload_n 1, 1) := by decide +kernel
theorem dX9_test_76 : decode cX9_test 76 = .ok (.iadd, 1) := by decide +kernel
theorem dX9_test_77 : decode cX9_test 77 = .ok (.iaload, 1) := by decide +kernel
theorem dX9_test_78 : decode cX9_test 78 = .ok (.iload 7, 2) := by decide +kernel
theorem dX9_test_80 : decode cX9_test 80 = .ok (.invokevirtual 214, 3) := by decide +kernel
theorem dX9_test_83 : decode cX9_test 83 = .ok (.istore 8, 2) := by decide +kernel
theorem dX9_test_85 : decode cX9_test 85 = .ok (.iload 8, 2) := by decide +kernel
theorem dX9_test_87 : decode cX9_test 87 = .ok (.iload 6, 2) := by decide +kernel
theorem dX9_test_89 : decode cX9_test 89 = .ok (.if_icmp .ge 8, 3) := by decide +kernel
theorem dX9_test_92 : decode cX9_test 92 = .ok (.iload 7, 2) := by decide +kernel
theorem dX9_test_94 : decode cX9_test 94 = .ok (.goto 5, 3) := by decide +kernel
theorem dX9_test_97 : decode cX9_test 97 = .ok (.iload 5, 2) := by decide +kernel
theorem dX9_test_99 : decode cX9_test 99 = .ok (.istore 5, 2) := by decide +kernel
theorem dX9_test_101 : decode cX9_test 101 = .ok (.iload 8, 2) := by decide +kernel
theorem dX9_test_103 : decode cX9_test 103 = .ok (.iload 6, 2) := by decide +kernel
theorem dX9_test_105 : decode cX9_test 105 = .ok (.if_icmp .ge 8, 3) := by decide +kernel
theorem dX9_test_108 : decode cX9_test 108 = .ok (.iload 8, 2) := by decide +kernel
theorem dX9_test_110 : decode cX9_test 110 = .ok (.goto 5, 3) := by decide +kernel
theorem dX9_test_113 : decode cX9_test 113 = .ok (.iload 6, 2) := by decide +kernel
theorem dX9_test_115 : decode cX9_test 115 = .ok (.istore 6, 2) := by decide +kernel
theorem dX9_test_117 : decode cX9_test 117 = .ok (.iinc 7 1, 3) := by decide +kernel
theorem dX9_test_120 : decode cX9_test 120 = .ok (.goto (-61), 3) := by decide +kernel
theorem dX9_test_123 : decode cX9_test 123 = .ok (.aload_n 0, 1) := by decide +kernel
theorem dX9_test_124 : decode cX9_test 124 = .ok (.iload 6, 2) := by decide +kernel
theorem dX9_test_126 : decode cX9_test 126 = .ok (.putfield 57, 3) := by decide +kernel
theorem dX9_test_129 : decode cX9_test 129 = .ok (.iload 5, 2) := by decide +kernel
theorem dX9_test_131 : decode cX9_test 131 = .ok (.ireturn, 1) := by decide +kernel
theorem dX9_whose_0 : decode cX9_whose 0 = .ok (.aload_n 0, 1) := by decide +kernel
theorem dX9_whose_1 : decode cX9_whose 1 = .ok (.iload_n 1, 1) := by decide +kernel
theorem dX9_whose_2 : decode cX9_whose 2 = .ok (.invokevirtual 127, 3) := by decide +kernel
theorem dX9_whose_5 : decode cX9_whose 5 = .ok (.ifCond .eq 10, 3) := by decide +kernel
theorem dX9_whose_8 : decode cX9_whose 8 = .ok (.iload_n 2, 1) := by decide +kernel
theorem dX9_whose_9 : decode cX9_whose 9 = .ok (.invokestatic 70, 3) := by decide +kernel
theorem dX9_whose_12 : decode cX9_whose 12 = .ok (.ifCond .ne 5, 3) := by decide +kernel
theorem dX9_whose_15 : decode cX9_whose 15 = .ok (.iconst (-1), 1) := by decide +kernel
theorem dX9_whose_16 : decode cX9_whose 16 = .ok (.ireturn, 1) := by decide +kernel
theorem dX9_whose_17 : decode cX9_whose 17 = .ok (.aload_n 0, 1) := by decide +kernel
theorem dX9_whose_18 : decode cX9_whose 18 = .ok (.getfield 13, 3) := by decide +kernel
theorem dX9_whose_21 : decode cX9_whose 21 = .ok (.iload_n 2, 1) := by decide +kernel
theorem dX9_whose_22 : decode cX9_whose 22 = .ok (.iaload, 1) := by decide +kernel
theorem dX9_whose_23 : decode cX9_whose 23 = .ok (.ifCond .ge 9, 3) := by decide +kernel
theorem dX9_whose_26 : decode cX9_whose 26 = .ok (.aload_n 0, 1) := by decide +kernel
theorem dX9_whose_27 : decode cX9_whose 27 = .ok (.iconst 1, 1) := by decide +kernel
theorem dX9_whose_28 : decode cX9_whose 28 = .ok (.invokevirtual 74, 3) := by decide +kernel
theorem dX9_whose_31 : decode cX9_whose 31 = .ok (.ireturn, 1) := by decide +kernel
theorem dX9_whose_32 : decode cX9_whose 32 = .ok (.aload_n 0, 1) := by decide +kernel
theorem dX9_whose_33 : decode cX9_whose 33 = .ok (.getfield 13, 3) := by decide +kernel
theorem dX9_whose_36 : decode cX9_whose 36 = .ok (.iload_n 2, 1) := by decide +kernel
theorem dX9_whose_37 : decode cX9_whose 37 = .ok (.iaload, 1) := by decide +kernel
theorem dX9_whose_38 : decode cX9_whose 38 = .ok (.bipush 6, 2) := by decide +kernel
theorem dX9_whose_40 : decode cX9_whose 40 = .ok (.if_icmp .eq 9, 3) := by decide +kernel
theorem dX9_whose_43 : decode cX9_whose 43 = .ok (.aload_n 0, 1) := by decide +kernel
theorem dX9_whose_44 : decode cX9_whose 44 = .ok (.iconst 5, 1) := by decide +kernel
theorem dX9_whose_45 : decode cX9_whose 45 = .ok (.invokevirtual 74, 3) := by decide +kernel
theorem dX9_whose_48 : decode cX9_whose 48 = .ok (.ireturn, 1) := by decide +kernel
theorem dX9_whose_49 : decode cX9_whose 49 = .ok (.iconst 0, 1) := by decide +kernel
theorem dX9_whose_50 : decode cX9_whose 50 = .ok (.istore_n 3, 1) := by decide +kernel
theorem dX9_whose_51 : decode cX9_whose 51 = .ok (.iload_n 3, 1) := by decide +kernel
theorem dX9_whose_52 : decode cX9_whose 52 = .ok (.bipush 6, 2) := by decide +kernel
theorem dX9_whose_54 : decode cX9_whose 54 = .ok (.if_icmp .ge 48, 3) := by decide +kernel
theorem dX9_whose_57 : decode cX9_whose 57 = .ok (.aload_n 0, 1) := by decide +kernel
theorem dX9_whose_58 : decode cX9_whose 58 = .ok (.getfield 16, 3) := by decide +kernel
theorem dX9_whose_61 : decode cX9_whose 61 = .ok (.bipush 40, 2) := by decide +kernel
theorem dX9_whose_63 : decode cX9_whose 63 = .ok (.iload_n 2, 1) := by decide +kernel
theorem dX9_whose_64 : decode cX9_whose 64 = .ok (.imul, 1) := by decide +kernel
theorem dX9_whose_65 : decode cX9_whose 65 = .ok (.iload_n 3, 1) := by decide +kernel
theorem dX9_whose_66 : decode cX9_whose 66 = .ok (.iadd, 1) := by decide +kernel
theorem dX9_whose_67 : decode cX9_whose 67 = .ok (.iaload, 1) := by decide +kernel
theorem dX9_whose_68 : decode cX9_whose 68 = .ok (.istore 4, 2) := by decide +kernel
theorem dX9_whose_70 : decode cX9_whose 70 = .ok (.iload 4, 2) := by decide +kernel
theorem dX9_whose_72 : decode cX9_whose 72 = .ok (.i2l, 1) := by decide +kernel
theorem dX9_whose_73 : decode cX9_whose 73 = .ok (.lconst 0, 1) := by decide +kernel
theorem dX9_whose_74 : decode cX9_whose 74 = .ok (.ldc2_w 181, 3) := by decide +kernel
theorem dX9_whose_77 : decode cX9_whose 77 = .ok (.invokestatic 62, 3) := by decide +kernel
theorem dX9_whose_80 : decode cX9_whose 80 = .ok (.ifCond .ne 16, 3) := by decide +kernel
theorem dX9_whose_83 : decode cX9_whose 83 = .ok (.iload 4, 2) := by decide +kernel
theorem dX9_whose_85 : decode cX9_whose 85 = .ok (.bipush (-9), 2) := by decide +kernel
theorem dX9_whose_87 : decode cX9_whose 87 = .ok (.if_icmp .eq 9, 3) := by decide +kernel
theorem dX9_whose_90 : decode cX9_whose 90 = .ok (.aload_n 0, 1) := by decide +kernel
theorem dX9_whose_91 : decode cX9_whose 91 = .ok (.iconst 3, 1) := by decide +kernel
theorem dX9_whose_92 : decode cX9_whose 92 = .ok (.invokevirtual 74, 3) := by decide +kernel
theorem dX9_whose_95 : decode cX9_whose 95 = .ok (.ireturn, 1) := by decide +kernel
theorem dX9_whose_96 : decode cX9_whose 96 = .ok (.iinc 3 1, 3) := by decide +kernel
theorem dX9_whose_99 : decode cX9_whose 99 = .ok (.goto (-48), 3) := by decide +kernel
theorem dX9_whose_102 : decode cX9_whose 102 = .ok (.aload_n 0, 1) := by decide +kernel
theorem dX9_whose_103 : decode cX9_whose 103 = .ok (.getfield 7, 3) := by decide +kernel
theorem dX9_whose_106 : decode cX9_whose 106 = .ok (.bipush 19, 2) := by decide +kernel
theorem dX9_whose_108 : decode cX9_whose 108 = .ok (.iload_n 1, 1) := by decide +kernel
theorem dX9_whose_109 : decode cX9_whose 109 = .ok (.iadd, 1) := by decide +kernel
theorem dX9_whose_110 : decode cX9_whose 110 = .ok (.iaload, 1) := by decide +kernel
theorem dX9_whose_111 : decode cX9_whose 111 = .ok (.istore_n 3, 1) := by decide +kernel
theorem dX9_whose_112 : decode cX9_whose 112 = .ok (.iconst 0, 1) := by decide +kernel
theorem dX9_whose_113 : decode cX9_whose 113 = .ok (.istore 4, 2) := by decide +kernel
theorem dX9_whose_115 : decode cX9_whose 115 = .ok (.iconst 0, 1) := by decide +kernel
theorem dX9_whose_116 : decode cX9_whose 116 = .ok (.istore 5, 2) := by decide +kernel
theorem dX9_whose_118 : decode cX9_whose 118 = .ok (.iload 5, 2) := by decide +kernel
theorem dX9_whose_120 : decode cX9_whose 120 = .ok (.bipush 6, 2) := by decide +kernel
theorem dX9_whose_122 : decode cX9_whose 122 = .ok (.if_icmp .ge 126, 3) := by decide +kernel
theorem dX9_whose_125 : decode cX9_whose 125 = .ok (.aload_n 0, 1) := by decide +kernel
theorem dX9_whose_126 : decode cX9_whose 126 = .ok (.getfield 7, 3) := by decide +kernel
theorem dX9_whose_129 : decode cX9_whose 129 = .ok (.bipush 19, 2) := by decide +kernel
theorem dX9_whose_131 : decode cX9_whose 131 = .ok (.iload_n 1, 1) := by decide +kernel
theorem dX9_whose_132 : decode cX9_whose 132 = .ok (.iadd, 1) := by decide +kernel
theorem dX9_whose_133 : decode cX9_whose 133 = .ok (.iload 5, 2) := by decide +kernel
theorem dX9_whose_135 : decode cX9_whose 135 = .ok (.iastore, 1) := by decide +kernel
theorem dX9_whose_136 : decode cX9_whose 136 = .ok (.iload 5, 2) := by decide +kernel
theorem dX9_whose_138 : decode cX9_whose 138 = .ok (.aload_n 0, 1) := by decide +kernel
theorem dX9_whose_139 : decode cX9_whose 139 = .ok (.getfield 7, 3) := by decide +kernel
theorem dX9_whose_142 : decode cX9_whose 142 = .ok (.bipush 27, 2) := by decide +kernel
theorem dX9_whose_144 : decode cX9_whose 144 = .ok (.iload_n 1, 1) := by decide +kernel
theorem dX9_whose_145 : decode cX9_whose 145 = .ok (.iadd, 1) := by decide +kernel
theorem dX9_whose_146 : decode cX9_whose 146 = .ok (.iaload, 1) := by decide +kernel
theorem dX9_whose_147 : decode cX9_whose 147 = .ok (.if_icmp .eq 7, 3) := by decide +kernel
theorem dX9_whose_150 : decode cX9_whose 150 = .ok (.iconst 1, 1) := by decide +kernel
theorem dX9_whose_151 : decode cX9_whose 151 = .ok (.goto 4, 3) := by decide +kernel
theorem dX9_whose_154 : decode cX9_whose 154 = .ok (.iconst 0, 1) := by decide +kernel
theorem dX9_whose_155 : decode cX9_whose 155 = .ok (.istore 6, 2) := by decide +kernel
theorem dX9_whose_157 : decode cX9_whose 157 = .ok (.iconst 0, 1) := by decide +kernel
theorem dX9_whose_158 : decode cX9_whose 158 = .ok (.istore 7, 2) := by decide +kernel
theorem dX9_whose_160 : decode cX9_whose 160 = .ok (.iload 7, 2) := by decide +kernel
theorem dX9_whose_162 : decode cX9_whose 162 = .ok (.bipush 6, 2) := by decide +kernel
theorem dX9_whose_164 : decode cX9_whose 164 = .ok (.if_icmp .ge 60, 3) := by decide +kernel
theorem dX9_whose_167 : decode cX9_whose 167 = .ok (.aload_n 0, 1) := by decide +kernel
theorem dX9_whose_168 : decode cX9_whose 168 = .ok (.getfield 16, 3) := by decide +kernel
theorem dX9_whose_171 : decode cX9_whose 171 = .ok (.bipush 40, 2) := by decide +kernel
theorem dX9_whose_173 : decode cX9_whose 173 = .ok (.iload_n 2, 1) := by decide +kernel
theorem dX9_whose_174 : decode cX9_whose 174 = .ok (.imul, 1) := by decide +kernel
theorem dX9_whose_175 : decode cX9_whose 175 = .ok (.iload 7, 2) := by decide +kernel
theorem dX9_whose_177 : decode cX9_whose 177 = .ok (.iadd, 1) := by decide +kernel
theorem dX9_whose_178 : decode cX9_whose 178 = .ok (.iaload, 1) := by decide +kernel
theorem dX9_whose_179 : decode cX9_whose 179 = .ok (.istore 8, 2) := by decide +kernel
theorem dX9_whose_181 : decode cX9_whose 181 = .ok (.iload 6, 2) := by decide +kernel
theorem dX9_whose_183 : decode cX9_whose 183 = .ok (.ifCond .eq 32, 3) := by decide +kernel
theorem dX9_whose_186 : decode cX9_whose 186 = .ok (.iload 8, 2) := by decide +kernel
theorem dX9_whose_188 : decode cX9_whose 188 = .ok (.bipush (-9), 2) := by decide +kernel
theorem dX9_whose_190 : decode cX9_whose 190 = .ok (.if_icmp .eq 21, 3) := by decide +kernel
theorem dX9_whose_193 : decode cX9_whose 193 = .ok (.aload_n 0, 1) := by decide +kernel
theorem dX9_whose_194 : decode cX9_whose 194 = .ok (.iload 7, 2) := by decide +kernel
theorem dX9_whose_196 : decode cX9_whose 196 = .ok (.aload_n 0, 1) := by decide +kernel
theorem dX9_whose_197 : decode cX9_whose 197 = .ok (.invokevirtual 189, 3) := by decide +kernel
theorem dX9_whose_200 : decode cX9_whose 200 = .ok (.invokevirtual 192, 3) := by decide +kernel
theorem dX9_whose_203 : decode cX9_whose 203 = .ok (.bipush 100, 2) := by decide +kernel
theorem dX9_whose_205 : decode cX9_whose 205 = .ok (.iadd, 1) := by decide +kernel
theorem dX9_whose_206 : decode cX9_whose 206 = .ok (.iload 8, 2) := by decide +kernel
theorem dX9_whose_208 : decode cX9_whose 208 = .ok (.if_icmp .ne 7, 3) := by decide +kernel
theorem dX9_whose_211 : decode cX9_whose 211 = .ok (.iconst 1, 1) := by decide +kernel
theorem dX9_whose_212 : decode cX9_whose 212 = .ok (.goto 4, 3) := by decide +kernel
theorem dX9_whose_215 : decode cX9_whose 215 = .ok (.iconst 0, 1) := by decide +kernel
theorem dX9_whose_216 : decode cX9_whose 216 = .ok (.istore 6, 2) := by decide +kernel
theorem dX9_whose_218 : decode cX9_whose 218 = .ok (.iinc 7 1, 3) := by decide +kernel
theorem dX9_whose_221 : decode cX9_whose 221 = .ok (.goto (-61), 3) := by decide +kernel
theorem dX9_whose_224 : decode cX9_whose 224 = .ok (.iload 4, 2) := by decide +kernel
theorem dX9_whose_226 : decode cX9_whose 226 = .ok (.iload 6, 2) := by decide +kernel
theorem dX9_whose_228 : decode cX9_whose 228 = .ok (.ifCond .eq 10, 3) := by decide +kernel
theorem dX9_whose_231 : decode cX9_whose 231 = .ok (.iconst 1, 1) := by decide +kernel
theorem dX9_whose_232 : decode cX9_whose 232 = .ok (.iload 5, 2) := by decide +kernel
theorem dX9_whose_234 : decode cX9_whose 234 = .ok (.ishl, 1) := by decide +kernel
theorem dX9_whose_235 : decode cX9_whose 235 = .ok (.goto 4, 3) := by decide +kernel
theorem dX9_whose_238 : decode cX9_whose 238 = .ok (.iconst 0, 1) := by decide +kernel
theorem dX9_whose_239 : decode cX9_whose 239 = .ok (.ior, 1) := by decide +kernel
theorem dX9_whose_240 : decode cX9_whose 240 = .ok (.istore 4, 2) := by decide +kernel
theorem dX9_whose_242 : decode cX9_whose 242 = .ok (.iinc 5 1, 3) := by decide +kernel
theorem dX9_whose_245 : decode cX9_whose 245 = .ok (.goto (-127), 3) := by decide +kernel
theorem dX9_whose_248 : decode cX9_whose 248 = .ok (.aload_n 0, 1) := by decide +kernel
theorem dX9_whose_249 : decode cX9_whose 249 = .ok (.getfield 7, 3) := by decide +kernel
theorem dX9_whose_252 : decode cX9_whose 252 = .ok (.bipush 19, 2) := by decide +kernel
theorem dX9_whose_254 : decode cX9_whose 254 = .ok (.iload_n 1, 1) := by decide +kernel
theorem dX9_whose_255 : decode cX9_whose 255 = .ok (.iadd, 1) := by decide +kernel
theorem dX9_whose_256 : decode cX9_whose 256 = .ok (.iload_n 3, 1) := by decide +kernel
theorem dX9_whose_257 : decode cX9_whose 257 = .ok (.iastore, 1) := by decide +kernel
theorem dX9_whose_258 : decode cX9_whose 258 = .ok (.iload 4, 2) := by decide +kernel
theorem dX9_whose_260 : decode cX9_whose 260 = .ok (.ireturn, 1) := by decide +kernel
theorem dX9_duel_0 : decode cX9_duel 0 = .ok (.iload_n 1, 1) := by decide +kernel
theorem dX9_duel_1 : decode cX9_duel 1 = .ok (.invokestatic 156, 3) := by decide +kernel
theorem dX9_duel_4 : decode cX9_duel 4 = .ok (.ifCond .eq 15, 3) := by decide +kernel
theorem dX9_duel_7 : decode cX9_duel 7 = .ok (.iload_n 2, 1) := by decide +kernel
theorem dX9_duel_8 : decode cX9_duel 8 = .ok (.i2l, 1) := by decide +kernel
theorem dX9_duel_9 : decode cX9_duel 9 = .ok (.lconst 0, 1) := by decide +kernel
theorem dX9_duel_10 : decode cX9_duel 10 = .ok (.ldc2_w 217, 3) := by decide +kernel
theorem dX9_duel_13 : decode cX9_duel 13 = .ok (.invokestatic 62, 3) := by decide +kernel
theorem dX9_duel_16 : decode cX9_duel 16 = .ok (.ifCond .ne 5, 3) := by decide +kernel
theorem dX9_duel_19 : decode cX9_duel 19 = .ok (.iconst (-1), 1) := by decide +kernel
theorem dX9_duel_20 : decode cX9_duel 20 = .ok (.ireturn, 1) := by decide +kernel
theorem dX9_duel_21 : decode cX9_duel 21 = .ok (.aload_n 0, 1) := by decide +kernel
theorem dX9_duel_22 : decode cX9_duel 22 = .ok (.getfield 7, 3) := by decide +kernel
theorem dX9_duel_25 : decode cX9_duel 25 = .ok (.iconst 0, 1) := by decide +kernel
theorem dX9_duel_26 : decode cX9_duel 26 = .ok (.iaload, 1) := by decide +kernel
theorem dX9_duel_27 : decode cX9_duel 27 = .ok (.ifCond .ne 6, 3) := by decide +kernel
theorem dX9_duel_30 : decode cX9_duel 30 = .ok (.bipush (-4), 2) := by decide +kernel
theorem dX9_duel_32 : decode cX9_duel 32 = .ok (.ireturn, 1) := by decide +kernel
theorem dX9_duel_33 : decode cX9_duel 33 = .ok (.iconst 0, 1) := by decide +kernel
theorem dX9_duel_34 : decode cX9_duel 34 = .ok (.istore_n 3, 1) := by decide +kernel
theorem dX9_duel_35 : decode cX9_duel 35 = .ok (.aload_n 0, 1) := by decide +kernel
theorem dX9_duel_36 : decode cX9_duel 36 = .ok (.getfield 44, 3) := by decide +kernel
theorem dX9_duel_39 : decode cX9_duel 39 = .ok (.iconst 0, 1) := by decide +kernel
theorem dX9_duel_40 : decode cX9_duel 40 = .ok (.aload_n 0, 1) := by decide +kernel
theorem dX9_duel_41 : decode cX9_duel 41 = .ok (.getfield 7, 3) := by decide +kernel
theorem dX9_duel_44 : decode cX9_duel 44 = .ok (.iconst 2, 1) := by decide +kernel
theorem dX9_duel_45 : decode cX9_duel 45 = .ok (.iaload, 1) := by decide +kernel
theorem dX9_duel_46 : decode cX9_duel 46 = .ok (.iastore, 1) := by decide +kernel
theorem dX9_duel_47 : decode cX9_duel 47 = .ok (.aload_n 0, 1) := by decide +kernel
theorem dX9_duel_48 : decode cX9_duel 48 = .ok (.getfield 47, 3) := by decide +kernel
theorem dX9_duel_51 : decode cX9_duel 51 = .ok (.iconst 0, 1) := by decide +kernel
theorem dX9_duel_52 : decode cX9_duel 52 = .ok (.iconst 0, 1) := by decide +kernel
theorem dX9_duel_53 : decode cX9_duel 53 = .ok (.iastore, 1) := by decide +kernel
theorem dX9_duel_54 : decode cX9_duel 54 = .ok (.aload_n 0, 1) := by decide +kernel
theorem dX9_duel_55 : decode cX9_duel 55 = .ok (.getfield 50, 3) := by decide +kernel
theorem dX9_duel_58 : decode cX9_duel 58 = .ok (.iconst 0, 1) := by decide +kernel
theorem dX9_duel_59 : decode cX9_duel 59 = .ok (.bipush (-9), 2) := by decide +kernel
theorem dX9_duel_61 : decode cX9_duel 61 = .ok (.iastore, 1) := by decide +kernel
theorem dX9_duel_62 : decode cX9_duel 62 = .ok (.iload_n 3, 1) := by decide +kernel
theorem dX9_duel_63 : decode cX9_duel 63 = .ok (.ifCond .lt 199, 3) := by decide +kernel
theorem dX9_duel_66 : decode cX9_duel 66 = .ok (.iload_n 3, 1) := by decide +kernel
theorem dX9_duel_67 : decode cX9_duel 67 = .ok (.iload_n 2, 1) := by decide +kernel
theorem dX9_duel_68 : decode cX9_duel 68 = .ok (.if_icmp .ne 41, 3) := by decide +kernel
theorem dX9_duel_71 : decode cX9_duel 71 = .ok (.aload_n 0, 1) := by decide +kernel
theorem dX9_duel_72 : decode cX9_duel 72 = .ok (.getfield 50, 3) := by decide +kernel
theorem dX9_duel_75 : decode cX9_duel 75 = .ok (.iload_n 3, 1) := by decide +kernel
theorem dX9_duel_76 : decode cX9_duel 76 = .ok (.aload_n 0, 1) := by decide +kernel
theorem dX9_duel_77 : decode cX9_duel 77 = .ok (.iload_n 1, 1) := by decide +kernel
theorem dX9_duel_78 : decode cX9_duel 78 = .ok (.aload_n 0, 1) := by decide +kernel
theorem dX9_duel_79 : decode cX9_duel 79 = .ok (.getfield 44, 3) := by decide +kernel
theorem dX9_duel_82 : decode cX9_duel 82 = .ok (.iload_n 3, 1) := by decide +kernel
theorem dX9_duel_83 : decode cX9_duel 83 = .ok (.iaload, 1) := by decide +kernel
theorem dX9_duel_84 : decode cX9_duel 84 = .ok (.aload_n 0, 1) := by decide +kernel
theorem dX9_duel_85 : decode cX9_duel 85 = .ok (.getfield 7, 3) := by decide +kernel
theorem dX9_duel_88 : decode cX9_duel 88 = .ok (.iconst 1, 1) := by decide +kernel
theorem dX9_duel_89 : decode cX9_duel 89 = .ok (.iaload, 1) := by decide +kernel
theorem dX9_duel_90 : decode cX9_duel 90 = .ok (.invokevirtual 172, 3) := by decide +kernel
theorem dX9_duel_93 : decode cX9_duel 93 = .ok (.iastore, 1) := by decide +kernel
theorem dX9_duel_94 : decode cX9_duel 94 = .ok (.iinc 3 (-1), 3) := by decide +kernel
theorem dX9_duel_97 : decode cX9_duel 97 = .ok (.iload_n 3, 1) := by decide +kernel
theorem dX9_duel_98 : decode cX9_duel 98 = .ok (.ifCond .lt (-36), 3) := by decide +kernel
theorem dX9_duel_101 : decode cX9_duel 101 = .ok (.aload_n 0, 1) := by decide +kernel
theorem dX9_duel_102 : decode cX9_duel 102 = .ok (.iload_n 3, 1) := by decide +kernel
theorem dX9_duel_103 : decode cX9_duel 103 = .ok (.invokevirtual 219, 3) := by decide +kernel
theorem dX9_duel_106 : decode cX9_duel 106 = .ok (.goto (-44), 3) := by decide +kernel
theorem dX9_duel_109 : decode cX9_duel 109 = .ok (.aload_n 0, 1) := by decide +kernel
theorem dX9_duel_110 : decode cX9_duel 110 = .ok (.getfield 47, 3) := by decide +kernel
theorem dX9_duel_113 : decode cX9_duel 113 = .ok (.iload_n 3, 1) := by decide +kernel
theorem dX9_duel_114 : decode cX9_duel 114 = .ok (.iaload, 1) := by decide +kernel
theorem dX9_duel_115 : decode cX9_duel 115 = .ok (.aload_n 0, 1) := by decide +kernel
theorem dX9_duel_116 : decode cX9_duel 116 = .ok (.getfield 7, 3) := by decide +kernel
theorem dX9_duel_119 : decode cX9_duel 119 = .ok (.iconst 0, 1) := by decide +kernel
theorem dX9_duel_120 : decode cX9_duel 120 = .ok (.iaload, 1) := by decide +kernel
theorem dX9_duel_121 : decode cX9_duel 121 = .ok (.if_icmp .le 18, 3) := by decide +kernel
theorem dX9_duel_124 : decode cX9_duel 124 = .ok (.iinc 3 (-1), 3) := by decide +kernel
theorem dX9_duel_127 : decode cX9_duel 127 = .ok (.iload_n 3, 1) := by decide +kernel
theorem dX9_duel_128 : decode cX9_duel 128 = .ok (.ifCond .lt (-66), 3) := by decide +kernel
theorem dX9_duel_131 : decode cX9_duel 131 = .ok (.aload_n 0, 1) := by decide +kernel
theorem dX9_duel_132 : decode cX9_duel 132 = .ok (.iload_n 3, 1) := by decide +kernel
theorem dX9_duel_133 : decode cX9_duel 133 = .ok (.invokevirtual 219, 3) := by decide +kernel
theorem dX9_duel_136 : decode cX9_duel 136 = .ok (.goto (-74), 3) := by decide +kernel
theorem dX9_duel_139 : decode cX9_duel 139 = .ok (.aload_n 0, 1) := by decide +kernel
theorem dX9_duel_140 : decode cX9_duel 140 = .ok (.getfield 47, 3) := by decide +kernel
theorem dX9_duel_143 : decode cX9_duel 143 = .ok (.iload_n 3, 1) := by decide +kernel
theorem dX9_duel_144 : decode cX9_duel 144 = .ok (.iaload, 1) := by decide +kernel
theorem dX9_duel_145 : decode cX9_duel 145 = .ok (.istore 4, 2) := by decide +kernel
theorem dX9_duel_147 : decode cX9_duel 147 = .ok (.aload_n 0, 1) := by decide +kernel
theorem dX9_duel_148 : decode cX9_duel 148 = .ok (.getfield 47, 3) := by decide +kernel
theorem dX9_duel_151 : decode cX9_duel 151 = .ok (.iload_n 3, 1) := by decide +kernel
theorem dX9_duel_152 : decode cX9_duel 152 = .ok (.dup2, 1) := by decide +kernel
theorem dX9_duel_153 : decode cX9_duel 153 = .ok (.iaload, 1) := by decide +kernel
theorem dX9_duel_154 : decode cX9_duel 154 = .ok (.iconst 1, 1) := by decide +kernel
theorem dX9_duel_155 : decode cX9_duel 155 = .ok (.iadd, 1) := by decide +kernel
theorem dX9_duel_156 : decode cX9_duel 156 = .ok (.iastore, 1) := by decide +kernel
theorem dX9_duel_157 : decode cX9_duel 157 = .ok (.iload_n 3, 1) := by decide +kernel
theorem dX9_duel_158 : decode cX9_duel 158 = .ok (.iconst 2, 1) := by decide +kernel
theorem dX9_duel_159 : decode cX9_duel 159 = .ok (.irem, 1) := by decide +kernel
theorem dX9_duel_160 : decode cX9_duel 160 = .ok (.ifCond .ne 7, 3) := by decide +kernel
theorem dX9_duel_163 : decode cX9_duel 163 = .ok (.iconst 1, 1) := by decide +kernel
theorem dX9_duel_164 : decode cX9_duel 164 = .ok (.goto 4, 3) := by decide +kernel
theorem dX9_duel_167 : decode cX9_duel 167 = .ok (.iconst 0, 1) := by decide +kernel
theorem dX9_duel_168 : decode cX9_duel 168 = .ok (.istore 5, 2) := by decide +kernel
theorem dX9_duel_170 : decode cX9_duel 170 = .ok (.iload 4, 2) := by decide +kernel
theorem dX9_duel_172 : decode cX9_duel 172 = .ok (.aload_n 0, 1) := by decide +kernel
theorem dX9_duel_173 : decode cX9_duel 173 = .ok (.getfield 7, 3) := by decide +kernel
theorem dX9_duel_176 : decode cX9_duel 176 = .ok (.iconst 0, 1) := by decide +kernel
theorem dX9_duel_177 : decode cX9_duel 177 = .ok (.iaload, 1) := by decide +kernel
theorem dX9_duel_178 : decode cX9_duel 178 = .ok (.if_icmp .eq 19, 3) := by decide +kernel
theorem dX9_duel_181 : decode cX9_duel 181 = .ok (.aload_n 0, 1) := by decide +kernel
theorem dX9_duel_182 : decode cX9_duel 182 = .ok (.getfield 44, 3) := by decide +kernel
theorem dX9_duel_185 : decode cX9_duel 185 = .ok (.iload_n 3, 1) := by decide +kernel
theorem dX9_duel_186 : decode cX9_duel 186 = .ok (.iaload, 1) := by decide +kernel
theorem dX9_duel_187 : decode cX9_duel 187 = .ok (.iload 4, 2) := by decide +kernel
theorem dX9_duel_189 : decode cX9_duel 189 = .ok (.invokestatic 143, 3) := by decide +kernel
theorem dX9_duel_192 : decode cX9_duel 192 = .ok (.iload 5, 2) := by decide +kernel
theorem dX9_duel_194 : decode cX9_duel 194 = .ok (.if_icmp .ne 65, 3) := by decide +kernel
theorem dX9_duel_197 : decode cX9_duel 197 = .ok (.aload_n 0, 1) := by decide +kernel
theorem dX9_duel_198 : decode cX9_duel 198 = .ok (.getfield 44, 3) := by decide +kernel
theorem dX9_duel_201 : decode cX9_duel 201 = .ok (.iload_n 3, 1) := by decide +kernel
theorem dX9_duel_202 : decode cX9_duel 202 = .ok (.iconst 1, 1) := by decide +kernel
theorem dX9_duel_203 : decode cX9_duel 203 = .ok (.iadd, 1) := by decide +kernel
theorem dX9_duel_204 : decode cX9_duel 204 = .ok (.iload 4, 2) := by decide +kernel
theorem dX9_duel_206 : decode cX9_duel 206 = .ok (.aload_n 0, 1) := by decide +kernel
theorem dX9_duel_207 : decode cX9_duel 207 = .ok (.getfield 7, 3) := by decide +kernel
theorem dX9_duel_210 : decode cX9_duel 210 = .ok (.iconst 0, 1) := by decide +kernel
theorem dX9_duel_211 : decode cX9_duel 211 = .ok (.iaload, 1) := by decide +kernel
theorem dX9_duel_212 : decode cX9_duel 212 = .ok (.if_icmp .ne 12, 3) := by decide +kernel
theorem dX9_duel_215 : decode cX9_duel 215 = .ok (.aload_n 0, 1) := by decide +kernel
theorem dX9_duel_216 : decode cX9_duel 216 = .ok (.getfield 44, 3) := by decide +kernel
theorem dX9_duel_219 : decode cX9_duel 219 = .ok (.iload_n 3, 1) := by decide +kernel
theorem dX9_duel_220 : decode cX9_duel 220 = .ok (.iaload, 1) := by decide +kernel
theorem dX9_duel_221 : decode cX9_duel 221 = .ok (.goto 14, 3) := by decide +kernel
theorem dX9_duel_224 : decode cX9_duel 224 = .ok (.aload_n 0, 1) := by decide +kernel
theorem dX9_duel_225 : decode cX9_duel 225 = .ok (.getfield 44, 3) := by decide +kernel
theorem dX9_duel_228 : decode cX9_duel 228 = .ok (.iload_n 3, 1) := by decide +kernel
theorem dX9_duel_229 : decode cX9_duel 229 = .ok (.iaload, 1) := by decide +kernel
theorem dX9_duel_230 : decode cX9_duel 230 = .ok (.iconst 1, 1) := by decide +kernel
theorem dX9_duel_231 : decode cX9_duel 231 = .ok (.iload 4, 2) := by decide +kernel
theorem dX9_duel_233 : decode cX9_duel 233 = .ok (.ishl, 1) := by decide +kernel
theorem dX9_duel_234 : decode cX9_duel 234 = .ok (.ixor, 1) := by decide +kernel
theorem dX9_duel_235 : decode cX9_duel 235 = .ok (.iastore, 1) := by decide +kernel
theorem dX9_duel_236 : decode cX9_duel 236 = .ok (.iinc 3 1, 3) := by decide +kernel
theorem dX9_duel_239 : decode cX9_duel 239 = .ok (.iload_n 3, 1) := by decide +kernel
theorem dX9_duel_240 : decode cX9_duel 240 = .ok (.iload_n 2, 1) := by decide +kernel
theorem dX9_duel_241 : decode cX9_duel 241 = .ok (.if_icmp .ge 18, 3) := by decide +kernel
theorem dX9_duel_244 : decode cX9_duel 244 = .ok (.aload_n 0, 1) := by decide +kernel
theorem dX9_duel_245 : decode cX9_duel 245 = .ok (.getfield 47, 3) := by decide +kernel
theorem dX9_duel_248 : decode cX9_duel 248 = .ok (.iload_n 3, 1) := by decide +kernel
theorem dX9_duel_249 : decode cX9_duel 249 = .ok (.iconst 0, 1) := by decide +kernel
theorem dX9_duel_250 : decode cX9_duel 250 = .ok (.iastore, 1) := by decide +kernel
theorem dX9_duel_251 : decode cX9_duel 251 = .ok (.aload_n 0, 1) := by decide +kernel
theorem dX9_duel_252 : decode cX9_duel 252 = .ok (.getfield 50, 3) := by decide +kernel
theorem dX9_duel_255 : decode cX9_duel 255 = .ok (.iload_n 3, 1) := by decide +kernel
theorem dX9_duel_256 : decode cX9_duel 256 = .ok (.bipush (-9), 2) := by decide +kernel
theorem dX9_duel_258 : decode cX9_duel 258 = .ok (.iastore, 1) := by decide +kernel
theorem dX9_duel_259 : decode cX9_duel 259 = .ok (.goto (-197), 3) := by decide +kernel
theorem dX9_duel_262 : decode cX9_duel 262 = .ok (.aload_n 0, 1) := by decide +kernel
theorem dX9_duel_263 : decode cX9_duel 263 = .ok (.getfield 50, 3) := by decide +kernel
theorem dX9_duel_266 : decode cX9_duel 266 = .ok (.iconst 0, 1) := by decide +kernel
theorem dX9_duel_267 : decode cX9_duel 267 = .ok (.iaload, 1) := by decide +kernel
theorem dX9_duel_268 : decode cX9_duel 268 = .ok (.ireturn, 1) := by decide +kernel
theorem dX9_betters_0 : decode cX9_betters 0 = .ok (.aload_n 0, 1) := by decide +kernel
theorem dX9_betters_1 : decode cX9_betters 1 = .ok (.getfield 50, 3) := by decide +kernel
theorem dX9_betters_4 : decode cX9_betters 4 = .ok (.iload_n 1, 1) := by decide +kernel
theorem dX9_betters_5 : decode cX9_betters 5 = .ok (.iconst 1, 1) := by decide +kernel
theorem dX9_betters_6 : decode cX9_betters 6 = .ok (.iadd, 1) := by decide +kernel
theorem dX9_betters_7 : decode cX9_betters 7 = .ok (.iaload, 1) := by decide +kernel
theorem dX9_betters_8 : decode cX9_betters 8 = .ok (.istore_n 2, 1) := by decide +kernel
theorem dX9_betters_9 : decode cX9_betters 9 = .ok (.iload_n 1, 1) := by decide +kernel
theorem dX9_betters_10 : decode cX9_betters 10 = .ok (.iconst 2, 1) := by decide +kernel
theorem dX9_betters_11 : decode cX9_betters 11 = .ok (.irem, 1) := by decide +kernel
theorem dX9_betters_12 : decode cX9_betters 12 = .ok (.ifCond .ne 7, 3) := by decide +kernel
theorem dX9_betters_15 : decode cX9_betters 15 = .ok (.iconst 1, 1) := by decide +kernel
theorem dX9_betters_16 : decode cX9_betters 16 = .ok (.goto 4, 3) := by decide +kernel
theorem dX9_betters_19 : decode cX9_betters 19 = .ok (.iconst 0, 1) := by decide +kernel
theorem dX9_betters_20 : decode cX9_betters 20 = .ok (.istore_n 3, 1) := by decide +kernel
theorem dX9_betters_21 : decode cX9_betters 21 = .ok (.aload_n 0, 1) := by decide +kernel
theorem dX9_betters_22 : decode cX9_betters 22 = .ok (.getfield 50, 3) := by decide +kernel
theorem dX9_betters_25 : decode cX9_betters 25 = .ok (.iload_n 1, 1) := by decide +kernel
theorem dX9_betters_26 : decode cX9_betters 26 = .ok (.aload_n 0, 1) := by decide +kernel
theorem dX9_betters_27 : decode cX9_betters 27 = .ok (.getfield 50, 3) := by decide +kernel
theorem dX9_betters_30 : decode cX9_betters 30 = .ok (.iload_n 1, 1) := by decide +kernel
theorem dX9_betters_31 : decode cX9_betters 31 = .ok (.iaload, 1) := by decide +kernel
theorem dX9_betters_32 : decode cX9_betters 32 = .ok (.bipush (-9), 2) := by decide +kernel
theorem dX9_betters_34 : decode cX9_betters 34 = .ok (.if_icmp .eq 30, 3) := by decide +kernel
theorem dX9_betters_37 : decode cX9_betters 37 = .ok (.iload_n 3, 1) := by decide +kernel
theorem dX9_betters_38 : decode cX9_betters 38 = .ok (.ifCond .eq 16, 3) := by decide +kernel
theorem dX9_betters_41 : decode cX9_betters 41 = .ok (.iload_n 2, 1) := by decide +kernel
theorem dX9_betters_42 : decode cX9_betters 42 = .ok (.aload_n 0, 1) := by decide +kernel
theorem dX9_betters_43 : decode cX9_betters 43 = .ok (.getfield 50, 3) := by decide +kernel
theorem dX9_betters_46 : decode cX9_betters 46 = .ok (.iload_n 1, 1) := by decide +kernel
theorem dX9_betters_47 : decode cX9_betters 47 = .ok (.iaload, 1) := by decide +kernel
theorem dX9_betters_48 : decode cX9_betters 48 = .ok (.if_icmp .ge 20, 3) := by decide +kernel
theorem dX9_betters_51 : decode cX9_betters 51 = .ok (.goto 13, 3) := by decide +kernel
theorem dX9_betters_54 : decode cX9_betters 54 = .ok (.iload_n 2, 1) := by decide +kernel
theorem dX9_betters_55 : decode cX9_betters 55 = .ok (.aload_n 0, 1) := by decide +kernel
theorem dX9_betters_56 : decode cX9_betters 56 = .ok (.getfield 50, 3) := by decide +kernel
theorem dX9_betters_59 : decode cX9_betters 59 = .ok (.iload_n 1, 1) := by decide +kernel
theorem dX9_betters_60 : decode cX9_betters 60 = .ok (.iaload, 1) := by decide +kernel
theorem dX9_betters_61 : decode cX9_betters 61 = .ok (.if_icmp .le 7, 3) := by decide +kernel
theorem dX9_betters_64 : decode cX9_betters 64 = .ok (.iload_n 2, 1) := by decide +kernel
theorem dX9_betters_65 : decode cX9_betters 65 = .ok (.goto 9, 3) := by decide +kernel
theorem dX9_betters_68 : decode cX9_betters 68 = .ok (.aload_n 0, 1) := by decide +kernel
theorem dX9_betters_69 : decode cX9_betters 69 = .ok (.getfield 50, 3) := by decide +kernel
theorem dX9_betters_72 : decode cX9_betters 72 = .ok (.iload_n 1, 1) := by decide +kernel
theorem dX9_betters_73 : decode cX9_betters 73 = .ok (.iaload, 1) := by decide +kernel
theorem dX9_betters_74 : decode cX9_betters 74 = .ok (.iastore, 1) := by decide +kernel
theorem dX9_betters_75 : decode cX9_betters 75 = .ok (.return_, 1) := by decide +kernel
theorem dX9_tellsPart_0 : decode cX9_tellsPart 0 = .ok (.lload_n 1, 1) := by decide +kernel
theorem dX9_tellsPart_1 : decode cX9_tellsPart 1 = .ok (.lstore 5, 2) := by decide +kernel
theorem dX9_tellsPart_3 : decode cX9_tellsPart 3 = .ok (.lload_n 3, 1) := by decide +kernel
theorem dX9_tellsPart_4 : decode cX9_tellsPart 4 = .ok (.lstore 7, 2) := by decide +kernel
theorem dX9_tellsPart_6 : decode cX9_tellsPart 6 = .ok (.lload 7, 2) := by decide +kernel
theorem dX9_tellsPart_8 : decode cX9_tellsPart 8 = .ok (.lconst 0, 1) := by decide +kernel
theorem dX9_tellsPart_9 : decode cX9_tellsPart 9 = .ok (.lcmp, 1) := by decide +kernel
theorem dX9_tellsPart_10 : decode cX9_tellsPart 10 = .ok (.ifCond .eq 21, 3) := by decide +kernel
theorem dX9_tellsPart_13 : decode cX9_tellsPart 13 = .ok (.lload 5, 2) := by decide +kernel
theorem dX9_tellsPart_15 : decode cX9_tellsPart 15 = .ok (.lload 7, 2) := by decide +kernel
theorem dX9_tellsPart_17 : decode cX9_tellsPart 17 = .ok (.lrem, 1) := by decide +kernel
theorem dX9_tellsPart_18 : decode cX9_tellsPart 18 = .ok (.lstore 9, 2) := by decide +kernel
theorem dX9_tellsPart_20 : decode cX9_tellsPart 20 = .ok (.lload 7, 2) := by decide +kernel
theorem dX9_tellsPart_22 : decode cX9_tellsPart 22 = .ok (.lstore 5, 2) := by decide +kernel
theorem dX9_tellsPart_24 : decode cX9_tellsPart 24 = .ok (.lload 9, 2) := by decide +kernel
theorem dX9_tellsPart_26 : decode cX9_tellsPart 26 = .ok (.lstore 7, 2) := by decide +kernel
theorem dX9_tellsPart_28 : decode cX9_tellsPart 28 = .ok (.goto (-22), 3) := by decide +kernel
theorem dX9_tellsPart_31 : decode cX9_tellsPart 31 = .ok (.aload_n 0, 1) := by decide +kernel
theorem dX9_tellsPart_32 : decode cX9_tellsPart 32 = .ok (.lload_n 1, 1) := by decide +kernel
theorem dX9_tellsPart_33 : decode cX9_tellsPart 33 = .ok (.lload 5, 2) := by decide +kernel
theorem dX9_tellsPart_35 : decode cX9_tellsPart 35 = .ok (.ldiv, 1) := by decide +kernel
theorem dX9_tellsPart_36 : decode cX9_tellsPart 36 = .ok (.putfield 223, 3) := by decide +kernel
theorem dX9_tellsPart_39 : decode cX9_tellsPart 39 = .ok (.aload_n 0, 1) := by decide +kernel
theorem dX9_tellsPart_40 : decode cX9_tellsPart 40 = .ok (.lload_n 3, 1) := by decide +kernel
theorem dX9_tellsPart_41 : decode cX9_tellsPart 41 = .ok (.lload 5, 2) := by decide +kernel
theorem dX9_tellsPart_43 : decode cX9_tellsPart 43 = .ok (.ldiv, 1) := by decide +kernel
theorem dX9_tellsPart_44 : decode cX9_tellsPart 44 = .ok (.putfield 28, 3) := by decide +kernel
theorem dX9_tellsPart_47 : decode cX9_tellsPart 47 = .ok (.iconst 1, 1) := by decide +kernel
theorem dX9_tellsPart_48 : decode cX9_tellsPart 48 = .ok (.ireturn, 1) := by decide +kernel
theorem dX9_chances_0 : decode cX9_chances 0 = .ok (.lconst 0, 1) := by decide +kernel
theorem dX9_chances_1 : decode cX9_chances 1 = .ok (.lstore 4, 2) := by decide +kernel
theorem dX9_chances_3 : decode cX9_chances 3 = .ok (.lconst 1, 1) := by decide +kernel
theorem dX9_chances_4 : decode cX9_chances 4 = .ok (.lstore 6, 2) := by decide +kernel
theorem dX9_chances_6 : decode cX9_chances 6 = .ok (.iconst 0, 1) := by decide +kernel
theorem dX9_chances_7 : decode cX9_chances 7 = .ok (.istore 8, 2) := by decide +kernel
theorem dX9_chances_9 : decode cX9_chances 9 = .ok (.iload 8, 2) := by decide +kernel
theorem dX9_chances_11 : decode cX9_chances 11 = .ok (.aload_n 0, 1) := by decide +kernel
theorem dX9_chances_12 : decode cX9_chances 12 = .ok (.getfield 7, 3) := by decide +kernel
theorem dX9_chances_15 : decode cX9_chances 15 = .ok (.iconst 0, 1) := by decide +kernel
theorem dX9_chances_16 : decode cX9_chances 16 = .ok (.iaload, 1) := by decide +kernel
theorem dX9_chances_17 : decode cX9_chances 17 = .ok (.if_icmp .ge 35, 3) := by decide +kernel
theorem dX9_chances_20 : decode cX9_chances 20 = .ok (.lload 6, 2) := by decide +kernel
theorem dX9_chances_22 : decode cX9_chances 22 = .ok (.aload_n 0, 1) := by decide +kernel
theorem dX9_chances_23 : decode cX9_chances 23 = .ok (.getfield 7, 3) := by decide +kernel
theorem dX9_chances_26 : decode cX9_chances 26 = .ok (.iconst 2, 1) := by decide +kernel
theorem dX9_chances_27 : decode cX9_chances 27 = .ok (.iaload, 1) := by decide +kernel
theorem dX9_chances_28 : decode cX9_chances 28 = .ok (.iload 8, 2) := by decide +kernel
theorem dX9_chances_30 : decode cX9_chances 30 = .ok (.invokestatic 143, 3) := by decide +kernel
theorem dX9_chances_33 : decode cX9_chances 33 = .ok (.ifCond .eq 9, 3) := by decide +kernel
theorem dX9_chances_36 : decode cX9_chances 36 = .ok (.ldc2_w 226, 3) := by decide +kernel
theorem dX9_chances_39 : decode cX9_chances 39 = .ok (.goto 4, 3) := by decide +kernel
theorem dX9_chances_42 : decode cX9_chances 42 = .ok (.lconst 1, 1) := by decide +kernel
theorem dX9_chances_43 : decode cX9_chances 43 = .ok (.lmul, 1) := by decide +kernel
theorem dX9_chances_44 : decode cX9_chances 44 = .ok (.lstore 6, 2) := by decide +kernel
theorem dX9_chances_46 : decode cX9_chances 46 = .ok (.iinc 8 1, 3) := by decide +kernel
theorem dX9_chances_49 : decode cX9_chances 49 = .ok (.goto (-40), 3) := by decide +kernel
theorem dX9_chances_52 : decode cX9_chances 52 = .ok (.iconst 0, 1) := by decide +kernel
theorem dX9_chances_53 : decode cX9_chances 53 = .ok (.istore 8, 2) := by decide +kernel
theorem dX9_chances_55 : decode cX9_chances 55 = .ok (.iload 8, 2) := by decide +kernel
theorem dX9_chances_57 : decode cX9_chances 57 = .ok (.iconst 1, 1) := by decide +kernel
theorem dX9_chances_58 : decode cX9_chances 58 = .ok (.aload_n 0, 1) := by decide +kernel
theorem dX9_chances_59 : decode cX9_chances 59 = .ok (.getfield 7, 3) := by decide +kernel
theorem dX9_chances_62 : decode cX9_chances 62 = .ok (.iconst 0, 1) := by decide +kernel
theorem dX9_chances_63 : decode cX9_chances 63 = .ok (.iaload, 1) := by decide +kernel
theorem dX9_chances_64 : decode cX9_chances 64 = .ok (.ishl, 1) := by decide +kernel
theorem dX9_chances_65 : decode cX9_chances 65 = .ok (.if_icmp .ge 145, 3) := by decide +kernel
theorem dX9_chances_68 : decode cX9_chances 68 = .ok (.iload 8, 2) := by decide +kernel
theorem dX9_chances_70 : decode cX9_chances 70 = .ok (.aload_n 0, 1) := by decide +kernel
theorem dX9_chances_71 : decode cX9_chances 71 = .ok (.getfield 7, 3) := by decide +kernel
theorem dX9_chances_74 : decode cX9_chances 74 = .ok (.iconst 2, 1) := by decide +kernel
theorem dX9_chances_75 : decode cX9_chances 75 = .ok (.iaload, 1) := by decide +kernel
theorem dX9_chances_76 : decode cX9_chances 76 = .ok (.iconst (-1), 1) := by decide +kernel
theorem dX9_chances_77 : decode cX9_chances 77 = .ok (.ixor, 1) := by decide +kernel
theorem dX9_chances_78 : decode cX9_chances 78 = .ok (.iand, 1) := by decide +kernel
theorem dX9_chances_79 : decode cX9_chances 79 = .ok (.ifCond .ne 125, 3) := by decide +kernel
theorem dX9_chances_82 : decode cX9_chances 82 = .ok (.lconst 1, 1) := by decide +kernel
theorem dX9_chances_83 : decode cX9_chances 83 = .ok (.lstore 9, 2) := by decide +kernel
theorem dX9_chances_85 : decode cX9_chances 85 = .ok (.iconst 0, 1) := by decide +kernel
theorem dX9_chances_86 : decode cX9_chances 86 = .ok (.istore 11, 2) := by decide +kernel
theorem dX9_chances_88 : decode cX9_chances 88 = .ok (.iload 11, 2) := by decide +kernel
theorem dX9_chances_90 : decode cX9_chances 90 = .ok (.aload_n 0, 1) := by decide +kernel
theorem dX9_chances_91 : decode cX9_chances 91 = .ok (.getfield 7, 3) := by decide +kernel
theorem dX9_chances_94 : decode cX9_chances 94 = .ok (.iconst 0, 1) := by decide +kernel
theorem dX9_chances_95 : decode cX9_chances 95 = .ok (.iaload, 1) := by decide +kernel
theorem dX9_chances_96 : decode cX9_chances 96 = .ok (.if_icmp .ge 52, 3) := by decide +kernel
theorem dX9_chances_99 : decode cX9_chances 99 = .ok (.lload 9, 2) := by decide +kernel
theorem dX9_chances_101 : decode cX9_chances 101 = .ok (.aload_n 0, 1) := by decide +kernel
theorem dX9_chances_102 : decode cX9_chances 102 = .ok (.getfield 7, 3) := by decide +kernel
theorem dX9_chances_105 : decode cX9_chances 105 = .ok (.iconst 2, 1) := by decide +kernel
theorem dX9_chances_106 : decode cX9_chances 106 = .ok (.iaload, 1) := by decide +kernel
theorem dX9_chances_107 : decode cX9_chances 107 = .ok (.iload 11, 2) := by decide +kernel
theorem dX9_chances_109 : decode cX9_chances 109 = .ok (.invokestatic 143, 3) := by decide +kernel
theorem dX9_chances_112 : decode cX9_chances 112 = .ok (.ifCond .ne 7, 3) := by decide +kernel
theorem dX9_chances_115 : decode cX9_chances 115 = .ok (.lconst 1, 1) := by decide +kernel
theorem dX9_chances_116 : decode cX9_chances 116 = .ok (.goto 23, 3) := by decide +kernel
theorem dX9_chances_119 : decode cX9_chances 119 = .ok (.iload 8, 2) := by decide +kernel
theorem dX9_chances_121 : decode cX9_chances 121 = .ok (.iload 11, 2) := by decide +kernel
theorem dX9_chances_123 : decode cX9_chances 123 = .ok (.invokestatic 143, 3) := by decide +kernel
theorem dX9_chances_126 : decode cX9_chances 126 = .ok (.ifCond .eq 8, 3) := by decide +kernel
theorem dX9_chances_129 : decode cX9_chances 129 = .ok (.iload_n 3, 1) := by decide +kernel
theorem dX9_chances_130 : decode cX9_chances 130 = .ok (.i2l, 1) := by decide +kernel
theorem dX9_chances_131 : decode cX9_chances 131 = .ok (.goto 8, 3) := by decide +kernel
theorem dX9_chances_134 : decode cX9_chances 134 = .ok (.bipush 12, 2) := by decide +kernel
theorem dX9_chances_136 : decode cX9_chances 136 = .ok (.iload_n 3, 1) := by decide +kernel
theorem dX9_chances_137 : decode cX9_chances 137 = .ok (.isub, 1) := by decide +kernel
theorem dX9_chances_138 : decode cX9_chances 138 = .ok (.i2l, 1) := by decide +kernel
theorem dX9_chances_139 : decode cX9_chances 139 = .ok (.lmul, 1) := by decide +kernel
theorem dX9_chances_140 : decode cX9_chances 140 = .ok (.lstore 9, 2) := by decide +kernel
theorem dX9_chances_142 : decode cX9_chances 142 = .ok (.iinc 11 1, 3) := by decide +kernel
theorem dX9_chances_145 : decode cX9_chances 145 = .ok (.goto (-57), 3) := by decide +kernel
theorem dX9_chances_148 : decode cX9_chances 148 = .ok (.aload_n 0, 1) := by decide +kernel
theorem dX9_chances_149 : decode cX9_chances 149 = .ok (.iload_n 1, 1) := by decide +kernel
theorem dX9_chances_150 : decode cX9_chances 150 = .ok (.aload_n 0, 1) := by decide +kernel
theorem dX9_chances_151 : decode cX9_chances 151 = .ok (.getfield 7, 3) := by decide +kernel
theorem dX9_chances_154 : decode cX9_chances 154 = .ok (.iconst 2, 1) := by decide +kernel
theorem dX9_chances_155 : decode cX9_chances 155 = .ok (.iaload, 1) := by decide +kernel
theorem dX9_chances_156 : decode cX9_chances 156 = .ok (.iload 8, 2) := by decide +kernel
theorem dX9_chances_158 : decode cX9_chances 158 = .ok (.iconst (-1), 1) := by decide +kernel
theorem dX9_chances_159 : decode cX9_chances 159 = .ok (.ixor, 1) := by decide +kernel
theorem dX9_chances_160 : decode cX9_chances 160 = .ok (.iand, 1) := by decide +kernel
theorem dX9_chances_161 : decode cX9_chances 161 = .ok (.aload_n 0, 1) := by decide +kernel
theorem dX9_chances_162 : decode cX9_chances 162 = .ok (.getfield 7, 3) := by decide +kernel
theorem dX9_chances_165 : decode cX9_chances 165 = .ok (.iconst 1, 1) := by decide +kernel
theorem dX9_chances_166 : decode cX9_chances 166 = .ok (.iaload, 1) := by decide +kernel
theorem dX9_chances_167 : decode cX9_chances 167 = .ok (.invokevirtual 172, 3) := by decide +kernel
theorem dX9_chances_170 : decode cX9_chances 170 = .ok (.istore 11, 2) := by decide +kernel
theorem dX9_chances_172 : decode cX9_chances 172 = .ok (.lload 4, 2) := by decide +kernel
theorem dX9_chances_174 : decode cX9_chances 174 = .ok (.iload_n 2, 1) := by decide +kernel
theorem dX9_chances_175 : decode cX9_chances 175 = .ok (.bipush (-9), 2) := by decide +kernel
theorem dX9_chances_177 : decode cX9_chances 177 = .ok (.if_icmp .ne 12, 3) := by decide +kernel
theorem dX9_chances_180 : decode cX9_chances 180 = .ok (.lload 9, 2) := by decide +kernel
theorem dX9_chances_182 : decode cX9_chances 182 = .ok (.iload 11, 2) := by decide +kernel
theorem dX9_chances_184 : decode cX9_chances 184 = .ok (.i2l, 1) := by decide +kernel
theorem dX9_chances_185 : decode cX9_chances 185 = .ok (.lmul, 1) := by decide +kernel
theorem dX9_chances_186 : decode cX9_chances 186 = .ok (.goto 15, 3) := by decide +kernel
theorem dX9_chances_189 : decode cX9_chances 189 = .ok (.iload 11, 2) := by decide +kernel
theorem dX9_chances_191 : decode cX9_chances 191 = .ok (.iload_n 2, 1) := by decide +kernel
theorem dX9_chances_192 : decode cX9_chances 192 = .ok (.if_icmp .gt 8, 3) := by decide +kernel
theorem dX9_chances_195 : decode cX9_chances 195 = .ok (.lload 9, 2) := by decide +kernel
theorem dX9_chances_197 : decode cX9_chances 197 = .ok (.goto 4, 3) := by decide +kernel
theorem dX9_chances_200 : decode cX9_chances 200 = .ok (.lconst 0, 1) := by decide +kernel
theorem dX9_chances_201 : decode cX9_chances 201 = .ok (.ladd, 1) := by decide +kernel
theorem dX9_chances_202 : decode cX9_chances 202 = .ok (.lstore 4, 2) := by decide +kernel
theorem dX9_chances_204 : decode cX9_chances 204 = .ok (.iinc 8 1, 3) := by decide +kernel
theorem dX9_chances_207 : decode cX9_chances 207 = .ok (.goto (-152), 3) := by decide +kernel
theorem dX9_chances_210 : decode cX9_chances 210 = .ok (.aload_n 0, 1) := by decide +kernel
theorem dX9_chances_211 : decode cX9_chances 211 = .ok (.lload 4, 2) := by decide +kernel
theorem dX9_chances_213 : decode cX9_chances 213 = .ok (.lload 6, 2) := by decide +kernel
theorem dX9_chances_215 : decode cX9_chances 215 = .ok (.invokevirtual 228, 3) := by decide +kernel
theorem dX9_chances_218 : decode cX9_chances 218 = .ok (.ireturn, 1) := by decide +kernel
theorem dX9_odds_0 : decode cX9_odds 0 = .ok (.iload_n 1, 1) := by decide +kernel
theorem dX9_odds_1 : decode cX9_odds 1 = .ok (.invokestatic 156, 3) := by decide +kernel
theorem dX9_odds_4 : decode cX9_odds 4 = .ok (.ifCond .eq 27, 3) := by decide +kernel
theorem dX9_odds_7 : decode cX9_odds 7 = .ok (.iload_n 2, 1) := by decide +kernel
theorem dX9_odds_8 : decode cX9_odds 8 = .ok (.i2l, 1) := by decide +kernel
theorem dX9_odds_9 : decode cX9_odds 9 = .ok (.lconst 0, 1) := by decide +kernel
theorem dX9_odds_10 : decode cX9_odds 10 = .ok (.ldc2_w 141, 3) := by decide +kernel
theorem dX9_odds_13 : decode cX9_odds 13 = .ok (.invokestatic 62, 3) := by decide +kernel
theorem dX9_odds_16 : decode cX9_odds 16 = .ok (.ifCond .eq 15, 3) := by decide +kernel
theorem dX9_odds_19 : decode cX9_odds 19 = .ok (.iload_n 3, 1) := by decide +kernel
theorem dX9_odds_20 : decode cX9_odds 20 = .ok (.i2l, 1) := by decide +kernel
theorem dX9_odds_21 : decode cX9_odds 21 = .ok (.lconst 0, 1) := by decide +kernel
theorem dX9_odds_22 : decode cX9_odds 22 = .ok (.ldc2_w 226, 3) := by decide +kernel
theorem dX9_odds_25 : decode cX9_odds 25 = .ok (.invokestatic 62, 3) := by decide +kernel
theorem dX9_odds_28 : decode cX9_odds 28 = .ok (.ifCond .ne 5, 3) := by decide +kernel
theorem dX9_odds_31 : decode cX9_odds 31 = .ok (.iconst (-1), 1) := by decide +kernel
theorem dX9_odds_32 : decode cX9_odds 32 = .ok (.ireturn, 1) := by decide +kernel
theorem dX9_odds_33 : decode cX9_odds 33 = .ok (.aload_n 0, 1) := by decide +kernel
theorem dX9_odds_34 : decode cX9_odds 34 = .ok (.getfield 7, 3) := by decide +kernel
theorem dX9_odds_37 : decode cX9_odds 37 = .ok (.iconst 0, 1) := by decide +kernel
theorem dX9_odds_38 : decode cX9_odds 38 = .ok (.iaload, 1) := by decide +kernel
theorem dX9_odds_39 : decode cX9_odds 39 = .ok (.ifCond .ne 8, 3) := by decide +kernel
theorem dX9_odds_42 : decode cX9_odds 42 = .ok (.bipush (-4), 2) := by decide +kernel
theorem dX9_odds_44 : decode cX9_odds 44 = .ok (.goto 10, 3) := by decide +kernel
theorem dX9_odds_47 : decode cX9_odds 47 = .ok (.aload_n 0, 1) := by decide +kernel
theorem dX9_odds_48 : decode cX9_odds 48 = .ok (.iload_n 1, 1) := by decide +kernel
theorem dX9_odds_49 : decode cX9_odds 49 = .ok (.iload_n 2, 1) := by decide +kernel
theorem dX9_odds_50 : decode cX9_odds 50 = .ok (.iload_n 3, 1) := by decide +kernel
theorem dX9_odds_51 : decode cX9_odds 51 = .ok (.invokevirtual 232, 3) := by decide +kernel
theorem dX9_odds_54 : decode cX9_odds 54 = .ok (.ireturn, 1) := by decide +kernel
theorem dX9_mid_0 : decode cX9_mid 0 = .ok (.iload_n 1, 1) := by decide +kernel
theorem dX9_mid_1 : decode cX9_mid 1 = .ok (.invokestatic 156, 3) := by decide +kernel
theorem dX9_mid_4 : decode cX9_mid 4 = .ok (.ifCond .eq 15, 3) := by decide +kernel
theorem dX9_mid_7 : decode cX9_mid 7 = .ok (.iload_n 2, 1) := by decide +kernel
theorem dX9_mid_8 : decode cX9_mid 8 = .ok (.i2l, 1) := by decide +kernel
theorem dX9_mid_9 : decode cX9_mid 9 = .ok (.lconst 0, 1) := by decide +kernel
theorem dX9_mid_10 : decode cX9_mid 10 = .ok (.ldc2_w 226, 3) := by decide +kernel
theorem dX9_mid_13 : decode cX9_mid 13 = .ok (.invokestatic 62, 3) := by decide +kernel
theorem dX9_mid_16 : decode cX9_mid 16 = .ok (.ifCond .ne 5, 3) := by decide +kernel
theorem dX9_mid_19 : decode cX9_mid 19 = .ok (.iconst (-1), 1) := by decide +kernel
theorem dX9_mid_20 : decode cX9_mid 20 = .ok (.ireturn, 1) := by decide +kernel
theorem dX9_mid_21 : decode cX9_mid 21 = .ok (.aload_n 0, 1) := by decide +kernel
theorem dX9_mid_22 : decode cX9_mid 22 = .ok (.getfield 7, 3) := by decide +kernel
theorem dX9_mid_25 : decode cX9_mid 25 = .ok (.iconst 0, 1) := by decide +kernel
theorem dX9_mid_26 : decode cX9_mid 26 = .ok (.iaload, 1) := by decide +kernel
theorem dX9_mid_27 : decode cX9_mid 27 = .ok (.ifCond .ne 8, 3) := by decide +kernel
theorem dX9_mid_30 : decode cX9_mid 30 = .ok (.bipush (-4), 2) := by decide +kernel
theorem dX9_mid_32 : decode cX9_mid 32 = .ok (.goto 11, 3) := by decide +kernel
theorem dX9_mid_35 : decode cX9_mid 35 = .ok (.aload_n 0, 1) := by decide +kernel
theorem dX9_mid_36 : decode cX9_mid 36 = .ok (.iload_n 1, 1) := by decide +kernel
theorem dX9_mid_37 : decode cX9_mid 37 = .ok (.bipush (-9), 2) := by decide +kernel
theorem dX9_mid_39 : decode cX9_mid 39 = .ok (.iload_n 2, 1) := by decide +kernel
theorem dX9_mid_40 : decode cX9_mid 40 = .ok (.invokevirtual 232, 3) := by decide +kernel
theorem dX9_mid_43 : decode cX9_mid 43 = .ok (.ireturn, 1) := by decide +kernel
theorem dX9_lots_0 : decode cX9_lots 0 = .ok (.iload_n 1, 1) := by decide +kernel
theorem dX9_lots_1 : decode cX9_lots 1 = .ok (.i2l, 1) := by decide +kernel
theorem dX9_lots_2 : decode cX9_lots 2 = .ok (.lconst 1, 1) := by decide +kernel
theorem dX9_lots_3 : decode cX9_lots 3 = .ok (.ldc2_w 235, 3) := by decide +kernel
theorem dX9_lots_6 : decode cX9_lots 6 = .ok (.invokestatic 62, 3) := by decide +kernel
theorem dX9_lots_9 : decode cX9_lots 9 = .ok (.ifCond .eq 15, 3) := by decide +kernel
theorem dX9_lots_12 : decode cX9_lots 12 = .ok (.iload_n 2, 1) := by decide +kernel
theorem dX9_lots_13 : decode cX9_lots 13 = .ok (.i2l, 1) := by decide +kernel
theorem dX9_lots_14 : decode cX9_lots 14 = .ok (.lconst 1, 1) := by decide +kernel
theorem dX9_lots_15 : decode cX9_lots 15 = .ok (.ldc2_w 237, 3) := by decide +kernel
theorem dX9_lots_18 : decode cX9_lots 18 = .ok (.invokestatic 62, 3) := by decide +kernel
theorem dX9_lots_21 : decode cX9_lots 21 = .ok (.ifCond .ne 5, 3) := by decide +kernel
theorem dX9_lots_24 : decode cX9_lots 24 = .ok (.iconst (-1), 1) := by decide +kernel
theorem dX9_lots_25 : decode cX9_lots 25 = .ok (.ireturn, 1) := by decide +kernel
theorem dX9_lots_26 : decode cX9_lots 26 = .ok (.aload_n 0, 1) := by decide +kernel
theorem dX9_lots_27 : decode cX9_lots 27 = .ok (.getfield 7, 3) := by decide +kernel
theorem dX9_lots_30 : decode cX9_lots 30 = .ok (.iconst 0, 1) := by decide +kernel
theorem dX9_lots_31 : decode cX9_lots 31 = .ok (.iaload, 1) := by decide +kernel
theorem dX9_lots_32 : decode cX9_lots 32 = .ok (.ifCond .ne 6, 3) := by decide +kernel
theorem dX9_lots_35 : decode cX9_lots 35 = .ok (.bipush (-4), 2) := by decide +kernel
theorem dX9_lots_37 : decode cX9_lots 37 = .ok (.ireturn, 1) := by decide +kernel
theorem dX9_lots_38 : decode cX9_lots 38 = .ok (.aload_n 0, 1) := by decide +kernel
theorem dX9_lots_39 : decode cX9_lots 39 = .ok (.getfield 7, 3) := by decide +kernel
theorem dX9_lots_42 : decode cX9_lots 42 = .ok (.bipush 43, 2) := by decide +kernel
theorem dX9_lots_44 : decode cX9_lots 44 = .ok (.iaload, 1) := by decide +kernel
theorem dX9_lots_45 : decode cX9_lots 45 = .ok (.iload_n 1, 1) := by decide +kernel
theorem dX9_lots_46 : decode cX9_lots 46 = .ok (.iadd, 1) := by decide +kernel
theorem dX9_lots_47 : decode cX9_lots 47 = .ok (.bipush 40, 2) := by decide +kernel
theorem dX9_lots_49 : decode cX9_lots 49 = .ok (.if_icmp .le 6, 3) := by decide +kernel
theorem dX9_lots_52 : decode cX9_lots 52 = .ok (.bipush (-2), 2) := by decide +kernel
theorem dX9_lots_54 : decode cX9_lots 54 = .ok (.ireturn, 1) := by decide +kernel
theorem dX9_lots_55 : decode cX9_lots 55 = .ok (.iload_n 2, 1) := by decide +kernel
theorem dX9_lots_56 : decode cX9_lots 56 = .ok (.i2l, 1) := by decide +kernel
theorem dX9_lots_57 : decode cX9_lots 57 = .ok (.lstore_n 3, 1) := by decide +kernel
theorem dX9_lots_58 : decode cX9_lots 58 = .ok (.iconst 0, 1) := by decide +kernel
theorem dX9_lots_59 : decode cX9_lots 59 = .ok (.istore 5, 2) := by decide +kernel
theorem dX9_lots_61 : decode cX9_lots 61 = .ok (.iload 5, 2) := by decide +kernel
theorem dX9_lots_63 : decode cX9_lots 63 = .ok (.iload_n 1, 1) := by decide +kernel
theorem dX9_lots_64 : decode cX9_lots 64 = .ok (.if_icmp .ge 118, 3) := by decide +kernel
theorem dX9_lots_67 : decode cX9_lots 67 = .ok (.lload_n 3, 1) := by decide +kernel
theorem dX9_lots_68 : decode cX9_lots 68 = .ok (.ldc2_w 239, 3) := by decide +kernel
theorem dX9_lots_71 : decode cX9_lots 71 = .ok (.lmul, 1) := by decide +kernel
theorem dX9_lots_72 : decode cX9_lots 72 = .ok (.ldc2_w 241, 3) := by decide +kernel
theorem dX9_lots_75 : decode cX9_lots 75 = .ok (.lrem, 1) := by decide +kernel
theorem dX9_lots_76 : decode cX9_lots 76 = .ok (.lstore_n 3, 1) := by decide +kernel
theorem dX9_lots_77 : decode cX9_lots 77 = .ok (.aload_n 0, 1) := by decide +kernel
theorem dX9_lots_78 : decode cX9_lots 78 = .ok (.invokevirtual 146, 3) := by decide +kernel
theorem dX9_lots_81 : decode cX9_lots 81 = .ok (.lload_n 3, 1) := by decide +kernel
theorem dX9_lots_82 : decode cX9_lots 82 = .ok (.ldc2_w 243, 3) := by decide +kernel
theorem dX9_lots_85 : decode cX9_lots 85 = .ok (.ldiv, 1) := by decide +kernel
theorem dX9_lots_86 : decode cX9_lots 86 = .ok (.aload_n 0, 1) := by decide +kernel
theorem dX9_lots_87 : decode cX9_lots 87 = .ok (.getfield 7, 3) := by decide +kernel
theorem dX9_lots_90 : decode cX9_lots 90 = .ok (.iconst 0, 1) := by decide +kernel
theorem dX9_lots_91 : decode cX9_lots 91 = .ok (.iaload, 1) := by decide +kernel
theorem dX9_lots_92 : decode cX9_lots 92 = .ok (.i2l, 1) := by decide +kernel
theorem dX9_lots_93 : decode cX9_lots 93 = .ok (.lrem, 1) := by decide +kernel
theorem dX9_lots_94 : decode cX9_lots 94 = .ok (.l2i, 1) := by decide +kernel
theorem dX9_lots_95 : decode cX9_lots 95 = .ok (.istore 6, 2) := by decide +kernel
theorem dX9_lots_97 : decode cX9_lots 97 = .ok (.lload_n 3, 1) := by decide +kernel
theorem dX9_lots_98 : decode cX9_lots 98 = .ok (.ldc2_w 217, 3) := by decide +kernel
theorem dX9_lots_101 : decode cX9_lots 101 = .ok (.lrem, 1) := by decide +kernel
theorem dX9_lots_102 : decode cX9_lots 102 = .ok (.lconst 0, 1) := by decide +kernel
theorem dX9_lots_103 : decode cX9_lots 103 = .ok (.lcmp, 1) := by decide +kernel
theorem dX9_lots_104 : decode cX9_lots 104 = .ok (.ifCond .ne 27, 3) := by decide +kernel
theorem dX9_lots_107 : decode cX9_lots 107 = .ok (.aload_n 0, 1) := by decide +kernel
theorem dX9_lots_108 : decode cX9_lots 108 = .ok (.getfield 7, 3) := by decide +kernel
theorem dX9_lots_111 : decode cX9_lots 111 = .ok (.iconst 1, 1) := by decide +kernel
theorem dX9_lots_112 : decode cX9_lots 112 = .ok (.iaload, 1) := by decide +kernel
theorem dX9_lots_113 : decode cX9_lots 113 = .ok (.bipush 40, 2) := by decide +kernel
theorem dX9_lots_115 : decode cX9_lots 115 = .ok (.if_icmp .ge 16, 3) := by decide +kernel
theorem dX9_lots_118 : decode cX9_lots 118 = .ok (.aload_n 0, 1) := by decide +kernel
theorem dX9_lots_119 : decode cX9_lots 119 = .ok (.getfield 7, 3) := by decide +kernel
theorem dX9_lots_122 : decode cX9_lots 122 = .ok (.iconst 1, 1) := by decide +kernel
theorem dX9_lots_123 : decode cX9_lots 123 = .ok (.dup2, 1) := by decide +kernel
theorem dX9_lots_124 : decode cX9_lots 124 = .ok (.iaload, 1) := by decide +kernel
theorem dX9_lots_125 : decode cX9_lots 125 = .ok (.iconst 1, 1) := by decide +kernel
theorem dX9_lots_126 : decode cX9_lots 126 = .ok (.iadd, 1) := by decide +kernel
theorem dX9_lots_127 : decode cX9_lots 127 = .ok (.iastore, 1) := by decide +kernel
theorem dX9_lots_128 : decode cX9_lots 128 = .ok (.goto 48, 3) := by decide +kernel
theorem dX9_lots_131 : decode cX9_lots 131 = .ok (.lload_n 3, 1) := by decide +kernel
theorem dX9_lots_132 : decode cX9_lots 132 = .ok (.ldc2_w 217, 3) := by decide +kernel
theorem dX9_lots_135 : decode cX9_lots 135 = .ok (.lrem, 1) := by decide +kernel
theorem dX9_lots_136 : decode cX9_lots 136 = .ok (.lconst 1, 1) := by decide +kernel
theorem dX9_lots_137 : decode cX9_lots 137 = .ok (.lcmp, 1) := by decide +kernel
theorem dX9_lots_138 : decode cX9_lots 138 = .ok (.ifCond .ne 25, 3) := by decide +kernel
theorem dX9_lots_141 : decode cX9_lots 141 = .ok (.aload_n 0, 1) := by decide +kernel
theorem dX9_lots_142 : decode cX9_lots 142 = .ok (.getfield 7, 3) := by decide +kernel
theorem dX9_lots_145 : decode cX9_lots 145 = .ok (.iconst 3, 1) := by decide +kernel
theorem dX9_lots_146 : decode cX9_lots 146 = .ok (.iload 6, 2) := by decide +kernel
theorem dX9_lots_148 : decode cX9_lots 148 = .ok (.iadd, 1) := by decide +kernel
theorem dX9_lots_149 : decode cX9_lots 149 = .ok (.lload_n 3, 1) := by decide +kernel
theorem dX9_lots_150 : decode cX9_lots 150 = .ok (.ldc2_w 245, 3) := by decide +kernel
theorem dX9_lots_153 : decode cX9_lots 153 = .ok (.ldiv, 1) := by decide +kernel
theorem dX9_lots_154 : decode cX9_lots 154 = .ok (.ldc2_w 184, 3) := by decide +kernel
theorem dX9_lots_157 : decode cX9_lots 157 = .ok (.lrem, 1) := by decide +kernel
theorem dX9_lots_158 : decode cX9_lots 158 = .ok (.l2i, 1) := by decide +kernel
theorem dX9_lots_159 : decode cX9_lots 159 = .ok (.iastore, 1) := by decide +kernel
theorem dX9_lots_160 : decode cX9_lots 160 = .ok (.goto 16, 3) := by decide +kernel
theorem dX9_lots_163 : decode cX9_lots 163 = .ok (.aload_n 0, 1) := by decide +kernel
theorem dX9_lots_164 : decode cX9_lots 164 = .ok (.getfield 7, 3) := by decide +kernel
theorem dX9_lots_167 : decode cX9_lots 167 = .ok (.iconst 2, 1) := by decide +kernel
theorem dX9_lots_168 : decode cX9_lots 168 = .ok (.dup2, 1) := by decide +kernel
theorem dX9_lots_169 : decode cX9_lots 169 = .ok (.iaload, 1) := by decide +kernel
theorem dX9_lots_170 : decode cX9_lots 170 = .ok (.iconst 1, 1) := by decide +kernel
theorem dX9_lots_171 : decode cX9_lots 171 = .ok (.iload 6, 2) := by decide +kernel
theorem dX9_lots_173 : decode cX9_lots 173 = .ok (.ishl, 1) := by decide +kernel
theorem dX9_lots_174 : decode cX9_lots 174 = .ok (.ixor, 1) := by decide +kernel
theorem dX9_lots_175 : decode cX9_lots 175 = .ok (.iastore, 1) := by decide +kernel
theorem dX9_lots_176 : decode cX9_lots 176 = .ok (.iinc 5 1, 3) := by decide +kernel
theorem dX9_lots_179 : decode cX9_lots 179 = .ok (.goto (-118), 3) := by decide +kernel
theorem dX9_lots_182 : decode cX9_lots 182 = .ok (.aload_n 0, 1) := by decide +kernel
theorem dX9_lots_183 : decode cX9_lots 183 = .ok (.invokevirtual 149, 3) := by decide +kernel
theorem dX9_lots_186 : decode cX9_lots 186 = .ok (.ireturn, 1) := by decide +kernel
theorem dX9_asked_0 : decode cX9_asked 0 = .ok (.aload_n 0, 1) := by decide +kernel
theorem dX9_asked_1 : decode cX9_asked 1 = .ok (.getfield 57, 3) := by decide +kernel
theorem dX9_asked_4 : decode cX9_asked 4 = .ok (.ireturn, 1) := by decide +kernel
theorem dX9_upper_0 : decode cX9_upper 0 = .ok (.aload_n 0, 1) := by decide +kernel
theorem dX9_upper_1 : decode cX9_upper 1 = .ok (.getfield 223, 3) := by decide +kernel
theorem dX9_upper_4 : decode cX9_upper 4 = .ok (.lreturn, 1) := by decide +kernel
theorem dX9_lower_0 : decode cX9_lower 0 = .ok (.aload_n 0, 1) := by decide +kernel
theorem dX9_lower_1 : decode cX9_lower 1 = .ok (.getfield 28, 3) := by decide +kernel
theorem dX9_lower_4 : decode cX9_lower 4 = .ok (.lreturn, 1) := by decide +kernel
theorem dX9_manyOf_0 : decode cX9_manyOf 0 = .ok (.iconst 0, 1) := by decide +kernel
theorem dX9_manyOf_1 : decode cX9_manyOf 1 = .ok (.istore_n 3, 1) := by decide +kernel
theorem dX9_manyOf_2 : decode cX9_manyOf 2 = .ok (.iconst 0, 1) := by decide +kernel
theorem dX9_manyOf_3 : decode cX9_manyOf 3 = .ok (.istore 4, 2) := by decide +kernel
theorem dX9_manyOf_5 : decode cX9_manyOf 5 = .ok (.iload 4, 2) := by decide +kernel
theorem dX9_manyOf_7 : decode cX9_manyOf 7 = .ok (.aload_n 0, 1) := by decide +kernel
theorem dX9_manyOf_8 : decode cX9_manyOf 8 = .ok (.getfield 7, 3) := by decide +kernel
theorem dX9_manyOf_11 : decode cX9_manyOf 11 = .ok (.iconst 0, 1) := by decide +kernel
theorem dX9_manyOf_12 : decode cX9_manyOf 12 = .ok (.iaload, 1) := by decide +kernel
theorem dX9_manyOf_13 : decode cX9_manyOf 13 = .ok (.if_icmp .ge 45, 3) := by decide +kernel
theorem dX9_manyOf_16 : decode cX9_manyOf 16 = .ok (.iload_n 3, 1) := by decide +kernel
theorem dX9_manyOf_17 : decode cX9_manyOf 17 = .ok (.aload_n 0, 1) := by decide +kernel
theorem dX9_manyOf_18 : decode cX9_manyOf 18 = .ok (.getfield 7, 3) := by decide +kernel
theorem dX9_manyOf_21 : decode cX9_manyOf 21 = .ok (.bipush 11, 2) := by decide +kernel
theorem dX9_manyOf_23 : decode cX9_manyOf 23 = .ok (.iload 4, 2) := by decide +kernel
theorem dX9_manyOf_25 : decode cX9_manyOf 25 = .ok (.iadd, 1) := by decide +kernel
theorem dX9_manyOf_26 : decode cX9_manyOf 26 = .ok (.iaload, 1) := by decide +kernel
theorem dX9_manyOf_27 : decode cX9_manyOf 27 = .ok (.iload_n 1, 1) := by decide +kernel
theorem dX9_manyOf_28 : decode cX9_manyOf 28 = .ok (.if_icmp .eq 17, 3) := by decide +kernel
theorem dX9_manyOf_31 : decode cX9_manyOf 31 = .ok (.aload_n 0, 1) := by decide +kernel
theorem dX9_manyOf_32 : decode cX9_manyOf 32 = .ok (.getfield 7, 3) := by decide +kernel
theorem dX9_manyOf_35 : decode cX9_manyOf 35 = .ok (.bipush 11, 2) := by decide +kernel
theorem dX9_manyOf_37 : decode cX9_manyOf 37 = .ok (.iload 4, 2) := by decide +kernel
theorem dX9_manyOf_39 : decode cX9_manyOf 39 = .ok (.iadd, 1) := by decide +kernel
theorem dX9_manyOf_40 : decode cX9_manyOf 40 = .ok (.iaload, 1) := by decide +kernel
theorem dX9_manyOf_41 : decode cX9_manyOf 41 = .ok (.iload_n 2, 1) := by decide +kernel
theorem dX9_manyOf_42 : decode cX9_manyOf 42 = .ok (.if_icmp .ne 7, 3) := by decide +kernel
theorem dX9_manyOf_45 : decode cX9_manyOf 45 = .ok (.iconst 1, 1) := by decide +kernel
theorem dX9_manyOf_46 : decode cX9_manyOf 46 = .ok (.goto 4, 3) := by decide +kernel
theorem dX9_manyOf_49 : decode cX9_manyOf 49 = .ok (.iconst 0, 1) := by decide +kernel
theorem dX9_manyOf_50 : decode cX9_manyOf 50 = .ok (.iadd, 1) := by decide +kernel
theorem dX9_manyOf_51 : decode cX9_manyOf 51 = .ok (.istore_n 3, 1) := by decide +kernel
theorem dX9_manyOf_52 : decode cX9_manyOf 52 = .ok (.iinc 4 1, 3) := by decide +kernel
theorem dX9_manyOf_55 : decode cX9_manyOf 55 = .ok (.goto (-50), 3) := by decide +kernel
theorem dX9_manyOf_58 : decode cX9_manyOf 58 = .ok (.iload_n 3, 1) := by decide +kernel
theorem dX9_manyOf_59 : decode cX9_manyOf 59 = .ok (.ireturn, 1) := by decide +kernel
theorem dX9_rowsThere_0 : decode cX9_rowsThere 0 = .ok (.iconst 0, 1) := by decide +kernel
theorem dX9_rowsThere_1 : decode cX9_rowsThere 1 = .ok (.istore_n 1, 1) := by decide +kernel
theorem dX9_rowsThere_2 : decode cX9_rowsThere 2 = .ok (.iconst 0, 1) := by decide +kernel
theorem dX9_rowsThere_3 : decode cX9_rowsThere 3 = .ok (.istore_n 2, 1) := by decide +kernel
theorem dX9_rowsThere_4 : decode cX9_rowsThere 4 = .ok (.iload_n 2, 1) := by decide +kernel
theorem dX9_rowsThere_5 : decode cX9_rowsThere 5 = .ok (.bipush 6, 2) := by decide +kernel
theorem dX9_rowsThere_7 : decode cX9_rowsThere 7 = .ok (.if_icmp .ge 26, 3) := by decide +kernel
theorem dX9_rowsThere_10 : decode cX9_rowsThere 10 = .ok (.iload_n 1, 1) := by decide +kernel
theorem dX9_rowsThere_11 : decode cX9_rowsThere 11 = .ok (.aload_n 0, 1) := by decide +kernel
theorem dX9_rowsThere_12 : decode cX9_rowsThere 12 = .ok (.getfield 13, 3) := by decide +kernel
theorem dX9_rowsThere_15 : decode cX9_rowsThere 15 = .ok (.iload_n 2, 1) := by decide +kernel
theorem dX9_rowsThere_16 : decode cX9_rowsThere 16 = .ok (.iaload, 1) := by decide +kernel
theorem dX9_rowsThere_17 : decode cX9_rowsThere 17 = .ok (.ifCond .ge 7, 3) := by decide +kernel
theorem dX9_rowsThere_20 : decode cX9_rowsThere 20 = .ok (.iconst 0, 1) := by decide +kernel
theorem dX9_rowsThere_21 : decode cX9_rowsThere 21 = .ok (.goto 4, 3) := by decide +kernel
theorem dX9_rowsThere_24 : decode cX9_rowsThere 24 = .ok (.iconst 1, 1) := by decide +kernel
theorem dX9_rowsThere_25 : decode cX9_rowsThere 25 = .ok (.iadd, 1) := by decide +kernel
theorem dX9_rowsThere_26 : decode cX9_rowsThere 26 = .ok (.istore_n 1, 1) := by decide +kernel
theorem dX9_rowsThere_27 : decode cX9_rowsThere 27 = .ok (.iinc 2 1, 3) := by decide +kernel
theorem dX9_rowsThere_30 : decode cX9_rowsThere 30 = .ok (.goto (-26), 3) := by decide +kernel
theorem dX9_rowsThere_33 : decode cX9_rowsThere 33 = .ok (.iload_n 1, 1) := by decide +kernel
theorem dX9_rowsThere_34 : decode cX9_rowsThere 34 = .ok (.ireturn, 1) := by decide +kernel
theorem dX9_textsThere_0 : decode cX9_textsThere 0 = .ok (.iconst 0, 1) := by decide +kernel
theorem dX9_textsThere_1 : decode cX9_textsThere 1 = .ok (.istore_n 1, 1) := by decide +kernel
theorem dX9_textsThere_2 : decode cX9_textsThere 2 = .ok (.iconst 0, 1) := by decide +kernel
theorem dX9_textsThere_3 : decode cX9_textsThere 3 = .ok (.istore_n 2, 1) := by decide +kernel
theorem dX9_textsThere_4 : decode cX9_textsThere 4 = .ok (.iload_n 2, 1) := by decide +kernel
theorem dX9_textsThere_5 : decode cX9_textsThere 5 = .ok (.iconst 4, 1) := by decide +kernel
theorem dX9_textsThere_6 : decode cX9_textsThere 6 = .ok (.if_icmp .ge 26, 3) := by decide +kernel
theorem dX9_textsThere_9 : decode cX9_textsThere 9 = .ok (.iload_n 1, 1) := by decide +kernel
theorem dX9_textsThere_10 : decode cX9_textsThere 10 = .ok (.aload_n 0, 1) := by decide +kernel
theorem dX9_textsThere_11 : decode cX9_textsThere 11 = .ok (.getfield 19, 3) := by decide +kernel
theorem dX9_textsThere_14 : decode cX9_textsThere 14 = .ok (.iload_n 2, 1) := by decide +kernel
theorem dX9_textsThere_15 : decode cX9_textsThere 15 = .ok (.iaload, 1) := by decide +kernel
theorem dX9_textsThere_16 : decode cX9_textsThere 16 = .ok (.ifCond .ge 7, 3) := by decide +kernel
theorem dX9_textsThere_19 : decode cX9_textsThere 19 = .ok (.iconst 0, 1) := by decide +kernel
theorem dX9_textsThere_20 : decode cX9_textsThere 20 = .ok (.goto 4, 3) := by decide +kernel
theorem dX9_textsThere_23 : decode cX9_textsThere 23 = .ok (.iconst 1, 1) := by decide +kernel
theorem dX9_textsThere_24 : decode cX9_textsThere 24 = .ok (.iadd, 1) := by decide +kernel
theorem dX9_textsThere_25 : decode cX9_textsThere 25 = .ok (.istore_n 1, 1) := by decide +kernel
theorem dX9_textsThere_26 : decode cX9_textsThere 26 = .ok (.iinc 2 1, 3) := by decide +kernel
theorem dX9_textsThere_29 : decode cX9_textsThere 29 = .ok (.goto (-25), 3) := by decide +kernel
theorem dX9_textsThere_32 : decode cX9_textsThere 32 = .ok (.iload_n 1, 1) := by decide +kernel
theorem dX9_textsThere_33 : decode cX9_textsThere 33 = .ok (.ireturn, 1) := by decide +kernel
theorem dX9_banksKept_0 : decode cX9_banksKept 0 = .ok (.iconst 0, 1) := by decide +kernel
theorem dX9_banksKept_1 : decode cX9_banksKept 1 = .ok (.istore_n 1, 1) := by decide +kernel
theorem dX9_banksKept_2 : decode cX9_banksKept 2 = .ok (.iconst 0, 1) := by decide +kernel
theorem dX9_banksKept_3 : decode cX9_banksKept 3 = .ok (.istore_n 2, 1) := by decide +kernel
theorem dX9_banksKept_4 : decode cX9_banksKept 4 = .ok (.iload_n 2, 1) := by decide +kernel
theorem dX9_banksKept_5 : decode cX9_banksKept 5 = .ok (.iconst 3, 1) := by decide +kernel
theorem dX9_banksKept_6 : decode cX9_banksKept 6 = .ok (.if_icmp .ge 36, 3) := by decide +kernel
theorem dX9_banksKept_9 : decode cX9_banksKept 9 = .ok (.iload_n 1, 1) := by decide +kernel
theorem dX9_banksKept_10 : decode cX9_banksKept 10 = .ok (.aload_n 0, 1) := by decide +kernel
theorem dX9_banksKept_11 : decode cX9_banksKept 11 = .ok (.getfield 7, 3) := by decide +kernel
theorem dX9_banksKept_14 : decode cX9_banksKept 14 = .ok (.sipush 444, 3) := by decide +kernel
theorem dX9_banksKept_17 : decode cX9_banksKept 17 = .ok (.sipush 444, 3) := by decide +kernel
theorem dX9_banksKept_20 : decode cX9_banksKept 20 = .ok (.iload_n 2, 1) := by decide +kernel
theorem dX9_banksKept_21 : decode cX9_banksKept 21 = .ok (.imul, 1) := by decide +kernel
theorem dX9_banksKept_22 : decode cX9_banksKept 22 = .ok (.iadd, 1) := by decide +kernel
theorem dX9_banksKept_23 : decode cX9_banksKept 23 = .ok (.iconst 0, 1) := by decide +kernel
theorem dX9_banksKept_24 : decode cX9_banksKept 24 = .ok (.iadd, 1) := by decide +kernel
theorem dX9_banksKept_25 : decode cX9_banksKept 25 = .ok (.iaload, 1) := by decide +kernel
theorem dX9_banksKept_26 : decode cX9_banksKept 26 = .ok (.ifCond .ne 7, 3) := by decide +kernel
theorem dX9_banksKept_29 : decode cX9_banksKept 29 = .ok (.iconst 0, 1) := by decide +kernel
theorem dX9_banksKept_30 : decode cX9_banksKept 30 = .ok (.goto 4, 3) := by decide +kernel
theorem dX9_banksKept_33 : decode cX9_banksKept 33 = .ok (.iconst 1, 1) := by decide +kernel
theorem dX9_banksKept_34 : decode cX9_banksKept 34 = .ok (.iadd, 1) := by decide +kernel
theorem dX9_banksKept_35 : decode cX9_banksKept 35 = .ok (.istore_n 1, 1) := by decide +kernel
theorem dX9_banksKept_36 : decode cX9_banksKept 36 = .ok (.iinc 2 1, 3) := by decide +kernel
theorem dX9_banksKept_39 : decode cX9_banksKept 39 = .ok (.goto (-35), 3) := by decide +kernel
theorem dX9_banksKept_42 : decode cX9_banksKept 42 = .ok (.iload_n 1, 1) := by decide +kernel
theorem dX9_banksKept_43 : decode cX9_banksKept 43 = .ok (.ireturn, 1) := by decide +kernel
theorem dX9_count_0 : decode cX9_count 0 = .ok (.iload_n 1, 1) := by decide +kernel
theorem dX9_count_1 : decode cX9_count 1 = .ok (.tableswitch 118 0 9 #[55, 62, 69, 77, 84, 89, 96, 103, 108, 113], 55) := by decide +kernel
theorem dX9_count_56 : decode cX9_count 56 = .ok (.aload_n 0, 1) := by decide +kernel
theorem dX9_count_57 : decode cX9_count 57 = .ok (.getfield 7, 3) := by decide +kernel
theorem dX9_count_60 : decode cX9_count 60 = .ok (.iconst 0, 1) := by decide +kernel
theorem dX9_count_61 : decode cX9_count 61 = .ok (.iaload, 1) := by decide +kernel
theorem dX9_count_62 : decode cX9_count 62 = .ok (.ireturn, 1) := by decide +kernel
theorem dX9_count_63 : decode cX9_count 63 = .ok (.aload_n 0, 1) := by decide +kernel
theorem dX9_count_64 : decode cX9_count 64 = .ok (.getfield 7, 3) := by decide +kernel
theorem dX9_count_67 : decode cX9_count 67 = .ok (.iconst 1, 1) := by decide +kernel
theorem dX9_count_68 : decode cX9_count 68 = .ok (.iaload, 1) := by decide +kernel
theorem dX9_count_69 : decode cX9_count 69 = .ok (.ireturn, 1) := by decide +kernel
theorem dX9_count_70 : decode cX9_count 70 = .ok (.aload_n 0, 1) := by decide +kernel
theorem dX9_count_71 : decode cX9_count 71 = .ok (.getfield 7, 3) := by decide +kernel
theorem dX9_count_74 : decode cX9_count 74 = .ok (.bipush 43, 2) := by decide +kernel
theorem dX9_count_76 : decode cX9_count 76 = .ok (.iaload, 1) := by decide +kernel
theorem dX9_count_77 : decode cX9_count 77 = .ok (.ireturn, 1) := by decide +kernel
theorem dX9_count_78 : decode cX9_count 78 = .ok (.aload_n 0, 1) := by decide +kernel
theorem dX9_count_79 : decode cX9_count 79 = .ok (.getfield 7, 3) := by decide +kernel
theorem dX9_count_82 : decode cX9_count 82 = .ok (.iconst 2, 1) := by decide +kernel
theorem dX9_count_83 : decode cX9_count 83 = .ok (.iaload, 1) := by decide +kernel
theorem dX9_count_84 : decode cX9_count 84 = .ok (.ireturn, 1) := by decide +kernel
theorem dX9_count_85 : decode cX9_count 85 = .ok (.aload_n 0, 1) := by decide +kernel
theorem dX9_count_86 : decode cX9_count 86 = .ok (.invokevirtual 149, 3) := by decide +kernel
theorem dX9_count_89 : decode cX9_count 89 = .ok (.ireturn, 1) := by decide +kernel
theorem dX9_count_90 : decode cX9_count 90 = .ok (.aload_n 0, 1) := by decide +kernel
theorem dX9_count_91 : decode cX9_count 91 = .ok (.iconst 3, 1) := by decide +kernel
theorem dX9_count_92 : decode cX9_count 92 = .ok (.iconst 5, 1) := by decide +kernel
theorem dX9_count_93 : decode cX9_count 93 = .ok (.invokevirtual 247, 3) := by decide +kernel
theorem dX9_count_96 : decode cX9_count 96 = .ok (.ireturn, 1) := by decide +kernel
theorem dX9_count_97 : decode cX9_count 97 = .ok (.aload_n 0, 1) := by decide +kernel
theorem dX9_count_98 : decode cX9_count 98 = .ok (.iconst 2, 1) := by decide +kernel
theorem dX9_count_99 : decode cX9_count 99 = .ok (.iconst 4, 1) := by decide +kernel
theorem dX9_count_100 : decode cX9_count 100 = .ok (.invokevirtual 247, 3) := by decide +kernel
theorem dX9_count_103 : decode cX9_count 103 = .ok (.ireturn, 1) := by decide +kernel
theorem dX9_count_104 : decode cX9_count 104 = .ok (.aload_n 0, 1) := by decide +kernel
theorem dX9_count_105 : decode cX9_count 105 = .ok (.invokevirtual 250, 3) := by decide +kernel
theorem dX9_count_108 : decode cX9_count 108 = .ok (.ireturn, 1) := by decide +kernel
theorem dX9_count_109 : decode cX9_count 109 = .ok (.aload_n 0, 1) := by decide +kernel
theorem dX9_count_110 : decode cX9_count 110 = .ok (.invokevirtual 253, 3) := by decide +kernel
theorem dX9_count_113 : decode cX9_count 113 = .ok (.ireturn, 1) := by decide +kernel
theorem dX9_count_114 : decode cX9_count 114 = .ok (.aload_n 0, 1) := by decide +kernel
theorem dX9_count_115 : decode cX9_count 115 = .ok (.invokevirtual 256, 3) := by decide +kernel
theorem dX9_count_118 : decode cX9_count 118 = .ok (.ireturn, 1) := by decide +kernel
theorem dX9_count_119 : decode cX9_count 119 = .ok (.iconst (-1), 1) := by decide +kernel
theorem dX9_count_120 : decode cX9_count 120 = .ok (.ireturn, 1) := by decide +kernel
theorem dX9_finding_0 : decode cX9_finding 0 = .ok (.aload_n 0, 1) := by decide +kernel
theorem dX9_finding_1 : decode cX9_finding 1 = .ok (.getfield 53, 3) := by decide +kernel
theorem dX9_finding_4 : decode cX9_finding 4 = .ok (.ireturn, 1) := by decide +kernel
theorem dX9_findings_0 : decode cX9_findings 0 = .ok (.iload_n 1, 1) := by decide +kernel
theorem dX9_findings_1 : decode cX9_findings 1 = .ok (.i2l, 1) := by decide +kernel
theorem dX9_findings_2 : decode cX9_findings 2 = .ok (.lconst 1, 1) := by decide +kernel
theorem dX9_findings_3 : decode cX9_findings 3 = .ok (.ldc2_w 60, 3) := by decide +kernel
theorem dX9_findings_6 : decode cX9_findings 6 = .ok (.invokestatic 62, 3) := by decide +kernel
theorem dX9_findings_9 : decode cX9_findings 9 = .ok (.ifCond .eq 12, 3) := by decide +kernel
theorem dX9_findings_12 : decode cX9_findings 12 = .ok (.aload_n 0, 1) := by decide +kernel
theorem dX9_findings_13 : decode cX9_findings 13 = .ok (.getfield 25, 3) := by decide +kernel
theorem dX9_findings_16 : decode cX9_findings 16 = .ok (.iload_n 1, 1) := by decide +kernel
theorem dX9_findings_17 : decode cX9_findings 17 = .ok (.iaload, 1) := by decide +kernel
theorem dX9_findings_18 : decode cX9_findings 18 = .ok (.goto 4, 3) := by decide +kernel
theorem dX9_findings_21 : decode cX9_findings 21 = .ok (.iconst (-1), 1) := by decide +kernel
theorem dX9_findings_22 : decode cX9_findings 22 = .ok (.ireturn, 1) := by decide +kernel
theorem dX9_mix_0 : decode cX9_mix 0 = .ok (.aload_n 0, 1) := by decide +kernel
theorem dX9_mix_1 : decode cX9_mix 1 = .ok (.ldc2_w 259, 3) := by decide +kernel
theorem dX9_mix_4 : decode cX9_mix 4 = .ok (.aload_n 0, 1) := by decide +kernel
theorem dX9_mix_5 : decode cX9_mix 5 = .ok (.getfield 261, 3) := by decide +kernel
theorem dX9_mix_8 : decode cX9_mix 8 = .ok (.lmul, 1) := by decide +kernel
theorem dX9_mix_9 : decode cX9_mix 9 = .ok (.lload_n 1, 1) := by decide +kernel
theorem dX9_mix_10 : decode cX9_mix 10 = .ok (.ladd, 1) := by decide +kernel
theorem dX9_mix_11 : decode cX9_mix 11 = .ok (.putfield 261, 3) := by decide +kernel
theorem dX9_mix_14 : decode cX9_mix 14 = .ok (.return_, 1) := by decide +kernel
theorem dX9_digest_0 : decode cX9_digest 0 = .ok (.aload_n 0, 1) := by decide +kernel
theorem dX9_digest_1 : decode cX9_digest 1 = .ok (.ldc2_w 264, 3) := by decide +kernel
theorem dX9_digest_4 : decode cX9_digest 4 = .ok (.putfield 261, 3) := by decide +kernel
theorem dX9_digest_7 : decode cX9_digest 7 = .ok (.iconst 0, 1) := by decide +kernel
theorem dX9_digest_8 : decode cX9_digest 8 = .ok (.istore_n 1, 1) := by decide +kernel
theorem dX9_digest_9 : decode cX9_digest 9 = .ok (.iload_n 1, 1) := by decide +kernel
theorem dX9_digest_10 : decode cX9_digest 10 = .ok (.bipush 10, 2) := by decide +kernel
theorem dX9_digest_12 : decode cX9_digest 12 = .ok (.if_icmp .ge 19, 3) := by decide +kernel
theorem dX9_digest_15 : decode cX9_digest 15 = .ok (.aload_n 0, 1) := by decide +kernel
theorem dX9_digest_16 : decode cX9_digest 16 = .ok (.aload_n 0, 1) := by decide +kernel
theorem dX9_digest_17 : decode cX9_digest 17 = .ok (.iload_n 1, 1) := by decide +kernel
theorem dX9_digest_18 : decode cX9_digest 18 = .ok (.invokevirtual 266, 3) := by decide +kernel
theorem dX9_digest_21 : decode cX9_digest 21 = .ok (.i2l, 1) := by decide +kernel
theorem dX9_digest_22 : decode cX9_digest 22 = .ok (.invokevirtual 269, 3) := by decide +kernel
theorem dX9_digest_25 : decode cX9_digest 25 = .ok (.iinc 1 1, 3) := by decide +kernel
theorem dX9_digest_28 : decode cX9_digest 28 = .ok (.goto (-19), 3) := by decide +kernel
theorem dX9_digest_31 : decode cX9_digest 31 = .ok (.iconst 0, 1) := by decide +kernel
theorem dX9_digest_32 : decode cX9_digest 32 = .ok (.istore_n 1, 1) := by decide +kernel
theorem dX9_digest_33 : decode cX9_digest 33 = .ok (.iload_n 1, 1) := by decide +kernel
theorem dX9_digest_34 : decode cX9_digest 34 = .ok (.aload_n 0, 1) := by decide +kernel
theorem dX9_digest_35 : decode cX9_digest 35 = .ok (.getfield 7, 3) := by decide +kernel
theorem dX9_digest_38 : decode cX9_digest 38 = .ok (.iconst 0, 1) := by decide +kernel
theorem dX9_digest_39 : decode cX9_digest 39 = .ok (.iaload, 1) := by decide +kernel
theorem dX9_digest_40 : decode cX9_digest 40 = .ok (.if_icmp .ge 34, 3) := by decide +kernel
theorem dX9_digest_43 : decode cX9_digest 43 = .ok (.iconst 0, 1) := by decide +kernel
theorem dX9_digest_44 : decode cX9_digest 44 = .ok (.istore_n 2, 1) := by decide +kernel
theorem dX9_digest_45 : decode cX9_digest 45 = .ok (.iload_n 2, 1) := by decide +kernel
theorem dX9_digest_46 : decode cX9_digest 46 = .ok (.bipush 7, 2) := by decide +kernel
theorem dX9_digest_48 : decode cX9_digest 48 = .ok (.if_icmp .ge 20, 3) := by decide +kernel
theorem dX9_digest_51 : decode cX9_digest 51 = .ok (.aload_n 0, 1) := by decide +kernel
theorem dX9_digest_52 : decode cX9_digest 52 = .ok (.aload_n 0, 1) := by decide +kernel
theorem dX9_digest_53 : decode cX9_digest 53 = .ok (.iload_n 1, 1) := by decide +kernel
theorem dX9_digest_54 : decode cX9_digest 54 = .ok (.iload_n 2, 1) := by decide +kernel
theorem dX9_digest_55 : decode cX9_digest 55 = .ok (.invokevirtual 132, 3) := by decide +kernel
theorem dX9_digest_58 : decode cX9_digest 58 = .ok (.i2l, 1) := by decide +kernel
theorem dX9_digest_59 : decode cX9_digest 59 = .ok (.invokevirtual 269, 3) := by decide +kernel
theorem dX9_digest_62 : decode cX9_digest 62 = .ok (.iinc 2 1, 3) := by decide +kernel
theorem dX9_digest_65 : decode cX9_digest 65 = .ok (.goto (-20), 3) := by decide +kernel
theorem dX9_digest_68 : decode cX9_digest 68 = .ok (.iinc 1 1, 3) := by decide +kernel
theorem dX9_digest_71 : decode cX9_digest 71 = .ok (.goto (-38), 3) := by decide +kernel
theorem dX9_digest_74 : decode cX9_digest 74 = .ok (.iconst 0, 1) := by decide +kernel
theorem dX9_digest_75 : decode cX9_digest 75 = .ok (.istore_n 1, 1) := by decide +kernel
theorem dX9_digest_76 : decode cX9_digest 76 = .ok (.iload_n 1, 1) := by decide +kernel
theorem dX9_digest_77 : decode cX9_digest 77 = .ok (.iconst 3, 1) := by decide +kernel
theorem dX9_digest_78 : decode cX9_digest 78 = .ok (.if_icmp .ge 56, 3) := by decide +kernel
theorem dX9_digest_81 : decode cX9_digest 81 = .ok (.aload_n 0, 1) := by decide +kernel
theorem dX9_digest_82 : decode cX9_digest 82 = .ok (.aload_n 0, 1) := by decide +kernel
theorem dX9_digest_83 : decode cX9_digest 83 = .ok (.getfield 7, 3) := by decide +kernel
theorem dX9_digest_86 : decode cX9_digest 86 = .ok (.sipush 444, 3) := by decide +kernel
theorem dX9_digest_89 : decode cX9_digest 89 = .ok (.sipush 444, 3) := by decide +kernel
theorem dX9_digest_92 : decode cX9_digest 92 = .ok (.iload_n 1, 1) := by decide +kernel
theorem dX9_digest_93 : decode cX9_digest 93 = .ok (.imul, 1) := by decide +kernel
theorem dX9_digest_94 : decode cX9_digest 94 = .ok (.iadd, 1) := by decide +kernel
theorem dX9_digest_95 : decode cX9_digest 95 = .ok (.iconst 0, 1) := by decide +kernel
theorem dX9_digest_96 : decode cX9_digest 96 = .ok (.iadd, 1) := by decide +kernel
theorem dX9_digest_97 : decode cX9_digest 97 = .ok (.iaload, 1) := by decide +kernel
theorem dX9_digest_98 : decode cX9_digest 98 = .ok (.ifCond .ne 9, 3) := by decide +kernel
theorem dX9_digest_101 : decode cX9_digest 101 = .ok (.ldc2_w 273, 3) := by decide +kernel
theorem dX9_digest_104 : decode cX9_digest 104 = .ok (.goto 21, 3) := by decide +kernel
theorem dX9_digest_107 : decode cX9_digest 107 = .ok (.aload_n 0, 1) := by decide +kernel
theorem dX9_digest_108 : decode cX9_digest 108 = .ok (.getfield 7, 3) := by decide +kernel
theorem dX9_digest_111 : decode cX9_digest 111 = .ok (.sipush 444, 3) := by decide +kernel
theorem dX9_digest_114 : decode cX9_digest 114 = .ok (.sipush 444, 3) := by decide +kernel
theorem dX9_digest_117 : decode cX9_digest 117 = .ok (.iload_n 1, 1) := by decide +kernel
theorem dX9_digest_118 : decode cX9_digest 118 = .ok (.imul, 1) := by decide +kernel
theorem dX9_digest_119 : decode cX9_digest 119 = .ok (.iadd, 1) := by decide +kernel
theorem dX9_digest_120 : decode cX9_digest 120 = .ok (.bipush 43, 2) := by decide +kernel
theorem dX9_digest_122 : decode cX9_digest 122 = .ok (.iadd, 1) := by decide +kernel
theorem dX9_digest_123 : decode cX9_digest 123 = .ok (.iaload, 1) := by decide +kernel
theorem dX9_digest_124 : decode cX9_digest 124 = .ok (.i2l, 1) := by decide +kernel
theorem dX9_digest_125 : decode cX9_digest 125 = .ok (.invokevirtual 269, 3) := by decide +kernel
theorem dX9_digest_128 : decode cX9_digest 128 = .ok (.iinc 1 1, 3) := by decide +kernel
theorem dX9_digest_131 : decode cX9_digest 131 = .ok (.goto (-55), 3) := by decide +kernel
theorem dX9_digest_134 : decode cX9_digest 134 = .ok (.iconst 0, 1) := by decide +kernel
theorem dX9_digest_135 : decode cX9_digest 135 = .ok (.istore_n 1, 1) := by decide +kernel
theorem dX9_digest_136 : decode cX9_digest 136 = .ok (.iload_n 1, 1) := by decide +kernel
theorem dX9_digest_137 : decode cX9_digest 137 = .ok (.bipush 6, 2) := by decide +kernel
theorem dX9_digest_139 : decode cX9_digest 139 = .ok (.if_icmp .ge 54, 3) := by decide +kernel
theorem dX9_digest_142 : decode cX9_digest 142 = .ok (.aload_n 0, 1) := by decide +kernel
theorem dX9_digest_143 : decode cX9_digest 143 = .ok (.aload_n 0, 1) := by decide +kernel
theorem dX9_digest_144 : decode cX9_digest 144 = .ok (.getfield 13, 3) := by decide +kernel
theorem dX9_digest_147 : decode cX9_digest 147 = .ok (.iload_n 1, 1) := by decide +kernel
theorem dX9_digest_148 : decode cX9_digest 148 = .ok (.iaload, 1) := by decide +kernel
theorem dX9_digest_149 : decode cX9_digest 149 = .ok (.i2l, 1) := by decide +kernel
theorem dX9_digest_150 : decode cX9_digest 150 = .ok (.invokevirtual 269, 3) := by decide +kernel
theorem dX9_digest_153 : decode cX9_digest 153 = .ok (.iconst 0, 1) := by decide +kernel
theorem dX9_digest_154 : decode cX9_digest 154 = .ok (.istore_n 2, 1) := by decide +kernel
theorem dX9_digest_155 : decode cX9_digest 155 = .ok (.iload_n 2, 1) := by decide +kernel
theorem dX9_digest_156 : decode cX9_digest 156 = .ok (.aload_n 0, 1) := by decide +kernel
theorem dX9_digest_157 : decode cX9_digest 157 = .ok (.getfield 13, 3) := by decide +kernel
theorem dX9_digest_160 : decode cX9_digest 160 = .ok (.iload_n 1, 1) := by decide +kernel
theorem dX9_digest_161 : decode cX9_digest 161 = .ok (.iaload, 1) := by decide +kernel
theorem dX9_digest_162 : decode cX9_digest 162 = .ok (.if_icmp .ge 25, 3) := by decide +kernel
theorem dX9_digest_165 : decode cX9_digest 165 = .ok (.aload_n 0, 1) := by decide +kernel
theorem dX9_digest_166 : decode cX9_digest 166 = .ok (.aload_n 0, 1) := by decide +kernel
theorem dX9_digest_167 : decode cX9_digest 167 = .ok (.getfield 16, 3) := by decide +kernel
theorem dX9_digest_170 : decode cX9_digest 170 = .ok (.bipush 40, 2) := by decide +kernel
theorem dX9_digest_172 : decode cX9_digest 172 = .ok (.iload_n 1, 1) := by decide +kernel
theorem dX9_digest_173 : decode cX9_digest 173 = .ok (.imul, 1) := by decide +kernel
theorem dX9_digest_174 : decode cX9_digest 174 = .ok (.iload_n 2, 1) := by decide +kernel
theorem dX9_digest_175 : decode cX9_digest 175 = .ok (.iadd, 1) := by decide +kernel
theorem dX9_digest_176 : decode cX9_digest 176 = .ok (.iaload, 1) := by decide +kernel
theorem dX9_digest_177 : decode cX9_digest 177 = .ok (.i2l, 1) := by decide +kernel
theorem dX9_digest_178 : decode cX9_digest 178 = .ok (.invokevirtual 269, 3) := by decide +kernel
theorem dX9_digest_181 : decode cX9_digest 181 = .ok (.iinc 2 1, 3) := by decide +kernel
theorem dX9_digest_184 : decode cX9_digest 184 = .ok (.goto (-29), 3) := by decide +kernel
theorem dX9_digest_187 : decode cX9_digest 187 = .ok (.iinc 1 1, 3) := by decide +kernel
theorem dX9_digest_190 : decode cX9_digest 190 = .ok (.goto (-54), 3) := by decide +kernel
theorem dX9_digest_193 : decode cX9_digest 193 = .ok (.iconst 0, 1) := by decide +kernel
theorem dX9_digest_194 : decode cX9_digest 194 = .ok (.istore_n 1, 1) := by decide +kernel
theorem dX9_digest_195 : decode cX9_digest 195 = .ok (.iload_n 1, 1) := by decide +kernel
theorem dX9_digest_196 : decode cX9_digest 196 = .ok (.iconst 4, 1) := by decide +kernel
theorem dX9_digest_197 : decode cX9_digest 197 = .ok (.if_icmp .ge 54, 3) := by decide +kernel
theorem dX9_digest_200 : decode cX9_digest 200 = .ok (.aload_n 0, 1) := by decide +kernel
theorem dX9_digest_201 : decode cX9_digest 201 = .ok (.aload_n 0, 1) := by decide +kernel
theorem dX9_digest_202 : decode cX9_digest 202 = .ok (.getfield 19, 3) := by decide +kernel
theorem dX9_digest_205 : decode cX9_digest 205 = .ok (.iload_n 1, 1) := by decide +kernel
theorem dX9_digest_206 : decode cX9_digest 206 = .ok (.iaload, 1) := by decide +kernel
theorem dX9_digest_207 : decode cX9_digest 207 = .ok (.i2l, 1) := by decide +kernel
theorem dX9_digest_208 : decode cX9_digest 208 = .ok (.invokevirtual 269, 3) := by decide +kernel
theorem dX9_digest_211 : decode cX9_digest 211 = .ok (.iconst 0, 1) := by decide +kernel
theorem dX9_digest_212 : decode cX9_digest 212 = .ok (.istore_n 2, 1) := by decide +kernel
theorem dX9_digest_213 : decode cX9_digest 213 = .ok (.iload_n 2, 1) := by decide +kernel
theorem dX9_digest_214 : decode cX9_digest 214 = .ok (.aload_n 0, 1) := by decide +kernel
theorem dX9_digest_215 : decode cX9_digest 215 = .ok (.getfield 19, 3) := by decide +kernel
theorem dX9_digest_218 : decode cX9_digest 218 = .ok (.iload_n 1, 1) := by decide +kernel
theorem dX9_digest_219 : decode cX9_digest 219 = .ok (.iaload, 1) := by decide +kernel
theorem dX9_digest_220 : decode cX9_digest 220 = .ok (.if_icmp .ge 25, 3) := by decide +kernel
theorem dX9_digest_223 : decode cX9_digest 223 = .ok (.aload_n 0, 1) := by decide +kernel
theorem dX9_digest_224 : decode cX9_digest 224 = .ok (.aload_n 0, 1) := by decide +kernel
theorem dX9_digest_225 : decode cX9_digest 225 = .ok (.getfield 22, 3) := by decide +kernel
theorem dX9_digest_228 : decode cX9_digest 228 = .ok (.bipush 60, 2) := by decide +kernel
theorem dX9_digest_230 : decode cX9_digest 230 = .ok (.iload_n 1, 1) := by decide +kernel
theorem dX9_digest_231 : decode cX9_digest 231 = .ok (.imul, 1) := by decide +kernel
theorem dX9_digest_232 : decode cX9_digest 232 = .ok (.iload_n 2, 1) := by decide +kernel
theorem dX9_digest_233 : decode cX9_digest 233 = .ok (.iadd, 1) := by decide +kernel
theorem dX9_digest_234 : decode cX9_digest 234 = .ok (.iaload, 1) := by decide +kernel
theorem dX9_digest_235 : decode cX9_digest 235 = .ok (.i2l, 1) := by decide +kernel
theorem dX9_digest_236 : decode cX9_digest 236 = .ok (.invokevirtual 269, 3) := by decide +kernel
theorem dX9_digest_239 : decode cX9_digest 239 = .ok (.iinc 2 1, 3) := by decide +kernel
theorem dX9_digest_242 : decode cX9_digest 242 = .ok (.goto (-29), 3) := by decide +kernel
theorem dX9_digest_245 : decode cX9_digest 245 = .ok (.iinc 1 1, 3) := by decide +kernel
theorem dX9_digest_248 : decode cX9_digest 248 = .ok (.goto (-53), 3) := by decide +kernel
theorem dX9_digest_251 : decode cX9_digest 251 = .ok (.aload_n 0, 1) := by decide +kernel
theorem dX9_digest_252 : decode cX9_digest 252 = .ok (.getfield 261, 3) := by decide +kernel
theorem dX9_digest_255 : decode cX9_digest 255 = .ok (.lreturn, 1) := by decide +kernel
